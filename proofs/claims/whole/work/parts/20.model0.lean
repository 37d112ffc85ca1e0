theorem dX10_in_0 : decode cX10_in 0 = .ok (.iload_n 0, 1) := by decide +kernel
theorem dX10_in_1 : decode cX10_in 1 = .ok (.iload_n 1, 1) := by decide +kernel
theorem dX10_in_2 : decode cX10_in 2 = .ok (.if_icmp .lt 12, 3) := by decide +kernel
theorem dX10_in_5 : decode cX10_in 5 = .ok (.iload_n 0, 1) := by decide +kernel
theorem dX10_in_6 : decode cX10_in 6 = .ok (.iload_n 2, 1) := by decide +kernel
theorem dX10_in_7 : decode cX10_in 7 = .ok (.if_icmp .gt 7, 3) := by decide +kernel
theorem dX10_in_10 : decode cX10_in 10 = .ok (.iconst 1, 1) := by decide +kernel
theorem dX10_in_11 : decode cX10_in 11 = .ok (.goto 4, 3) := by decide +kernel
theorem dX10_in_14 : decode cX10_in 14 = .ok (.iconst 0, 1) := by decide +kernel
theorem dX10_in_15 : decode cX10_in 15 = .ok (.ireturn, 1) := by decide +kernel
theorem ok_X10_in : okY RX10 yX10_in 3 := ⟨rfl, by decide, by decide, by decide +kernel⟩
def j_X10_in_14_1 : Option (Int32) := some (0 : Int32)
def f_X10_in (p0 : Int32) (p1 : Int32) (p2 : Int32) : Option (Int32) := (if p0 < p1 then j_X10_in_14_1 else (if p2 < p0 then j_X10_in_14_1 else some (1 : Int32)))
def r_X10_in : Room := { frames := 0, cells := 0, slots := 0, locals := 0 }
set_option maxHeartbeats 4000000 in
set_option maxRecDepth 100000 in
theorem c_X10_in (l : Launch) (D : va_G) (ev : EvT) (cy : Nat → ClassId) (p0 : Int32) (p1 : Int32) (p2 : Int32) (o : Int32) (hf : f_X10_in p0 p1 p2 = some o) : Fn l yX10_in cX10_in 3 (some .boolean) r_X10_in D ev cy [.int p0, .int p1, .int p2] [] (fun v G => v = some (.int o) ∧ G = []) := by
  refine Fn_of (by decide) (Nat.le_of_ble_eq_true rfl) (fun X A Q h hQ _ => ?_)
  unfold f_X10_in at hf
  show ww X D A 3 Q 0 0 0 [(0, .int p0), (1, .int p1), (2, .int p2)] [] []
  refine ww_iload_n h dX10_in_0 rfl 0 rfl 1 rfl ?_
  refine ww_iload_n h dX10_in_1 rfl 1 rfl 2 rfl ?_
  have hJ14_1 : ∀ (_ : Unit), j_X10_in_14_1 = some o → ww X D A 3 Q 0 0 14 [] [] [] := by
    intro _ hf
    unfold j_X10_in_14_1 at hf
    refine ww_iconst (v := 0) h dX10_in_14 (by decide) 15 rfl ?_
    obtain rfl := Option.some.inj hf
    exact ww_zret h (Or.inl rfl) dX10_in_15 hQ ⟨rfl, rfl⟩
  refine ww_icmp_lt h dX10_in_2 14 (by decide) 5 rfl (fun c => ?_) (fun c => ?_)
  · replace hf := ite_t c hf
    refine ww_lo [] (lo' := []) rfl ?_
    exact hJ14_1 () hf
  · replace hf := ite_f c hf
    refine ww_iload_n h dX10_in_5 rfl 0 rfl 6 rfl ?_
    refine ww_iload_n h dX10_in_6 rfl 2 rfl 7 rfl ?_
    refine ww_icmp_gt h dX10_in_7 14 (by decide) 10 rfl (fun c => ?_) (fun c => ?_)
    · replace hf := ite_t c hf
      refine ww_lo [] (lo' := []) rfl ?_
      exact hJ14_1 () hf
    · replace hf := ite_f c hf
      refine ww_iconst (v := 1) h dX10_in_10 (by decide) 11 rfl ?_
      refine ww_goto h dX10_in_11 15 (by decide) ?_
      obtain rfl := Option.some.inj hf
      exact ww_zret h (Or.inr rfl) dX10_in_15 hQ ⟨rfl, rfl⟩
theorem dX10_isIn_0 : decode cX10_isIn 0 = .ok (.iload_n 0, 1) := by decide +kernel
theorem dX10_isIn_1 : decode cX10_isIn 1 = .ok (.iload_n 1, 1) := by decide +kernel
theorem dX10_isIn_2 : decode cX10_isIn 2 = .ok (.ishr, 1) := by decide +kernel
theorem dX10_isIn_3 : decode cX10_isIn 3 = .ok (.iconst 1, 1) := by decide +kernel
theorem dX10_isIn_4 : decode cX10_isIn 4 = .ok (.iand, 1) := by decide +kernel
theorem dX10_isIn_5 : decode cX10_isIn 5 = .ok (.iconst 1, 1) := by decide +kernel
theorem dX10_isIn_6 : decode cX10_isIn 6 = .ok (.if_icmp .ne 7, 3) := by decide +kernel
theorem dX10_isIn_9 : decode cX10_isIn 9 = .ok (.iconst 1, 1) := by decide +kernel
theorem dX10_isIn_10 : decode cX10_isIn 10 = .ok (.goto 4, 3) := by decide +kernel
theorem dX10_isIn_13 : decode cX10_isIn 13 = .ok (.iconst 0, 1) := by decide +kernel
theorem dX10_isIn_14 : decode cX10_isIn 14 = .ok (.ireturn, 1) := by decide +kernel
theorem ok_X10_isIn : okY RX10 yX10_isIn 2 := ⟨rfl, by decide, by decide, by decide +kernel⟩
def f_X10_isIn (p0 : Int32) (p1 : Int32) : Option (Int32) := (if ((p0 >>> (p1 &&& 31)) &&& (1 : Int32)) = (1 : Int32) then some (1 : Int32) else some (0 : Int32))
def r_X10_isIn : Room := { frames := 0, cells := 0, slots := 0, locals := 0 }
set_option maxHeartbeats 4000000 in
set_option maxRecDepth 100000 in
theorem c_X10_isIn (l : Launch) (D : va_G) (ev : EvT) (cy : Nat → ClassId) (p0 : Int32) (p1 : Int32) (o : Int32) (hf : f_X10_isIn p0 p1 = some o) : Fn l yX10_isIn cX10_isIn 2 (some .boolean) r_X10_isIn D ev cy [.int p0, .int p1] [] (fun v G => v = some (.int o) ∧ G = []) := by
  refine Fn_of (by decide) (Nat.le_of_ble_eq_true rfl) (fun X A Q h hQ _ => ?_)
  unfold f_X10_isIn at hf
  show ww X D A 2 Q 0 0 0 [(0, .int p0), (1, .int p1)] [] []
  refine ww_iload_n h dX10_isIn_0 rfl 0 rfl 1 rfl ?_
  refine ww_iload_n h dX10_isIn_1 rfl 1 rfl 2 rfl ?_
  refine ww_ishr h dX10_isIn_2 3 rfl ?_
  refine ww_iconst (v := 1) h dX10_isIn_3 (by decide) 4 rfl ?_
  refine ww_iand h dX10_isIn_4 5 rfl ?_
  refine ww_iconst (v := 1) h dX10_isIn_5 (by decide) 6 rfl ?_
  refine ww_icmp_ne h dX10_isIn_6 13 (by decide) 9 rfl (fun c => ?_) (fun c => ?_)
  · replace hf := ite_f c hf
    refine ww_iconst (v := 0) h dX10_isIn_13 (by decide) 14 rfl ?_
    obtain rfl := Option.some.inj hf
    exact ww_zret h (Or.inl rfl) dX10_isIn_14 hQ ⟨rfl, rfl⟩
  · replace hf := ite_t c hf
    refine ww_iconst (v := 1) h dX10_isIn_9 (by decide) 10 rfl ?_
    refine ww_goto h dX10_isIn_10 14 (by decide) ?_
    obtain rfl := Option.some.inj hf
    exact ww_zret h (Or.inr rfl) dX10_isIn_14 hQ ⟨rfl, rfl⟩
theorem dX10_bitsOf_0 : decode cX10_bitsOf 0 = .ok (.iconst 0, 1) := by decide +kernel
theorem dX10_bitsOf_1 : decode cX10_bitsOf 1 = .ok (.istore_n 1, 1) := by decide +kernel
theorem dX10_bitsOf_2 : decode cX10_bitsOf 2 = .ok (.iload_n 0, 1) := by decide +kernel
theorem dX10_bitsOf_3 : decode cX10_bitsOf 3 = .ok (.istore_n 2, 1) := by decide +kernel
theorem dX10_bitsOf_4 : decode cX10_bitsOf 4 = .ok (.iload_n 2, 1) := by decide +kernel
theorem dX10_bitsOf_5 : decode cX10_bitsOf 5 = .ok (.ifCond .eq 15, 3) := by decide +kernel
theorem dX10_bitsOf_8 : decode cX10_bitsOf 8 = .ok (.iinc 1 1, 3) := by decide +kernel
theorem dX10_bitsOf_11 : decode cX10_bitsOf 11 = .ok (.iload_n 2, 1) := by decide +kernel
theorem dX10_bitsOf_12 : decode cX10_bitsOf 12 = .ok (.iload_n 2, 1) := by decide +kernel
theorem dX10_bitsOf_13 : decode cX10_bitsOf 13 = .ok (.iconst 1, 1) := by decide +kernel
theorem dX10_bitsOf_14 : decode cX10_bitsOf 14 = .ok (.isub, 1) := by decide +kernel
theorem dX10_bitsOf_15 : decode cX10_bitsOf 15 = .ok (.iand, 1) := by decide +kernel
theorem dX10_bitsOf_16 : decode cX10_bitsOf 16 = .ok (.istore_n 2, 1) := by decide +kernel
theorem dX10_bitsOf_17 : decode cX10_bitsOf 17 = .ok (.goto (-13), 3) := by decide +kernel
theorem dX10_bitsOf_20 : decode cX10_bitsOf 20 = .ok (.iload_n 1, 1) := by decide +kernel
theorem dX10_bitsOf_21 : decode cX10_bitsOf 21 = .ok (.ireturn, 1) := by decide +kernel
theorem ok_X10_bitsOf : okY RX10 yX10_bitsOf 1 := ⟨rfl, by decide, by decide, by decide +kernel⟩
def s_X10_bitsOf_4_3 : (Int32 × Int32) → Option ((Int32 × Int32) ⊕ (Int32)) := un2 (fun v1_4 v2_5 => (if v2_5 = 0 then some (.inr v1_4) else bnd (v1_4 + 1) (fun v1_6 => bnd (v2_5 &&& (v2_5 - (1 : Int32))) (fun v2_7 => some (.inl (v1_6, v2_7))))))
def f_X10_bitsOf (p0 : Int32) : Option (Int32) := bnd (0 : Int32) (fun v1_1 => bnd p0 (fun v2_2 => ((lp (s_X10_bitsOf_4_3) 5000 (v1_1, v2_2)).bind (un1 (fun v1_8 => some v1_8)))))
def r_X10_bitsOf : Room := { frames := 0, cells := 0, slots := 0, locals := 0 }
set_option maxHeartbeats 4000000 in
set_option maxRecDepth 100000 in
theorem c_X10_bitsOf (l : Launch) (D : va_G) (ev : EvT) (cy : Nat → ClassId) (p0 : Int32) (o : Int32) (hf : f_X10_bitsOf p0 = some o) : Fn l yX10_bitsOf cX10_bitsOf 3 (some .int) r_X10_bitsOf D ev cy [.int p0] [] (fun v G => v = some (.int o) ∧ G = []) := by
  refine Fn_of (by decide) (Nat.le_of_ble_eq_true rfl) (fun X A Q h hQ _ => ?_)
  unfold f_X10_bitsOf at hf
  show ww X D A 3 Q 0 0 0 [(0, .int p0)] [] []
  refine ww_iconst (v := 0) h dX10_bitsOf_0 (by decide) 1 rfl ?_
  refine ww_ist_n h dX10_bitsOf_1 rfl (by decide) (fun v1_1 => [(1, .int v1_1), (0, .int p0)]) (fun _ => rfl) 2 rfl (fun v1_1 e => ?_)
  replace hf := bnd_at e hf
  clear e
  refine ww_iload_n h dX10_bitsOf_2 rfl 1 rfl 3 rfl ?_
  refine ww_ist_n h dX10_bitsOf_3 rfl (by decide) (fun v2_2 => [(2, .int v2_2), (1, .int v1_1), (0, .int p0)]) (fun _ => rfl) 4 rfl (fun v2_2 e => ?_)
  replace hf := bnd_at e hf
  clear e
  refine ww_lo [1, 0] (lo' := [(1, .int v1_1), (2, .int v2_2)]) rfl ?_
  obtain ⟨v1_8, h3, hf⟩ := ob1 hf
  refine lp_walk (un2 (fun v1_4 v2_5 => ww X D A 3 Q 0 0 4 [(1, .int v1_4), (2, .int v2_5)] [] [])) (un1 (fun v1_8 => ww X D A 3 Q 0 0 20 [(1, .int v1_8)] [] [])) ?_ _ _ _ h3 ?_
  · clear h3 hf
    intro s3 o3 hf hI3 hE3
    obtain ⟨v1_4, v2_5⟩ := s3
    unfold s_X10_bitsOf_4_3 at hf
    replace hf := un2_e hf
    show ww X D A 3 Q 0 0 4 [(1, .int v1_4), (2, .int v2_5)] [] []
    refine ww_iload_n h dX10_bitsOf_4 rfl 1 rfl 5 rfl ?_
    refine ww_if_eq h dX10_bitsOf_5 20 (by decide) 8 rfl (fun c => ?_) (fun c => ?_)
    · replace hf := ite_t c hf
      refine ww_lo [0] (lo' := [(1, .int v1_4)]) rfl ?_
      exact hE3 v1_4 (Option.some.inj hf).symm
    · replace hf := ite_f c hf
      refine ww_inc (c := 1) h dX10_bitsOf_8 0 rfl (by decide) (by decide) (fun v1_6 => [(1, .int v1_6), (2, .int v2_5)]) (fun _ => rfl) 11 rfl (fun v1_6 e => ?_)
      replace hf := bnd_at e hf
      clear e
      refine ww_iload_n h dX10_bitsOf_11 rfl 1 rfl 12 rfl ?_
      refine ww_iload_n h dX10_bitsOf_12 rfl 1 rfl 13 rfl ?_
      refine ww_iconst (v := 1) h dX10_bitsOf_13 (by decide) 14 rfl ?_
      refine ww_isub h dX10_bitsOf_14 15 rfl ?_
      refine ww_iand h dX10_bitsOf_15 16 rfl ?_
      refine ww_ist_n h dX10_bitsOf_16 rfl (by decide) (fun v2_7 => [(2, .int v2_7), (1, .int v1_6)]) (fun _ => rfl) 17 rfl (fun v2_7 e => ?_)
      replace hf := bnd_at e hf
      clear e
      refine ww_goto h dX10_bitsOf_17 4 (by decide) ?_
      refine ww_lo [1, 0] (lo' := [(1, .int v1_6), (2, .int v2_7)]) rfl ?_
      exact hI3 (v1_6, v2_7) (Option.some.inj hf).symm
  · clear h3
    show ww X D A 3 Q 0 0 20 [(1, .int v1_8)] [] []
    refine ww_iload_n h dX10_bitsOf_20 rfl 0 rfl 21 rfl ?_
    obtain rfl := Option.some.inj hf
    exact ww_iret h dX10_bitsOf_21 hQ ⟨rfl, rfl⟩
theorem dX10_isTold_0 : decode cX10_isTold 0 = .ok (.iload_n 1, 1) := by decide +kernel
theorem dX10_isTold_1 : decode cX10_isTold 1 = .ok (.iconst 0, 1) := by decide +kernel
theorem dX10_isTold_2 : decode cX10_isTold 2 = .ok (.bipush 25, 2) := by decide +kernel
theorem dX10_isTold_4 : decode cX10_isTold 4 = .ok (.invokestatic 125, 3) := by decide +kernel
theorem dX10_isTold_7 : decode cX10_isTold 7 = .ok (.ifCond .eq 16, 3) := by decide +kernel
theorem dX10_isTold_10 : decode cX10_isTold 10 = .ok (.aload_n 0, 1) := by decide +kernel
theorem dX10_isTold_11 : decode cX10_isTold 11 = .ok (.getfield 13, 3) := by decide +kernel
theorem dX10_isTold_14 : decode cX10_isTold 14 = .ok (.iload_n 1, 1) := by decide +kernel
theorem dX10_isTold_15 : decode cX10_isTold 15 = .ok (.iaload, 1) := by decide +kernel
theorem dX10_isTold_16 : decode cX10_isTold 16 = .ok (.ifCond .le 7, 3) := by decide +kernel
theorem dX10_isTold_19 : decode cX10_isTold 19 = .ok (.iconst 1, 1) := by decide +kernel
theorem dX10_isTold_20 : decode cX10_isTold 20 = .ok (.goto 4, 3) := by decide +kernel
theorem dX10_isTold_23 : decode cX10_isTold 23 = .ok (.iconst 0, 1) := by decide +kernel
theorem dX10_isTold_24 : decode cX10_isTold 24 = .ok (.ireturn, 1) := by decide +kernel
theorem ok_X10_isTold : okY RX10 yX10_isTold 1 := ⟨rfl, by decide, by decide, by decide +kernel⟩
def j_X10_isTold_23_3 : Option (Int32) := some (0 : Int32)
def f_X10_isTold (M : OV) (p0 : Int32) : Option (Int32) := (f_X10_in p0 (0 : Int32) (25 : Int32)).bind (un1 (fun r_1 => (if r_1 = 0 then j_X10_isTold_23_3 else gd (ix p0 26) ((if (ar M 1 p0.toNatClampNeg) ≤ 0 then j_X10_isTold_23_3 else some (1 : Int32))))))
def r_X10_isTold : Room := { frames := 1, cells := 0, slots := 0, locals := 22 }
set_option maxHeartbeats 4000000 in
set_option maxRecDepth 100000 in
theorem c_X10_isTold (l : Launch) (D : va_G) (ev : EvT) (cy : Nat → ClassId) (oM : Nat) (aM : Nat → Nat) (M : OV) (p0 : Int32) (o : Int32) (hf : f_X10_isTold M p0 = some o) : Fn l yX10_isTold cX10_isTold 2 (some .boolean) r_X10_isTold D ev cy [.ref oM, .int p0] [gX10 cy oM aM M] (fun v G => v = some (.int o) ∧ G = [gX10 cy oM aM M]) := by
  refine Fn_of (by decide) (Nat.le_of_ble_eq_true rfl) (fun X A Q h hQ _ => ?_)
  unfold f_X10_isTold at hf
  show ww X D A 2 Q 0 0 0 [(0, .ref oM), (1, .int p0)] [] [gX10 cy oM aM M]
  refine ww_iload_n h dX10_isTold_0 rfl 1 rfl 1 rfl ?_
  refine ww_iconst (v := 0) h dX10_isTold_1 (by decide) 2 rfl ?_
  refine ww_bipush (v := 25) h dX10_isTold_2 (by decide) 4 rfl ?_
  obtain ⟨r_1, hu2, hf⟩ := ob1 hf
  refine ww_cSi h (c_X10_in l D ev cy p0 (0 : Int32) (25 : Int32) _ hu2) ⟨w_1333, w_1331, w_1332, w_111, ok_X10_in⟩ ⟨by decide, by decide⟩ ⟨by decide, by decide⟩ ⟨rfl, rfl⟩ [] rfl rfl (Nat.le_of_ble_eq_true rfl) dX10_isTold_4 7 rfl (Gs' := [gX10 cy oM aM M]) rfl ?_
  clear hu2
  have hJ23_3 : ∀ (_ : Unit), j_X10_isTold_23_3 = some o → ww X D A 2 Q 0 0 23 [] [] [gX10 cy oM aM M] := by
    intro _ hf
    unfold j_X10_isTold_23_3 at hf
    refine ww_iconst (v := 0) h dX10_isTold_23 (by decide) 24 rfl ?_
    obtain rfl := Option.some.inj hf
    exact ww_zret h (Or.inl rfl) dX10_isTold_24 hQ ⟨rfl, rfl⟩
  refine ww_if_eq h dX10_isTold_7 23 (by decide) 10 rfl (fun c => ?_) (fun c => ?_)
  · replace hf := ite_t c hf
    refine ww_lo [] (lo' := []) rfl ?_
    exact hJ23_3 () hf
  · replace hf := ite_f c hf
    refine ww_aload_n h dX10_isTold_10 rfl 0 rfl 11 rfl ?_
    refine ww_get h inG10 rfl 0 rfl rfl 1 (by decide) w_1158 rfl dX10_isTold_11 14 rfl ?_
    refine ww_iload_n h dX10_isTold_14 rfl 1 rfl 15 rfl ?_
    have hi := (gd_some hf).1
    replace hf := (gd_some hf).2
    refine ww_iald h 0 rfl 1 rfl (ix_in hi) dX10_isTold_15 16 rfl ?_
    clear hi
    refine ww_if_le h dX10_isTold_16 23 (by decide) 19 rfl (fun c => ?_) (fun c => ?_)
    · replace hf := ite_t c hf
      refine ww_lo [] (lo' := []) rfl ?_
      exact hJ23_3 () hf
    · replace hf := ite_f c hf
      refine ww_iconst (v := 1) h dX10_isTold_19 (by decide) 20 rfl ?_
      refine ww_goto h dX10_isTold_20 24 (by decide) ?_
      obtain rfl := Option.some.inj hf
      exact ww_zret h (Or.inr rfl) dX10_isTold_24 hQ ⟨rfl, rfl⟩
theorem dX10_keeps_0 : decode cX10_keeps 0 = .ok (.aload_n 0, 1) := by decide +kernel
theorem dX10_keeps_1 : decode cX10_keeps 1 = .ok (.getfield 129, 3) := by decide +kernel
theorem dX10_keeps_4 : decode cX10_keeps 4 = .ok (.bipush 12, 2) := by decide +kernel
theorem dX10_keeps_6 : decode cX10_keeps 6 = .ok (.if_icmp .ne 44, 3) := by decide +kernel
theorem dX10_keeps_9 : decode cX10_keeps 9 = .ok (.bipush 113, 2) := by decide +kernel
theorem dX10_keeps_11 : decode cX10_keeps 11 = .ok (.istore_n 1, 1) := by decide +kernel
theorem dX10_keeps_12 : decode cX10_keeps 12 = .ok (.iload_n 1, 1) := by decide +kernel
theorem dX10_keeps_13 : decode cX10_keeps 13 = .ok (.sipush 1356, 3) := by decide +kernel
theorem dX10_keeps_16 : decode cX10_keeps 16 = .ok (.if_icmp .ge 24, 3) := by decide +kernel
theorem dX10_keeps_19 : decode cX10_keeps 19 = .ok (.aload_n 0, 1) := by decide +kernel
theorem dX10_keeps_20 : decode cX10_keeps 20 = .ok (.getfield 42, 3) := by decide +kernel
theorem dX10_keeps_23 : decode cX10_keeps 23 = .ok (.iload_n 1, 1) := by decide +kernel
theorem dX10_keeps_24 : decode cX10_keeps 24 = .ok (.bipush 113, 2) := by decide +kernel
theorem dX10_keeps_26 : decode cX10_keeps 26 = .ok (.isub, 1) := by decide +kernel
theorem dX10_keeps_27 : decode cX10_keeps 27 = .ok (.aload_n 0, 1) := by decide +kernel
theorem dX10_keeps_28 : decode cX10_keeps 28 = .ok (.getfield 42, 3) := by decide +kernel
theorem dX10_keeps_31 : decode cX10_keeps 31 = .ok (.iload_n 1, 1) := by decide +kernel
theorem dX10_keeps_32 : decode cX10_keeps 32 = .ok (.iaload, 1) := by decide +kernel
theorem dX10_keeps_33 : decode cX10_keeps 33 = .ok (.iastore, 1) := by decide +kernel
theorem dX10_keeps_34 : decode cX10_keeps 34 = .ok (.iinc 1 1, 3) := by decide +kernel
theorem dX10_keeps_37 : decode cX10_keeps 37 = .ok (.goto (-25), 3) := by decide +kernel
theorem dX10_keeps_40 : decode cX10_keeps 40 = .ok (.aload_n 0, 1) := by decide +kernel
theorem dX10_keeps_41 : decode cX10_keeps 41 = .ok (.dup, 1) := by decide +kernel
theorem dX10_keeps_42 : decode cX10_keeps 42 = .ok (.getfield 129, 3) := by decide +kernel
theorem dX10_keeps_45 : decode cX10_keeps 45 = .ok (.iconst 1, 1) := by decide +kernel
theorem dX10_keeps_46 : decode cX10_keeps 46 = .ok (.isub, 1) := by decide +kernel
theorem dX10_keeps_47 : decode cX10_keeps 47 = .ok (.putfield 129, 3) := by decide +kernel
theorem dX10_keeps_50 : decode cX10_keeps 50 = .ok (.iconst 0, 1) := by decide +kernel
theorem dX10_keeps_51 : decode cX10_keeps 51 = .ok (.istore_n 1, 1) := by decide +kernel
theorem dX10_keeps_52 : decode cX10_keeps 52 = .ok (.iload_n 1, 1) := by decide +kernel
theorem dX10_keeps_53 : decode cX10_keeps 53 = .ok (.bipush 113, 2) := by decide +kernel
theorem dX10_keeps_55 : decode cX10_keeps 55 = .ok (.if_icmp .ge 29, 3) := by decide +kernel
theorem dX10_keeps_58 : decode cX10_keeps 58 = .ok (.aload_n 0, 1) := by decide +kernel
theorem dX10_keeps_59 : decode cX10_keeps 59 = .ok (.getfield 42, 3) := by decide +kernel
theorem dX10_keeps_62 : decode cX10_keeps 62 = .ok (.bipush 113, 2) := by decide +kernel
theorem dX10_keeps_64 : decode cX10_keeps 64 = .ok (.aload_n 0, 1) := by decide +kernel
theorem dX10_keeps_65 : decode cX10_keeps 65 = .ok (.getfield 129, 3) := by decide +kernel
theorem dX10_keeps_68 : decode cX10_keeps 68 = .ok (.imul, 1) := by decide +kernel
theorem dX10_keeps_69 : decode cX10_keeps 69 = .ok (.iload_n 1, 1) := by decide +kernel
theorem dX10_keeps_70 : decode cX10_keeps 70 = .ok (.iadd, 1) := by decide +kernel
theorem dX10_keeps_71 : decode cX10_keeps 71 = .ok (.aload_n 0, 1) := by decide +kernel
theorem dX10_keeps_72 : decode cX10_keeps 72 = .ok (.getfield 36, 3) := by decide +kernel
theorem dX10_keeps_75 : decode cX10_keeps 75 = .ok (.iload_n 1, 1) := by decide +kernel
theorem dX10_keeps_76 : decode cX10_keeps 76 = .ok (.iaload, 1) := by decide +kernel
theorem dX10_keeps_77 : decode cX10_keeps 77 = .ok (.iastore, 1) := by decide +kernel
theorem dX10_keeps_78 : decode cX10_keeps 78 = .ok (.iinc 1 1, 3) := by decide +kernel
theorem dX10_keeps_81 : decode cX10_keeps 81 = .ok (.goto (-29), 3) := by decide +kernel
theorem dX10_keeps_84 : decode cX10_keeps 84 = .ok (.aload_n 0, 1) := by decide +kernel
theorem dX10_keeps_85 : decode cX10_keeps 85 = .ok (.dup, 1) := by decide +kernel
theorem dX10_keeps_86 : decode cX10_keeps 86 = .ok (.getfield 129, 3) := by decide +kernel
theorem dX10_keeps_89 : decode cX10_keeps 89 = .ok (.iconst 1, 1) := by decide +kernel
theorem dX10_keeps_90 : decode cX10_keeps 90 = .ok (.iadd, 1) := by decide +kernel
theorem dX10_keeps_91 : decode cX10_keeps 91 = .ok (.putfield 129, 3) := by decide +kernel
theorem dX10_keeps_94 : decode cX10_keeps 94 = .ok (.return_, 1) := by decide +kernel
theorem ok_X10_keeps : okY RX10 yX10_keeps 0 := ⟨rfl, by decide, by decide, by decide +kernel⟩
def s_X10_keeps_52_4 : (Int32 × OV) → Option ((Int32 × OV) ⊕ (OV)) := un2 (fun v1_5 M_6 => (if (113 : Int32) ≤ v1_5 then some (.inr M_6) else gd (ix v1_5 113) (gd (ix (((113 : Int32) * (iv M_6 11)) + v1_5) 1356) (bnd (sA M_6 10 (((113 : Int32) * (iv M_6 11)) + v1_5).toNatClampNeg (ar M_6 8 v1_5.toNatClampNeg)) (fun M_7 => bnd (v1_5 + 1) (fun v1_8 => some (.inl (v1_8, M_7))))))))
def j_X10_keeps_50_2 (M_1 : OV) : Option (OV) := bnd (0 : Int32) (fun v1_3 => ((lp (s_X10_keeps_52_4) 5000 (v1_3, M_1)).bind (un1 (fun M_9 => bnd (sI M_9 11 ((iv M_9 11) + (1 : Int32))) (fun M_10 => some M_10)))))
def s_X10_keeps_12_12 : (Int32 × OV) → Option ((Int32 × OV) ⊕ (OV)) := un2 (fun v1_13 M_14 => (if (1356 : Int32) ≤ v1_13 then some (.inr M_14) else gd (ix v1_13 1356) (gd (ix (v1_13 - (113 : Int32)) 1356) (bnd (sA M_14 10 (v1_13 - (113 : Int32)).toNatClampNeg (ar M_14 10 v1_13.toNatClampNeg)) (fun M_15 => bnd (v1_13 + 1) (fun v1_16 => some (.inl (v1_16, M_15))))))))
def f_X10_keeps (M : OV) : Option (OV) := (if (iv M 11) = (12 : Int32) then bnd (113 : Int32) (fun v1_11 => ((lp (s_X10_keeps_12_12) 5000 (v1_11, M)).bind (un1 (fun M_17 => bnd (sI M_17 11 ((iv M_17 11) - (1 : Int32))) (fun M_18 => j_X10_keeps_50_2 M_18))))) else j_X10_keeps_50_2 M)
def r_X10_keeps : Room := { frames := 0, cells := 0, slots := 0, locals := 0 }
set_option maxHeartbeats 4000000 in
set_option maxRecDepth 100000 in
theorem c_X10_keeps (l : Launch) (D : va_G) (ev : EvT) (cy : Nat → ClassId) (oM : Nat) (aM : Nat → Nat) (M : OV) (o : OV) (hf : f_X10_keeps M = some o) : Fn l yX10_keeps cX10_keeps 2 none r_X10_keeps D ev cy [.ref oM] [gX10 cy oM aM M] (fun v G => v = none ∧ G = [gX10 cy oM aM o]) := by
  refine Fn_of (by decide) (Nat.le_of_ble_eq_true rfl) (fun X A Q h hQ _ => ?_)
  unfold f_X10_keeps at hf
  show ww X D A 2 Q 0 0 0 [(0, .ref oM)] [] [gX10 cy oM aM M]
  refine ww_aload_n h dX10_keeps_0 rfl 0 rfl 1 rfl ?_
  refine ww_get h inG10 rfl 0 rfl rfl 11 (by decide) w_1168 rfl dX10_keeps_1 4 rfl ?_
  refine ww_bipush (v := 12) h dX10_keeps_4 (by decide) 6 rfl ?_
  have hJ50_2 : ∀ (M_1 : OV), j_X10_keeps_50_2 M_1 = some o → ww X D A 2 Q 0 0 50 [(0, .ref oM)] [] [gX10 cy oM aM M_1] := by
    intro M_1 hf
    unfold j_X10_keeps_50_2 at hf
    refine ww_iconst (v := 0) h dX10_keeps_50 (by decide) 51 rfl ?_
    refine ww_ist_n h dX10_keeps_51 rfl (by decide) (fun v1_3 => [(1, .int v1_3), (0, .ref oM)]) (fun _ => rfl) 52 rfl (fun v1_3 e => ?_)
    replace hf := bnd_at e hf
    clear e
    refine ww_lo [1, 0] (lo' := [(0, .ref oM), (1, .int v1_3)]) rfl ?_
    obtain ⟨M_9, h4, hf⟩ := ob1 hf
    refine lp_walk (un2 (fun v1_5 M_6 => ww X D A 2 Q 0 0 52 [(0, .ref oM), (1, .int v1_5)] [] [gX10 cy oM aM M_6])) (un1 (fun M_9 => ww X D A 2 Q 0 0 84 [(0, .ref oM)] [] [gX10 cy oM aM M_9])) ?_ _ _ _ h4 ?_
    · clear h4 hf
      intro s4 o4 hf hI4 hE4
      obtain ⟨v1_5, M_6⟩ := s4
      unfold s_X10_keeps_52_4 at hf
      replace hf := un2_e hf
      show ww X D A 2 Q 0 0 52 [(0, .ref oM), (1, .int v1_5)] [] [gX10 cy oM aM M_6]
      refine ww_iload_n h dX10_keeps_52 rfl 1 rfl 53 rfl ?_
      refine ww_bipush (v := 113) h dX10_keeps_53 (by decide) 55 rfl ?_
      refine ww_icmp_ge h dX10_keeps_55 84 (by decide) 58 rfl (fun c => ?_) (fun c => ?_)
      · replace hf := ite_t c hf
        refine ww_lo [0] (lo' := [(0, .ref oM)]) rfl ?_
        exact hE4 M_6 (Option.some.inj hf).symm
      · replace hf := ite_f c hf
        refine ww_aload_n h dX10_keeps_58 rfl 0 rfl 59 rfl ?_
        refine ww_get h inG10 rfl 0 rfl rfl 10 (by decide) w_1167 rfl dX10_keeps_59 62 rfl ?_
        refine ww_bipush (v := 113) h dX10_keeps_62 (by decide) 64 rfl ?_
        refine ww_aload_n h dX10_keeps_64 rfl 0 rfl 65 rfl ?_
        refine ww_get h inG10 rfl 0 rfl rfl 11 (by decide) w_1168 rfl dX10_keeps_65 68 rfl ?_
        refine ww_imul h dX10_keeps_68 69 rfl ?_
        refine ww_iload_n h dX10_keeps_69 rfl 1 rfl 70 rfl ?_
        refine ww_iadd h dX10_keeps_70 71 rfl ?_
        refine ww_aload_n h dX10_keeps_71 rfl 0 rfl 72 rfl ?_
        refine ww_get h inG10 rfl 0 rfl rfl 8 (by decide) w_1165 rfl dX10_keeps_72 75 rfl ?_
        refine ww_iload_n h dX10_keeps_75 rfl 1 rfl 76 rfl ?_
        have hi := (gd_some hf).1
        replace hf := (gd_some hf).2
        refine ww_iald h 0 rfl 8 rfl (ix_in hi) dX10_keeps_76 77 rfl ?_
        clear hi
        have hi := (gd_some hf).1
        replace hf := (gd_some hf).2
        refine ww_iast h 0 rfl 10 rfl (ix_in hi) dX10_keeps_77 78 rfl ?_
        clear hi
        refine ww_nm (fun z => [gX10 cy oM aM z]) (sA M_6 10 (((113 : Int32) * (iv M_6 11)) + v1_5).toNatClampNeg (ar M_6 8 v1_5.toNatClampNeg)) (fun M_7 e => ?_)
        replace hf := bnd_at e hf
        clear e
        refine ww_inc (c := 1) h dX10_keeps_78 1 rfl (by decide) (by decide) (fun v1_8 => [(1, .int v1_8), (0, .ref oM)]) (fun _ => rfl) 81 rfl (fun v1_8 e => ?_)
        replace hf := bnd_at e hf
        clear e
        refine ww_goto h dX10_keeps_81 52 (by decide) ?_
        refine ww_lo [1, 0] (lo' := [(0, .ref oM), (1, .int v1_8)]) rfl ?_
        exact hI4 (v1_8, M_7) (Option.some.inj hf).symm
    · clear h4
      show ww X D A 2 Q 0 0 84 [(0, .ref oM)] [] [gX10 cy oM aM M_9]
      refine ww_aload_n h dX10_keeps_84 rfl 0 rfl 85 rfl ?_
      refine ww_dup h dX10_keeps_85 rfl 86 rfl ?_
      refine ww_get h inG10 rfl 0 rfl rfl 11 (by decide) w_1168 rfl dX10_keeps_86 89 rfl ?_
      refine ww_iconst (v := 1) h dX10_keeps_89 (by decide) 90 rfl ?_
      refine ww_iadd h dX10_keeps_90 91 rfl ?_
      refine ww_put (ty := .int) h inG10 tyX10_ok nmX10 rfl 0 rfl rfl 11 (by decide) w_1168 rfl (by decide +kernel) rfl rfl (Nat.le_of_ble_eq_true rfl) (Nat.le_of_ble_eq_true rfl) dX10_keeps_91 94 rfl ?_
      refine ww_nm (fun z => [gX10 cy oM aM z]) (sI M_9 11 ((iv M_9 11) + (1 : Int32))) (fun M_10 e => ?_)
      replace hf := bnd_at e hf
      clear e
      obtain rfl := Option.some.inj hf
      exact ww_vret h dX10_keeps_94 hQ ⟨rfl, rfl⟩
  refine ww_icmp_ne h dX10_keeps_6 50 (by decide) 9 rfl (fun c => ?_) (fun c => ?_)
  · replace hf := ite_f c hf
    exact hJ50_2 M hf
  · replace hf := ite_t c hf
    refine ww_bipush (v := 113) h dX10_keeps_9 (by decide) 11 rfl ?_
    refine ww_ist_n h dX10_keeps_11 rfl (by decide) (fun v1_11 => [(1, .int v1_11), (0, .ref oM)]) (fun _ => rfl) 12 rfl (fun v1_11 e => ?_)
    replace hf := bnd_at e hf
    clear e
    refine ww_lo [1, 0] (lo' := [(0, .ref oM), (1, .int v1_11)]) rfl ?_
    obtain ⟨M_17, h12, hf⟩ := ob1 hf
    refine lp_walk (un2 (fun v1_13 M_14 => ww X D A 2 Q 0 0 12 [(0, .ref oM), (1, .int v1_13)] [] [gX10 cy oM aM M_14])) (un1 (fun M_17 => ww X D A 2 Q 0 0 40 [(0, .ref oM)] [] [gX10 cy oM aM M_17])) ?_ _ _ _ h12 ?_
    · clear h12 hf
      intro s12 o12 hf hI12 hE12
      obtain ⟨v1_13, M_14⟩ := s12
      unfold s_X10_keeps_12_12 at hf
      replace hf := un2_e hf
      show ww X D A 2 Q 0 0 12 [(0, .ref oM), (1, .int v1_13)] [] [gX10 cy oM aM M_14]
      refine ww_iload_n h dX10_keeps_12 rfl 1 rfl 13 rfl ?_
      refine ww_sipush (v := 1356) h dX10_keeps_13 (by decide) 16 rfl ?_
      refine ww_icmp_ge h dX10_keeps_16 40 (by decide) 19 rfl (fun c => ?_) (fun c => ?_)
      · replace hf := ite_t c hf
        refine ww_lo [0] (lo' := [(0, .ref oM)]) rfl ?_
        exact hE12 M_14 (Option.some.inj hf).symm
      · replace hf := ite_f c hf
        refine ww_aload_n h dX10_keeps_19 rfl 0 rfl 20 rfl ?_
        refine ww_get h inG10 rfl 0 rfl rfl 10 (by decide) w_1167 rfl dX10_keeps_20 23 rfl ?_
        refine ww_iload_n h dX10_keeps_23 rfl 1 rfl 24 rfl ?_
        refine ww_bipush (v := 113) h dX10_keeps_24 (by decide) 26 rfl ?_
        refine ww_isub h dX10_keeps_26 27 rfl ?_
        refine ww_aload_n h dX10_keeps_27 rfl 0 rfl 28 rfl ?_
        refine ww_get h inG10 rfl 0 rfl rfl 10 (by decide) w_1167 rfl dX10_keeps_28 31 rfl ?_
        refine ww_iload_n h dX10_keeps_31 rfl 1 rfl 32 rfl ?_
        have hi := (gd_some hf).1
        replace hf := (gd_some hf).2
        refine ww_iald h 0 rfl 10 rfl (ix_in hi) dX10_keeps_32 33 rfl ?_
        clear hi
        have hi := (gd_some hf).1
        replace hf := (gd_some hf).2
        refine ww_iast h 0 rfl 10 rfl (ix_in hi) dX10_keeps_33 34 rfl ?_
        clear hi
        refine ww_nm (fun z => [gX10 cy oM aM z]) (sA M_14 10 (v1_13 - (113 : Int32)).toNatClampNeg (ar M_14 10 v1_13.toNatClampNeg)) (fun M_15 e => ?_)
        replace hf := bnd_at e hf
        clear e
        refine ww_inc (c := 1) h dX10_keeps_34 1 rfl (by decide) (by decide) (fun v1_16 => [(1, .int v1_16), (0, .ref oM)]) (fun _ => rfl) 37 rfl (fun v1_16 e => ?_)
        replace hf := bnd_at e hf
        clear e
        refine ww_goto h dX10_keeps_37 12 (by decide) ?_
        refine ww_lo [1, 0] (lo' := [(0, .ref oM), (1, .int v1_16)]) rfl ?_
        exact hI12 (v1_16, M_15) (Option.some.inj hf).symm
    · clear h12
      show ww X D A 2 Q 0 0 40 [(0, .ref oM)] [] [gX10 cy oM aM M_17]
      refine ww_aload_n h dX10_keeps_40 rfl 0 rfl 41 rfl ?_
      refine ww_dup h dX10_keeps_41 rfl 42 rfl ?_
      refine ww_get h inG10 rfl 0 rfl rfl 11 (by decide) w_1168 rfl dX10_keeps_42 45 rfl ?_
      refine ww_iconst (v := 1) h dX10_keeps_45 (by decide) 46 rfl ?_
      refine ww_isub h dX10_keeps_46 47 rfl ?_
      refine ww_put (ty := .int) h inG10 tyX10_ok nmX10 rfl 0 rfl rfl 11 (by decide) w_1168 rfl (by decide +kernel) rfl rfl (Nat.le_of_ble_eq_true rfl) (Nat.le_of_ble_eq_true rfl) dX10_keeps_47 50 rfl ?_
      refine ww_nm (fun z => [gX10 cy oM aM z]) (sI M_17 11 ((iv M_17 11) - (1 : Int32))) (fun M_18 e => ?_)
      replace hf := bnd_at e hf
      clear e
      exact hJ50_2 M_18 hf
theorem dX10_putsAside_0 : decode cX10_putsAside 0 = .ok (.iconst 0, 1) := by decide +kernel
theorem dX10_putsAside_1 : decode cX10_putsAside 1 = .ok (.istore_n 1, 1) := by decide +kernel
theorem dX10_putsAside_2 : decode cX10_putsAside 2 = .ok (.iload_n 1, 1) := by decide +kernel
theorem dX10_putsAside_3 : decode cX10_putsAside 3 = .ok (.bipush 113, 2) := by decide +kernel
theorem dX10_putsAside_5 : decode cX10_putsAside 5 = .ok (.if_icmp .ge 21, 3) := by decide +kernel
theorem dX10_putsAside_8 : decode cX10_putsAside 8 = .ok (.aload_n 0, 1) := by decide +kernel
theorem dX10_putsAside_9 : decode cX10_putsAside 9 = .ok (.getfield 39, 3) := by decide +kernel
theorem dX10_putsAside_12 : decode cX10_putsAside 12 = .ok (.iload_n 1, 1) := by decide +kernel
theorem dX10_putsAside_13 : decode cX10_putsAside 13 = .ok (.aload_n 0, 1) := by decide +kernel
theorem dX10_putsAside_14 : decode cX10_putsAside 14 = .ok (.getfield 36, 3) := by decide +kernel
theorem dX10_putsAside_17 : decode cX10_putsAside 17 = .ok (.iload_n 1, 1) := by decide +kernel
theorem dX10_putsAside_18 : decode cX10_putsAside 18 = .ok (.iaload, 1) := by decide +kernel
theorem dX10_putsAside_19 : decode cX10_putsAside 19 = .ok (.iastore, 1) := by decide +kernel
theorem dX10_putsAside_20 : decode cX10_putsAside 20 = .ok (.iinc 1 1, 3) := by decide +kernel
theorem dX10_putsAside_23 : decode cX10_putsAside 23 = .ok (.goto (-21), 3) := by decide +kernel
theorem dX10_putsAside_26 : decode cX10_putsAside 26 = .ok (.return_, 1) := by decide +kernel
theorem ok_X10_putsAside : okY RX10 yX10_putsAside 0 := ⟨rfl, by decide, by decide, by decide +kernel⟩
def s_X10_putsAside_2_2 : (Int32 × OV) → Option ((Int32 × OV) ⊕ (OV)) := un2 (fun v1_3 M_4 => (if (113 : Int32) ≤ v1_3 then some (.inr M_4) else gd (ix v1_3 113) (gd (ix v1_3 113) (bnd (sA M_4 9 v1_3.toNatClampNeg (ar M_4 8 v1_3.toNatClampNeg)) (fun M_5 => bnd (v1_3 + 1) (fun v1_6 => some (.inl (v1_6, M_5))))))))
def f_X10_putsAside (M : OV) : Option (OV) := bnd (0 : Int32) (fun v1_1 => ((lp (s_X10_putsAside_2_2) 5000 (v1_1, M)).bind (un1 (fun M_7 => some M_7))))
def r_X10_putsAside : Room := { frames := 0, cells := 0, slots := 0, locals := 0 }
set_option maxHeartbeats 4000000 in
set_option maxRecDepth 100000 in
theorem c_X10_putsAside (l : Launch) (D : va_G) (ev : EvT) (cy : Nat → ClassId) (oM : Nat) (aM : Nat → Nat) (M : OV) (o : OV) (hf : f_X10_putsAside M = some o) : Fn l yX10_putsAside cX10_putsAside 2 none r_X10_putsAside D ev cy [.ref oM] [gX10 cy oM aM M] (fun v G => v = none ∧ G = [gX10 cy oM aM o]) := by
  refine Fn_of (by decide) (Nat.le_of_ble_eq_true rfl) (fun X A Q h hQ _ => ?_)
  unfold f_X10_putsAside at hf
  show ww X D A 2 Q 0 0 0 [(0, .ref oM)] [] [gX10 cy oM aM M]
  refine ww_iconst (v := 0) h dX10_putsAside_0 (by decide) 1 rfl ?_
  refine ww_ist_n h dX10_putsAside_1 rfl (by decide) (fun v1_1 => [(1, .int v1_1), (0, .ref oM)]) (fun _ => rfl) 2 rfl (fun v1_1 e => ?_)
  replace hf := bnd_at e hf
  clear e
  refine ww_lo [1, 0] (lo' := [(0, .ref oM), (1, .int v1_1)]) rfl ?_
  obtain ⟨M_7, h2, hf⟩ := ob1 hf
  refine lp_walk (un2 (fun v1_3 M_4 => ww X D A 2 Q 0 0 2 [(0, .ref oM), (1, .int v1_3)] [] [gX10 cy oM aM M_4])) (un1 (fun M_7 => ww X D A 2 Q 0 0 26 [] [] [gX10 cy oM aM M_7])) ?_ _ _ _ h2 ?_
  · clear h2 hf
    intro s2 o2 hf hI2 hE2
    obtain ⟨v1_3, M_4⟩ := s2
    unfold s_X10_putsAside_2_2 at hf
    replace hf := un2_e hf
    show ww X D A 2 Q 0 0 2 [(0, .ref oM), (1, .int v1_3)] [] [gX10 cy oM aM M_4]
    refine ww_iload_n h dX10_putsAside_2 rfl 1 rfl 3 rfl ?_
    refine ww_bipush (v := 113) h dX10_putsAside_3 (by decide) 5 rfl ?_
    refine ww_icmp_ge h dX10_putsAside_5 26 (by decide) 8 rfl (fun c => ?_) (fun c => ?_)
    · replace hf := ite_t c hf
      refine ww_lo [] (lo' := []) rfl ?_
      exact hE2 M_4 (Option.some.inj hf).symm
    · replace hf := ite_f c hf
      refine ww_aload_n h dX10_putsAside_8 rfl 0 rfl 9 rfl ?_
      refine ww_get h inG10 rfl 0 rfl rfl 9 (by decide) w_1166 rfl dX10_putsAside_9 12 rfl ?_
      refine ww_iload_n h dX10_putsAside_12 rfl 1 rfl 13 rfl ?_
      refine ww_aload_n h dX10_putsAside_13 rfl 0 rfl 14 rfl ?_
      refine ww_get h inG10 rfl 0 rfl rfl 8 (by decide) w_1165 rfl dX10_putsAside_14 17 rfl ?_
      refine ww_iload_n h dX10_putsAside_17 rfl 1 rfl 18 rfl ?_
      have hi := (gd_some hf).1
      replace hf := (gd_some hf).2
      refine ww_iald h 0 rfl 8 rfl (ix_in hi) dX10_putsAside_18 19 rfl ?_
      clear hi
      have hi := (gd_some hf).1
      replace hf := (gd_some hf).2
      refine ww_iast h 0 rfl 9 rfl (ix_in hi) dX10_putsAside_19 20 rfl ?_
      clear hi
      refine ww_nm (fun z => [gX10 cy oM aM z]) (sA M_4 9 v1_3.toNatClampNeg (ar M_4 8 v1_3.toNatClampNeg)) (fun M_5 e => ?_)
      replace hf := bnd_at e hf
      clear e
      refine ww_inc (c := 1) h dX10_putsAside_20 1 rfl (by decide) (by decide) (fun v1_6 => [(1, .int v1_6), (0, .ref oM)]) (fun _ => rfl) 23 rfl (fun v1_6 e => ?_)
      replace hf := bnd_at e hf
      clear e
      refine ww_goto h dX10_putsAside_23 2 (by decide) ?_
      refine ww_lo [1, 0] (lo' := [(0, .ref oM), (1, .int v1_6)]) rfl ?_
      exact hI2 (v1_6, M_5) (Option.some.inj hf).symm
  · clear h2
    show ww X D A 2 Q 0 0 26 [] [] [gX10 cy oM aM M_7]
    obtain rfl := Option.some.inj hf
    exact ww_vret h dX10_putsAside_26 hQ ⟨rfl, rfl⟩
theorem dX10_takesBack_0 : decode cX10_takesBack 0 = .ok (.iconst 0, 1) := by decide +kernel
theorem dX10_takesBack_1 : decode cX10_takesBack 1 = .ok (.istore_n 1, 1) := by decide +kernel
theorem dX10_takesBack_2 : decode cX10_takesBack 2 = .ok (.iload_n 1, 1) := by decide +kernel
theorem dX10_takesBack_3 : decode cX10_takesBack 3 = .ok (.bipush 113, 2) := by decide +kernel
theorem dX10_takesBack_5 : decode cX10_takesBack 5 = .ok (.if_icmp .ge 21, 3) := by decide +kernel
theorem dX10_takesBack_8 : decode cX10_takesBack 8 = .ok (.aload_n 0, 1) := by decide +kernel
theorem dX10_takesBack_9 : decode cX10_takesBack 9 = .ok (.getfield 36, 3) := by decide +kernel
theorem dX10_takesBack_12 : decode cX10_takesBack 12 = .ok (.iload_n 1, 1) := by decide +kernel
theorem dX10_takesBack_13 : decode cX10_takesBack 13 = .ok (.aload_n 0, 1) := by decide +kernel
theorem dX10_takesBack_14 : decode cX10_takesBack 14 = .ok (.getfield 39, 3) := by decide +kernel
theorem dX10_takesBack_17 : decode cX10_takesBack 17 = .ok (.iload_n 1, 1) := by decide +kernel
theorem dX10_takesBack_18 : decode cX10_takesBack 18 = .ok (.iaload, 1) := by decide +kernel
theorem dX10_takesBack_19 : decode cX10_takesBack 19 = .ok (.iastore, 1) := by decide +kernel
theorem dX10_takesBack_20 : decode cX10_takesBack 20 = .ok (.iinc 1 1, 3) := by decide +kernel
theorem dX10_takesBack_23 : decode cX10_takesBack 23 = .ok (.goto (-21), 3) := by decide +kernel
theorem dX10_takesBack_26 : decode cX10_takesBack 26 = .ok (.return_, 1) := by decide +kernel
theorem ok_X10_takesBack : okY RX10 yX10_takesBack 0 := ⟨rfl, by decide, by decide, by decide +kernel⟩
def s_X10_takesBack_2_2 : (Int32 × OV) → Option ((Int32 × OV) ⊕ (OV)) := un2 (fun v1_3 M_4 => (if (113 : Int32) ≤ v1_3 then some (.inr M_4) else gd (ix v1_3 113) (gd (ix v1_3 113) (bnd (sA M_4 8 v1_3.toNatClampNeg (ar M_4 9 v1_3.toNatClampNeg)) (fun M_5 => bnd (v1_3 + 1) (fun v1_6 => some (.inl (v1_6, M_5))))))))
def f_X10_takesBack (M : OV) : Option (OV) := bnd (0 : Int32) (fun v1_1 => ((lp (s_X10_takesBack_2_2) 5000 (v1_1, M)).bind (un1 (fun M_7 => some M_7))))
def r_X10_takesBack : Room := { frames := 0, cells := 0, slots := 0, locals := 0 }
set_option maxHeartbeats 4000000 in
set_option maxRecDepth 100000 in
theorem c_X10_takesBack (l : Launch) (D : va_G) (ev : EvT) (cy : Nat → ClassId) (oM : Nat) (aM : Nat → Nat) (M : OV) (o : OV) (hf : f_X10_takesBack M = some o) : Fn l yX10_takesBack cX10_takesBack 2 none r_X10_takesBack D ev cy [.ref oM] [gX10 cy oM aM M] (fun v G => v = none ∧ G = [gX10 cy oM aM o]) := by
  refine Fn_of (by decide) (Nat.le_of_ble_eq_true rfl) (fun X A Q h hQ _ => ?_)
  unfold f_X10_takesBack at hf
  show ww X D A 2 Q 0 0 0 [(0, .ref oM)] [] [gX10 cy oM aM M]
  refine ww_iconst (v := 0) h dX10_takesBack_0 (by decide) 1 rfl ?_
  refine ww_ist_n h dX10_takesBack_1 rfl (by decide) (fun v1_1 => [(1, .int v1_1), (0, .ref oM)]) (fun _ => rfl) 2 rfl (fun v1_1 e => ?_)
  replace hf := bnd_at e hf
  clear e
  refine ww_lo [1, 0] (lo' := [(0, .ref oM), (1, .int v1_1)]) rfl ?_
  obtain ⟨M_7, h2, hf⟩ := ob1 hf
  refine lp_walk (un2 (fun v1_3 M_4 => ww X D A 2 Q 0 0 2 [(0, .ref oM), (1, .int v1_3)] [] [gX10 cy oM aM M_4])) (un1 (fun M_7 => ww X D A 2 Q 0 0 26 [] [] [gX10 cy oM aM M_7])) ?_ _ _ _ h2 ?_
  · clear h2 hf
    intro s2 o2 hf hI2 hE2
    obtain ⟨v1_3, M_4⟩ := s2
    unfold s_X10_takesBack_2_2 at hf
    replace hf := un2_e hf
    show ww X D A 2 Q 0 0 2 [(0, .ref oM), (1, .int v1_3)] [] [gX10 cy oM aM M_4]
    refine ww_iload_n h dX10_takesBack_2 rfl 1 rfl 3 rfl ?_
    refine ww_bipush (v := 113) h dX10_takesBack_3 (by decide) 5 rfl ?_
    refine ww_icmp_ge h dX10_takesBack_5 26 (by decide) 8 rfl (fun c => ?_) (fun c => ?_)
    · replace hf := ite_t c hf
      refine ww_lo [] (lo' := []) rfl ?_
      exact hE2 M_4 (Option.some.inj hf).symm
    · replace hf := ite_f c hf
      refine ww_aload_n h dX10_takesBack_8 rfl 0 rfl 9 rfl ?_
      refine ww_get h inG10 rfl 0 rfl rfl 8 (by decide) w_1165 rfl dX10_takesBack_9 12 rfl ?_
      refine ww_iload_n h dX10_takesBack_12 rfl 1 rfl 13 rfl ?_
      refine ww_aload_n h dX10_takesBack_13 rfl 0 rfl 14 rfl ?_
      refine ww_get h inG10 rfl 0 rfl rfl 9 (by decide) w_1166 rfl dX10_takesBack_14 17 rfl ?_
      refine ww_iload_n h dX10_takesBack_17 rfl 1 rfl 18 rfl ?_
      have hi := (gd_some hf).1
      replace hf := (gd_some hf).2
      refine ww_iald h 0 rfl 9 rfl (ix_in hi) dX10_takesBack_18 19 rfl ?_
      clear hi
      have hi := (gd_some hf).1
      replace hf := (gd_some hf).2
      refine ww_iast h 0 rfl 8 rfl (ix_in hi) dX10_takesBack_19 20 rfl ?_
      clear hi
      refine ww_nm (fun z => [gX10 cy oM aM z]) (sA M_4 8 v1_3.toNatClampNeg (ar M_4 9 v1_3.toNatClampNeg)) (fun M_5 e => ?_)
      replace hf := bnd_at e hf
      clear e
      refine ww_inc (c := 1) h dX10_takesBack_20 1 rfl (by decide) (by decide) (fun v1_6 => [(1, .int v1_6), (0, .ref oM)]) (fun _ => rfl) 23 rfl (fun v1_6 e => ?_)
      replace hf := bnd_at e hf
      clear e
      refine ww_goto h dX10_takesBack_23 2 (by decide) ?_
      refine ww_lo [1, 0] (lo' := [(0, .ref oM), (1, .int v1_6)]) rfl ?_
      exact hI2 (v1_6, M_5) (Option.some.inj hf).symm
  · clear h2
    show ww X D A 2 Q 0 0 26 [] [] [gX10 cy oM aM M_7]
    obtain rfl := Option.some.inj hf
    exact ww_vret h dX10_takesBack_26 hQ ⟨rfl, rfl⟩
theorem dX10_many_0 : decode cX10_many 0 = .ok (.aload_n 0, 1) := by decide +kernel
theorem dX10_many_1 : decode cX10_many 1 = .ok (.getfield 36, 3) := by decide +kernel
theorem dX10_many_4 : decode cX10_many 4 = .ok (.iconst 0, 1) := by decide +kernel
theorem dX10_many_5 : decode cX10_many 5 = .ok (.iaload, 1) := by decide +kernel
theorem dX10_many_6 : decode cX10_many 6 = .ok (.ireturn, 1) := by decide +kernel
theorem ok_X10_many : okY RX10 yX10_many 0 := ⟨rfl, by decide, by decide, by decide +kernel⟩
def f_X10_many (M : OV) : Option (Int32) := gd (ix (0 : Int32) 113) (some (ar M 8 (0 : Int32).toNatClampNeg))
def r_X10_many : Room := { frames := 0, cells := 0, slots := 0, locals := 0 }
set_option maxHeartbeats 4000000 in
set_option maxRecDepth 100000 in
theorem c_X10_many (l : Launch) (D : va_G) (ev : EvT) (cy : Nat → ClassId) (oM : Nat) (aM : Nat → Nat) (M : OV) (o : Int32) (hf : f_X10_many M = some o) : Fn l yX10_many cX10_many 1 (some .int) r_X10_many D ev cy [.ref oM] [gX10 cy oM aM M] (fun v G => v = some (.int o) ∧ G = [gX10 cy oM aM M]) := by
  refine Fn_of (by decide) (Nat.le_of_ble_eq_true rfl) (fun X A Q h hQ _ => ?_)
  unfold f_X10_many at hf
  show ww X D A 1 Q 0 0 0 [(0, .ref oM)] [] [gX10 cy oM aM M]
  refine ww_aload_n h dX10_many_0 rfl 0 rfl 1 rfl ?_
  refine ww_get h inG10 rfl 0 rfl rfl 8 (by decide) w_1165 rfl dX10_many_1 4 rfl ?_
  refine ww_iconst (v := 0) h dX10_many_4 (by decide) 5 rfl ?_
  have hi := (gd_some hf).1
  replace hf := (gd_some hf).2
  refine ww_iald h 0 rfl 8 rfl (ix_in hi) dX10_many_5 6 rfl ?_
  clear hi
  obtain rfl := Option.some.inj hf
  exact ww_iret h dX10_many_6 hQ ⟨rfl, rfl⟩
theorem dX10_isSign_0 : decode cX10_isSign 0 = .ok (.iload_n 1, 1) := by decide +kernel
theorem dX10_isSign_1 : decode cX10_isSign 1 = .ok (.iconst 0, 1) := by decide +kernel
theorem dX10_isSign_2 : decode cX10_isSign 2 = .ok (.aload_n 0, 1) := by decide +kernel
theorem dX10_isSign_3 : decode cX10_isSign 3 = .ok (.invokevirtual 132, 3) := by decide +kernel
theorem dX10_isSign_6 : decode cX10_isSign 6 = .ok (.iconst 1, 1) := by decide +kernel
theorem dX10_isSign_7 : decode cX10_isSign 7 = .ok (.isub, 1) := by decide +kernel
theorem dX10_isSign_8 : decode cX10_isSign 8 = .ok (.invokestatic 125, 3) := by decide +kernel
theorem dX10_isSign_11 : decode cX10_isSign 11 = .ok (.ireturn, 1) := by decide +kernel
theorem ok_X10_isSign : okY RX10 yX10_isSign 1 := ⟨rfl, by decide, by decide, by decide +kernel⟩
def f_X10_isSign (M : OV) (p0 : Int32) : Option (Int32) := (f_X10_many M).bind (un1 (fun r_1 => (f_X10_in p0 (0 : Int32) (r_1 - (1 : Int32))).bind (un1 (fun r_3 => gd (b01 r_3) (some r_3)))))
def r_X10_isSign : Room := { frames := 1, cells := 0, slots := 0, locals := 22 }
set_option maxHeartbeats 4000000 in
set_option maxRecDepth 100000 in
theorem c_X10_isSign (l : Launch) (D : va_G) (ev : EvT) (cy : Nat → ClassId) (oM : Nat) (aM : Nat → Nat) (M : OV) (p0 : Int32) (o : Int32) (hf : f_X10_isSign M p0 = some o) : Fn l yX10_isSign cX10_isSign 2 (some .boolean) r_X10_isSign D ev cy [.ref oM, .int p0] [gX10 cy oM aM M] (fun v G => v = some (.int o) ∧ G = [gX10 cy oM aM M]) := by
  refine Fn_of (by decide) (Nat.le_of_ble_eq_true rfl) (fun X A Q h hQ _ => ?_)
  unfold f_X10_isSign at hf
  show ww X D A 2 Q 0 0 0 [(0, .ref oM), (1, .int p0)] [] [gX10 cy oM aM M]
  refine ww_iload_n h dX10_isSign_0 rfl 1 rfl 1 rfl ?_
  refine ww_iconst (v := 0) h dX10_isSign_1 (by decide) 2 rfl ?_
  refine ww_aload_n h dX10_isSign_2 rfl 0 rfl 3 rfl ?_
  obtain ⟨r_1, hu2, hf⟩ := ob1 hf
  refine ww_cVi h (c_X10_many l D ev cy oM aM M _ hu2) ⟨w_1330, w_1327, w_1329, w_37, w_111, ok_X10_many⟩ ⟨by decide, by decide⟩ ⟨by decide, by decide⟩ ⟨rfl, rfl⟩ [0] rfl 0 rfl rfl rfl rfl (Nat.le_of_ble_eq_true rfl) dX10_isSign_3 6 rfl (Gs' := [gX10 cy oM aM M]) rfl ?_
  clear hu2
  refine ww_iconst (v := 1) h dX10_isSign_6 (by decide) 7 rfl ?_
  refine ww_isub h dX10_isSign_7 8 rfl ?_
  obtain ⟨r_3, hu4, hf⟩ := ob1 hf
  refine ww_cSi h (c_X10_in l D ev cy p0 (0 : Int32) (r_1 - (1 : Int32)) _ hu4) ⟨w_1333, w_1331, w_1332, w_111, ok_X10_in⟩ ⟨by decide, by decide⟩ ⟨by decide, by decide⟩ ⟨rfl, rfl⟩ [] rfl rfl (Nat.le_of_ble_eq_true rfl) dX10_isSign_8 11 rfl (Gs' := [gX10 cy oM aM M]) rfl ?_
  clear hu4
  have hb := (gd_some hf).1
  replace hf := (gd_some hf).2
  obtain rfl := Option.some.inj hf
  exact ww_zret h (b01_or hb) dX10_isSign_11 hQ ⟨rfl, rfl⟩
theorem dX10_classOf_0 : decode cX10_classOf 0 = .ok (.aload_n 0, 1) := by decide +kernel
theorem dX10_classOf_1 : decode cX10_classOf 1 = .ok (.getfield 36, 3) := by decide +kernel
theorem dX10_classOf_4 : decode cX10_classOf 4 = .ok (.iconst 1, 1) := by decide +kernel
theorem dX10_classOf_5 : decode cX10_classOf 5 = .ok (.iload_n 1, 1) := by decide +kernel
theorem dX10_classOf_6 : decode cX10_classOf 6 = .ok (.iadd, 1) := by decide +kernel
theorem dX10_classOf_7 : decode cX10_classOf 7 = .ok (.iaload, 1) := by decide +kernel
theorem dX10_classOf_8 : decode cX10_classOf 8 = .ok (.ireturn, 1) := by decide +kernel
theorem ok_X10_classOf : okY RX10 yX10_classOf 1 := ⟨rfl, by decide, by decide, by decide +kernel⟩
def f_X10_classOf (M : OV) (p0 : Int32) : Option (Int32) := gd (ix ((1 : Int32) + p0) 113) (some (ar M 8 ((1 : Int32) + p0).toNatClampNeg))
def r_X10_classOf : Room := { frames := 0, cells := 0, slots := 0, locals := 0 }
set_option maxHeartbeats 4000000 in
set_option maxRecDepth 100000 in
theorem c_X10_classOf (l : Launch) (D : va_G) (ev : EvT) (cy : Nat → ClassId) (oM : Nat) (aM : Nat → Nat) (M : OV) (p0 : Int32) (o : Int32) (hf : f_X10_classOf M p0 = some o) : Fn l yX10_classOf cX10_classOf 2 (some .int) r_X10_classOf D ev cy [.ref oM, .int p0] [gX10 cy oM aM M] (fun v G => v = some (.int o) ∧ G = [gX10 cy oM aM M]) := by
  refine Fn_of (by decide) (Nat.le_of_ble_eq_true rfl) (fun X A Q h hQ _ => ?_)
  unfold f_X10_classOf at hf
  show ww X D A 2 Q 0 0 0 [(0, .ref oM), (1, .int p0)] [] [gX10 cy oM aM M]
  refine ww_aload_n h dX10_classOf_0 rfl 0 rfl 1 rfl ?_
  refine ww_get h inG10 rfl 0 rfl rfl 8 (by decide) w_1165 rfl dX10_classOf_1 4 rfl ?_
  refine ww_iconst (v := 1) h dX10_classOf_4 (by decide) 5 rfl ?_
  refine ww_iload_n h dX10_classOf_5 rfl 1 rfl 6 rfl ?_
  refine ww_iadd h dX10_classOf_6 7 rfl ?_
  have hi := (gd_some hf).1
  replace hf := (gd_some hf).2
  refine ww_iald h 0 rfl 8 rfl (ix_in hi) dX10_classOf_7 8 rfl ?_
  clear hi
  obtain rfl := Option.some.inj hf
  exact ww_iret h dX10_classOf_8 hQ ⟨rfl, rfl⟩
theorem dX10_markOf_0 : decode cX10_markOf 0 = .ok (.aload_n 0, 1) := by decide +kernel
theorem dX10_markOf_1 : decode cX10_markOf 1 = .ok (.getfield 36, 3) := by decide +kernel
theorem dX10_markOf_4 : decode cX10_markOf 4 = .ok (.bipush 41, 2) := by decide +kernel
theorem dX10_markOf_6 : decode cX10_markOf 6 = .ok (.iload_n 1, 1) := by decide +kernel
theorem dX10_markOf_7 : decode cX10_markOf 7 = .ok (.iadd, 1) := by decide +kernel
theorem dX10_markOf_8 : decode cX10_markOf 8 = .ok (.iaload, 1) := by decide +kernel
theorem dX10_markOf_9 : decode cX10_markOf 9 = .ok (.ireturn, 1) := by decide +kernel
theorem ok_X10_markOf : okY RX10 yX10_markOf 1 := ⟨rfl, by decide, by decide, by decide +kernel⟩
def f_X10_markOf (M : OV) (p0 : Int32) : Option (Int32) := gd (ix ((41 : Int32) + p0) 113) (some (ar M 8 ((41 : Int32) + p0).toNatClampNeg))
def r_X10_markOf : Room := { frames := 0, cells := 0, slots := 0, locals := 0 }
set_option maxHeartbeats 4000000 in
set_option maxRecDepth 100000 in
theorem c_X10_markOf (l : Launch) (D : va_G) (ev : EvT) (cy : Nat → ClassId) (oM : Nat) (aM : Nat → Nat) (M : OV) (p0 : Int32) (o : Int32) (hf : f_X10_markOf M p0 = some o) : Fn l yX10_markOf cX10_markOf 2 (some .int) r_X10_markOf D ev cy [.ref oM, .int p0] [gX10 cy oM aM M] (fun v G => v = some (.int o) ∧ G = [gX10 cy oM aM M]) := by
  refine Fn_of (by decide) (Nat.le_of_ble_eq_true rfl) (fun X A Q h hQ _ => ?_)
  unfold f_X10_markOf at hf
  show ww X D A 2 Q 0 0 0 [(0, .ref oM), (1, .int p0)] [] [gX10 cy oM aM M]
  refine ww_aload_n h dX10_markOf_0 rfl 0 rfl 1 rfl ?_
  refine ww_get h inG10 rfl 0 rfl rfl 8 (by decide) w_1165 rfl dX10_markOf_1 4 rfl ?_
  refine ww_bipush (v := 41) h dX10_markOf_4 (by decide) 6 rfl ?_
  refine ww_iload_n h dX10_markOf_6 rfl 1 rfl 7 rfl ?_
  refine ww_iadd h dX10_markOf_7 8 rfl ?_
  have hi := (gd_some hf).1
  replace hf := (gd_some hf).2
  refine ww_iald h 0 rfl 8 rfl (ix_in hi) dX10_markOf_8 9 rfl ?_
  clear hi
  obtain rfl := Option.some.inj hf
  exact ww_iret h dX10_markOf_9 hQ ⟨rfl, rfl⟩
theorem dX10_arePair_0 : decode cX10_arePair 0 = .ok (.aload_n 0, 1) := by decide +kernel
theorem dX10_arePair_1 : decode cX10_arePair 1 = .ok (.getfield 36, 3) := by decide +kernel
theorem dX10_arePair_4 : decode cX10_arePair 4 = .ok (.bipush 87, 2) := by decide +kernel
theorem dX10_arePair_6 : decode cX10_arePair 6 = .ok (.iload_n 1, 1) := by decide +kernel
theorem dX10_arePair_7 : decode cX10_arePair 7 = .ok (.iadd, 1) := by decide +kernel
theorem dX10_arePair_8 : decode cX10_arePair 8 = .ok (.iaload, 1) := by decide +kernel
theorem dX10_arePair_9 : decode cX10_arePair 9 = .ok (.iload_n 2, 1) := by decide +kernel
theorem dX10_arePair_10 : decode cX10_arePair 10 = .ok (.invokestatic 136, 3) := by decide +kernel
theorem dX10_arePair_13 : decode cX10_arePair 13 = .ok (.ireturn, 1) := by decide +kernel
theorem ok_X10_arePair : okY RX10 yX10_arePair 2 := ⟨rfl, by decide, by decide, by decide +kernel⟩
def f_X10_arePair (M : OV) (p0 : Int32) (p1 : Int32) : Option (Int32) := gd (ix ((87 : Int32) + p0) 113) ((f_X10_isIn (ar M 8 ((87 : Int32) + p0).toNatClampNeg) p1).bind (un1 (fun r_1 => gd (b01 r_1) (some r_1))))
def r_X10_arePair : Room := { frames := 1, cells := 0, slots := 0, locals := 21 }
set_option maxHeartbeats 4000000 in
set_option maxRecDepth 100000 in
theorem c_X10_arePair (l : Launch) (D : va_G) (ev : EvT) (cy : Nat → ClassId) (oM : Nat) (aM : Nat → Nat) (M : OV) (p0 : Int32) (p1 : Int32) (o : Int32) (hf : f_X10_arePair M p0 p1 = some o) : Fn l yX10_arePair cX10_arePair 3 (some .boolean) r_X10_arePair D ev cy [.ref oM, .int p0, .int p1] [gX10 cy oM aM M] (fun v G => v = some (.int o) ∧ G = [gX10 cy oM aM M]) := by
  refine Fn_of (by decide) (Nat.le_of_ble_eq_true rfl) (fun X A Q h hQ _ => ?_)
  unfold f_X10_arePair at hf
  show ww X D A 3 Q 0 0 0 [(0, .ref oM), (1, .int p0), (2, .int p1)] [] [gX10 cy oM aM M]
  refine ww_aload_n h dX10_arePair_0 rfl 0 rfl 1 rfl ?_
  refine ww_get h inG10 rfl 0 rfl rfl 8 (by decide) w_1165 rfl dX10_arePair_1 4 rfl ?_
  refine ww_bipush (v := 87) h dX10_arePair_4 (by decide) 6 rfl ?_
  refine ww_iload_n h dX10_arePair_6 rfl 1 rfl 7 rfl ?_
  refine ww_iadd h dX10_arePair_7 8 rfl ?_
  have hi := (gd_some hf).1
  replace hf := (gd_some hf).2
  refine ww_iald h 0 rfl 8 rfl (ix_in hi) dX10_arePair_8 9 rfl ?_
  clear hi
  refine ww_iload_n h dX10_arePair_9 rfl 2 rfl 10 rfl ?_
  obtain ⟨r_1, hu2, hf⟩ := ob1 hf
  refine ww_cSi h (c_X10_isIn l D ev cy (ar M 8 ((87 : Int32) + p0).toNatClampNeg) p1 _ hu2) ⟨w_1412, w_1410, w_1411, w_111, ok_X10_isIn⟩ ⟨by decide, by decide⟩ ⟨by decide, by decide⟩ ⟨rfl, rfl⟩ [] rfl rfl (Nat.le_of_ble_eq_true rfl) dX10_arePair_10 13 rfl (Gs' := [gX10 cy oM aM M]) rfl ?_
  clear hu2
  have hb := (gd_some hf).1
  replace hf := (gd_some hf).2
  obtain rfl := Option.some.inj hf
  exact ww_zret h (b01_or hb) dX10_arePair_13 hQ ⟨rfl, rfl⟩
theorem dX10_pairs_0 : decode cX10_pairs 0 = .ok (.iconst 0, 1) := by decide +kernel
theorem dX10_pairs_1 : decode cX10_pairs 1 = .ok (.istore_n 1, 1) := by decide +kernel
theorem dX10_pairs_2 : decode cX10_pairs 2 = .ok (.iconst 0, 1) := by decide +kernel
theorem dX10_pairs_3 : decode cX10_pairs 3 = .ok (.istore_n 2, 1) := by decide +kernel
theorem dX10_pairs_4 : decode cX10_pairs 4 = .ok (.iload_n 2, 1) := by decide +kernel
theorem dX10_pairs_5 : decode cX10_pairs 5 = .ok (.bipush 26, 2) := by decide +kernel
theorem dX10_pairs_7 : decode cX10_pairs 7 = .ok (.if_icmp .ge 24, 3) := by decide +kernel
theorem dX10_pairs_10 : decode cX10_pairs 10 = .ok (.iload_n 1, 1) := by decide +kernel
theorem dX10_pairs_11 : decode cX10_pairs 11 = .ok (.aload_n 0, 1) := by decide +kernel
theorem dX10_pairs_12 : decode cX10_pairs 12 = .ok (.getfield 36, 3) := by decide +kernel
theorem dX10_pairs_15 : decode cX10_pairs 15 = .ok (.bipush 87, 2) := by decide +kernel
theorem dX10_pairs_17 : decode cX10_pairs 17 = .ok (.iload_n 2, 1) := by decide +kernel
theorem dX10_pairs_18 : decode cX10_pairs 18 = .ok (.iadd, 1) := by decide +kernel
theorem dX10_pairs_19 : decode cX10_pairs 19 = .ok (.iaload, 1) := by decide +kernel
theorem dX10_pairs_20 : decode cX10_pairs 20 = .ok (.invokestatic 140, 3) := by decide +kernel
theorem dX10_pairs_23 : decode cX10_pairs 23 = .ok (.iadd, 1) := by decide +kernel
theorem dX10_pairs_24 : decode cX10_pairs 24 = .ok (.istore_n 1, 1) := by decide +kernel
theorem dX10_pairs_25 : decode cX10_pairs 25 = .ok (.iinc 2 1, 3) := by decide +kernel
theorem dX10_pairs_28 : decode cX10_pairs 28 = .ok (.goto (-24), 3) := by decide +kernel
theorem dX10_pairs_31 : decode cX10_pairs 31 = .ok (.iload_n 1, 1) := by decide +kernel
theorem dX10_pairs_32 : decode cX10_pairs 32 = .ok (.ireturn, 1) := by decide +kernel
theorem ok_X10_pairs : okY RX10 yX10_pairs 0 := ⟨rfl, by decide, by decide, by decide +kernel⟩
def s_X10_pairs_4_3 (M : OV) : (Int32 × Int32) → Option ((Int32 × Int32) ⊕ (Int32)) := un2 (fun v1_4 v2_5 => (if (26 : Int32) ≤ v2_5 then some (.inr v1_4) else gd (ix ((87 : Int32) + v2_5) 113) ((f_X10_bitsOf (ar M 8 ((87 : Int32) + v2_5).toNatClampNeg)).bind (un1 (fun r_6 => bnd (v1_4 + r_6) (fun v1_8 => bnd (v2_5 + 1) (fun v2_9 => some (.inl (v1_8, v2_9)))))))))
def f_X10_pairs (M : OV) : Option (Int32) := bnd (0 : Int32) (fun v1_1 => bnd (0 : Int32) (fun v2_2 => ((lp (s_X10_pairs_4_3 M) 5000 (v1_1, v2_2)).bind (un1 (fun v1_10 => some v1_10)))))
def r_X10_pairs : Room := { frames := 1, cells := 0, slots := 0, locals := 22 }
set_option maxHeartbeats 4000000 in
set_option maxRecDepth 100000 in
theorem c_X10_pairs (l : Launch) (D : va_G) (ev : EvT) (cy : Nat → ClassId) (oM : Nat) (aM : Nat → Nat) (M : OV) (o : Int32) (hf : f_X10_pairs M = some o) : Fn l yX10_pairs cX10_pairs 3 (some .int) r_X10_pairs D ev cy [.ref oM] [gX10 cy oM aM M] (fun v G => v = some (.int o) ∧ G = [gX10 cy oM aM M]) := by
  refine Fn_of (by decide) (Nat.le_of_ble_eq_true rfl) (fun X A Q h hQ _ => ?_)
  unfold f_X10_pairs at hf
  show ww X D A 3 Q 0 0 0 [(0, .ref oM)] [] [gX10 cy oM aM M]
  refine ww_iconst (v := 0) h dX10_pairs_0 (by decide) 1 rfl ?_
  refine ww_ist_n h dX10_pairs_1 rfl (by decide) (fun v1_1 => [(1, .int v1_1), (0, .ref oM)]) (fun _ => rfl) 2 rfl (fun v1_1 e => ?_)
  replace hf := bnd_at e hf
  clear e
  refine ww_iconst (v := 0) h dX10_pairs_2 (by decide) 3 rfl ?_
  refine ww_ist_n h dX10_pairs_3 rfl (by decide) (fun v2_2 => [(2, .int v2_2), (1, .int v1_1), (0, .ref oM)]) (fun _ => rfl) 4 rfl (fun v2_2 e => ?_)
  replace hf := bnd_at e hf
  clear e
  refine ww_lo [2, 1, 0] (lo' := [(0, .ref oM), (1, .int v1_1), (2, .int v2_2)]) rfl ?_
  obtain ⟨v1_10, h3, hf⟩ := ob1 hf
  refine lp_walk (un2 (fun v1_4 v2_5 => ww X D A 3 Q 0 0 4 [(0, .ref oM), (1, .int v1_4), (2, .int v2_5)] [] [gX10 cy oM aM M])) (un1 (fun v1_10 => ww X D A 3 Q 0 0 31 [(1, .int v1_10)] [] [gX10 cy oM aM M])) ?_ _ _ _ h3 ?_
  · clear h3 hf
    intro s3 o3 hf hI3 hE3
    obtain ⟨v1_4, v2_5⟩ := s3
    unfold s_X10_pairs_4_3 at hf
    replace hf := un2_e hf
    show ww X D A 3 Q 0 0 4 [(0, .ref oM), (1, .int v1_4), (2, .int v2_5)] [] [gX10 cy oM aM M]
    refine ww_iload_n h dX10_pairs_4 rfl 2 rfl 5 rfl ?_
    refine ww_bipush (v := 26) h dX10_pairs_5 (by decide) 7 rfl ?_
    refine ww_icmp_ge h dX10_pairs_7 31 (by decide) 10 rfl (fun c => ?_) (fun c => ?_)
    · replace hf := ite_t c hf
      refine ww_lo [1] (lo' := [(1, .int v1_4)]) rfl ?_
      exact hE3 v1_4 (Option.some.inj hf).symm
    · replace hf := ite_f c hf
      refine ww_iload_n h dX10_pairs_10 rfl 1 rfl 11 rfl ?_
      refine ww_aload_n h dX10_pairs_11 rfl 0 rfl 12 rfl ?_
      refine ww_get h inG10 rfl 0 rfl rfl 8 (by decide) w_1165 rfl dX10_pairs_12 15 rfl ?_
      refine ww_bipush (v := 87) h dX10_pairs_15 (by decide) 17 rfl ?_
      refine ww_iload_n h dX10_pairs_17 rfl 2 rfl 18 rfl ?_
      refine ww_iadd h dX10_pairs_18 19 rfl ?_
      have hi := (gd_some hf).1
      replace hf := (gd_some hf).2
      refine ww_iald h 0 rfl 8 rfl (ix_in hi) dX10_pairs_19 20 rfl ?_
      clear hi
      obtain ⟨r_6, hu7, hf⟩ := ob1 hf
      refine ww_cSi h (c_X10_bitsOf l D ev cy (ar M 8 ((87 : Int32) + v2_5).toNatClampNeg) _ hu7) ⟨w_1419, w_1417, w_1418, w_111, ok_X10_bitsOf⟩ ⟨by decide, by decide⟩ ⟨by decide, by decide⟩ ⟨rfl, rfl⟩ [] rfl rfl (Nat.le_of_ble_eq_true rfl) dX10_pairs_20 23 rfl (Gs' := [gX10 cy oM aM M]) rfl ?_
      clear hu7
      refine ww_iadd h dX10_pairs_23 24 rfl ?_
      refine ww_ist_n h dX10_pairs_24 rfl (by decide) (fun v1_8 => [(1, .int v1_8), (0, .ref oM), (2, .int v2_5)]) (fun _ => rfl) 25 rfl (fun v1_8 e => ?_)
      replace hf := bnd_at e hf
      clear e
      refine ww_inc (c := 1) h dX10_pairs_25 2 rfl (by decide) (by decide) (fun v2_9 => [(2, .int v2_9), (1, .int v1_8), (0, .ref oM)]) (fun _ => rfl) 28 rfl (fun v2_9 e => ?_)
      replace hf := bnd_at e hf
      clear e
      refine ww_goto h dX10_pairs_28 4 (by decide) ?_
      refine ww_lo [2, 1, 0] (lo' := [(0, .ref oM), (1, .int v1_8), (2, .int v2_9)]) rfl ?_
      exact hI3 (v1_8, v2_9) (Option.some.inj hf).symm
  · clear h3
    show ww X D A 3 Q 0 0 31 [(1, .int v1_10)] [] [gX10 cy oM aM M]
    refine ww_iload_n h dX10_pairs_31 rfl 0 rfl 32 rfl ?_
    obtain rfl := Option.some.inj hf
    exact ww_iret h dX10_pairs_32 hQ ⟨rfl, rfl⟩
theorem dX10_signsLike_0 : decode cX10_signsLike 0 = .ok (.iconst 0, 1) := by decide +kernel
theorem dX10_signsLike_1 : decode cX10_signsLike 1 = .ok (.istore_n 2, 1) := by decide +kernel
theorem dX10_signsLike_2 : decode cX10_signsLike 2 = .ok (.iconst 0, 1) := by decide +kernel
theorem dX10_signsLike_3 : decode cX10_signsLike 3 = .ok (.istore_n 3, 1) := by decide +kernel
theorem dX10_signsLike_4 : decode cX10_signsLike 4 = .ok (.iload_n 3, 1) := by decide +kernel
theorem dX10_signsLike_5 : decode cX10_signsLike 5 = .ok (.aload_n 0, 1) := by decide +kernel
theorem dX10_signsLike_6 : decode cX10_signsLike 6 = .ok (.invokevirtual 132, 3) := by decide +kernel
theorem dX10_signsLike_9 : decode cX10_signsLike 9 = .ok (.if_icmp .ge 21, 3) := by decide +kernel
theorem dX10_signsLike_12 : decode cX10_signsLike 12 = .ok (.aload_n 0, 1) := by decide +kernel
theorem dX10_signsLike_13 : decode cX10_signsLike 13 = .ok (.iload_n 3, 1) := by decide +kernel
theorem dX10_signsLike_14 : decode cX10_signsLike 14 = .ok (.invokevirtual 144, 3) := by decide +kernel
theorem dX10_signsLike_17 : decode cX10_signsLike 17 = .ok (.iload_n 1, 1) := by decide +kernel
theorem dX10_signsLike_18 : decode cX10_signsLike 18 = .ok (.if_icmp .ne 6, 3) := by decide +kernel
theorem dX10_signsLike_21 : decode cX10_signsLike 21 = .ok (.iinc 2 1, 3) := by decide +kernel
theorem dX10_signsLike_24 : decode cX10_signsLike 24 = .ok (.iinc 3 1, 3) := by decide +kernel
theorem dX10_signsLike_27 : decode cX10_signsLike 27 = .ok (.goto (-23), 3) := by decide +kernel
theorem dX10_signsLike_30 : decode cX10_signsLike 30 = .ok (.iload_n 2, 1) := by decide +kernel
theorem dX10_signsLike_31 : decode cX10_signsLike 31 = .ok (.ireturn, 1) := by decide +kernel
theorem ok_X10_signsLike : okY RX10 yX10_signsLike 1 := ⟨rfl, by decide, by decide, by decide +kernel⟩
def j_X10_signsLike_24_11 (v3_5 : Int32) (v2_10 : Int32) : Option ((Int32 × Int32) ⊕ (Int32)) := bnd (v3_5 + 1) (fun v3_12 => some (.inl (v2_10, v3_12)))
def s_X10_signsLike_4_3 (M : OV) (p0 : Int32) : (Int32 × Int32) → Option ((Int32 × Int32) ⊕ (Int32)) := un2 (fun v2_4 v3_5 => (f_X10_many M).bind (un1 (fun r_6 => (if r_6 ≤ v3_5 then some (.inr v2_4) else (f_X10_classOf M v3_5).bind (un1 (fun r_8 => (if r_8 = p0 then bnd (v2_4 + 1) (fun v2_13 => j_X10_signsLike_24_11 v3_5 v2_13) else j_X10_signsLike_24_11 v3_5 v2_4)))))))
def f_X10_signsLike (M : OV) (p0 : Int32) : Option (Int32) := bnd (0 : Int32) (fun v2_1 => bnd (0 : Int32) (fun v3_2 => ((lp (s_X10_signsLike_4_3 M p0) 5000 (v2_1, v3_2)).bind (un1 (fun v2_14 => some v2_14)))))
def r_X10_signsLike : Room := { frames := 1, cells := 0, slots := 0, locals := 21 }
set_option maxHeartbeats 4000000 in
set_option maxRecDepth 100000 in
theorem c_X10_signsLike (l : Launch) (D : va_G) (ev : EvT) (cy : Nat → ClassId) (oM : Nat) (aM : Nat → Nat) (M : OV) (p0 : Int32) (o : Int32) (hf : f_X10_signsLike M p0 = some o) : Fn l yX10_signsLike cX10_signsLike 4 (some .int) r_X10_signsLike D ev cy [.ref oM, .int p0] [gX10 cy oM aM M] (fun v G => v = some (.int o) ∧ G = [gX10 cy oM aM M]) := by
  refine Fn_of (by decide) (Nat.le_of_ble_eq_true rfl) (fun X A Q h hQ _ => ?_)
  unfold f_X10_signsLike at hf
  show ww X D A 4 Q 0 0 0 [(0, .ref oM), (1, .int p0)] [] [gX10 cy oM aM M]
  refine ww_iconst (v := 0) h dX10_signsLike_0 (by decide) 1 rfl ?_
  refine ww_ist_n h dX10_signsLike_1 rfl (by decide) (fun v2_1 => [(2, .int v2_1), (0, .ref oM), (1, .int p0)]) (fun _ => rfl) 2 rfl (fun v2_1 e => ?_)
  replace hf := bnd_at e hf
  clear e
  refine ww_iconst (v := 0) h dX10_signsLike_2 (by decide) 3 rfl ?_
  refine ww_ist_n h dX10_signsLike_3 rfl (by decide) (fun v3_2 => [(3, .int v3_2), (2, .int v2_1), (0, .ref oM), (1, .int p0)]) (fun _ => rfl) 4 rfl (fun v3_2 e => ?_)
  replace hf := bnd_at e hf
  clear e
  refine ww_lo [2, 3, 1, 0] (lo' := [(0, .ref oM), (1, .int p0), (2, .int v2_1), (3, .int v3_2)]) rfl ?_
  obtain ⟨v2_14, h3, hf⟩ := ob1 hf
  refine lp_walk (un2 (fun v2_4 v3_5 => ww X D A 4 Q 0 0 4 [(0, .ref oM), (1, .int p0), (2, .int v2_4), (3, .int v3_5)] [] [gX10 cy oM aM M])) (un1 (fun v2_14 => ww X D A 4 Q 0 0 30 [(2, .int v2_14)] [] [gX10 cy oM aM M])) ?_ _ _ _ h3 ?_
  · clear h3 hf
    intro s3 o3 hf hI3 hE3
    obtain ⟨v2_4, v3_5⟩ := s3
    unfold s_X10_signsLike_4_3 at hf
    replace hf := un2_e hf
    show ww X D A 4 Q 0 0 4 [(0, .ref oM), (1, .int p0), (2, .int v2_4), (3, .int v3_5)] [] [gX10 cy oM aM M]
    refine ww_iload_n h dX10_signsLike_4 rfl 3 rfl 5 rfl ?_
    refine ww_aload_n h dX10_signsLike_5 rfl 0 rfl 6 rfl ?_
    obtain ⟨r_6, hu7, hf⟩ := ob1 hf
    refine ww_cVi h (c_X10_many l D ev cy oM aM M _ hu7) ⟨w_1330, w_1327, w_1329, w_37, w_111, ok_X10_many⟩ ⟨by decide, by decide⟩ ⟨by decide, by decide⟩ ⟨rfl, rfl⟩ [0] rfl 0 rfl rfl rfl rfl (Nat.le_of_ble_eq_true rfl) dX10_signsLike_6 9 rfl (Gs' := [gX10 cy oM aM M]) rfl ?_
    clear hu7
    refine ww_icmp_ge h dX10_signsLike_9 30 (by decide) 12 rfl (fun c => ?_) (fun c => ?_)
    · replace hf := ite_t c hf
      refine ww_lo [2] (lo' := [(2, .int v2_4)]) rfl ?_
      exact hE3 v2_4 (Option.some.inj hf).symm
    · replace hf := ite_f c hf
      refine ww_aload_n h dX10_signsLike_12 rfl 0 rfl 13 rfl ?_
      refine ww_iload_n h dX10_signsLike_13 rfl 3 rfl 14 rfl ?_
      obtain ⟨r_8, hu9, hf⟩ := ob1 hf
      refine ww_cVi h (c_X10_classOf l D ev cy oM aM M v3_5 _ hu9) ⟨w_1369, w_1366, w_1368, w_44, w_111, ok_X10_classOf⟩ ⟨by decide, by decide⟩ ⟨by decide, by decide⟩ ⟨rfl, rfl⟩ [0] rfl 0 rfl rfl rfl rfl (Nat.le_of_ble_eq_true rfl) dX10_signsLike_14 17 rfl (Gs' := [gX10 cy oM aM M]) rfl ?_
      clear hu9
      refine ww_iload_n h dX10_signsLike_17 rfl 1 rfl 18 rfl ?_
      have hJ24_11 : ∀ (v2_10 : Int32), j_X10_signsLike_24_11 v3_5 v2_10 = some o3 → ww X D A 4 Q 0 0 24 [(0, .ref oM), (1, .int p0), (2, .int v2_10), (3, .int v3_5)] [] [gX10 cy oM aM M] := by
        intro v2_10 hf
        unfold j_X10_signsLike_24_11 at hf
        refine ww_inc (c := 1) h dX10_signsLike_24 3 rfl (by decide) (by decide) (fun v3_12 => [(3, .int v3_12), (0, .ref oM), (1, .int p0), (2, .int v2_10)]) (fun _ => rfl) 27 rfl (fun v3_12 e => ?_)
        replace hf := bnd_at e hf
        clear e
        refine ww_goto h dX10_signsLike_27 4 (by decide) ?_
        refine ww_lo [1, 2, 3, 0] (lo' := [(0, .ref oM), (1, .int p0), (2, .int v2_10), (3, .int v3_12)]) rfl ?_
        exact hI3 (v2_10, v3_12) (Option.some.inj hf).symm
      refine ww_icmp_ne h dX10_signsLike_18 24 (by decide) 21 rfl (fun c => ?_) (fun c => ?_)
      · replace hf := ite_f c hf
        exact hJ24_11 v2_4 hf
      · replace hf := ite_t c hf
        refine ww_inc (c := 1) h dX10_signsLike_21 2 rfl (by decide) (by decide) (fun v2_13 => [(2, .int v2_13), (0, .ref oM), (1, .int p0), (3, .int v3_5)]) (fun _ => rfl) 24 rfl (fun v2_13 e => ?_)
        replace hf := bnd_at e hf
        clear e
        refine ww_lo [1, 2, 0, 3] (lo' := [(0, .ref oM), (1, .int p0), (2, .int v2_13), (3, .int v3_5)]) rfl ?_
        exact hJ24_11 v2_13 hf
  · clear h3
    show ww X D A 4 Q 0 0 30 [(2, .int v2_14)] [] [gX10 cy oM aM M]
    refine ww_iload_n h dX10_signsLike_30 rfl 0 rfl 31 rfl ?_
    obtain rfl := Option.some.inj hf
    exact ww_iret h dX10_signsLike_31 hQ ⟨rfl, rfl⟩
theorem dX10_copies_0 : decode cX10_copies 0 = .ok (.aload_n 0, 1) := by decide +kernel
theorem dX10_copies_1 : decode cX10_copies 1 = .ok (.getfield 36, 3) := by decide +kernel
theorem dX10_copies_4 : decode cX10_copies 4 = .ok (.iconst 1, 1) := by decide +kernel
theorem dX10_copies_5 : decode cX10_copies 5 = .ok (.iload_n 2, 1) := by decide +kernel
theorem dX10_copies_6 : decode cX10_copies 6 = .ok (.iadd, 1) := by decide +kernel
theorem dX10_copies_7 : decode cX10_copies 7 = .ok (.aload_n 0, 1) := by decide +kernel
theorem dX10_copies_8 : decode cX10_copies 8 = .ok (.getfield 36, 3) := by decide +kernel
theorem dX10_copies_11 : decode cX10_copies 11 = .ok (.iconst 1, 1) := by decide +kernel
theorem dX10_copies_12 : decode cX10_copies 12 = .ok (.iload_n 1, 1) := by decide +kernel
theorem dX10_copies_13 : decode cX10_copies 13 = .ok (.iadd, 1) := by decide +kernel
theorem dX10_copies_14 : decode cX10_copies 14 = .ok (.iaload, 1) := by decide +kernel
theorem dX10_copies_15 : decode cX10_copies 15 = .ok (.iastore, 1) := by decide +kernel
theorem dX10_copies_16 : decode cX10_copies 16 = .ok (.aload_n 0, 1) := by decide +kernel
theorem dX10_copies_17 : decode cX10_copies 17 = .ok (.getfield 36, 3) := by decide +kernel
theorem dX10_copies_20 : decode cX10_copies 20 = .ok (.bipush 41, 2) := by decide +kernel
theorem dX10_copies_22 : decode cX10_copies 22 = .ok (.iload_n 2, 1) := by decide +kernel
theorem dX10_copies_23 : decode cX10_copies 23 = .ok (.iadd, 1) := by decide +kernel
theorem dX10_copies_24 : decode cX10_copies 24 = .ok (.aload_n 0, 1) := by decide +kernel
theorem dX10_copies_25 : decode cX10_copies 25 = .ok (.getfield 36, 3) := by decide +kernel
theorem dX10_copies_28 : decode cX10_copies 28 = .ok (.bipush 41, 2) := by decide +kernel
theorem dX10_copies_30 : decode cX10_copies 30 = .ok (.iload_n 1, 1) := by decide +kernel
theorem dX10_copies_31 : decode cX10_copies 31 = .ok (.iadd, 1) := by decide +kernel
theorem dX10_copies_32 : decode cX10_copies 32 = .ok (.iaload, 1) := by decide +kernel
theorem dX10_copies_33 : decode cX10_copies 33 = .ok (.iastore, 1) := by decide +kernel
theorem dX10_copies_34 : decode cX10_copies 34 = .ok (.return_, 1) := by decide +kernel
theorem ok_X10_copies : okY RX10 yX10_copies 2 := ⟨rfl, by decide, by decide, by decide +kernel⟩
def f_X10_copies (M : OV) (p0 : Int32) (p1 : Int32) : Option (OV) := gd (ix ((1 : Int32) + p0) 113) (gd (ix ((1 : Int32) + p1) 113) (bnd (sA M 8 ((1 : Int32) + p1).toNatClampNeg (ar M 8 ((1 : Int32) + p0).toNatClampNeg)) (fun M_1 => gd (ix ((41 : Int32) + p0) 113) (gd (ix ((41 : Int32) + p1) 113) (bnd (sA M_1 8 ((41 : Int32) + p1).toNatClampNeg (ar M_1 8 ((41 : Int32) + p0).toNatClampNeg)) (fun M_2 => some M_2))))))
def r_X10_copies : Room := { frames := 0, cells := 0, slots := 0, locals := 0 }
set_option maxHeartbeats 4000000 in
set_option maxRecDepth 100000 in
theorem c_X10_copies (l : Launch) (D : va_G) (ev : EvT) (cy : Nat → ClassId) (oM : Nat) (aM : Nat → Nat) (M : OV) (p0 : Int32) (p1 : Int32) (o : OV) (hf : f_X10_copies M p0 p1 = some o) : Fn l yX10_copies cX10_copies 3 none r_X10_copies D ev cy [.ref oM, .int p0, .int p1] [gX10 cy oM aM M] (fun v G => v = none ∧ G = [gX10 cy oM aM o]) := by
  refine Fn_of (by decide) (Nat.le_of_ble_eq_true rfl) (fun X A Q h hQ _ => ?_)
  unfold f_X10_copies at hf
  show ww X D A 3 Q 0 0 0 [(0, .ref oM), (1, .int p0), (2, .int p1)] [] [gX10 cy oM aM M]
  refine ww_aload_n h dX10_copies_0 rfl 0 rfl 1 rfl ?_
  refine ww_get h inG10 rfl 0 rfl rfl 8 (by decide) w_1165 rfl dX10_copies_1 4 rfl ?_
  refine ww_iconst (v := 1) h dX10_copies_4 (by decide) 5 rfl ?_
  refine ww_iload_n h dX10_copies_5 rfl 2 rfl 6 rfl ?_
  refine ww_iadd h dX10_copies_6 7 rfl ?_
  refine ww_aload_n h dX10_copies_7 rfl 0 rfl 8 rfl ?_
  refine ww_get h inG10 rfl 0 rfl rfl 8 (by decide) w_1165 rfl dX10_copies_8 11 rfl ?_
  refine ww_iconst (v := 1) h dX10_copies_11 (by decide) 12 rfl ?_
  refine ww_iload_n h dX10_copies_12 rfl 1 rfl 13 rfl ?_
  refine ww_iadd h dX10_copies_13 14 rfl ?_
  have hi := (gd_some hf).1
  replace hf := (gd_some hf).2
  refine ww_iald h 0 rfl 8 rfl (ix_in hi) dX10_copies_14 15 rfl ?_
  clear hi
  have hi := (gd_some hf).1
  replace hf := (gd_some hf).2
  refine ww_iast h 0 rfl 8 rfl (ix_in hi) dX10_copies_15 16 rfl ?_
  clear hi
  refine ww_nm (fun z => [gX10 cy oM aM z]) (sA M 8 ((1 : Int32) + p1).toNatClampNeg (ar M 8 ((1 : Int32) + p0).toNatClampNeg)) (fun M_1 e => ?_)
  replace hf := bnd_at e hf
  clear e
  refine ww_aload_n h dX10_copies_16 rfl 0 rfl 17 rfl ?_
  refine ww_get h inG10 rfl 0 rfl rfl 8 (by decide) w_1165 rfl dX10_copies_17 20 rfl ?_
  refine ww_bipush (v := 41) h dX10_copies_20 (by decide) 22 rfl ?_
  refine ww_iload_n h dX10_copies_22 rfl 2 rfl 23 rfl ?_
  refine ww_iadd h dX10_copies_23 24 rfl ?_
  refine ww_aload_n h dX10_copies_24 rfl 0 rfl 25 rfl ?_
  refine ww_get h inG10 rfl 0 rfl rfl 8 (by decide) w_1165 rfl dX10_copies_25 28 rfl ?_
  refine ww_bipush (v := 41) h dX10_copies_28 (by decide) 30 rfl ?_
  refine ww_iload_n h dX10_copies_30 rfl 1 rfl 31 rfl ?_
  refine ww_iadd h dX10_copies_31 32 rfl ?_
  have hi := (gd_some hf).1
  replace hf := (gd_some hf).2
  refine ww_iald h 0 rfl 8 rfl (ix_in hi) dX10_copies_32 33 rfl ?_
  clear hi
  have hi := (gd_some hf).1
  replace hf := (gd_some hf).2
  refine ww_iast h 0 rfl 8 rfl (ix_in hi) dX10_copies_33 34 rfl ?_
  clear hi
  refine ww_nm (fun z => [gX10 cy oM aM z]) (sA M_1 8 ((41 : Int32) + p1).toNatClampNeg (ar M_1 8 ((41 : Int32) + p0).toNatClampNeg)) (fun M_2 e => ?_)
  replace hf := bnd_at e hf
  clear e
  obtain rfl := Option.some.inj hf
  exact ww_vret h dX10_copies_34 hQ ⟨rfl, rfl⟩
theorem dX10_change_0 : decode cX10_change 0 = .ok (.aload_n 0, 1) := by decide +kernel
theorem dX10_change_1 : decode cX10_change 1 = .ok (.iload_n 1, 1) := by decide +kernel
theorem dX10_change_2 : decode cX10_change 2 = .ok (.invokevirtual 161, 3) := by decide +kernel
theorem dX10_change_5 : decode cX10_change 5 = .ok (.ifCond .eq 20, 3) := by decide +kernel
theorem dX10_change_8 : decode cX10_change 8 = .ok (.aload_n 0, 1) := by decide +kernel
theorem dX10_change_9 : decode cX10_change 9 = .ok (.iload_n 2, 1) := by decide +kernel
theorem dX10_change_10 : decode cX10_change 10 = .ok (.invokevirtual 151, 3) := by decide +kernel
theorem dX10_change_13 : decode cX10_change 13 = .ok (.ifCond .eq 12, 3) := by decide +kernel
theorem dX10_change_16 : decode cX10_change 16 = .ok (.aload_n 0, 1) := by decide +kernel
theorem dX10_change_17 : decode cX10_change 17 = .ok (.iload_n 1, 1) := by decide +kernel
theorem dX10_change_18 : decode cX10_change 18 = .ok (.invokevirtual 144, 3) := by decide +kernel
theorem dX10_change_21 : decode cX10_change 21 = .ok (.iload_n 2, 1) := by decide +kernel
theorem dX10_change_22 : decode cX10_change 22 = .ok (.if_icmp .ne 5, 3) := by decide +kernel
theorem dX10_change_25 : decode cX10_change 25 = .ok (.iconst (-1), 1) := by decide +kernel
theorem dX10_change_26 : decode cX10_change 26 = .ok (.ireturn, 1) := by decide +kernel
theorem dX10_change_27 : decode cX10_change 27 = .ok (.aload_n 0, 1) := by decide +kernel
theorem dX10_change_28 : decode cX10_change 28 = .ok (.invokevirtual 155, 3) := by decide +kernel
theorem dX10_change_31 : decode cX10_change 31 = .ok (.aload_n 0, 1) := by decide +kernel
theorem dX10_change_32 : decode cX10_change 32 = .ok (.iload_n 1, 1) := by decide +kernel
theorem dX10_change_33 : decode cX10_change 33 = .ok (.invokevirtual 144, 3) := by decide +kernel
theorem dX10_change_36 : decode cX10_change 36 = .ok (.istore_n 3, 1) := by decide +kernel
theorem dX10_change_37 : decode cX10_change 37 = .ok (.aload_n 0, 1) := by decide +kernel
theorem dX10_change_38 : decode cX10_change 38 = .ok (.getfield 36, 3) := by decide +kernel
theorem dX10_change_41 : decode cX10_change 41 = .ok (.iconst 1, 1) := by decide +kernel
theorem dX10_change_42 : decode cX10_change 42 = .ok (.iload_n 1, 1) := by decide +kernel
theorem dX10_change_43 : decode cX10_change 43 = .ok (.iadd, 1) := by decide +kernel
theorem dX10_change_44 : decode cX10_change 44 = .ok (.iload_n 2, 1) := by decide +kernel
theorem dX10_change_45 : decode cX10_change 45 = .ok (.iastore, 1) := by decide +kernel
theorem dX10_change_46 : decode cX10_change 46 = .ok (.iload_n 3, 1) := by decide +kernel
theorem dX10_change_47 : decode cX10_change 47 = .ok (.ireturn, 1) := by decide +kernel
theorem ok_X10_change : okY RX10 yX10_change 2 := ⟨rfl, by decide, by decide, by decide +kernel⟩
def f_X10_change (M : OV) (p0 : Int32) (p1 : Int32) : Option (Int32 × OV) := (f_X10_isSign M p0).bind (un1 (fun r_1 => (if r_1 = 0 then some ((-1 : Int32), M) else (f_X10_isTold M p1).bind (un1 (fun r_3 => (if r_3 = 0 then some ((-1 : Int32), M) else (f_X10_classOf M p0).bind (un1 (fun r_5 => (if r_5 = p1 then some ((-1 : Int32), M) else (f_X10_keeps M).bind (un1 (fun M_7 => (f_X10_classOf M_7 p0).bind (un1 (fun r_9 => bnd r_9 (fun v3_11 => gd (ix ((1 : Int32) + p0) 113) (bnd (sA M_7 8 ((1 : Int32) + p0).toNatClampNeg p1) (fun M_12 => some (v3_11, M_12)))))))))))))))))
def r_X10_change : Room := { frames := 2, cells := 0, slots := 0, locals := 43 }
set_option maxHeartbeats 4000000 in
set_option maxRecDepth 100000 in
theorem c_X10_change (l : Launch) (D : va_G) (ev : EvT) (cy : Nat → ClassId) (oM : Nat) (aM : Nat → Nat) (M : OV) (p0 : Int32) (p1 : Int32) (o : Int32 × OV) (hf : f_X10_change M p0 p1 = some o) : Fn l yX10_change cX10_change 4 (some .int) r_X10_change D ev cy [.ref oM, .int p0, .int p1] [gX10 cy oM aM M] (fun v G => v = some (.int o.1) ∧ G = [gX10 cy oM aM o.2]) := by
  refine Fn_of (by decide) (Nat.le_of_ble_eq_true rfl) (fun X A Q h hQ _ => ?_)
  unfold f_X10_change at hf
  show ww X D A 4 Q 0 0 0 [(0, .ref oM), (1, .int p0), (2, .int p1)] [] [gX10 cy oM aM M]
  refine ww_aload_n h dX10_change_0 rfl 0 rfl 1 rfl ?_
  refine ww_iload_n h dX10_change_1 rfl 1 rfl 2 rfl ?_
  obtain ⟨r_1, hu2, hf⟩ := ob1 hf
  refine ww_cVi h (c_X10_isSign l D ev cy oM aM M p0 _ hu2) ⟨w_1357, w_1354, w_1356, w_42, w_111, ok_X10_isSign⟩ ⟨by decide, by decide⟩ ⟨by decide, by decide⟩ ⟨rfl, rfl⟩ [0] rfl 0 rfl rfl rfl rfl (Nat.le_of_ble_eq_true rfl) dX10_change_2 5 rfl (Gs' := [gX10 cy oM aM M]) rfl ?_
  clear hu2
  refine ww_if_eq h dX10_change_5 25 (by decide) 8 rfl (fun c => ?_) (fun c => ?_)
  · replace hf := ite_t c hf
    refine ww_iconst (v := (-1)) h dX10_change_25 (by decide) 26 rfl ?_
    obtain rfl := Option.some.inj hf
    exact ww_iret h dX10_change_26 hQ ⟨rfl, rfl⟩
  · replace hf := ite_f c hf
    refine ww_aload_n h dX10_change_8 rfl 0 rfl 9 rfl ?_
    refine ww_iload_n h dX10_change_9 rfl 2 rfl 10 rfl ?_
    obtain ⟨r_3, hu4, hf⟩ := ob1 hf
    refine ww_cVi h (c_X10_isTold l D ev cy oM aM M p1 _ hu4) ⟨w_1337, w_1334, w_1336, w_38, w_111, ok_X10_isTold⟩ ⟨by decide, by decide⟩ ⟨by decide, by decide⟩ ⟨rfl, rfl⟩ [0] rfl 0 rfl rfl rfl rfl (Nat.le_of_ble_eq_true rfl) dX10_change_10 13 rfl (Gs' := [gX10 cy oM aM M]) rfl ?_
    clear hu4
    refine ww_if_eq h dX10_change_13 25 (by decide) 16 rfl (fun c => ?_) (fun c => ?_)
    · replace hf := ite_t c hf
      refine ww_iconst (v := (-1)) h dX10_change_25 (by decide) 26 rfl ?_
      obtain rfl := Option.some.inj hf
      exact ww_iret h dX10_change_26 hQ ⟨rfl, rfl⟩
    · replace hf := ite_f c hf
      refine ww_aload_n h dX10_change_16 rfl 0 rfl 17 rfl ?_
      refine ww_iload_n h dX10_change_17 rfl 1 rfl 18 rfl ?_
      obtain ⟨r_5, hu6, hf⟩ := ob1 hf
      refine ww_cVi h (c_X10_classOf l D ev cy oM aM M p0 _ hu6) ⟨w_1369, w_1366, w_1368, w_44, w_111, ok_X10_classOf⟩ ⟨by decide, by decide⟩ ⟨by decide, by decide⟩ ⟨rfl, rfl⟩ [0] rfl 0 rfl rfl rfl rfl (Nat.le_of_ble_eq_true rfl) dX10_change_18 21 rfl (Gs' := [gX10 cy oM aM M]) rfl ?_
      clear hu6
      refine ww_iload_n h dX10_change_21 rfl 2 rfl 22 rfl ?_
      refine ww_icmp_ne h dX10_change_22 27 (by decide) 25 rfl (fun c => ?_) (fun c => ?_)
      · replace hf := ite_f c hf
        refine ww_aload_n h dX10_change_27 rfl 0 rfl 28 rfl ?_
        obtain ⟨M_7, hu8, hf⟩ := ob1 hf
        refine ww_cVv h (c_X10_keeps l D ev cy oM aM M _ hu8) ⟨w_1341, w_1338, w_1340, w_39, w_111, ok_X10_keeps⟩ ⟨by decide, by decide⟩ ⟨by decide, by decide⟩ ⟨rfl, rfl⟩ [0] rfl 0 rfl rfl rfl rfl (Nat.le_of_ble_eq_true rfl) dX10_change_28 31 rfl (Gs' := [gX10 cy oM aM M_7]) rfl ?_
        clear hu8
        refine ww_aload_n h dX10_change_31 rfl 0 rfl 32 rfl ?_
        refine ww_iload_n h dX10_change_32 rfl 1 rfl 33 rfl ?_
        obtain ⟨r_9, hu10, hf⟩ := ob1 hf
        refine ww_cVi h (c_X10_classOf l D ev cy oM aM M_7 p0 _ hu10) ⟨w_1369, w_1366, w_1368, w_44, w_111, ok_X10_classOf⟩ ⟨by decide, by decide⟩ ⟨by decide, by decide⟩ ⟨rfl, rfl⟩ [0] rfl 0 rfl rfl rfl rfl (Nat.le_of_ble_eq_true rfl) dX10_change_33 36 rfl (Gs' := [gX10 cy oM aM M_7]) rfl ?_
        clear hu10
        refine ww_ist_n h dX10_change_36 rfl (by decide) (fun v3_11 => [(3, .int v3_11), (0, .ref oM), (1, .int p0), (2, .int p1)]) (fun _ => rfl) 37 rfl (fun v3_11 e => ?_)
        replace hf := bnd_at e hf
        clear e
        refine ww_aload_n h dX10_change_37 rfl 1 rfl 38 rfl ?_
        refine ww_get h inG10 rfl 0 rfl rfl 8 (by decide) w_1165 rfl dX10_change_38 41 rfl ?_
        refine ww_iconst (v := 1) h dX10_change_41 (by decide) 42 rfl ?_
        refine ww_iload_n h dX10_change_42 rfl 2 rfl 43 rfl ?_
        refine ww_iadd h dX10_change_43 44 rfl ?_
        refine ww_iload_n h dX10_change_44 rfl 3 rfl 45 rfl ?_
        have hi := (gd_some hf).1
        replace hf := (gd_some hf).2
        refine ww_iast h 0 rfl 8 rfl (ix_in hi) dX10_change_45 46 rfl ?_
        clear hi
        refine ww_nm (fun z => [gX10 cy oM aM z]) (sA M_7 8 ((1 : Int32) + p0).toNatClampNeg p1) (fun M_12 e => ?_)
        replace hf := bnd_at e hf
        clear e
        refine ww_iload_n h dX10_change_46 rfl 0 rfl 47 rfl ?_
        obtain rfl := Option.some.inj hf
        exact ww_iret h dX10_change_47 hQ ⟨rfl, rfl⟩
      · replace hf := ite_t c hf
        refine ww_iconst (v := (-1)) h dX10_change_25 (by decide) 26 rfl ?_
        obtain rfl := Option.some.inj hf
        exact ww_iret h dX10_change_26 hQ ⟨rfl, rfl⟩
theorem dX10_replace_0 : decode cX10_replace 0 = .ok (.aload_n 0, 1) := by decide +kernel
theorem dX10_replace_1 : decode cX10_replace 1 = .ok (.iload_n 1, 1) := by decide +kernel
theorem dX10_replace_2 : decode cX10_replace 2 = .ok (.invokevirtual 151, 3) := by decide +kernel
theorem dX10_replace_5 : decode cX10_replace 5 = .ok (.ifCond .eq 24, 3) := by decide +kernel
theorem dX10_replace_8 : decode cX10_replace 8 = .ok (.aload_n 0, 1) := by decide +kernel
theorem dX10_replace_9 : decode cX10_replace 9 = .ok (.iload_n 2, 1) := by decide +kernel
theorem dX10_replace_10 : decode cX10_replace 10 = .ok (.invokevirtual 151, 3) := by decide +kernel
theorem dX10_replace_13 : decode cX10_replace 13 = .ok (.ifCond .eq 16, 3) := by decide +kernel
theorem dX10_replace_16 : decode cX10_replace 16 = .ok (.iload_n 1, 1) := by decide +kernel
theorem dX10_replace_17 : decode cX10_replace 17 = .ok (.iload_n 2, 1) := by decide +kernel
theorem dX10_replace_18 : decode cX10_replace 18 = .ok (.if_icmp .eq 11, 3) := by decide +kernel
theorem dX10_replace_21 : decode cX10_replace 21 = .ok (.aload_n 0, 1) := by decide +kernel
theorem dX10_replace_22 : decode cX10_replace 22 = .ok (.iload_n 1, 1) := by decide +kernel
theorem dX10_replace_23 : decode cX10_replace 23 = .ok (.invokevirtual 170, 3) := by decide +kernel
theorem dX10_replace_26 : decode cX10_replace 26 = .ok (.ifCond .ne 5, 3) := by decide +kernel
theorem dX10_replace_29 : decode cX10_replace 29 = .ok (.iconst (-1), 1) := by decide +kernel
theorem dX10_replace_30 : decode cX10_replace 30 = .ok (.ireturn, 1) := by decide +kernel
theorem dX10_replace_31 : decode cX10_replace 31 = .ok (.aload_n 0, 1) := by decide +kernel
theorem dX10_replace_32 : decode cX10_replace 32 = .ok (.invokevirtual 155, 3) := by decide +kernel
theorem dX10_replace_35 : decode cX10_replace 35 = .ok (.iconst 0, 1) := by decide +kernel
theorem dX10_replace_36 : decode cX10_replace 36 = .ok (.istore_n 3, 1) := by decide +kernel
theorem dX10_replace_37 : decode cX10_replace 37 = .ok (.iconst 0, 1) := by decide +kernel
theorem dX10_replace_38 : decode cX10_replace 38 = .ok (.istore 4, 2) := by decide +kernel
theorem dX10_replace_40 : decode cX10_replace 40 = .ok (.iload 4, 2) := by decide +kernel
theorem dX10_replace_42 : decode cX10_replace 42 = .ok (.aload_n 0, 1) := by decide +kernel
theorem dX10_replace_43 : decode cX10_replace 43 = .ok (.invokevirtual 132, 3) := by decide +kernel
theorem dX10_replace_46 : decode cX10_replace 46 = .ok (.if_icmp .ge 35, 3) := by decide +kernel
theorem dX10_replace_49 : decode cX10_replace 49 = .ok (.aload_n 0, 1) := by decide +kernel
theorem dX10_replace_50 : decode cX10_replace 50 = .ok (.iload 4, 2) := by decide +kernel
theorem dX10_replace_52 : decode cX10_replace 52 = .ok (.invokevirtual 144, 3) := by decide +kernel
theorem dX10_replace_55 : decode cX10_replace 55 = .ok (.iload_n 1, 1) := by decide +kernel
theorem dX10_replace_56 : decode cX10_replace 56 = .ok (.if_icmp .eq 6, 3) := by decide +kernel
theorem dX10_replace_59 : decode cX10_replace 59 = .ok (.goto 16, 3) := by decide +kernel
theorem dX10_replace_62 : decode cX10_replace 62 = .ok (.aload_n 0, 1) := by decide +kernel
theorem dX10_replace_63 : decode cX10_replace 63 = .ok (.getfield 36, 3) := by decide +kernel
theorem dX10_replace_66 : decode cX10_replace 66 = .ok (.iconst 1, 1) := by decide +kernel
theorem dX10_replace_67 : decode cX10_replace 67 = .ok (.iload 4, 2) := by decide +kernel
theorem dX10_replace_69 : decode cX10_replace 69 = .ok (.iadd, 1) := by decide +kernel
theorem dX10_replace_70 : decode cX10_replace 70 = .ok (.iload_n 2, 1) := by decide +kernel
theorem dX10_replace_71 : decode cX10_replace 71 = .ok (.iastore, 1) := by decide +kernel
theorem dX10_replace_72 : decode cX10_replace 72 = .ok (.iinc 3 1, 3) := by decide +kernel
theorem dX10_replace_75 : decode cX10_replace 75 = .ok (.iinc 4 1, 3) := by decide +kernel
theorem dX10_replace_78 : decode cX10_replace 78 = .ok (.goto (-38), 3) := by decide +kernel
theorem dX10_replace_81 : decode cX10_replace 81 = .ok (.iload_n 3, 1) := by decide +kernel
theorem dX10_replace_82 : decode cX10_replace 82 = .ok (.ireturn, 1) := by decide +kernel
theorem ok_X10_replace : okY RX10 yX10_replace 2 := ⟨rfl, by decide, by decide, by decide +kernel⟩
def j_X10_replace_75_21 (v4_13 : Int32) (v3_19 : Int32) (M_20 : OV) : Option ((Int32 × Int32 × OV) ⊕ (Int32 × OV)) := bnd (v4_13 + 1) (fun v4_22 => some (.inl (v3_19, v4_22, M_20)))
def s_X10_replace_40_11 (p0 : Int32) (p1 : Int32) : (Int32 × Int32 × OV) → Option ((Int32 × Int32 × OV) ⊕ (Int32 × OV)) := un3 (fun v3_12 v4_13 M_14 => (f_X10_many M_14).bind (un1 (fun r_15 => (if r_15 ≤ v4_13 then some (.inr (v3_12, M_14)) else (f_X10_classOf M_14 v4_13).bind (un1 (fun r_17 => (if r_17 = p0 then gd (ix ((1 : Int32) + v4_13) 113) (bnd (sA M_14 8 ((1 : Int32) + v4_13).toNatClampNeg p1) (fun M_23 => bnd (v3_12 + 1) (fun v3_24 => j_X10_replace_75_21 v4_13 v3_24 M_23))) else j_X10_replace_75_21 v4_13 v3_12 M_14)))))))
def f_X10_replace (M : OV) (p0 : Int32) (p1 : Int32) : Option (Int32 × OV) := (f_X10_isTold M p0).bind (un1 (fun r_1 => (if r_1 = 0 then some ((-1 : Int32), M) else (f_X10_isTold M p1).bind (un1 (fun r_3 => (if r_3 = 0 then some ((-1 : Int32), M) else (if p0 = p1 then some ((-1 : Int32), M) else (f_X10_signsLike M p0).bind (un1 (fun r_5 => (if r_5 = 0 then some ((-1 : Int32), M) else (f_X10_keeps M).bind (un1 (fun M_7 => bnd (0 : Int32) (fun v3_9 => bnd (0 : Int32) (fun v4_10 => ((lp (s_X10_replace_40_11 p0 p1) 5000 (v3_9, v4_10, M_7)).bind (un2 (fun v3_25 M_26 => some (v3_25, M_26))))))))))))))))))
def r_X10_replace : Room := { frames := 2, cells := 0, slots := 0, locals := 44 }
set_option maxHeartbeats 4000000 in
set_option maxRecDepth 100000 in
theorem c_X10_replace (l : Launch) (D : va_G) (ev : EvT) (cy : Nat → ClassId) (oM : Nat) (aM : Nat → Nat) (M : OV) (p0 : Int32) (p1 : Int32) (o : Int32 × OV) (hf : f_X10_replace M p0 p1 = some o) : Fn l yX10_replace cX10_replace 5 (some .int) r_X10_replace D ev cy [.ref oM, .int p0, .int p1] [gX10 cy oM aM M] (fun v G => v = some (.int o.1) ∧ G = [gX10 cy oM aM o.2]) := by
  refine Fn_of (by decide) (Nat.le_of_ble_eq_true rfl) (fun X A Q h hQ _ => ?_)
  unfold f_X10_replace at hf
  show ww X D A 5 Q 0 0 0 [(0, .ref oM), (1, .int p0), (2, .int p1)] [] [gX10 cy oM aM M]
  refine ww_aload_n h dX10_replace_0 rfl 0 rfl 1 rfl ?_
  refine ww_iload_n h dX10_replace_1 rfl 1 rfl 2 rfl ?_
  obtain ⟨r_1, hu2, hf⟩ := ob1 hf
  refine ww_cVi h (c_X10_isTold l D ev cy oM aM M p0 _ hu2) ⟨w_1337, w_1334, w_1336, w_38, w_111, ok_X10_isTold⟩ ⟨by decide, by decide⟩ ⟨by decide, by decide⟩ ⟨rfl, rfl⟩ [0] rfl 0 rfl rfl rfl rfl (Nat.le_of_ble_eq_true rfl) dX10_replace_2 5 rfl (Gs' := [gX10 cy oM aM M]) rfl ?_
  clear hu2
  refine ww_if_eq h dX10_replace_5 29 (by decide) 8 rfl (fun c => ?_) (fun c => ?_)
  · replace hf := ite_t c hf
    refine ww_iconst (v := (-1)) h dX10_replace_29 (by decide) 30 rfl ?_
    obtain rfl := Option.some.inj hf
    exact ww_iret h dX10_replace_30 hQ ⟨rfl, rfl⟩
  · replace hf := ite_f c hf
    refine ww_aload_n h dX10_replace_8 rfl 0 rfl 9 rfl ?_
    refine ww_iload_n h dX10_replace_9 rfl 2 rfl 10 rfl ?_
    obtain ⟨r_3, hu4, hf⟩ := ob1 hf
    refine ww_cVi h (c_X10_isTold l D ev cy oM aM M p1 _ hu4) ⟨w_1337, w_1334, w_1336, w_38, w_111, ok_X10_isTold⟩ ⟨by decide, by decide⟩ ⟨by decide, by decide⟩ ⟨rfl, rfl⟩ [0] rfl 0 rfl rfl rfl rfl (Nat.le_of_ble_eq_true rfl) dX10_replace_10 13 rfl (Gs' := [gX10 cy oM aM M]) rfl ?_
    clear hu4
    refine ww_if_eq h dX10_replace_13 29 (by decide) 16 rfl (fun c => ?_) (fun c => ?_)
    · replace hf := ite_t c hf
      refine ww_iconst (v := (-1)) h dX10_replace_29 (by decide) 30 rfl ?_
      obtain rfl := Option.some.inj hf
      exact ww_iret h dX10_replace_30 hQ ⟨rfl, rfl⟩
    · replace hf := ite_f c hf
      refine ww_iload_n h dX10_replace_16 rfl 1 rfl 17 rfl ?_
      refine ww_iload_n h dX10_replace_17 rfl 2 rfl 18 rfl ?_
      refine ww_icmp_eq h dX10_replace_18 29 (by decide) 21 rfl (fun c => ?_) (fun c => ?_)
      · replace hf := ite_t c hf
        refine ww_iconst (v := (-1)) h dX10_replace_29 (by decide) 30 rfl ?_
        obtain rfl := Option.some.inj hf
        exact ww_iret h dX10_replace_30 hQ ⟨rfl, rfl⟩
      · replace hf := ite_f c hf
        refine ww_aload_n h dX10_replace_21 rfl 0 rfl 22 rfl ?_
        refine ww_iload_n h dX10_replace_22 rfl 1 rfl 23 rfl ?_
        obtain ⟨r_5, hu6, hf⟩ := ob1 hf
        refine ww_cVi h (c_X10_signsLike l D ev cy oM aM M p0 _ hu6) ⟨w_1385, w_1382, w_1384, w_46, w_111, ok_X10_signsLike⟩ ⟨by decide, by decide⟩ ⟨by decide, by decide⟩ ⟨rfl, rfl⟩ [0] rfl 0 rfl rfl rfl rfl (Nat.le_of_ble_eq_true rfl) dX10_replace_23 26 rfl (Gs' := [gX10 cy oM aM M]) rfl ?_
        clear hu6
        refine ww_if_ne h dX10_replace_26 31 (by decide) 29 rfl (fun c => ?_) (fun c => ?_)
        · replace hf := ite_f c hf
          refine ww_aload_n h dX10_replace_31 rfl 0 rfl 32 rfl ?_
          obtain ⟨M_7, hu8, hf⟩ := ob1 hf
          refine ww_cVv h (c_X10_keeps l D ev cy oM aM M _ hu8) ⟨w_1341, w_1338, w_1340, w_39, w_111, ok_X10_keeps⟩ ⟨by decide, by decide⟩ ⟨by decide, by decide⟩ ⟨rfl, rfl⟩ [0] rfl 0 rfl rfl rfl rfl (Nat.le_of_ble_eq_true rfl) dX10_replace_32 35 rfl (Gs' := [gX10 cy oM aM M_7]) rfl ?_
          clear hu8
          refine ww_iconst (v := 0) h dX10_replace_35 (by decide) 36 rfl ?_
          refine ww_ist_n h dX10_replace_36 rfl (by decide) (fun v3_9 => [(3, .int v3_9), (0, .ref oM), (1, .int p0), (2, .int p1)]) (fun _ => rfl) 37 rfl (fun v3_9 e => ?_)
          replace hf := bnd_at e hf
          clear e
          refine ww_iconst (v := 0) h dX10_replace_37 (by decide) 38 rfl ?_
          refine ww_ist h dX10_replace_38 (by decide) (fun v4_10 => [(4, .int v4_10), (3, .int v3_9), (0, .ref oM), (1, .int p0), (2, .int p1)]) (fun _ => rfl) 40 rfl (fun v4_10 e => ?_)
          replace hf := bnd_at e hf
          clear e
          refine ww_lo [2, 3, 4, 1, 0] (lo' := [(0, .ref oM), (1, .int p0), (2, .int p1), (3, .int v3_9), (4, .int v4_10)]) rfl ?_
          obtain ⟨v3_25, M_26, h11, hf⟩ := ob2 hf
          refine lp_walk (un3 (fun v3_12 v4_13 M_14 => ww X D A 5 Q 0 0 40 [(0, .ref oM), (1, .int p0), (2, .int p1), (3, .int v3_12), (4, .int v4_13)] [] [gX10 cy oM aM M_14])) (un2 (fun v3_25 M_26 => ww X D A 5 Q 0 0 81 [(3, .int v3_25)] [] [gX10 cy oM aM M_26])) ?_ _ _ _ h11 ?_
          · clear h11 hf
            intro s11 o11 hf hI11 hE11
            obtain ⟨v3_12, v4_13, M_14⟩ := s11
            unfold s_X10_replace_40_11 at hf
            replace hf := un3_e hf
            show ww X D A 5 Q 0 0 40 [(0, .ref oM), (1, .int p0), (2, .int p1), (3, .int v3_12), (4, .int v4_13)] [] [gX10 cy oM aM M_14]
            refine ww_iload h dX10_replace_40 4 rfl 42 rfl ?_
            refine ww_aload_n h dX10_replace_42 rfl 0 rfl 43 rfl ?_
            obtain ⟨r_15, hu16, hf⟩ := ob1 hf
            refine ww_cVi h (c_X10_many l D ev cy oM aM M_14 _ hu16) ⟨w_1330, w_1327, w_1329, w_37, w_111, ok_X10_many⟩ ⟨by decide, by decide⟩ ⟨by decide, by decide⟩ ⟨rfl, rfl⟩ [0] rfl 0 rfl rfl rfl rfl (Nat.le_of_ble_eq_true rfl) dX10_replace_43 46 rfl (Gs' := [gX10 cy oM aM M_14]) rfl ?_
            clear hu16
            refine ww_icmp_ge h dX10_replace_46 81 (by decide) 49 rfl (fun c => ?_) (fun c => ?_)
            · replace hf := ite_t c hf
              refine ww_lo [3] (lo' := [(3, .int v3_12)]) rfl ?_
              exact hE11 (v3_12, M_14) (Option.some.inj hf).symm
            · replace hf := ite_f c hf
              refine ww_aload_n h dX10_replace_49 rfl 0 rfl 50 rfl ?_
              refine ww_iload h dX10_replace_50 4 rfl 52 rfl ?_
              obtain ⟨r_17, hu18, hf⟩ := ob1 hf
              refine ww_cVi h (c_X10_classOf l D ev cy oM aM M_14 v4_13 _ hu18) ⟨w_1369, w_1366, w_1368, w_44, w_111, ok_X10_classOf⟩ ⟨by decide, by decide⟩ ⟨by decide, by decide⟩ ⟨rfl, rfl⟩ [0] rfl 0 rfl rfl rfl rfl (Nat.le_of_ble_eq_true rfl) dX10_replace_52 55 rfl (Gs' := [gX10 cy oM aM M_14]) rfl ?_
              clear hu18
              refine ww_iload_n h dX10_replace_55 rfl 1 rfl 56 rfl ?_
              have hJ75_21 : ∀ (v3_19 : Int32) (M_20 : OV), j_X10_replace_75_21 v4_13 v3_19 M_20 = some o11 → ww X D A 5 Q 0 0 75 [(0, .ref oM), (1, .int p0), (2, .int p1), (3, .int v3_19), (4, .int v4_13)] [] [gX10 cy oM aM M_20] := by
                intro v3_19 M_20 hf
                unfold j_X10_replace_75_21 at hf
                refine ww_inc (c := 1) h dX10_replace_75 4 rfl (by decide) (by decide) (fun v4_22 => [(4, .int v4_22), (0, .ref oM), (1, .int p0), (2, .int p1), (3, .int v3_19)]) (fun _ => rfl) 78 rfl (fun v4_22 e => ?_)
                replace hf := bnd_at e hf
                clear e
                refine ww_goto h dX10_replace_78 40 (by decide) ?_
                refine ww_lo [1, 2, 3, 4, 0] (lo' := [(0, .ref oM), (1, .int p0), (2, .int p1), (3, .int v3_19), (4, .int v4_22)]) rfl ?_
                exact hI11 (v3_19, v4_22, M_20) (Option.some.inj hf).symm
              refine ww_icmp_eq h dX10_replace_56 62 (by decide) 59 rfl (fun c => ?_) (fun c => ?_)
              · replace hf := ite_t c hf
                refine ww_aload_n h dX10_replace_62 rfl 0 rfl 63 rfl ?_
                refine ww_get h inG10 rfl 0 rfl rfl 8 (by decide) w_1165 rfl dX10_replace_63 66 rfl ?_
                refine ww_iconst (v := 1) h dX10_replace_66 (by decide) 67 rfl ?_
                refine ww_iload h dX10_replace_67 4 rfl 69 rfl ?_
                refine ww_iadd h dX10_replace_69 70 rfl ?_
                refine ww_iload_n h dX10_replace_70 rfl 2 rfl 71 rfl ?_
                have hi := (gd_some hf).1
                replace hf := (gd_some hf).2
                refine ww_iast h 0 rfl 8 rfl (ix_in hi) dX10_replace_71 72 rfl ?_
                clear hi
                refine ww_nm (fun z => [gX10 cy oM aM z]) (sA M_14 8 ((1 : Int32) + v4_13).toNatClampNeg p1) (fun M_23 e => ?_)
                replace hf := bnd_at e hf
                clear e
                refine ww_inc (c := 1) h dX10_replace_72 3 rfl (by decide) (by decide) (fun v3_24 => [(3, .int v3_24), (0, .ref oM), (1, .int p0), (2, .int p1), (4, .int v4_13)]) (fun _ => rfl) 75 rfl (fun v3_24 e => ?_)
                replace hf := bnd_at e hf
                clear e
                refine ww_lo [1, 2, 3, 0, 4] (lo' := [(0, .ref oM), (1, .int p0), (2, .int p1), (3, .int v3_24), (4, .int v4_13)]) rfl ?_
                exact hJ75_21 v3_24 M_23 hf
              · replace hf := ite_f c hf
                refine ww_goto h dX10_replace_59 75 (by decide) ?_
                exact hJ75_21 v3_12 M_14 hf
          · clear h11
            show ww X D A 5 Q 0 0 81 [(3, .int v3_25)] [] [gX10 cy oM aM M_26]
            refine ww_iload_n h dX10_replace_81 rfl 0 rfl 82 rfl ?_
            obtain rfl := Option.some.inj hf
            exact ww_iret h dX10_replace_82 hQ ⟨rfl, rfl⟩
        · replace hf := ite_t c hf
          refine ww_iconst (v := (-1)) h dX10_replace_29 (by decide) 30 rfl ?_
          obtain rfl := Option.some.inj hf
          exact ww_iret h dX10_replace_30 hQ ⟨rfl, rfl⟩
theorem dX10_becomes_0 : decode cX10_becomes 0 = .ok (.aload_n 0, 1) := by decide +kernel
theorem dX10_becomes_1 : decode cX10_becomes 1 = .ok (.invokevirtual 155, 3) := by decide +kernel
theorem dX10_becomes_4 : decode cX10_becomes 4 = .ok (.aload_n 0, 1) := by decide +kernel
theorem dX10_becomes_5 : decode cX10_becomes 5 = .ok (.getfield 36, 3) := by decide +kernel
theorem dX10_becomes_8 : decode cX10_becomes 8 = .ok (.iload_n 1, 1) := by decide +kernel
theorem dX10_becomes_9 : decode cX10_becomes 9 = .ok (.iaload, 1) := by decide +kernel
theorem dX10_becomes_10 : decode cX10_becomes 10 = .ok (.istore_n 3, 1) := by decide +kernel
theorem dX10_becomes_11 : decode cX10_becomes 11 = .ok (.aload_n 0, 1) := by decide +kernel
theorem dX10_becomes_12 : decode cX10_becomes 12 = .ok (.getfield 36, 3) := by decide +kernel
theorem dX10_becomes_15 : decode cX10_becomes 15 = .ok (.iload_n 1, 1) := by decide +kernel
theorem dX10_becomes_16 : decode cX10_becomes 16 = .ok (.iload_n 2, 1) := by decide +kernel
theorem dX10_becomes_17 : decode cX10_becomes 17 = .ok (.iastore, 1) := by decide +kernel
theorem dX10_becomes_18 : decode cX10_becomes 18 = .ok (.iload_n 3, 1) := by decide +kernel
theorem dX10_becomes_19 : decode cX10_becomes 19 = .ok (.ireturn, 1) := by decide +kernel
theorem ok_X10_becomes : okY RX10 yX10_becomes 2 := ⟨rfl, by decide, by decide, by decide +kernel⟩
def f_X10_becomes (M : OV) (p0 : Int32) (p1 : Int32) : Option (Int32 × OV) := (f_X10_keeps M).bind (un1 (fun M_1 => gd (ix p0 113) (bnd (ar M_1 8 p0.toNatClampNeg) (fun v3_3 => gd (ix p0 113) (bnd (sA M_1 8 p0.toNatClampNeg p1) (fun M_4 => some (v3_3, M_4)))))))
def r_X10_becomes : Room := { frames := 1, cells := 0, slots := 0, locals := 21 }
set_option maxHeartbeats 4000000 in
set_option maxRecDepth 100000 in
theorem c_X10_becomes (l : Launch) (D : va_G) (ev : EvT) (cy : Nat → ClassId) (oM : Nat) (aM : Nat → Nat) (M : OV) (p0 : Int32) (p1 : Int32) (o : Int32 × OV) (hf : f_X10_becomes M p0 p1 = some o) : Fn l yX10_becomes cX10_becomes 4 (some .int) r_X10_becomes D ev cy [.ref oM, .int p0, .int p1] [gX10 cy oM aM M] (fun v G => v = some (.int o.1) ∧ G = [gX10 cy oM aM o.2]) := by
  refine Fn_of (by decide) (Nat.le_of_ble_eq_true rfl) (fun X A Q h hQ _ => ?_)
  unfold f_X10_becomes at hf
  show ww X D A 4 Q 0 0 0 [(0, .ref oM), (1, .int p0), (2, .int p1)] [] [gX10 cy oM aM M]
  refine ww_aload_n h dX10_becomes_0 rfl 0 rfl 1 rfl ?_
  obtain ⟨M_1, hu2, hf⟩ := ob1 hf
  refine ww_cVv h (c_X10_keeps l D ev cy oM aM M _ hu2) ⟨w_1341, w_1338, w_1340, w_39, w_111, ok_X10_keeps⟩ ⟨by decide, by decide⟩ ⟨by decide, by decide⟩ ⟨rfl, rfl⟩ [0] rfl 0 rfl rfl rfl rfl (Nat.le_of_ble_eq_true rfl) dX10_becomes_1 4 rfl (Gs' := [gX10 cy oM aM M_1]) rfl ?_
  clear hu2
  refine ww_aload_n h dX10_becomes_4 rfl 0 rfl 5 rfl ?_
  refine ww_get h inG10 rfl 0 rfl rfl 8 (by decide) w_1165 rfl dX10_becomes_5 8 rfl ?_
  refine ww_iload_n h dX10_becomes_8 rfl 1 rfl 9 rfl ?_
  have hi := (gd_some hf).1
  replace hf := (gd_some hf).2
  refine ww_iald h 0 rfl 8 rfl (ix_in hi) dX10_becomes_9 10 rfl ?_
  clear hi
  refine ww_ist_n h dX10_becomes_10 rfl (by decide) (fun v3_3 => [(3, .int v3_3), (0, .ref oM), (1, .int p0), (2, .int p1)]) (fun _ => rfl) 11 rfl (fun v3_3 e => ?_)
  replace hf := bnd_at e hf
  clear e
  refine ww_aload_n h dX10_becomes_11 rfl 1 rfl 12 rfl ?_
  refine ww_get h inG10 rfl 0 rfl rfl 8 (by decide) w_1165 rfl dX10_becomes_12 15 rfl ?_
  refine ww_iload_n h dX10_becomes_15 rfl 2 rfl 16 rfl ?_
  refine ww_iload_n h dX10_becomes_16 rfl 3 rfl 17 rfl ?_
  have hi := (gd_some hf).1
  replace hf := (gd_some hf).2
  refine ww_iast h 0 rfl 8 rfl (ix_in hi) dX10_becomes_17 18 rfl ?_
  clear hi
  refine ww_nm (fun z => [gX10 cy oM aM z]) (sA M_1 8 p0.toNatClampNeg p1) (fun M_4 e => ?_)
  replace hf := bnd_at e hf
  clear e
  refine ww_iload_n h dX10_becomes_18 rfl 0 rfl 19 rfl ?_
  obtain rfl := Option.some.inj hf
  exact ww_iret h dX10_becomes_19 hQ ⟨rfl, rfl⟩
theorem dX10_mark_0 : decode cX10_mark 0 = .ok (.aload_n 0, 1) := by decide +kernel
theorem dX10_mark_1 : decode cX10_mark 1 = .ok (.iload_n 1, 1) := by decide +kernel
theorem dX10_mark_2 : decode cX10_mark 2 = .ok (.invokevirtual 161, 3) := by decide +kernel
theorem dX10_mark_5 : decode cX10_mark 5 = .ok (.ifCond .eq 33, 3) := by decide +kernel
theorem dX10_mark_8 : decode cX10_mark 8 = .ok (.iload_n 2, 1) := by decide +kernel
theorem dX10_mark_9 : decode cX10_mark 9 = .ok (.iconst 0, 1) := by decide +kernel
theorem dX10_mark_10 : decode cX10_mark 10 = .ok (.iconst 2, 1) := by decide +kernel
theorem dX10_mark_11 : decode cX10_mark 11 = .ok (.invokestatic 125, 3) := by decide +kernel
theorem dX10_mark_14 : decode cX10_mark 14 = .ok (.ifCond .eq 24, 3) := by decide +kernel
theorem dX10_mark_17 : decode cX10_mark 17 = .ok (.aload_n 0, 1) := by decide +kernel
theorem dX10_mark_18 : decode cX10_mark 18 = .ok (.iload_n 1, 1) := by decide +kernel
theorem dX10_mark_19 : decode cX10_mark 19 = .ok (.invokevirtual 173, 3) := by decide +kernel
theorem dX10_mark_22 : decode cX10_mark 22 = .ok (.iload_n 2, 1) := by decide +kernel
theorem dX10_mark_23 : decode cX10_mark 23 = .ok (.if_icmp .eq 15, 3) := by decide +kernel
theorem dX10_mark_26 : decode cX10_mark 26 = .ok (.aload_n 0, 1) := by decide +kernel
theorem dX10_mark_27 : decode cX10_mark 27 = .ok (.bipush 41, 2) := by decide +kernel
theorem dX10_mark_29 : decode cX10_mark 29 = .ok (.iload_n 1, 1) := by decide +kernel
theorem dX10_mark_30 : decode cX10_mark 30 = .ok (.iadd, 1) := by decide +kernel
theorem dX10_mark_31 : decode cX10_mark 31 = .ok (.iload_n 2, 1) := by decide +kernel
theorem dX10_mark_32 : decode cX10_mark 32 = .ok (.invokevirtual 176, 3) := by decide +kernel
theorem dX10_mark_35 : decode cX10_mark 35 = .ok (.goto 4, 3) := by decide +kernel
theorem dX10_mark_38 : decode cX10_mark 38 = .ok (.iconst (-1), 1) := by decide +kernel
theorem dX10_mark_39 : decode cX10_mark 39 = .ok (.ireturn, 1) := by decide +kernel
theorem ok_X10_mark : okY RX10 yX10_mark 2 := ⟨rfl, by decide, by decide, by decide +kernel⟩
def j_X10_mark_38_3 (M : OV) : Option (Int32 × OV) := some ((-1 : Int32), M)
def f_X10_mark (M : OV) (p0 : Int32) (p1 : Int32) : Option (Int32 × OV) := (f_X10_isSign M p0).bind (un1 (fun r_1 => (if r_1 = 0 then j_X10_mark_38_3 M else (f_X10_in p1 (0 : Int32) (2 : Int32)).bind (un1 (fun r_4 => (if r_4 = 0 then j_X10_mark_38_3 M else (f_X10_markOf M p0).bind (un1 (fun r_6 => (if r_6 = p1 then j_X10_mark_38_3 M else (f_X10_becomes M ((41 : Int32) + p0) p1).bind (un2 (fun r_8 M_9 => some (r_8, M_9))))))))))))
def r_X10_mark : Room := { frames := 2, cells := 0, slots := 0, locals := 44 }
set_option maxHeartbeats 4000000 in
set_option maxRecDepth 100000 in
theorem c_X10_mark (l : Launch) (D : va_G) (ev : EvT) (cy : Nat → ClassId) (oM : Nat) (aM : Nat → Nat) (M : OV) (p0 : Int32) (p1 : Int32) (o : Int32 × OV) (hf : f_X10_mark M p0 p1 = some o) : Fn l yX10_mark cX10_mark 3 (some .int) r_X10_mark D ev cy [.ref oM, .int p0, .int p1] [gX10 cy oM aM M] (fun v G => v = some (.int o.1) ∧ G = [gX10 cy oM aM o.2]) := by
  refine Fn_of (by decide) (Nat.le_of_ble_eq_true rfl) (fun X A Q h hQ _ => ?_)
  unfold f_X10_mark at hf
  show ww X D A 3 Q 0 0 0 [(0, .ref oM), (1, .int p0), (2, .int p1)] [] [gX10 cy oM aM M]
  refine ww_aload_n h dX10_mark_0 rfl 0 rfl 1 rfl ?_
  refine ww_iload_n h dX10_mark_1 rfl 1 rfl 2 rfl ?_
  obtain ⟨r_1, hu2, hf⟩ := ob1 hf
  refine ww_cVi h (c_X10_isSign l D ev cy oM aM M p0 _ hu2) ⟨w_1357, w_1354, w_1356, w_42, w_111, ok_X10_isSign⟩ ⟨by decide, by decide⟩ ⟨by decide, by decide⟩ ⟨rfl, rfl⟩ [0] rfl 0 rfl rfl rfl rfl (Nat.le_of_ble_eq_true rfl) dX10_mark_2 5 rfl (Gs' := [gX10 cy oM aM M]) rfl ?_
  clear hu2
  have hJ38_3 : ∀ (_ : Unit), j_X10_mark_38_3 M = some o → ww X D A 3 Q 0 0 38 [] [] [gX10 cy oM aM M] := by
    intro _ hf
    unfold j_X10_mark_38_3 at hf
    refine ww_iconst (v := (-1)) h dX10_mark_38 (by decide) 39 rfl ?_
    obtain rfl := Option.some.inj hf
    exact ww_iret h dX10_mark_39 hQ ⟨rfl, rfl⟩
  refine ww_if_eq h dX10_mark_5 38 (by decide) 8 rfl (fun c => ?_) (fun c => ?_)
  · replace hf := ite_t c hf
    refine ww_lo [] (lo' := []) rfl ?_
    exact hJ38_3 () hf
  · replace hf := ite_f c hf
    refine ww_iload_n h dX10_mark_8 rfl 2 rfl 9 rfl ?_
    refine ww_iconst (v := 0) h dX10_mark_9 (by decide) 10 rfl ?_
    refine ww_iconst (v := 2) h dX10_mark_10 (by decide) 11 rfl ?_
    obtain ⟨r_4, hu5, hf⟩ := ob1 hf
    refine ww_cSi h (c_X10_in l D ev cy p1 (0 : Int32) (2 : Int32) _ hu5) ⟨w_1333, w_1331, w_1332, w_111, ok_X10_in⟩ ⟨by decide, by decide⟩ ⟨by decide, by decide⟩ ⟨rfl, rfl⟩ [] rfl rfl (Nat.le_of_ble_eq_true rfl) dX10_mark_11 14 rfl (Gs' := [gX10 cy oM aM M]) rfl ?_
    clear hu5
    refine ww_if_eq h dX10_mark_14 38 (by decide) 17 rfl (fun c => ?_) (fun c => ?_)
    · replace hf := ite_t c hf
      refine ww_lo [] (lo' := []) rfl ?_
      exact hJ38_3 () hf
    · replace hf := ite_f c hf
      refine ww_aload_n h dX10_mark_17 rfl 0 rfl 18 rfl ?_
      refine ww_iload_n h dX10_mark_18 rfl 1 rfl 19 rfl ?_
      obtain ⟨r_6, hu7, hf⟩ := ob1 hf
      refine ww_cVi h (c_X10_markOf l D ev cy oM aM M p0 _ hu7) ⟨w_1393, w_1390, w_1392, w_47, w_111, ok_X10_markOf⟩ ⟨by decide, by decide⟩ ⟨by decide, by decide⟩ ⟨rfl, rfl⟩ [0] rfl 0 rfl rfl rfl rfl (Nat.le_of_ble_eq_true rfl) dX10_mark_19 22 rfl (Gs' := [gX10 cy oM aM M]) rfl ?_
      clear hu7
      refine ww_iload_n h dX10_mark_22 rfl 2 rfl 23 rfl ?_
      refine ww_icmp_eq h dX10_mark_23 38 (by decide) 26 rfl (fun c => ?_) (fun c => ?_)
      · replace hf := ite_t c hf
        refine ww_lo [] (lo' := []) rfl ?_
        exact hJ38_3 () hf
      · replace hf := ite_f c hf
        refine ww_aload_n h dX10_mark_26 rfl 0 rfl 27 rfl ?_
        refine ww_bipush (v := 41) h dX10_mark_27 (by decide) 29 rfl ?_
        refine ww_iload_n h dX10_mark_29 rfl 1 rfl 30 rfl ?_
        refine ww_iadd h dX10_mark_30 31 rfl ?_
        refine ww_iload_n h dX10_mark_31 rfl 2 rfl 32 rfl ?_
        obtain ⟨r_8, M_9, hu10, hf⟩ := ob2 hf
        refine ww_cVi h (c_X10_becomes l D ev cy oM aM M ((41 : Int32) + p0) p1 _ hu10) ⟨w_1397, w_1394, w_1396, w_48, w_111, ok_X10_becomes⟩ ⟨by decide, by decide⟩ ⟨by decide, by decide⟩ ⟨rfl, rfl⟩ [0] rfl 0 rfl rfl rfl rfl (Nat.le_of_ble_eq_true rfl) dX10_mark_32 35 rfl (Gs' := [gX10 cy oM aM M_9]) rfl ?_
        clear hu10
        refine ww_goto h dX10_mark_35 39 (by decide) ?_
        obtain rfl := Option.some.inj hf
        exact ww_iret h dX10_mark_39 hQ ⟨rfl, rfl⟩
theorem dX10_width_0 : decode cX10_width 0 = .ok (.iload_n 1, 1) := by decide +kernel
theorem dX10_width_1 : decode cX10_width 1 = .ok (.iconst 4, 1) := by decide +kernel
theorem dX10_width_2 : decode cX10_width 2 = .ok (.bipush 80, 2) := by decide +kernel
theorem dX10_width_4 : decode cX10_width 4 = .ok (.invokestatic 125, 3) := by decide +kernel
theorem dX10_width_7 : decode cX10_width 7 = .ok (.ifCond .eq 24, 3) := by decide +kernel
theorem dX10_width_10 : decode cX10_width 10 = .ok (.iload_n 1, 1) := by decide +kernel
theorem dX10_width_11 : decode cX10_width 11 = .ok (.aload_n 0, 1) := by decide +kernel
theorem dX10_width_12 : decode cX10_width 12 = .ok (.getfield 36, 3) := by decide +kernel
theorem dX10_width_15 : decode cX10_width 15 = .ok (.bipush 81, 2) := by decide +kernel
theorem dX10_width_17 : decode cX10_width 17 = .ok (.iaload, 1) := by decide +kernel
theorem dX10_width_18 : decode cX10_width 18 = .ok (.if_icmp .eq 13, 3) := by decide +kernel
theorem dX10_width_21 : decode cX10_width 21 = .ok (.aload_n 0, 1) := by decide +kernel
theorem dX10_width_22 : decode cX10_width 22 = .ok (.bipush 81, 2) := by decide +kernel
theorem dX10_width_24 : decode cX10_width 24 = .ok (.iload_n 1, 1) := by decide +kernel
theorem dX10_width_25 : decode cX10_width 25 = .ok (.invokevirtual 176, 3) := by decide +kernel
theorem dX10_width_28 : decode cX10_width 28 = .ok (.goto 4, 3) := by decide +kernel
theorem dX10_width_31 : decode cX10_width 31 = .ok (.iconst (-1), 1) := by decide +kernel
theorem dX10_width_32 : decode cX10_width 32 = .ok (.ireturn, 1) := by decide +kernel
theorem ok_X10_width : okY RX10 yX10_width 1 := ⟨rfl, by decide, by decide, by decide +kernel⟩
def j_X10_width_31_3 (M : OV) : Option (Int32 × OV) := some ((-1 : Int32), M)
def f_X10_width (M : OV) (p0 : Int32) : Option (Int32 × OV) := (f_X10_in p0 (4 : Int32) (80 : Int32)).bind (un1 (fun r_1 => (if r_1 = 0 then j_X10_width_31_3 M else gd (ix (81 : Int32) 113) ((if p0 = (ar M 8 (81 : Int32).toNatClampNeg) then j_X10_width_31_3 M else (f_X10_becomes M (81 : Int32) p0).bind (un2 (fun r_4 M_5 => some (r_4, M_5))))))))
def r_X10_width : Room := { frames := 2, cells := 0, slots := 0, locals := 44 }
set_option maxHeartbeats 4000000 in
set_option maxRecDepth 100000 in
theorem c_X10_width (l : Launch) (D : va_G) (ev : EvT) (cy : Nat → ClassId) (oM : Nat) (aM : Nat → Nat) (M : OV) (p0 : Int32) (o : Int32 × OV) (hf : f_X10_width M p0 = some o) : Fn l yX10_width cX10_width 2 (some .int) r_X10_width D ev cy [.ref oM, .int p0] [gX10 cy oM aM M] (fun v G => v = some (.int o.1) ∧ G = [gX10 cy oM aM o.2]) := by
  refine Fn_of (by decide) (Nat.le_of_ble_eq_true rfl) (fun X A Q h hQ _ => ?_)
  unfold f_X10_width at hf
  show ww X D A 2 Q 0 0 0 [(0, .ref oM), (1, .int p0)] [] [gX10 cy oM aM M]
  refine ww_iload_n h dX10_width_0 rfl 1 rfl 1 rfl ?_
  refine ww_iconst (v := 4) h dX10_width_1 (by decide) 2 rfl ?_
  refine ww_bipush (v := 80) h dX10_width_2 (by decide) 4 rfl ?_
  obtain ⟨r_1, hu2, hf⟩ := ob1 hf
  refine ww_cSi h (c_X10_in l D ev cy p0 (4 : Int32) (80 : Int32) _ hu2) ⟨w_1333, w_1331, w_1332, w_111, ok_X10_in⟩ ⟨by decide, by decide⟩ ⟨by decide, by decide⟩ ⟨rfl, rfl⟩ [] rfl rfl (Nat.le_of_ble_eq_true rfl) dX10_width_4 7 rfl (Gs' := [gX10 cy oM aM M]) rfl ?_
  clear hu2
  have hJ31_3 : ∀ (_ : Unit), j_X10_width_31_3 M = some o → ww X D A 2 Q 0 0 31 [] [] [gX10 cy oM aM M] := by
    intro _ hf
    unfold j_X10_width_31_3 at hf
    refine ww_iconst (v := (-1)) h dX10_width_31 (by decide) 32 rfl ?_
    obtain rfl := Option.some.inj hf
    exact ww_iret h dX10_width_32 hQ ⟨rfl, rfl⟩
  refine ww_if_eq h dX10_width_7 31 (by decide) 10 rfl (fun c => ?_) (fun c => ?_)
  · replace hf := ite_t c hf
    refine ww_lo [] (lo' := []) rfl ?_
    exact hJ31_3 () hf
  · replace hf := ite_f c hf
    refine ww_iload_n h dX10_width_10 rfl 1 rfl 11 rfl ?_
    refine ww_aload_n h dX10_width_11 rfl 0 rfl 12 rfl ?_
    refine ww_get h inG10 rfl 0 rfl rfl 8 (by decide) w_1165 rfl dX10_width_12 15 rfl ?_
    refine ww_bipush (v := 81) h dX10_width_15 (by decide) 17 rfl ?_
    have hi := (gd_some hf).1
    replace hf := (gd_some hf).2
    refine ww_iald h 0 rfl 8 rfl (ix_in hi) dX10_width_17 18 rfl ?_
    clear hi
    refine ww_icmp_eq h dX10_width_18 31 (by decide) 21 rfl (fun c => ?_) (fun c => ?_)
    · replace hf := ite_t c hf
      refine ww_lo [] (lo' := []) rfl ?_
      exact hJ31_3 () hf
    · replace hf := ite_f c hf
      refine ww_aload_n h dX10_width_21 rfl 0 rfl 22 rfl ?_
      refine ww_bipush (v := 81) h dX10_width_22 (by decide) 24 rfl ?_
      refine ww_iload_n h dX10_width_24 rfl 1 rfl 25 rfl ?_
      obtain ⟨r_4, M_5, hu6, hf⟩ := ob2 hf
      refine ww_cVi h (c_X10_becomes l D ev cy oM aM M (81 : Int32) p0 _ hu6) ⟨w_1397, w_1394, w_1396, w_48, w_111, ok_X10_becomes⟩ ⟨by decide, by decide⟩ ⟨by decide, by decide⟩ ⟨rfl, rfl⟩ [0] rfl 0 rfl rfl rfl rfl (Nat.le_of_ble_eq_true rfl) dX10_width_25 28 rfl (Gs' := [gX10 cy oM aM M_5]) rfl ?_
      clear hu6
      refine ww_goto h dX10_width_28 32 (by decide) ?_
      obtain rfl := Option.some.inj hf
      exact ww_iret h dX10_width_32 hQ ⟨rfl, rfl⟩
theorem dX10_pair_0 : decode cX10_pair 0 = .ok (.aload_n 0, 1) := by decide +kernel
theorem dX10_pair_1 : decode cX10_pair 1 = .ok (.iload_n 1, 1) := by decide +kernel
theorem dX10_pair_2 : decode cX10_pair 2 = .ok (.invokevirtual 151, 3) := by decide +kernel
theorem dX10_pair_5 : decode cX10_pair 5 = .ok (.ifCond .eq 29, 3) := by decide +kernel
theorem dX10_pair_8 : decode cX10_pair 8 = .ok (.aload_n 0, 1) := by decide +kernel
theorem dX10_pair_9 : decode cX10_pair 9 = .ok (.iload_n 2, 1) := by decide +kernel
theorem dX10_pair_10 : decode cX10_pair 10 = .ok (.invokevirtual 151, 3) := by decide +kernel
theorem dX10_pair_13 : decode cX10_pair 13 = .ok (.ifCond .eq 21, 3) := by decide +kernel
theorem dX10_pair_16 : decode cX10_pair 16 = .ok (.aload_n 0, 1) := by decide +kernel
theorem dX10_pair_17 : decode cX10_pair 17 = .ok (.iload_n 1, 1) := by decide +kernel
theorem dX10_pair_18 : decode cX10_pair 18 = .ok (.iload_n 2, 1) := by decide +kernel
theorem dX10_pair_19 : decode cX10_pair 19 = .ok (.invokevirtual 180, 3) := by decide +kernel
theorem dX10_pair_22 : decode cX10_pair 22 = .ok (.ifCond .ne 14, 3) := by decide +kernel
theorem dX10_pair_25 : decode cX10_pair 25 = .ok (.aload_n 0, 1) := by decide +kernel
theorem dX10_pair_26 : decode cX10_pair 26 = .ok (.invokevirtual 183, 3) := by decide +kernel
theorem dX10_pair_29 : decode cX10_pair 29 = .ok (.bipush 12, 2) := by decide +kernel
theorem dX10_pair_31 : decode cX10_pair 31 = .ok (.if_icmp .ne 5, 3) := by decide +kernel
theorem dX10_pair_34 : decode cX10_pair 34 = .ok (.iconst (-1), 1) := by decide +kernel
theorem dX10_pair_35 : decode cX10_pair 35 = .ok (.ireturn, 1) := by decide +kernel
theorem dX10_pair_36 : decode cX10_pair 36 = .ok (.aload_n 0, 1) := by decide +kernel
theorem dX10_pair_37 : decode cX10_pair 37 = .ok (.bipush 87, 2) := by decide +kernel
theorem dX10_pair_39 : decode cX10_pair 39 = .ok (.iload_n 1, 1) := by decide +kernel
theorem dX10_pair_40 : decode cX10_pair 40 = .ok (.iadd, 1) := by decide +kernel
theorem dX10_pair_41 : decode cX10_pair 41 = .ok (.aload_n 0, 1) := by decide +kernel
theorem dX10_pair_42 : decode cX10_pair 42 = .ok (.getfield 36, 3) := by decide +kernel
theorem dX10_pair_45 : decode cX10_pair 45 = .ok (.bipush 87, 2) := by decide +kernel
theorem dX10_pair_47 : decode cX10_pair 47 = .ok (.iload_n 1, 1) := by decide +kernel
theorem dX10_pair_48 : decode cX10_pair 48 = .ok (.iadd, 1) := by decide +kernel
theorem dX10_pair_49 : decode cX10_pair 49 = .ok (.iaload, 1) := by decide +kernel
theorem dX10_pair_50 : decode cX10_pair 50 = .ok (.iconst 1, 1) := by decide +kernel
theorem dX10_pair_51 : decode cX10_pair 51 = .ok (.iload_n 2, 1) := by decide +kernel
theorem dX10_pair_52 : decode cX10_pair 52 = .ok (.ishl, 1) := by decide +kernel
theorem dX10_pair_53 : decode cX10_pair 53 = .ok (.ixor, 1) := by decide +kernel
theorem dX10_pair_54 : decode cX10_pair 54 = .ok (.invokevirtual 176, 3) := by decide +kernel
theorem dX10_pair_57 : decode cX10_pair 57 = .ok (.pop, 1) := by decide +kernel
theorem dX10_pair_58 : decode cX10_pair 58 = .ok (.aload_n 0, 1) := by decide +kernel
theorem dX10_pair_59 : decode cX10_pair 59 = .ok (.iload_n 1, 1) := by decide +kernel
theorem dX10_pair_60 : decode cX10_pair 60 = .ok (.iload_n 2, 1) := by decide +kernel
theorem dX10_pair_61 : decode cX10_pair 61 = .ok (.invokevirtual 180, 3) := by decide +kernel
theorem dX10_pair_64 : decode cX10_pair 64 = .ok (.ifCond .eq 7, 3) := by decide +kernel
theorem dX10_pair_67 : decode cX10_pair 67 = .ok (.iconst 1, 1) := by decide +kernel
theorem dX10_pair_68 : decode cX10_pair 68 = .ok (.goto 4, 3) := by decide +kernel
theorem dX10_pair_71 : decode cX10_pair 71 = .ok (.iconst 0, 1) := by decide +kernel
theorem dX10_pair_72 : decode cX10_pair 72 = .ok (.ireturn, 1) := by decide +kernel
theorem ok_X10_pair : okY RX10 yX10_pair 2 := ⟨rfl, by decide, by decide, by decide +kernel⟩
def j_X10_pair_36_7 (M : OV) (p0 : Int32) (p1 : Int32) : Option (Int32 × OV) := gd (ix ((87 : Int32) + p0) 113) ((f_X10_becomes M ((87 : Int32) + p0) ((ar M 8 ((87 : Int32) + p0).toNatClampNeg) ^^^ ((1 : Int32) <<< (p1 &&& 31)))).bind (un2 (fun r_8 M_9 => (f_X10_arePair M_9 p0 p1).bind (un1 (fun r_11 => (if r_11 = 0 then some ((0 : Int32), M_9) else some ((1 : Int32), M_9)))))))
def f_X10_pair (M : OV) (p0 : Int32) (p1 : Int32) : Option (Int32 × OV) := (f_X10_isTold M p0).bind (un1 (fun r_1 => (if r_1 = 0 then some ((-1 : Int32), M) else (f_X10_isTold M p1).bind (un1 (fun r_3 => (if r_3 = 0 then some ((-1 : Int32), M) else (f_X10_arePair M p0 p1).bind (un1 (fun r_5 => (if r_5 = 0 then (f_X10_pairs M).bind (un1 (fun r_13 => (if r_13 = (12 : Int32) then some ((-1 : Int32), M) else j_X10_pair_36_7 M p0 p1))) else j_X10_pair_36_7 M p0 p1)))))))))
def r_X10_pair : Room := { frames := 2, cells := 0, slots := 0, locals := 44 }
set_option maxHeartbeats 4000000 in
set_option maxRecDepth 100000 in
theorem c_X10_pair (l : Launch) (D : va_G) (ev : EvT) (cy : Nat → ClassId) (oM : Nat) (aM : Nat → Nat) (M : OV) (p0 : Int32) (p1 : Int32) (o : Int32 × OV) (hf : f_X10_pair M p0 p1 = some o) : Fn l yX10_pair cX10_pair 3 (some .int) r_X10_pair D ev cy [.ref oM, .int p0, .int p1] [gX10 cy oM aM M] (fun v G => v = some (.int o.1) ∧ G = [gX10 cy oM aM o.2]) := by
  refine Fn_of (by decide) (Nat.le_of_ble_eq_true rfl) (fun X A Q h hQ _ => ?_)
  unfold f_X10_pair at hf
  show ww X D A 3 Q 0 0 0 [(0, .ref oM), (1, .int p0), (2, .int p1)] [] [gX10 cy oM aM M]
  refine ww_aload_n h dX10_pair_0 rfl 0 rfl 1 rfl ?_
  refine ww_iload_n h dX10_pair_1 rfl 1 rfl 2 rfl ?_
  obtain ⟨r_1, hu2, hf⟩ := ob1 hf
  refine ww_cVi h (c_X10_isTold l D ev cy oM aM M p0 _ hu2) ⟨w_1337, w_1334, w_1336, w_38, w_111, ok_X10_isTold⟩ ⟨by decide, by decide⟩ ⟨by decide, by decide⟩ ⟨rfl, rfl⟩ [0] rfl 0 rfl rfl rfl rfl (Nat.le_of_ble_eq_true rfl) dX10_pair_2 5 rfl (Gs' := [gX10 cy oM aM M]) rfl ?_
  clear hu2
  refine ww_if_eq h dX10_pair_5 34 (by decide) 8 rfl (fun c => ?_) (fun c => ?_)
  · replace hf := ite_t c hf
    refine ww_iconst (v := (-1)) h dX10_pair_34 (by decide) 35 rfl ?_
    obtain rfl := Option.some.inj hf
    exact ww_iret h dX10_pair_35 hQ ⟨rfl, rfl⟩
  · replace hf := ite_f c hf
    refine ww_aload_n h dX10_pair_8 rfl 0 rfl 9 rfl ?_
    refine ww_iload_n h dX10_pair_9 rfl 2 rfl 10 rfl ?_
    obtain ⟨r_3, hu4, hf⟩ := ob1 hf
    refine ww_cVi h (c_X10_isTold l D ev cy oM aM M p1 _ hu4) ⟨w_1337, w_1334, w_1336, w_38, w_111, ok_X10_isTold⟩ ⟨by decide, by decide⟩ ⟨by decide, by decide⟩ ⟨rfl, rfl⟩ [0] rfl 0 rfl rfl rfl rfl (Nat.le_of_ble_eq_true rfl) dX10_pair_10 13 rfl (Gs' := [gX10 cy oM aM M]) rfl ?_
    clear hu4
    refine ww_if_eq h dX10_pair_13 34 (by decide) 16 rfl (fun c => ?_) (fun c => ?_)
    · replace hf := ite_t c hf
      refine ww_iconst (v := (-1)) h dX10_pair_34 (by decide) 35 rfl ?_
      obtain rfl := Option.some.inj hf
      exact ww_iret h dX10_pair_35 hQ ⟨rfl, rfl⟩
    · replace hf := ite_f c hf
      refine ww_aload_n h dX10_pair_16 rfl 0 rfl 17 rfl ?_
      refine ww_iload_n h dX10_pair_17 rfl 1 rfl 18 rfl ?_
      refine ww_iload_n h dX10_pair_18 rfl 2 rfl 19 rfl ?_
      obtain ⟨r_5, hu6, hf⟩ := ob1 hf
      refine ww_cVi h (c_X10_arePair l D ev cy oM aM M p0 p1 _ hu6) ⟨w_1409, w_1406, w_1408, w_49, w_111, ok_X10_arePair⟩ ⟨by decide, by decide⟩ ⟨by decide, by decide⟩ ⟨rfl, rfl⟩ [0] rfl 0 rfl rfl rfl rfl (Nat.le_of_ble_eq_true rfl) dX10_pair_19 22 rfl (Gs' := [gX10 cy oM aM M]) rfl ?_
      clear hu6
      have hJ36_7 : ∀ (_ : Unit), j_X10_pair_36_7 M p0 p1 = some o → ww X D A 3 Q 0 0 36 [(0, .ref oM), (1, .int p0), (2, .int p1)] [] [gX10 cy oM aM M] := by
        intro _ hf
        unfold j_X10_pair_36_7 at hf
        refine ww_aload_n h dX10_pair_36 rfl 0 rfl 37 rfl ?_
        refine ww_bipush (v := 87) h dX10_pair_37 (by decide) 39 rfl ?_
        refine ww_iload_n h dX10_pair_39 rfl 1 rfl 40 rfl ?_
        refine ww_iadd h dX10_pair_40 41 rfl ?_
        refine ww_aload_n h dX10_pair_41 rfl 0 rfl 42 rfl ?_
        refine ww_get h inG10 rfl 0 rfl rfl 8 (by decide) w_1165 rfl dX10_pair_42 45 rfl ?_
        refine ww_bipush (v := 87) h dX10_pair_45 (by decide) 47 rfl ?_
        refine ww_iload_n h dX10_pair_47 rfl 1 rfl 48 rfl ?_
        refine ww_iadd h dX10_pair_48 49 rfl ?_
        have hi := (gd_some hf).1
        replace hf := (gd_some hf).2
        refine ww_iald h 0 rfl 8 rfl (ix_in hi) dX10_pair_49 50 rfl ?_
        clear hi
        refine ww_iconst (v := 1) h dX10_pair_50 (by decide) 51 rfl ?_
        refine ww_iload_n h dX10_pair_51 rfl 2 rfl 52 rfl ?_
        refine ww_ishl h dX10_pair_52 53 rfl ?_
        refine ww_ixor h dX10_pair_53 54 rfl ?_
        obtain ⟨r_8, M_9, hu10, hf⟩ := ob2 hf
        refine ww_cVi h (c_X10_becomes l D ev cy oM aM M ((87 : Int32) + p0) ((ar M 8 ((87 : Int32) + p0).toNatClampNeg) ^^^ ((1 : Int32) <<< (p1 &&& 31))) _ hu10) ⟨w_1397, w_1394, w_1396, w_48, w_111, ok_X10_becomes⟩ ⟨by decide, by decide⟩ ⟨by decide, by decide⟩ ⟨rfl, rfl⟩ [0] rfl 0 rfl rfl rfl rfl (Nat.le_of_ble_eq_true rfl) dX10_pair_54 57 rfl (Gs' := [gX10 cy oM aM M_9]) rfl ?_
        clear hu10
        refine ww_pop h dX10_pair_57 rfl 58 rfl ?_
        refine ww_aload_n h dX10_pair_58 rfl 0 rfl 59 rfl ?_
        refine ww_iload_n h dX10_pair_59 rfl 1 rfl 60 rfl ?_
        refine ww_iload_n h dX10_pair_60 rfl 2 rfl 61 rfl ?_
        obtain ⟨r_11, hu12, hf⟩ := ob1 hf
        refine ww_cVi h (c_X10_arePair l D ev cy oM aM M_9 p0 p1 _ hu12) ⟨w_1409, w_1406, w_1408, w_49, w_111, ok_X10_arePair⟩ ⟨by decide, by decide⟩ ⟨by decide, by decide⟩ ⟨rfl, rfl⟩ [0] rfl 0 rfl rfl rfl rfl (Nat.le_of_ble_eq_true rfl) dX10_pair_61 64 rfl (Gs' := [gX10 cy oM aM M_9]) rfl ?_
        clear hu12
        refine ww_if_eq h dX10_pair_64 71 (by decide) 67 rfl (fun c => ?_) (fun c => ?_)
        · replace hf := ite_t c hf
          refine ww_iconst (v := 0) h dX10_pair_71 (by decide) 72 rfl ?_
          obtain rfl := Option.some.inj hf
          exact ww_iret h dX10_pair_72 hQ ⟨rfl, rfl⟩
        · replace hf := ite_f c hf
          refine ww_iconst (v := 1) h dX10_pair_67 (by decide) 68 rfl ?_
          refine ww_goto h dX10_pair_68 72 (by decide) ?_
          obtain rfl := Option.some.inj hf
          exact ww_iret h dX10_pair_72 hQ ⟨rfl, rfl⟩
      refine ww_if_ne h dX10_pair_22 36 (by decide) 25 rfl (fun c => ?_) (fun c => ?_)
      · replace hf := ite_f c hf
        exact hJ36_7 () hf
      · replace hf := ite_t c hf
        refine ww_aload_n h dX10_pair_25 rfl 0 rfl 26 rfl ?_
        obtain ⟨r_13, hu14, hf⟩ := ob1 hf
        refine ww_cVi h (c_X10_pairs l D ev cy oM aM M _ hu14) ⟨w_1416, w_1413, w_1415, w_50, w_111, ok_X10_pairs⟩ ⟨by decide, by decide⟩ ⟨by decide, by decide⟩ ⟨rfl, rfl⟩ [0] rfl 0 rfl rfl rfl rfl (Nat.le_of_ble_eq_true rfl) dX10_pair_26 29 rfl (Gs' := [gX10 cy oM aM M]) rfl ?_
        clear hu14
        refine ww_bipush (v := 12) h dX10_pair_29 (by decide) 31 rfl ?_
        refine ww_icmp_ne h dX10_pair_31 36 (by decide) 34 rfl (fun c => ?_) (fun c => ?_)
        · replace hf := ite_f c hf
          exact hJ36_7 () hf
        · replace hf := ite_t c hf
          refine ww_iconst (v := (-1)) h dX10_pair_34 (by decide) 35 rfl ?_
          obtain rfl := Option.some.inj hf
          exact ww_iret h dX10_pair_35 hQ ⟨rfl, rfl⟩
theorem dX10_shy_0 : decode cX10_shy 0 = .ok (.aload_n 0, 1) := by decide +kernel
theorem dX10_shy_1 : decode cX10_shy 1 = .ok (.iload_n 1, 1) := by decide +kernel
theorem dX10_shy_2 : decode cX10_shy 2 = .ok (.invokevirtual 151, 3) := by decide +kernel
theorem dX10_shy_5 : decode cX10_shy 5 = .ok (.ifCond .ne 5, 3) := by decide +kernel
theorem dX10_shy_8 : decode cX10_shy 8 = .ok (.iconst (-1), 1) := by decide +kernel
theorem dX10_shy_9 : decode cX10_shy 9 = .ok (.ireturn, 1) := by decide +kernel
theorem dX10_shy_10 : decode cX10_shy 10 = .ok (.iload_n 2, 1) := by decide +kernel
theorem dX10_shy_11 : decode cX10_shy 11 = .ok (.ifCond .eq 8, 3) := by decide +kernel
theorem dX10_shy_14 : decode cX10_shy 14 = .ok (.bipush 83, 2) := by decide +kernel
theorem dX10_shy_16 : decode cX10_shy 16 = .ok (.goto 5, 3) := by decide +kernel
theorem dX10_shy_19 : decode cX10_shy 19 = .ok (.bipush 82, 2) := by decide +kernel
theorem dX10_shy_21 : decode cX10_shy 21 = .ok (.istore_n 3, 1) := by decide +kernel
theorem dX10_shy_22 : decode cX10_shy 22 = .ok (.aload_n 0, 1) := by decide +kernel
theorem dX10_shy_23 : decode cX10_shy 23 = .ok (.iload_n 3, 1) := by decide +kernel
theorem dX10_shy_24 : decode cX10_shy 24 = .ok (.aload_n 0, 1) := by decide +kernel
theorem dX10_shy_25 : decode cX10_shy 25 = .ok (.getfield 36, 3) := by decide +kernel
theorem dX10_shy_28 : decode cX10_shy 28 = .ok (.iload_n 3, 1) := by decide +kernel
theorem dX10_shy_29 : decode cX10_shy 29 = .ok (.iaload, 1) := by decide +kernel
theorem dX10_shy_30 : decode cX10_shy 30 = .ok (.iconst 1, 1) := by decide +kernel
theorem dX10_shy_31 : decode cX10_shy 31 = .ok (.iload_n 1, 1) := by decide +kernel
theorem dX10_shy_32 : decode cX10_shy 32 = .ok (.ishl, 1) := by decide +kernel
theorem dX10_shy_33 : decode cX10_shy 33 = .ok (.ixor, 1) := by decide +kernel
theorem dX10_shy_34 : decode cX10_shy 34 = .ok (.invokevirtual 176, 3) := by decide +kernel
theorem dX10_shy_37 : decode cX10_shy 37 = .ok (.pop, 1) := by decide +kernel
theorem dX10_shy_38 : decode cX10_shy 38 = .ok (.aload_n 0, 1) := by decide +kernel
theorem dX10_shy_39 : decode cX10_shy 39 = .ok (.getfield 36, 3) := by decide +kernel
theorem dX10_shy_42 : decode cX10_shy 42 = .ok (.iload_n 3, 1) := by decide +kernel
theorem dX10_shy_43 : decode cX10_shy 43 = .ok (.iaload, 1) := by decide +kernel
theorem dX10_shy_44 : decode cX10_shy 44 = .ok (.iload_n 1, 1) := by decide +kernel
theorem dX10_shy_45 : decode cX10_shy 45 = .ok (.invokestatic 136, 3) := by decide +kernel
theorem dX10_shy_48 : decode cX10_shy 48 = .ok (.ifCond .eq 7, 3) := by decide +kernel
theorem dX10_shy_51 : decode cX10_shy 51 = .ok (.iconst 1, 1) := by decide +kernel
theorem dX10_shy_52 : decode cX10_shy 52 = .ok (.goto 4, 3) := by decide +kernel
theorem dX10_shy_55 : decode cX10_shy 55 = .ok (.iconst 0, 1) := by decide +kernel
theorem dX10_shy_56 : decode cX10_shy 56 = .ok (.ireturn, 1) := by decide +kernel
theorem ok_X10_shy : okY RX10 yX10_shy 2 := ⟨rfl, by decide, by decide, by decide +kernel⟩
def j_X10_shy_21_4 (M : OV) (p0 : Int32) (t_3 : Int32) : Option (Int32 × OV) := bnd t_3 (fun v3_5 => gd (ix v3_5 113) ((f_X10_becomes M v3_5 ((ar M 8 v3_5.toNatClampNeg) ^^^ ((1 : Int32) <<< (p0 &&& 31)))).bind (un2 (fun r_6 M_7 => gd (ix v3_5 113) ((f_X10_isIn (ar M_7 8 v3_5.toNatClampNeg) p0).bind (un1 (fun r_9 => (if r_9 = 0 then some ((0 : Int32), M_7) else some ((1 : Int32), M_7)))))))))
def f_X10_shy (M : OV) (p0 : Int32) (p1 : Int32) : Option (Int32 × OV) := (f_X10_isTold M p0).bind (un1 (fun r_1 => (if r_1 = 0 then some ((-1 : Int32), M) else (if p1 = 0 then j_X10_shy_21_4 M p0 (82 : Int32) else j_X10_shy_21_4 M p0 (83 : Int32)))))
def r_X10_shy : Room := { frames := 2, cells := 0, slots := 0, locals := 44 }
set_option maxHeartbeats 4000000 in
set_option maxRecDepth 100000 in
theorem c_X10_shy (l : Launch) (D : va_G) (ev : EvT) (cy : Nat → ClassId) (oM : Nat) (aM : Nat → Nat) (M : OV) (p0 : Int32) (p1 : Int32) (o : Int32 × OV) (hf : f_X10_shy M p0 p1 = some o) : Fn l yX10_shy cX10_shy 4 (some .int) r_X10_shy D ev cy [.ref oM, .int p0, .int p1] [gX10 cy oM aM M] (fun v G => v = some (.int o.1) ∧ G = [gX10 cy oM aM o.2]) := by
  refine Fn_of (by decide) (Nat.le_of_ble_eq_true rfl) (fun X A Q h hQ _ => ?_)
  unfold f_X10_shy at hf
  show ww X D A 4 Q 0 0 0 [(0, .ref oM), (1, .int p0), (2, .int p1)] [] [gX10 cy oM aM M]
  refine ww_aload_n h dX10_shy_0 rfl 0 rfl 1 rfl ?_
  refine ww_iload_n h dX10_shy_1 rfl 1 rfl 2 rfl ?_
  obtain ⟨r_1, hu2, hf⟩ := ob1 hf
  refine ww_cVi h (c_X10_isTold l D ev cy oM aM M p0 _ hu2) ⟨w_1337, w_1334, w_1336, w_38, w_111, ok_X10_isTold⟩ ⟨by decide, by decide⟩ ⟨by decide, by decide⟩ ⟨rfl, rfl⟩ [0] rfl 0 rfl rfl rfl rfl (Nat.le_of_ble_eq_true rfl) dX10_shy_2 5 rfl (Gs' := [gX10 cy oM aM M]) rfl ?_
  clear hu2
  refine ww_if_ne h dX10_shy_5 10 (by decide) 8 rfl (fun c => ?_) (fun c => ?_)
  · replace hf := ite_f c hf
    refine ww_iload_n h dX10_shy_10 rfl 2 rfl 11 rfl ?_
    have hJ21_4 : ∀ (t_3 : Int32), j_X10_shy_21_4 M p0 t_3 = some o → ww X D A 4 Q 0 0 21 [(0, .ref oM), (1, .int p0)] [.int t_3] [gX10 cy oM aM M] := by
      intro t_3 hf
      unfold j_X10_shy_21_4 at hf
      refine ww_ist_n h dX10_shy_21 rfl (by decide) (fun v3_5 => [(3, .int v3_5), (0, .ref oM), (1, .int p0)]) (fun _ => rfl) 22 rfl (fun v3_5 e => ?_)
      replace hf := bnd_at e hf
      clear e
      refine ww_aload_n h dX10_shy_22 rfl 1 rfl 23 rfl ?_
      refine ww_iload_n h dX10_shy_23 rfl 0 rfl 24 rfl ?_
      refine ww_aload_n h dX10_shy_24 rfl 1 rfl 25 rfl ?_
      refine ww_get h inG10 rfl 0 rfl rfl 8 (by decide) w_1165 rfl dX10_shy_25 28 rfl ?_
      refine ww_iload_n h dX10_shy_28 rfl 0 rfl 29 rfl ?_
      have hi := (gd_some hf).1
      replace hf := (gd_some hf).2
      refine ww_iald h 0 rfl 8 rfl (ix_in hi) dX10_shy_29 30 rfl ?_
      clear hi
      refine ww_iconst (v := 1) h dX10_shy_30 (by decide) 31 rfl ?_
      refine ww_iload_n h dX10_shy_31 rfl 2 rfl 32 rfl ?_
      refine ww_ishl h dX10_shy_32 33 rfl ?_
      refine ww_ixor h dX10_shy_33 34 rfl ?_
      obtain ⟨r_6, M_7, hu8, hf⟩ := ob2 hf
      refine ww_cVi h (c_X10_becomes l D ev cy oM aM M v3_5 ((ar M 8 v3_5.toNatClampNeg) ^^^ ((1 : Int32) <<< (p0 &&& 31))) _ hu8) ⟨w_1397, w_1394, w_1396, w_48, w_111, ok_X10_becomes⟩ ⟨by decide, by decide⟩ ⟨by decide, by decide⟩ ⟨rfl, rfl⟩ [0] rfl 0 rfl rfl rfl rfl (Nat.le_of_ble_eq_true rfl) dX10_shy_34 37 rfl (Gs' := [gX10 cy oM aM M_7]) rfl ?_
      clear hu8
      refine ww_pop h dX10_shy_37 rfl 38 rfl ?_
      refine ww_aload_n h dX10_shy_38 rfl 1 rfl 39 rfl ?_
      refine ww_get h inG10 rfl 0 rfl rfl 8 (by decide) w_1165 rfl dX10_shy_39 42 rfl ?_
      refine ww_iload_n h dX10_shy_42 rfl 0 rfl 43 rfl ?_
      have hi := (gd_some hf).1
      replace hf := (gd_some hf).2
      refine ww_iald h 0 rfl 8 rfl (ix_in hi) dX10_shy_43 44 rfl ?_
      clear hi
      refine ww_iload_n h dX10_shy_44 rfl 2 rfl 45 rfl ?_
      obtain ⟨r_9, hu10, hf⟩ := ob1 hf
      refine ww_cSi h (c_X10_isIn l D ev cy (ar M_7 8 v3_5.toNatClampNeg) p0 _ hu10) ⟨w_1412, w_1410, w_1411, w_111, ok_X10_isIn⟩ ⟨by decide, by decide⟩ ⟨by decide, by decide⟩ ⟨rfl, rfl⟩ [] rfl rfl (Nat.le_of_ble_eq_true rfl) dX10_shy_45 48 rfl (Gs' := [gX10 cy oM aM M_7]) rfl ?_
      clear hu10
      refine ww_if_eq h dX10_shy_48 55 (by decide) 51 rfl (fun c => ?_) (fun c => ?_)
      · replace hf := ite_t c hf
        refine ww_iconst (v := 0) h dX10_shy_55 (by decide) 56 rfl ?_
        obtain rfl := Option.some.inj hf
        exact ww_iret h dX10_shy_56 hQ ⟨rfl, rfl⟩
      · replace hf := ite_f c hf
        refine ww_iconst (v := 1) h dX10_shy_51 (by decide) 52 rfl ?_
        refine ww_goto h dX10_shy_52 56 (by decide) ?_
        obtain rfl := Option.some.inj hf
        exact ww_iret h dX10_shy_56 hQ ⟨rfl, rfl⟩
    refine ww_if_eq h dX10_shy_11 19 (by decide) 14 rfl (fun c => ?_) (fun c => ?_)
    · replace hf := ite_t c hf
      refine ww_bipush (v := 82) h dX10_shy_19 (by decide) 21 rfl ?_
      refine ww_lo [0, 1] (lo' := [(0, .ref oM), (1, .int p0)]) rfl ?_
      exact hJ21_4 (82 : Int32) hf
    · replace hf := ite_f c hf
      refine ww_bipush (v := 83) h dX10_shy_14 (by decide) 16 rfl ?_
      refine ww_goto h dX10_shy_16 21 (by decide) ?_
      refine ww_lo [0, 1] (lo' := [(0, .ref oM), (1, .int p0)]) rfl ?_
      exact hJ21_4 (83 : Int32) hf
  · replace hf := ite_t c hf
    refine ww_iconst (v := (-1)) h dX10_shy_8 (by decide) 9 rfl ?_
    obtain rfl := Option.some.inj hf
    exact ww_iret h dX10_shy_9 hQ ⟨rfl, rfl⟩
theorem dX10_leastWeight_0 : decode cX10_leastWeight 0 = .ok (.iload_n 0, 1) := by decide +kernel
theorem dX10_leastWeight_1 : decode cX10_leastWeight 1 = .ok (.ifCond .ne 7, 3) := by decide +kernel
theorem dX10_leastWeight_4 : decode cX10_leastWeight 4 = .ok (.iconst 0, 1) := by decide +kernel
theorem dX10_leastWeight_5 : decode cX10_leastWeight 5 = .ok (.goto 4, 3) := by decide +kernel
theorem dX10_leastWeight_8 : decode cX10_leastWeight 8 = .ok (.iconst 1, 1) := by decide +kernel
theorem dX10_leastWeight_9 : decode cX10_leastWeight 9 = .ok (.ireturn, 1) := by decide +kernel
theorem ok_X10_leastWeight : okY RX10 yX10_leastWeight 1 := ⟨rfl, by decide, by decide, by decide +kernel⟩
def f_X10_leastWeight (p0 : Int32) : Option (Int32) := (if p0 = 0 then some (0 : Int32) else some (1 : Int32))
def r_X10_leastWeight : Room := { frames := 0, cells := 0, slots := 0, locals := 0 }
set_option maxHeartbeats 4000000 in
set_option maxRecDepth 100000 in
theorem c_X10_leastWeight (l : Launch) (D : va_G) (ev : EvT) (cy : Nat → ClassId) (p0 : Int32) (o : Int32) (hf : f_X10_leastWeight p0 = some o) : Fn l yX10_leastWeight cX10_leastWeight 1 (some .int) r_X10_leastWeight D ev cy [.int p0] [] (fun v G => v = some (.int o) ∧ G = []) := by
  refine Fn_of (by decide) (Nat.le_of_ble_eq_true rfl) (fun X A Q h hQ _ => ?_)
  unfold f_X10_leastWeight at hf
  show ww X D A 1 Q 0 0 0 [(0, .int p0)] [] []
  refine ww_iload_n h dX10_leastWeight_0 rfl 0 rfl 1 rfl ?_
  refine ww_if_ne h dX10_leastWeight_1 8 (by decide) 4 rfl (fun c => ?_) (fun c => ?_)
  · replace hf := ite_f c hf
    refine ww_iconst (v := 1) h dX10_leastWeight_8 (by decide) 9 rfl ?_
    obtain rfl := Option.some.inj hf
    exact ww_iret h dX10_leastWeight_9 hQ ⟨rfl, rfl⟩
  · replace hf := ite_t c hf
    refine ww_iconst (v := 0) h dX10_leastWeight_4 (by decide) 5 rfl ?_
    refine ww_goto h dX10_leastWeight_5 9 (by decide) ?_
    obtain rfl := Option.some.inj hf
    exact ww_iret h dX10_leastWeight_9 hQ ⟨rfl, rfl⟩
theorem dX10_mostWeight_0 : decode cX10_mostWeight 0 = .ok (.iload_n 0, 1) := by decide +kernel
theorem dX10_mostWeight_1 : decode cX10_mostWeight 1 = .ok (.ifCond .ne 8, 3) := by decide +kernel
theorem dX10_mostWeight_4 : decode cX10_mostWeight 4 = .ok (.bipush 9, 2) := by decide +kernel
theorem dX10_mostWeight_6 : decode cX10_mostWeight 6 = .ok (.goto 16, 3) := by decide +kernel
theorem dX10_mostWeight_9 : decode cX10_mostWeight 9 = .ok (.iload_n 0, 1) := by decide +kernel
theorem dX10_mostWeight_10 : decode cX10_mostWeight 10 = .ok (.iconst 1, 1) := by decide +kernel
theorem dX10_mostWeight_11 : decode cX10_mostWeight 11 = .ok (.if_icmp .ne 8, 3) := by decide +kernel
theorem dX10_mostWeight_14 : decode cX10_mostWeight 14 = .ok (.bipush 99, 2) := by decide +kernel
theorem dX10_mostWeight_16 : decode cX10_mostWeight 16 = .ok (.goto 6, 3) := by decide +kernel
theorem dX10_mostWeight_19 : decode cX10_mostWeight 19 = .ok (.sipush 9999, 3) := by decide +kernel
theorem dX10_mostWeight_22 : decode cX10_mostWeight 22 = .ok (.ireturn, 1) := by decide +kernel
theorem ok_X10_mostWeight : okY RX10 yX10_mostWeight 1 := ⟨rfl, by decide, by decide, by decide +kernel⟩
def f_X10_mostWeight (p0 : Int32) : Option (Int32) := (if p0 = 0 then some (9 : Int32) else (if p0 = (1 : Int32) then some (99 : Int32) else some (9999 : Int32)))
def r_X10_mostWeight : Room := { frames := 0, cells := 0, slots := 0, locals := 0 }
set_option maxHeartbeats 4000000 in
set_option maxRecDepth 100000 in
theorem c_X10_mostWeight (l : Launch) (D : va_G) (ev : EvT) (cy : Nat → ClassId) (p0 : Int32) (o : Int32) (hf : f_X10_mostWeight p0 = some o) : Fn l yX10_mostWeight cX10_mostWeight 1 (some .int) r_X10_mostWeight D ev cy [.int p0] [] (fun v G => v = some (.int o) ∧ G = []) := by
  refine Fn_of (by decide) (Nat.le_of_ble_eq_true rfl) (fun X A Q h hQ _ => ?_)
  unfold f_X10_mostWeight at hf
  show ww X D A 1 Q 0 0 0 [(0, .int p0)] [] []
  refine ww_iload_n h dX10_mostWeight_0 rfl 0 rfl 1 rfl ?_
  refine ww_if_ne h dX10_mostWeight_1 9 (by decide) 4 rfl (fun c => ?_) (fun c => ?_)
  · replace hf := ite_f c hf
    refine ww_iload_n h dX10_mostWeight_9 rfl 0 rfl 10 rfl ?_
    refine ww_iconst (v := 1) h dX10_mostWeight_10 (by decide) 11 rfl ?_
    refine ww_icmp_ne h dX10_mostWeight_11 19 (by decide) 14 rfl (fun c => ?_) (fun c => ?_)
    · replace hf := ite_f c hf
      refine ww_sipush (v := 9999) h dX10_mostWeight_19 (by decide) 22 rfl ?_
      obtain rfl := Option.some.inj hf
      exact ww_iret h dX10_mostWeight_22 hQ ⟨rfl, rfl⟩
    · replace hf := ite_t c hf
      refine ww_bipush (v := 99) h dX10_mostWeight_14 (by decide) 16 rfl ?_
      refine ww_goto h dX10_mostWeight_16 22 (by decide) ?_
      obtain rfl := Option.some.inj hf
      exact ww_iret h dX10_mostWeight_22 hQ ⟨rfl, rfl⟩
  · replace hf := ite_t c hf
    refine ww_bipush (v := 9) h dX10_mostWeight_4 (by decide) 6 rfl ?_
    refine ww_goto h dX10_mostWeight_6 22 (by decide) ?_
    obtain rfl := Option.some.inj hf
    exact ww_iret h dX10_mostWeight_22 hQ ⟨rfl, rfl⟩
theorem dX10_weigh_0 : decode cX10_weigh 0 = .ok (.iload_n 1, 1) := by decide +kernel
theorem dX10_weigh_1 : decode cX10_weigh 1 = .ok (.iconst 0, 1) := by decide +kernel
theorem dX10_weigh_2 : decode cX10_weigh 2 = .ok (.iconst 2, 1) := by decide +kernel
theorem dX10_weigh_3 : decode cX10_weigh 3 = .ok (.invokestatic 125, 3) := by decide +kernel
theorem dX10_weigh_6 : decode cX10_weigh 6 = .ok (.ifCond .eq 31, 3) := by decide +kernel
theorem dX10_weigh_9 : decode cX10_weigh 9 = .ok (.iload_n 2, 1) := by decide +kernel
theorem dX10_weigh_10 : decode cX10_weigh 10 = .ok (.iload_n 1, 1) := by decide +kernel
theorem dX10_weigh_11 : decode cX10_weigh 11 = .ok (.invokestatic 186, 3) := by decide +kernel
theorem dX10_weigh_14 : decode cX10_weigh 14 = .ok (.iload_n 1, 1) := by decide +kernel
theorem dX10_weigh_15 : decode cX10_weigh 15 = .ok (.invokestatic 189, 3) := by decide +kernel
theorem dX10_weigh_18 : decode cX10_weigh 18 = .ok (.invokestatic 125, 3) := by decide +kernel
theorem dX10_weigh_21 : decode cX10_weigh 21 = .ok (.ifCond .eq 16, 3) := by decide +kernel
theorem dX10_weigh_24 : decode cX10_weigh 24 = .ok (.aload_n 0, 1) := by decide +kernel
theorem dX10_weigh_25 : decode cX10_weigh 25 = .ok (.getfield 36, 3) := by decide +kernel
theorem dX10_weigh_28 : decode cX10_weigh 28 = .ok (.bipush 84, 2) := by decide +kernel
theorem dX10_weigh_30 : decode cX10_weigh 30 = .ok (.iload_n 1, 1) := by decide +kernel
theorem dX10_weigh_31 : decode cX10_weigh 31 = .ok (.iadd, 1) := by decide +kernel
theorem dX10_weigh_32 : decode cX10_weigh 32 = .ok (.iaload, 1) := by decide +kernel
theorem dX10_weigh_33 : decode cX10_weigh 33 = .ok (.iload_n 2, 1) := by decide +kernel
theorem dX10_weigh_34 : decode cX10_weigh 34 = .ok (.if_icmp .ne 5, 3) := by decide +kernel
theorem dX10_weigh_37 : decode cX10_weigh 37 = .ok (.iconst (-1), 1) := by decide +kernel
theorem dX10_weigh_38 : decode cX10_weigh 38 = .ok (.ireturn, 1) := by decide +kernel
theorem dX10_weigh_39 : decode cX10_weigh 39 = .ok (.aload_n 0, 1) := by decide +kernel
theorem dX10_weigh_40 : decode cX10_weigh 40 = .ok (.bipush 84, 2) := by decide +kernel
theorem dX10_weigh_42 : decode cX10_weigh 42 = .ok (.iload_n 1, 1) := by decide +kernel
theorem dX10_weigh_43 : decode cX10_weigh 43 = .ok (.iadd, 1) := by decide +kernel
theorem dX10_weigh_44 : decode cX10_weigh 44 = .ok (.iload_n 2, 1) := by decide +kernel
theorem dX10_weigh_45 : decode cX10_weigh 45 = .ok (.invokevirtual 176, 3) := by decide +kernel
theorem dX10_weigh_48 : decode cX10_weigh 48 = .ok (.ireturn, 1) := by decide +kernel
theorem ok_X10_weigh : okY RX10 yX10_weigh 2 := ⟨rfl, by decide, by decide, by decide +kernel⟩
def f_X10_weigh (M : OV) (p0 : Int32) (p1 : Int32) : Option (Int32 × OV) := (f_X10_in p0 (0 : Int32) (2 : Int32)).bind (un1 (fun r_1 => (if r_1 = 0 then some ((-1 : Int32), M) else (f_X10_leastWeight p0).bind (un1 (fun r_3 => (f_X10_mostWeight p0).bind (un1 (fun r_5 => (f_X10_in p1 r_3 r_5).bind (un1 (fun r_7 => (if r_7 = 0 then some ((-1 : Int32), M) else gd (ix ((84 : Int32) + p0) 113) ((if (ar M 8 ((84 : Int32) + p0).toNatClampNeg) = p1 then some ((-1 : Int32), M) else (f_X10_becomes M ((84 : Int32) + p0) p1).bind (un2 (fun r_9 M_10 => some (r_9, M_10)))))))))))))))
def r_X10_weigh : Room := { frames := 2, cells := 0, slots := 0, locals := 44 }
set_option maxHeartbeats 4000000 in
set_option maxRecDepth 100000 in
theorem c_X10_weigh (l : Launch) (D : va_G) (ev : EvT) (cy : Nat → ClassId) (oM : Nat) (aM : Nat → Nat) (M : OV) (p0 : Int32) (p1 : Int32) (o : Int32 × OV) (hf : f_X10_weigh M p0 p1 = some o) : Fn l yX10_weigh cX10_weigh 3 (some .int) r_X10_weigh D ev cy [.ref oM, .int p0, .int p1] [gX10 cy oM aM M] (fun v G => v = some (.int o.1) ∧ G = [gX10 cy oM aM o.2]) := by
  refine Fn_of (by decide) (Nat.le_of_ble_eq_true rfl) (fun X A Q h hQ _ => ?_)
  unfold f_X10_weigh at hf
  show ww X D A 3 Q 0 0 0 [(0, .ref oM), (1, .int p0), (2, .int p1)] [] [gX10 cy oM aM M]
  refine ww_iload_n h dX10_weigh_0 rfl 1 rfl 1 rfl ?_
  refine ww_iconst (v := 0) h dX10_weigh_1 (by decide) 2 rfl ?_
  refine ww_iconst (v := 2) h dX10_weigh_2 (by decide) 3 rfl ?_
  obtain ⟨r_1, hu2, hf⟩ := ob1 hf
  refine ww_cSi h (c_X10_in l D ev cy p0 (0 : Int32) (2 : Int32) _ hu2) ⟨w_1333, w_1331, w_1332, w_111, ok_X10_in⟩ ⟨by decide, by decide⟩ ⟨by decide, by decide⟩ ⟨rfl, rfl⟩ [] rfl rfl (Nat.le_of_ble_eq_true rfl) dX10_weigh_3 6 rfl (Gs' := [gX10 cy oM aM M]) rfl ?_
  clear hu2
  refine ww_if_eq h dX10_weigh_6 37 (by decide) 9 rfl (fun c => ?_) (fun c => ?_)
  · replace hf := ite_t c hf
    refine ww_iconst (v := (-1)) h dX10_weigh_37 (by decide) 38 rfl ?_
    obtain rfl := Option.some.inj hf
    exact ww_iret h dX10_weigh_38 hQ ⟨rfl, rfl⟩
  · replace hf := ite_f c hf
    refine ww_iload_n h dX10_weigh_9 rfl 2 rfl 10 rfl ?_
    refine ww_iload_n h dX10_weigh_10 rfl 1 rfl 11 rfl ?_
    obtain ⟨r_3, hu4, hf⟩ := ob1 hf
    refine ww_cSi h (c_X10_leastWeight l D ev cy p0 _ hu4) ⟨w_1430, w_1428, w_1429, w_111, ok_X10_leastWeight⟩ ⟨by decide, by decide⟩ ⟨by decide, by decide⟩ ⟨rfl, rfl⟩ [] rfl rfl (Nat.le_of_ble_eq_true rfl) dX10_weigh_11 14 rfl (Gs' := [gX10 cy oM aM M]) rfl ?_
    clear hu4
    refine ww_iload_n h dX10_weigh_14 rfl 1 rfl 15 rfl ?_
    obtain ⟨r_5, hu6, hf⟩ := ob1 hf
    refine ww_cSi h (c_X10_mostWeight l D ev cy p0 _ hu6) ⟨w_1433, w_1431, w_1432, w_111, ok_X10_mostWeight⟩ ⟨by decide, by decide⟩ ⟨by decide, by decide⟩ ⟨rfl, rfl⟩ [] rfl rfl (Nat.le_of_ble_eq_true rfl) dX10_weigh_15 18 rfl (Gs' := [gX10 cy oM aM M]) rfl ?_
    clear hu6
    obtain ⟨r_7, hu8, hf⟩ := ob1 hf
    refine ww_cSi h (c_X10_in l D ev cy p1 r_3 r_5 _ hu8) ⟨w_1333, w_1331, w_1332, w_111, ok_X10_in⟩ ⟨by decide, by decide⟩ ⟨by decide, by decide⟩ ⟨rfl, rfl⟩ [] rfl rfl (Nat.le_of_ble_eq_true rfl) dX10_weigh_18 21 rfl (Gs' := [gX10 cy oM aM M]) rfl ?_
    clear hu8
    refine ww_if_eq h dX10_weigh_21 37 (by decide) 24 rfl (fun c => ?_) (fun c => ?_)
    · replace hf := ite_t c hf
      refine ww_iconst (v := (-1)) h dX10_weigh_37 (by decide) 38 rfl ?_
      obtain rfl := Option.some.inj hf
      exact ww_iret h dX10_weigh_38 hQ ⟨rfl, rfl⟩
    · replace hf := ite_f c hf
      refine ww_aload_n h dX10_weigh_24 rfl 0 rfl 25 rfl ?_
      refine ww_get h inG10 rfl 0 rfl rfl 8 (by decide) w_1165 rfl dX10_weigh_25 28 rfl ?_
      refine ww_bipush (v := 84) h dX10_weigh_28 (by decide) 30 rfl ?_
      refine ww_iload_n h dX10_weigh_30 rfl 1 rfl 31 rfl ?_
      refine ww_iadd h dX10_weigh_31 32 rfl ?_
      have hi := (gd_some hf).1
      replace hf := (gd_some hf).2
      refine ww_iald h 0 rfl 8 rfl (ix_in hi) dX10_weigh_32 33 rfl ?_
      clear hi
      refine ww_iload_n h dX10_weigh_33 rfl 2 rfl 34 rfl ?_
      refine ww_icmp_ne h dX10_weigh_34 39 (by decide) 37 rfl (fun c => ?_) (fun c => ?_)
      · replace hf := ite_f c hf
        refine ww_aload_n h dX10_weigh_39 rfl 0 rfl 40 rfl ?_
        refine ww_bipush (v := 84) h dX10_weigh_40 (by decide) 42 rfl ?_
        refine ww_iload_n h dX10_weigh_42 rfl 1 rfl 43 rfl ?_
        refine ww_iadd h dX10_weigh_43 44 rfl ?_
        refine ww_iload_n h dX10_weigh_44 rfl 2 rfl 45 rfl ?_
        obtain ⟨r_9, M_10, hu11, hf⟩ := ob2 hf
        refine ww_cVi h (c_X10_becomes l D ev cy oM aM M ((84 : Int32) + p0) p1 _ hu11) ⟨w_1397, w_1394, w_1396, w_48, w_111, ok_X10_becomes⟩ ⟨by decide, by decide⟩ ⟨by decide, by decide⟩ ⟨rfl, rfl⟩ [0] rfl 0 rfl rfl rfl rfl (Nat.le_of_ble_eq_true rfl) dX10_weigh_45 48 rfl (Gs' := [gX10 cy oM aM M_10]) rfl ?_
        clear hu11
        obtain rfl := Option.some.inj hf
        exact ww_iret h dX10_weigh_48 hQ ⟨rfl, rfl⟩
      · replace hf := ite_t c hf
        refine ww_iconst (v := (-1)) h dX10_weigh_37 (by decide) 38 rfl ?_
        obtain rfl := Option.some.inj hf
        exact ww_iret h dX10_weigh_38 hQ ⟨rfl, rfl⟩
theorem dX10_undo_0 : decode cX10_undo 0 = .ok (.aload_n 0, 1) := by decide +kernel
theorem dX10_undo_1 : decode cX10_undo 1 = .ok (.getfield 129, 3) := by decide +kernel
theorem dX10_undo_4 : decode cX10_undo 4 = .ok (.ifCond .ne 5, 3) := by decide +kernel
theorem dX10_undo_7 : decode cX10_undo 7 = .ok (.iconst (-1), 1) := by decide +kernel
theorem dX10_undo_8 : decode cX10_undo 8 = .ok (.ireturn, 1) := by decide +kernel
theorem dX10_undo_9 : decode cX10_undo 9 = .ok (.aload_n 0, 1) := by decide +kernel
theorem dX10_undo_10 : decode cX10_undo 10 = .ok (.dup, 1) := by decide +kernel
theorem dX10_undo_11 : decode cX10_undo 11 = .ok (.getfield 129, 3) := by decide +kernel
theorem dX10_undo_14 : decode cX10_undo 14 = .ok (.iconst 1, 1) := by decide +kernel
theorem dX10_undo_15 : decode cX10_undo 15 = .ok (.isub, 1) := by decide +kernel
theorem dX10_undo_16 : decode cX10_undo 16 = .ok (.putfield 129, 3) := by decide +kernel
theorem dX10_undo_19 : decode cX10_undo 19 = .ok (.iconst 0, 1) := by decide +kernel
theorem dX10_undo_20 : decode cX10_undo 20 = .ok (.istore_n 1, 1) := by decide +kernel
theorem dX10_undo_21 : decode cX10_undo 21 = .ok (.iload_n 1, 1) := by decide +kernel
theorem dX10_undo_22 : decode cX10_undo 22 = .ok (.bipush 113, 2) := by decide +kernel
theorem dX10_undo_24 : decode cX10_undo 24 = .ok (.if_icmp .ge 29, 3) := by decide +kernel
theorem dX10_undo_27 : decode cX10_undo 27 = .ok (.aload_n 0, 1) := by decide +kernel
theorem dX10_undo_28 : decode cX10_undo 28 = .ok (.getfield 36, 3) := by decide +kernel
theorem dX10_undo_31 : decode cX10_undo 31 = .ok (.iload_n 1, 1) := by decide +kernel
theorem dX10_undo_32 : decode cX10_undo 32 = .ok (.aload_n 0, 1) := by decide +kernel
theorem dX10_undo_33 : decode cX10_undo 33 = .ok (.getfield 42, 3) := by decide +kernel
theorem dX10_undo_36 : decode cX10_undo 36 = .ok (.bipush 113, 2) := by decide +kernel
theorem dX10_undo_38 : decode cX10_undo 38 = .ok (.aload_n 0, 1) := by decide +kernel
theorem dX10_undo_39 : decode cX10_undo 39 = .ok (.getfield 129, 3) := by decide +kernel
theorem dX10_undo_42 : decode cX10_undo 42 = .ok (.imul, 1) := by decide +kernel
theorem dX10_undo_43 : decode cX10_undo 43 = .ok (.iload_n 1, 1) := by decide +kernel
theorem dX10_undo_44 : decode cX10_undo 44 = .ok (.iadd, 1) := by decide +kernel
theorem dX10_undo_45 : decode cX10_undo 45 = .ok (.iaload, 1) := by decide +kernel
theorem dX10_undo_46 : decode cX10_undo 46 = .ok (.iastore, 1) := by decide +kernel
theorem dX10_undo_47 : decode cX10_undo 47 = .ok (.iinc 1 1, 3) := by decide +kernel
theorem dX10_undo_50 : decode cX10_undo 50 = .ok (.goto (-29), 3) := by decide +kernel
theorem dX10_undo_53 : decode cX10_undo 53 = .ok (.aload_n 0, 1) := by decide +kernel
theorem dX10_undo_54 : decode cX10_undo 54 = .ok (.getfield 129, 3) := by decide +kernel
theorem dX10_undo_57 : decode cX10_undo 57 = .ok (.ireturn, 1) := by decide +kernel
theorem ok_X10_undo : okY RX10 yX10_undo 0 := ⟨rfl, by decide, by decide, by decide +kernel⟩
def s_X10_undo_21_3 : (Int32 × OV) → Option ((Int32 × OV) ⊕ (OV)) := un2 (fun v1_4 M_5 => (if (113 : Int32) ≤ v1_4 then some (.inr M_5) else gd (ix (((113 : Int32) * (iv M_5 11)) + v1_4) 1356) (gd (ix v1_4 113) (bnd (sA M_5 8 v1_4.toNatClampNeg (ar M_5 10 (((113 : Int32) * (iv M_5 11)) + v1_4).toNatClampNeg)) (fun M_6 => bnd (v1_4 + 1) (fun v1_7 => some (.inl (v1_7, M_6))))))))
def f_X10_undo (M : OV) : Option (Int32 × OV) := (if (iv M 11) = 0 then some ((-1 : Int32), M) else bnd (sI M 11 ((iv M 11) - (1 : Int32))) (fun M_1 => bnd (0 : Int32) (fun v1_2 => ((lp (s_X10_undo_21_3) 5000 (v1_2, M_1)).bind (un1 (fun M_8 => some ((iv M_8 11), M_8)))))))
def r_X10_undo : Room := { frames := 0, cells := 0, slots := 0, locals := 0 }
set_option maxHeartbeats 4000000 in
set_option maxRecDepth 100000 in
theorem c_X10_undo (l : Launch) (D : va_G) (ev : EvT) (cy : Nat → ClassId) (oM : Nat) (aM : Nat → Nat) (M : OV) (o : Int32 × OV) (hf : f_X10_undo M = some o) : Fn l yX10_undo cX10_undo 2 (some .int) r_X10_undo D ev cy [.ref oM] [gX10 cy oM aM M] (fun v G => v = some (.int o.1) ∧ G = [gX10 cy oM aM o.2]) := by
  refine Fn_of (by decide) (Nat.le_of_ble_eq_true rfl) (fun X A Q h hQ _ => ?_)
  unfold f_X10_undo at hf
  show ww X D A 2 Q 0 0 0 [(0, .ref oM)] [] [gX10 cy oM aM M]
  refine ww_aload_n h dX10_undo_0 rfl 0 rfl 1 rfl ?_
  refine ww_get h inG10 rfl 0 rfl rfl 11 (by decide) w_1168 rfl dX10_undo_1 4 rfl ?_
  refine ww_if_ne h dX10_undo_4 9 (by decide) 7 rfl (fun c => ?_) (fun c => ?_)
  · replace hf := ite_f c hf
    refine ww_aload_n h dX10_undo_9 rfl 0 rfl 10 rfl ?_
    refine ww_dup h dX10_undo_10 rfl 11 rfl ?_
    refine ww_get h inG10 rfl 0 rfl rfl 11 (by decide) w_1168 rfl dX10_undo_11 14 rfl ?_
    refine ww_iconst (v := 1) h dX10_undo_14 (by decide) 15 rfl ?_
    refine ww_isub h dX10_undo_15 16 rfl ?_
    refine ww_put (ty := .int) h inG10 tyX10_ok nmX10 rfl 0 rfl rfl 11 (by decide) w_1168 rfl (by decide +kernel) rfl rfl (Nat.le_of_ble_eq_true rfl) (Nat.le_of_ble_eq_true rfl) dX10_undo_16 19 rfl ?_
    refine ww_nm (fun z => [gX10 cy oM aM z]) (sI M 11 ((iv M 11) - (1 : Int32))) (fun M_1 e => ?_)
    replace hf := bnd_at e hf
    clear e
    refine ww_iconst (v := 0) h dX10_undo_19 (by decide) 20 rfl ?_
    refine ww_ist_n h dX10_undo_20 rfl (by decide) (fun v1_2 => [(1, .int v1_2), (0, .ref oM)]) (fun _ => rfl) 21 rfl (fun v1_2 e => ?_)
    replace hf := bnd_at e hf
    clear e
    refine ww_lo [1, 0] (lo' := [(0, .ref oM), (1, .int v1_2)]) rfl ?_
    obtain ⟨M_8, h3, hf⟩ := ob1 hf
    refine lp_walk (un2 (fun v1_4 M_5 => ww X D A 2 Q 0 0 21 [(0, .ref oM), (1, .int v1_4)] [] [gX10 cy oM aM M_5])) (un1 (fun M_8 => ww X D A 2 Q 0 0 53 [(0, .ref oM)] [] [gX10 cy oM aM M_8])) ?_ _ _ _ h3 ?_
    · clear h3 hf
      intro s3 o3 hf hI3 hE3
      obtain ⟨v1_4, M_5⟩ := s3
      unfold s_X10_undo_21_3 at hf
      replace hf := un2_e hf
      show ww X D A 2 Q 0 0 21 [(0, .ref oM), (1, .int v1_4)] [] [gX10 cy oM aM M_5]
      refine ww_iload_n h dX10_undo_21 rfl 1 rfl 22 rfl ?_
      refine ww_bipush (v := 113) h dX10_undo_22 (by decide) 24 rfl ?_
      refine ww_icmp_ge h dX10_undo_24 53 (by decide) 27 rfl (fun c => ?_) (fun c => ?_)
      · replace hf := ite_t c hf
        refine ww_lo [0] (lo' := [(0, .ref oM)]) rfl ?_
        exact hE3 M_5 (Option.some.inj hf).symm
      · replace hf := ite_f c hf
        refine ww_aload_n h dX10_undo_27 rfl 0 rfl 28 rfl ?_
        refine ww_get h inG10 rfl 0 rfl rfl 8 (by decide) w_1165 rfl dX10_undo_28 31 rfl ?_
        refine ww_iload_n h dX10_undo_31 rfl 1 rfl 32 rfl ?_
        refine ww_aload_n h dX10_undo_32 rfl 0 rfl 33 rfl ?_
        refine ww_get h inG10 rfl 0 rfl rfl 10 (by decide) w_1167 rfl dX10_undo_33 36 rfl ?_
        refine ww_bipush (v := 113) h dX10_undo_36 (by decide) 38 rfl ?_
        refine ww_aload_n h dX10_undo_38 rfl 0 rfl 39 rfl ?_
        refine ww_get h inG10 rfl 0 rfl rfl 11 (by decide) w_1168 rfl dX10_undo_39 42 rfl ?_
        refine ww_imul h dX10_undo_42 43 rfl ?_
        refine ww_iload_n h dX10_undo_43 rfl 1 rfl 44 rfl ?_
        refine ww_iadd h dX10_undo_44 45 rfl ?_
        have hi := (gd_some hf).1
        replace hf := (gd_some hf).2
        refine ww_iald h 0 rfl 10 rfl (ix_in hi) dX10_undo_45 46 rfl ?_
        clear hi
        have hi := (gd_some hf).1
        replace hf := (gd_some hf).2
        refine ww_iast h 0 rfl 8 rfl (ix_in hi) dX10_undo_46 47 rfl ?_
        clear hi
        refine ww_nm (fun z => [gX10 cy oM aM z]) (sA M_5 8 v1_4.toNatClampNeg (ar M_5 10 (((113 : Int32) * (iv M_5 11)) + v1_4).toNatClampNeg)) (fun M_6 e => ?_)
        replace hf := bnd_at e hf
        clear e
        refine ww_inc (c := 1) h dX10_undo_47 1 rfl (by decide) (by decide) (fun v1_7 => [(1, .int v1_7), (0, .ref oM)]) (fun _ => rfl) 50 rfl (fun v1_7 e => ?_)
        replace hf := bnd_at e hf
        clear e
        refine ww_goto h dX10_undo_50 21 (by decide) ?_
        refine ww_lo [1, 0] (lo' := [(0, .ref oM), (1, .int v1_7)]) rfl ?_
        exact hI3 (v1_7, M_6) (Option.some.inj hf).symm
    · clear h3
      show ww X D A 2 Q 0 0 53 [(0, .ref oM)] [] [gX10 cy oM aM M_8]
      refine ww_aload_n h dX10_undo_53 rfl 0 rfl 54 rfl ?_
      refine ww_get h inG10 rfl 0 rfl rfl 11 (by decide) w_1168 rfl dX10_undo_54 57 rfl ?_
      obtain rfl := Option.some.inj hf
      exact ww_iret h dX10_undo_57 hQ ⟨rfl, rfl⟩
  · replace hf := ite_t c hf
    refine ww_iconst (v := (-1)) h dX10_undo_7 (by decide) 8 rfl ?_
    obtain rfl := Option.some.inj hf
    exact ww_iret h dX10_undo_8 hQ ⟨rfl, rfl⟩
theorem dX10_isLegal_0 : decode cX10_isLegal 0 = .ok (.iload_n 1, 1) := by decide +kernel
theorem dX10_isLegal_1 : decode cX10_isLegal 1 = .ok (.aload_n 0, 1) := by decide +kernel
theorem dX10_isLegal_2 : decode cX10_isLegal 2 = .ok (.invokevirtual 132, 3) := by decide +kernel
theorem dX10_isLegal_5 : decode cX10_isLegal 5 = .ok (.iconst 1, 1) := by decide +kernel
theorem dX10_isLegal_6 : decode cX10_isLegal 6 = .ok (.isub, 1) := by decide +kernel
theorem dX10_isLegal_7 : decode cX10_isLegal 7 = .ok (.if_icmp .eq 12, 3) := by decide +kernel
theorem dX10_isLegal_10 : decode cX10_isLegal 10 = .ok (.aload_n 0, 1) := by decide +kernel
theorem dX10_isLegal_11 : decode cX10_isLegal 11 = .ok (.iload_n 1, 1) := by decide +kernel
theorem dX10_isLegal_12 : decode cX10_isLegal 12 = .ok (.invokevirtual 173, 3) := by decide +kernel
theorem dX10_isLegal_15 : decode cX10_isLegal 15 = .ok (.iconst 1, 1) := by decide +kernel
theorem dX10_isLegal_16 : decode cX10_isLegal 16 = .ok (.if_icmp .ne 5, 3) := by decide +kernel
theorem dX10_isLegal_19 : decode cX10_isLegal 19 = .ok (.iconst 1, 1) := by decide +kernel
theorem dX10_isLegal_20 : decode cX10_isLegal 20 = .ok (.ireturn, 1) := by decide +kernel
theorem dX10_isLegal_21 : decode cX10_isLegal 21 = .ok (.aload_n 0, 1) := by decide +kernel
theorem dX10_isLegal_22 : decode cX10_isLegal 22 = .ok (.iload_n 1, 1) := by decide +kernel
theorem dX10_isLegal_23 : decode cX10_isLegal 23 = .ok (.invokevirtual 173, 3) := by decide +kernel
theorem dX10_isLegal_26 : decode cX10_isLegal 26 = .ok (.iconst 2, 1) := by decide +kernel
theorem dX10_isLegal_27 : decode cX10_isLegal 27 = .ok (.if_icmp .ne 5, 3) := by decide +kernel
theorem dX10_isLegal_30 : decode cX10_isLegal 30 = .ok (.iconst 0, 1) := by decide +kernel
theorem dX10_isLegal_31 : decode cX10_isLegal 31 = .ok (.ireturn, 1) := by decide +kernel
theorem dX10_isLegal_32 : decode cX10_isLegal 32 = .ok (.aload_n 0, 1) := by decide +kernel
theorem dX10_isLegal_33 : decode cX10_isLegal 33 = .ok (.iload_n 1, 1) := by decide +kernel
theorem dX10_isLegal_34 : decode cX10_isLegal 34 = .ok (.invokevirtual 144, 3) := by decide +kernel
theorem dX10_isLegal_37 : decode cX10_isLegal 37 = .ok (.istore_n 2, 1) := by decide +kernel
theorem dX10_isLegal_38 : decode cX10_isLegal 38 = .ok (.aload_n 0, 1) := by decide +kernel
theorem dX10_isLegal_39 : decode cX10_isLegal 39 = .ok (.iload_n 1, 1) := by decide +kernel
theorem dX10_isLegal_40 : decode cX10_isLegal 40 = .ok (.iconst 1, 1) := by decide +kernel
theorem dX10_isLegal_41 : decode cX10_isLegal 41 = .ok (.iadd, 1) := by decide +kernel
theorem dX10_isLegal_42 : decode cX10_isLegal 42 = .ok (.invokevirtual 144, 3) := by decide +kernel
theorem dX10_isLegal_45 : decode cX10_isLegal 45 = .ok (.istore_n 3, 1) := by decide +kernel
theorem dX10_isLegal_46 : decode cX10_isLegal 46 = .ok (.aload_n 0, 1) := by decide +kernel
theorem dX10_isLegal_47 : decode cX10_isLegal 47 = .ok (.getfield 36, 3) := by decide +kernel
theorem dX10_isLegal_50 : decode cX10_isLegal 50 = .ok (.bipush 83, 2) := by decide +kernel
theorem dX10_isLegal_52 : decode cX10_isLegal 52 = .ok (.iaload, 1) := by decide +kernel
theorem dX10_isLegal_53 : decode cX10_isLegal 53 = .ok (.iload_n 2, 1) := by decide +kernel
theorem dX10_isLegal_54 : decode cX10_isLegal 54 = .ok (.invokestatic 136, 3) := by decide +kernel
theorem dX10_isLegal_57 : decode cX10_isLegal 57 = .ok (.ifCond .ne 30, 3) := by decide +kernel
theorem dX10_isLegal_60 : decode cX10_isLegal 60 = .ok (.aload_n 0, 1) := by decide +kernel
theorem dX10_isLegal_61 : decode cX10_isLegal 61 = .ok (.getfield 36, 3) := by decide +kernel
theorem dX10_isLegal_64 : decode cX10_isLegal 64 = .ok (.bipush 82, 2) := by decide +kernel
theorem dX10_isLegal_66 : decode cX10_isLegal 66 = .ok (.iaload, 1) := by decide +kernel
theorem dX10_isLegal_67 : decode cX10_isLegal 67 = .ok (.iload_n 3, 1) := by decide +kernel
theorem dX10_isLegal_68 : decode cX10_isLegal 68 = .ok (.invokestatic 136, 3) := by decide +kernel
theorem dX10_isLegal_71 : decode cX10_isLegal 71 = .ok (.ifCond .ne 16, 3) := by decide +kernel
theorem dX10_isLegal_74 : decode cX10_isLegal 74 = .ok (.aload_n 0, 1) := by decide +kernel
theorem dX10_isLegal_75 : decode cX10_isLegal 75 = .ok (.iload_n 2, 1) := by decide +kernel
theorem dX10_isLegal_76 : decode cX10_isLegal 76 = .ok (.iload_n 3, 1) := by decide +kernel
theorem dX10_isLegal_77 : decode cX10_isLegal 77 = .ok (.invokevirtual 180, 3) := by decide +kernel
theorem dX10_isLegal_80 : decode cX10_isLegal 80 = .ok (.ifCond .ne 7, 3) := by decide +kernel
theorem dX10_isLegal_83 : decode cX10_isLegal 83 = .ok (.iconst 1, 1) := by decide +kernel
theorem dX10_isLegal_84 : decode cX10_isLegal 84 = .ok (.goto 4, 3) := by decide +kernel
theorem dX10_isLegal_87 : decode cX10_isLegal 87 = .ok (.iconst 0, 1) := by decide +kernel
theorem dX10_isLegal_88 : decode cX10_isLegal 88 = .ok (.ireturn, 1) := by decide +kernel
theorem ok_X10_isLegal : okY RX10 yX10_isLegal 1 := ⟨rfl, by decide, by decide, by decide +kernel⟩
def j_X10_isLegal_87_15 : Option (Int32) := some (0 : Int32)
def f_X10_isLegal (M : OV) (p0 : Int32) : Option (Int32) := (f_X10_many M).bind (un1 (fun r_1 => (if p0 = (r_1 - (1 : Int32)) then some (1 : Int32) else (f_X10_markOf M p0).bind (un1 (fun r_3 => (if r_3 = (1 : Int32) then some (1 : Int32) else (f_X10_markOf M p0).bind (un1 (fun r_5 => (if r_5 = (2 : Int32) then some (0 : Int32) else (f_X10_classOf M p0).bind (un1 (fun r_7 => bnd r_7 (fun v2_9 => (f_X10_classOf M (p0 + (1 : Int32))).bind (un1 (fun r_10 => bnd r_10 (fun v3_12 => gd (ix (83 : Int32) 113) ((f_X10_isIn (ar M 8 (83 : Int32).toNatClampNeg) v2_9).bind (un1 (fun r_13 => (if r_13 = 0 then gd (ix (82 : Int32) 113) ((f_X10_isIn (ar M 8 (82 : Int32).toNatClampNeg) v3_12).bind (un1 (fun r_16 => (if r_16 = 0 then (f_X10_arePair M v2_9 v3_12).bind (un1 (fun r_18 => (if r_18 = 0 then some (1 : Int32) else j_X10_isLegal_87_15))) else j_X10_isLegal_87_15)))) else j_X10_isLegal_87_15)))))))))))))))))))
def r_X10_isLegal : Room := { frames := 2, cells := 0, slots := 0, locals := 43 }
set_option maxHeartbeats 4000000 in
set_option maxRecDepth 100000 in
theorem c_X10_isLegal (l : Launch) (D : va_G) (ev : EvT) (cy : Nat → ClassId) (oM : Nat) (aM : Nat → Nat) (M : OV) (p0 : Int32) (o : Int32) (hf : f_X10_isLegal M p0 = some o) : Fn l yX10_isLegal cX10_isLegal 4 (some .boolean) r_X10_isLegal D ev cy [.ref oM, .int p0] [gX10 cy oM aM M] (fun v G => v = some (.int o) ∧ G = [gX10 cy oM aM M]) := by
  refine Fn_of (by decide) (Nat.le_of_ble_eq_true rfl) (fun X A Q h hQ _ => ?_)
  unfold f_X10_isLegal at hf
  show ww X D A 4 Q 0 0 0 [(0, .ref oM), (1, .int p0)] [] [gX10 cy oM aM M]
  refine ww_iload_n h dX10_isLegal_0 rfl 1 rfl 1 rfl ?_
  refine ww_aload_n h dX10_isLegal_1 rfl 0 rfl 2 rfl ?_
  obtain ⟨r_1, hu2, hf⟩ := ob1 hf
  refine ww_cVi h (c_X10_many l D ev cy oM aM M _ hu2) ⟨w_1330, w_1327, w_1329, w_37, w_111, ok_X10_many⟩ ⟨by decide, by decide⟩ ⟨by decide, by decide⟩ ⟨rfl, rfl⟩ [0] rfl 0 rfl rfl rfl rfl (Nat.le_of_ble_eq_true rfl) dX10_isLegal_2 5 rfl (Gs' := [gX10 cy oM aM M]) rfl ?_
  clear hu2
  refine ww_iconst (v := 1) h dX10_isLegal_5 (by decide) 6 rfl ?_
  refine ww_isub h dX10_isLegal_6 7 rfl ?_
  refine ww_icmp_eq h dX10_isLegal_7 19 (by decide) 10 rfl (fun c => ?_) (fun c => ?_)
  · replace hf := ite_t c hf
    refine ww_iconst (v := 1) h dX10_isLegal_19 (by decide) 20 rfl ?_
    obtain rfl := Option.some.inj hf
    exact ww_zret h (Or.inr rfl) dX10_isLegal_20 hQ ⟨rfl, rfl⟩
  · replace hf := ite_f c hf
    refine ww_aload_n h dX10_isLegal_10 rfl 0 rfl 11 rfl ?_
    refine ww_iload_n h dX10_isLegal_11 rfl 1 rfl 12 rfl ?_
    obtain ⟨r_3, hu4, hf⟩ := ob1 hf
    refine ww_cVi h (c_X10_markOf l D ev cy oM aM M p0 _ hu4) ⟨w_1393, w_1390, w_1392, w_47, w_111, ok_X10_markOf⟩ ⟨by decide, by decide⟩ ⟨by decide, by decide⟩ ⟨rfl, rfl⟩ [0] rfl 0 rfl rfl rfl rfl (Nat.le_of_ble_eq_true rfl) dX10_isLegal_12 15 rfl (Gs' := [gX10 cy oM aM M]) rfl ?_
    clear hu4
    refine ww_iconst (v := 1) h dX10_isLegal_15 (by decide) 16 rfl ?_
    refine ww_icmp_ne h dX10_isLegal_16 21 (by decide) 19 rfl (fun c => ?_) (fun c => ?_)
    · replace hf := ite_f c hf
      refine ww_aload_n h dX10_isLegal_21 rfl 0 rfl 22 rfl ?_
      refine ww_iload_n h dX10_isLegal_22 rfl 1 rfl 23 rfl ?_
      obtain ⟨r_5, hu6, hf⟩ := ob1 hf
      refine ww_cVi h (c_X10_markOf l D ev cy oM aM M p0 _ hu6) ⟨w_1393, w_1390, w_1392, w_47, w_111, ok_X10_markOf⟩ ⟨by decide, by decide⟩ ⟨by decide, by decide⟩ ⟨rfl, rfl⟩ [0] rfl 0 rfl rfl rfl rfl (Nat.le_of_ble_eq_true rfl) dX10_isLegal_23 26 rfl (Gs' := [gX10 cy oM aM M]) rfl ?_
      clear hu6
      refine ww_iconst (v := 2) h dX10_isLegal_26 (by decide) 27 rfl ?_
      refine ww_icmp_ne h dX10_isLegal_27 32 (by decide) 30 rfl (fun c => ?_) (fun c => ?_)
      · replace hf := ite_f c hf
        refine ww_aload_n h dX10_isLegal_32 rfl 0 rfl 33 rfl ?_
        refine ww_iload_n h dX10_isLegal_33 rfl 1 rfl 34 rfl ?_
        obtain ⟨r_7, hu8, hf⟩ := ob1 hf
        refine ww_cVi h (c_X10_classOf l D ev cy oM aM M p0 _ hu8) ⟨w_1369, w_1366, w_1368, w_44, w_111, ok_X10_classOf⟩ ⟨by decide, by decide⟩ ⟨by decide, by decide⟩ ⟨rfl, rfl⟩ [0] rfl 0 rfl rfl rfl rfl (Nat.le_of_ble_eq_true rfl) dX10_isLegal_34 37 rfl (Gs' := [gX10 cy oM aM M]) rfl ?_
        clear hu8
        refine ww_ist_n h dX10_isLegal_37 rfl (by decide) (fun v2_9 => [(2, .int v2_9), (0, .ref oM), (1, .int p0)]) (fun _ => rfl) 38 rfl (fun v2_9 e => ?_)
        replace hf := bnd_at e hf
        clear e
        refine ww_aload_n h dX10_isLegal_38 rfl 1 rfl 39 rfl ?_
        refine ww_iload_n h dX10_isLegal_39 rfl 2 rfl 40 rfl ?_
        refine ww_iconst (v := 1) h dX10_isLegal_40 (by decide) 41 rfl ?_
        refine ww_iadd h dX10_isLegal_41 42 rfl ?_
        obtain ⟨r_10, hu11, hf⟩ := ob1 hf
        refine ww_cVi h (c_X10_classOf l D ev cy oM aM M (p0 + (1 : Int32)) _ hu11) ⟨w_1369, w_1366, w_1368, w_44, w_111, ok_X10_classOf⟩ ⟨by decide, by decide⟩ ⟨by decide, by decide⟩ ⟨rfl, rfl⟩ [0] rfl 0 rfl rfl rfl rfl (Nat.le_of_ble_eq_true rfl) dX10_isLegal_42 45 rfl (Gs' := [gX10 cy oM aM M]) rfl ?_
        clear hu11
        refine ww_ist_n h dX10_isLegal_45 rfl (by decide) (fun v3_12 => [(3, .int v3_12), (2, .int v2_9), (0, .ref oM), (1, .int p0)]) (fun _ => rfl) 46 rfl (fun v3_12 e => ?_)
        replace hf := bnd_at e hf
        clear e
        refine ww_aload_n h dX10_isLegal_46 rfl 2 rfl 47 rfl ?_
        refine ww_get h inG10 rfl 0 rfl rfl 8 (by decide) w_1165 rfl dX10_isLegal_47 50 rfl ?_
        refine ww_bipush (v := 83) h dX10_isLegal_50 (by decide) 52 rfl ?_
        have hi := (gd_some hf).1
        replace hf := (gd_some hf).2
        refine ww_iald h 0 rfl 8 rfl (ix_in hi) dX10_isLegal_52 53 rfl ?_
        clear hi
        refine ww_iload_n h dX10_isLegal_53 rfl 1 rfl 54 rfl ?_
        obtain ⟨r_13, hu14, hf⟩ := ob1 hf
        refine ww_cSi h (c_X10_isIn l D ev cy (ar M 8 (83 : Int32).toNatClampNeg) v2_9 _ hu14) ⟨w_1412, w_1410, w_1411, w_111, ok_X10_isIn⟩ ⟨by decide, by decide⟩ ⟨by decide, by decide⟩ ⟨rfl, rfl⟩ [] rfl rfl (Nat.le_of_ble_eq_true rfl) dX10_isLegal_54 57 rfl (Gs' := [gX10 cy oM aM M]) rfl ?_
        clear hu14
        have hJ87_15 : ∀ (_ : Unit), j_X10_isLegal_87_15 = some o → ww X D A 4 Q 0 0 87 [] [] [gX10 cy oM aM M] := by
          intro _ hf
          unfold j_X10_isLegal_87_15 at hf
          refine ww_iconst (v := 0) h dX10_isLegal_87 (by decide) 88 rfl ?_
          obtain rfl := Option.some.inj hf
          exact ww_zret h (Or.inl rfl) dX10_isLegal_88 hQ ⟨rfl, rfl⟩
        refine ww_if_ne h dX10_isLegal_57 87 (by decide) 60 rfl (fun c => ?_) (fun c => ?_)
        · replace hf := ite_f c hf
          refine ww_lo [] (lo' := []) rfl ?_
          exact hJ87_15 () hf
        · replace hf := ite_t c hf
          refine ww_aload_n h dX10_isLegal_60 rfl 2 rfl 61 rfl ?_
          refine ww_get h inG10 rfl 0 rfl rfl 8 (by decide) w_1165 rfl dX10_isLegal_61 64 rfl ?_
          refine ww_bipush (v := 82) h dX10_isLegal_64 (by decide) 66 rfl ?_
          have hi := (gd_some hf).1
          replace hf := (gd_some hf).2
          refine ww_iald h 0 rfl 8 rfl (ix_in hi) dX10_isLegal_66 67 rfl ?_
          clear hi
          refine ww_iload_n h dX10_isLegal_67 rfl 0 rfl 68 rfl ?_
          obtain ⟨r_16, hu17, hf⟩ := ob1 hf
          refine ww_cSi h (c_X10_isIn l D ev cy (ar M 8 (82 : Int32).toNatClampNeg) v3_12 _ hu17) ⟨w_1412, w_1410, w_1411, w_111, ok_X10_isIn⟩ ⟨by decide, by decide⟩ ⟨by decide, by decide⟩ ⟨rfl, rfl⟩ [] rfl rfl (Nat.le_of_ble_eq_true rfl) dX10_isLegal_68 71 rfl (Gs' := [gX10 cy oM aM M]) rfl ?_
          clear hu17
          refine ww_if_ne h dX10_isLegal_71 87 (by decide) 74 rfl (fun c => ?_) (fun c => ?_)
          · replace hf := ite_f c hf
            refine ww_lo [] (lo' := []) rfl ?_
            exact hJ87_15 () hf
          · replace hf := ite_t c hf
            refine ww_aload_n h dX10_isLegal_74 rfl 2 rfl 75 rfl ?_
            refine ww_iload_n h dX10_isLegal_75 rfl 1 rfl 76 rfl ?_
            refine ww_iload_n h dX10_isLegal_76 rfl 0 rfl 77 rfl ?_
            obtain ⟨r_18, hu19, hf⟩ := ob1 hf
            refine ww_cVi h (c_X10_arePair l D ev cy oM aM M v2_9 v3_12 _ hu19) ⟨w_1409, w_1406, w_1408, w_49, w_111, ok_X10_arePair⟩ ⟨by decide, by decide⟩ ⟨by decide, by decide⟩ ⟨rfl, rfl⟩ [0] rfl 0 rfl rfl rfl rfl (Nat.le_of_ble_eq_true rfl) dX10_isLegal_77 80 rfl (Gs' := [gX10 cy oM aM M]) rfl ?_
            clear hu19
            refine ww_if_ne h dX10_isLegal_80 87 (by decide) 83 rfl (fun c => ?_) (fun c => ?_)
            · replace hf := ite_f c hf
              refine ww_lo [] (lo' := []) rfl ?_
              exact hJ87_15 () hf
            · replace hf := ite_t c hf
              refine ww_iconst (v := 1) h dX10_isLegal_83 (by decide) 84 rfl ?_
              refine ww_goto h dX10_isLegal_84 88 (by decide) ?_
              obtain rfl := Option.some.inj hf
              exact ww_zret h (Or.inr rfl) dX10_isLegal_88 hQ ⟨rfl, rfl⟩
      · replace hf := ite_t c hf
        refine ww_iconst (v := 0) h dX10_isLegal_30 (by decide) 31 rfl ?_
        obtain rfl := Option.some.inj hf
        exact ww_zret h (Or.inl rfl) dX10_isLegal_31 hQ ⟨rfl, rfl⟩
    · replace hf := ite_t c hf
      refine ww_iconst (v := 1) h dX10_isLegal_19 (by decide) 20 rfl ?_
      obtain rfl := Option.some.inj hf
      exact ww_zret h (Or.inr rfl) dX10_isLegal_20 hQ ⟨rfl, rfl⟩
theorem dX10_squeezeOf_0 : decode cX10_squeezeOf 0 = .ok (.aload_n 0, 1) := by decide +kernel
theorem dX10_squeezeOf_1 : decode cX10_squeezeOf 1 = .ok (.iload_n 1, 1) := by decide +kernel
theorem dX10_squeezeOf_2 : decode cX10_squeezeOf 2 = .ok (.invokevirtual 144, 3) := by decide +kernel
theorem dX10_squeezeOf_5 : decode cX10_squeezeOf 5 = .ok (.istore 4, 2) := by decide +kernel
theorem dX10_squeezeOf_7 : decode cX10_squeezeOf 7 = .ok (.iload_n 1, 1) := by decide +kernel
theorem dX10_squeezeOf_8 : decode cX10_squeezeOf 8 = .ok (.iload_n 2, 1) := by decide +kernel
theorem dX10_squeezeOf_9 : decode cX10_squeezeOf 9 = .ok (.if_icmp .ge 11, 3) := by decide +kernel
theorem dX10_squeezeOf_12 : decode cX10_squeezeOf 12 = .ok (.aload_n 0, 1) := by decide +kernel
theorem dX10_squeezeOf_13 : decode cX10_squeezeOf 13 = .ok (.getfield 24, 3) := by decide +kernel
theorem dX10_squeezeOf_16 : decode cX10_squeezeOf 16 = .ok (.iload 4, 2) := by decide +kernel
theorem dX10_squeezeOf_18 : decode cX10_squeezeOf 18 = .ok (.iaload, 1) := by decide +kernel
theorem dX10_squeezeOf_19 : decode cX10_squeezeOf 19 = .ok (.ireturn, 1) := by decide +kernel
theorem dX10_squeezeOf_20 : decode cX10_squeezeOf 20 = .ok (.iload_n 3, 1) := by decide +kernel
theorem dX10_squeezeOf_21 : decode cX10_squeezeOf 21 = .ok (.ifCond .ne 20, 3) := by decide +kernel
theorem dX10_squeezeOf_24 : decode cX10_squeezeOf 24 = .ok (.aload_n 0, 1) := by decide +kernel
theorem dX10_squeezeOf_25 : decode cX10_squeezeOf 25 = .ok (.getfield 24, 3) := by decide +kernel
theorem dX10_squeezeOf_28 : decode cX10_squeezeOf 28 = .ok (.iload 4, 2) := by decide +kernel
theorem dX10_squeezeOf_30 : decode cX10_squeezeOf 30 = .ok (.iaload, 1) := by decide +kernel
theorem dX10_squeezeOf_31 : decode cX10_squeezeOf 31 = .ok (.aload_n 0, 1) := by decide +kernel
theorem dX10_squeezeOf_32 : decode cX10_squeezeOf 32 = .ok (.getfield 21, 3) := by decide +kernel
theorem dX10_squeezeOf_35 : decode cX10_squeezeOf 35 = .ok (.iload 4, 2) := by decide +kernel
theorem dX10_squeezeOf_37 : decode cX10_squeezeOf 37 = .ok (.iaload, 1) := by decide +kernel
theorem dX10_squeezeOf_38 : decode cX10_squeezeOf 38 = .ok (.if_icmp .ge 5, 3) := by decide +kernel
theorem dX10_squeezeOf_41 : decode cX10_squeezeOf 41 = .ok (.iconst 0, 1) := by decide +kernel
theorem dX10_squeezeOf_42 : decode cX10_squeezeOf 42 = .ok (.ireturn, 1) := by decide +kernel
theorem dX10_squeezeOf_43 : decode cX10_squeezeOf 43 = .ok (.aload_n 0, 1) := by decide +kernel
theorem dX10_squeezeOf_44 : decode cX10_squeezeOf 44 = .ok (.getfield 24, 3) := by decide +kernel
theorem dX10_squeezeOf_47 : decode cX10_squeezeOf 47 = .ok (.iload 4, 2) := by decide +kernel
theorem dX10_squeezeOf_49 : decode cX10_squeezeOf 49 = .ok (.iaload, 1) := by decide +kernel
theorem dX10_squeezeOf_50 : decode cX10_squeezeOf 50 = .ok (.aload_n 0, 1) := by decide +kernel
theorem dX10_squeezeOf_51 : decode cX10_squeezeOf 51 = .ok (.getfield 21, 3) := by decide +kernel
theorem dX10_squeezeOf_54 : decode cX10_squeezeOf 54 = .ok (.iload 4, 2) := by decide +kernel
theorem dX10_squeezeOf_56 : decode cX10_squeezeOf 56 = .ok (.iaload, 1) := by decide +kernel
theorem dX10_squeezeOf_57 : decode cX10_squeezeOf 57 = .ok (.isub, 1) := by decide +kernel
theorem dX10_squeezeOf_58 : decode cX10_squeezeOf 58 = .ok (.ireturn, 1) := by decide +kernel
theorem ok_X10_squeezeOf : okY RX10 yX10_squeezeOf 3 := ⟨rfl, by decide, by decide, by decide +kernel⟩
def f_X10_squeezeOf (M : OV) (p0 : Int32) (p1 : Int32) (p2 : Int32) : Option (Int32) := (f_X10_classOf M p0).bind (un1 (fun r_1 => bnd r_1 (fun v4_3 => (if p1 ≤ p0 then (if p2 = 0 then gd (ix v4_3 26) (gd (ix v4_3 26) ((if (ar M 3 v4_3.toNatClampNeg) ≤ (ar M 4 v4_3.toNatClampNeg) then gd (ix v4_3 26) (gd (ix v4_3 26) (some ((ar M 4 v4_3.toNatClampNeg) - (ar M 3 v4_3.toNatClampNeg)))) else some (0 : Int32)))) else some (0 : Int32)) else gd (ix v4_3 26) (some (ar M 4 v4_3.toNatClampNeg))))))
def r_X10_squeezeOf : Room := { frames := 1, cells := 0, slots := 0, locals := 21 }
set_option maxHeartbeats 4000000 in
set_option maxRecDepth 100000 in
theorem c_X10_squeezeOf (l : Launch) (D : va_G) (ev : EvT) (cy : Nat → ClassId) (oM : Nat) (aM : Nat → Nat) (M : OV) (p0 : Int32) (p1 : Int32) (p2 : Int32) (o : Int32) (hf : f_X10_squeezeOf M p0 p1 p2 = some o) : Fn l yX10_squeezeOf cX10_squeezeOf 5 (some .int) r_X10_squeezeOf D ev cy [.ref oM, .int p0, .int p1, .int p2] [gX10 cy oM aM M] (fun v G => v = some (.int o) ∧ G = [gX10 cy oM aM M]) := by
  refine Fn_of (by decide) (Nat.le_of_ble_eq_true rfl) (fun X A Q h hQ _ => ?_)
  unfold f_X10_squeezeOf at hf
  show ww X D A 5 Q 0 0 0 [(0, .ref oM), (1, .int p0), (2, .int p1), (3, .int p2)] [] [gX10 cy oM aM M]
  refine ww_aload_n h dX10_squeezeOf_0 rfl 0 rfl 1 rfl ?_
  refine ww_iload_n h dX10_squeezeOf_1 rfl 1 rfl 2 rfl ?_
  obtain ⟨r_1, hu2, hf⟩ := ob1 hf
  refine ww_cVi h (c_X10_classOf l D ev cy oM aM M p0 _ hu2) ⟨w_1369, w_1366, w_1368, w_44, w_111, ok_X10_classOf⟩ ⟨by decide, by decide⟩ ⟨by decide, by decide⟩ ⟨rfl, rfl⟩ [0] rfl 0 rfl rfl rfl rfl (Nat.le_of_ble_eq_true rfl) dX10_squeezeOf_2 5 rfl (Gs' := [gX10 cy oM aM M]) rfl ?_
  clear hu2
  refine ww_ist h dX10_squeezeOf_5 (by decide) (fun v4_3 => [(4, .int v4_3), (0, .ref oM), (1, .int p0), (2, .int p1), (3, .int p2)]) (fun _ => rfl) 7 rfl (fun v4_3 e => ?_)
  replace hf := bnd_at e hf
  clear e
  refine ww_iload_n h dX10_squeezeOf_7 rfl 2 rfl 8 rfl ?_
  refine ww_iload_n h dX10_squeezeOf_8 rfl 3 rfl 9 rfl ?_
  refine ww_icmp_ge h dX10_squeezeOf_9 20 (by decide) 12 rfl (fun c => ?_) (fun c => ?_)
  · replace hf := ite_t c hf
    refine ww_iload_n h dX10_squeezeOf_20 rfl 4 rfl 21 rfl ?_
    refine ww_if_ne h dX10_squeezeOf_21 41 (by decide) 24 rfl (fun c => ?_) (fun c => ?_)
    · replace hf := ite_f c hf
      refine ww_iconst (v := 0) h dX10_squeezeOf_41 (by decide) 42 rfl ?_
      obtain rfl := Option.some.inj hf
      exact ww_iret h dX10_squeezeOf_42 hQ ⟨rfl, rfl⟩
    · replace hf := ite_t c hf
      refine ww_aload_n h dX10_squeezeOf_24 rfl 1 rfl 25 rfl ?_
      refine ww_get h inG10 rfl 0 rfl rfl 4 (by decide) w_1161 rfl dX10_squeezeOf_25 28 rfl ?_
      refine ww_iload h dX10_squeezeOf_28 0 rfl 30 rfl ?_
      have hi := (gd_some hf).1
      replace hf := (gd_some hf).2
      refine ww_iald h 0 rfl 4 rfl (ix_in hi) dX10_squeezeOf_30 31 rfl ?_
      clear hi
      refine ww_aload_n h dX10_squeezeOf_31 rfl 1 rfl 32 rfl ?_
      refine ww_get h inG10 rfl 0 rfl rfl 3 (by decide) w_1160 rfl dX10_squeezeOf_32 35 rfl ?_
      refine ww_iload h dX10_squeezeOf_35 0 rfl 37 rfl ?_
      have hi := (gd_some hf).1
      replace hf := (gd_some hf).2
      refine ww_iald h 0 rfl 3 rfl (ix_in hi) dX10_squeezeOf_37 38 rfl ?_
      clear hi
      refine ww_icmp_ge h dX10_squeezeOf_38 43 (by decide) 41 rfl (fun c => ?_) (fun c => ?_)
      · replace hf := ite_t c hf
        refine ww_aload_n h dX10_squeezeOf_43 rfl 1 rfl 44 rfl ?_
        refine ww_get h inG10 rfl 0 rfl rfl 4 (by decide) w_1161 rfl dX10_squeezeOf_44 47 rfl ?_
        refine ww_iload h dX10_squeezeOf_47 0 rfl 49 rfl ?_
        have hi := (gd_some hf).1
        replace hf := (gd_some hf).2
        refine ww_iald h 0 rfl 4 rfl (ix_in hi) dX10_squeezeOf_49 50 rfl ?_
        clear hi
        refine ww_aload_n h dX10_squeezeOf_50 rfl 1 rfl 51 rfl ?_
        refine ww_get h inG10 rfl 0 rfl rfl 3 (by decide) w_1160 rfl dX10_squeezeOf_51 54 rfl ?_
        refine ww_iload h dX10_squeezeOf_54 0 rfl 56 rfl ?_
        have hi := (gd_some hf).1
        replace hf := (gd_some hf).2
        refine ww_iald h 0 rfl 3 rfl (ix_in hi) dX10_squeezeOf_56 57 rfl ?_
        clear hi
        refine ww_isub h dX10_squeezeOf_57 58 rfl ?_
        obtain rfl := Option.some.inj hf
        exact ww_iret h dX10_squeezeOf_58 hQ ⟨rfl, rfl⟩
      · replace hf := ite_f c hf
        refine ww_iconst (v := 0) h dX10_squeezeOf_41 (by decide) 42 rfl ?_
        obtain rfl := Option.some.inj hf
        exact ww_iret h dX10_squeezeOf_42 hQ ⟨rfl, rfl⟩
  · replace hf := ite_f c hf
    refine ww_aload_n h dX10_squeezeOf_12 rfl 1 rfl 13 rfl ?_
    refine ww_get h inG10 rfl 0 rfl rfl 4 (by decide) w_1161 rfl dX10_squeezeOf_13 16 rfl ?_
    refine ww_iload h dX10_squeezeOf_16 0 rfl 18 rfl ?_
    have hi := (gd_some hf).1
    replace hf := (gd_some hf).2
    refine ww_iald h 0 rfl 4 rfl (ix_in hi) dX10_squeezeOf_18 19 rfl ?_
    clear hi
    obtain rfl := Option.some.inj hf
    exact ww_iret h dX10_squeezeOf_19 hQ ⟨rfl, rfl⟩
theorem dX10_takes_0 : decode cX10_takes 0 = .ok (.iload_n 3, 1) := by decide +kernel
theorem dX10_takes_1 : decode cX10_takes 1 = .ok (.istore 4, 2) := by decide +kernel
theorem dX10_takes_3 : decode cX10_takes 3 = .ok (.iconst 1, 1) := by decide +kernel
theorem dX10_takes_4 : decode cX10_takes 4 = .ok (.istore 5, 2) := by decide +kernel
theorem dX10_takes_6 : decode cX10_takes 6 = .ok (.iload 5, 2) := by decide +kernel
theorem dX10_takes_8 : decode cX10_takes 8 = .ok (.iconst 3, 1) := by decide +kernel
theorem dX10_takes_9 : decode cX10_takes 9 = .ok (.if_icmp .gt 107, 3) := by decide +kernel
theorem dX10_takes_12 : decode cX10_takes 12 = .ok (.iconst 0, 1) := by decide +kernel
theorem dX10_takes_13 : decode cX10_takes 13 = .ok (.istore 6, 2) := by decide +kernel
theorem dX10_takes_15 : decode cX10_takes 15 = .ok (.iload_n 1, 1) := by decide +kernel
theorem dX10_takes_16 : decode cX10_takes 16 = .ok (.istore 7, 2) := by decide +kernel
theorem dX10_takes_18 : decode cX10_takes 18 = .ok (.iload 7, 2) := by decide +kernel
theorem dX10_takes_20 : decode cX10_takes 20 = .ok (.iload_n 2, 1) := by decide +kernel
theorem dX10_takes_21 : decode cX10_takes 21 = .ok (.if_icmp .gt 41, 3) := by decide +kernel
theorem dX10_takes_24 : decode cX10_takes 24 = .ok (.aload_n 0, 1) := by decide +kernel
theorem dX10_takes_25 : decode cX10_takes 25 = .ok (.getfield 27, 3) := by decide +kernel
theorem dX10_takes_28 : decode cX10_takes 28 = .ok (.aload_n 0, 1) := by decide +kernel
theorem dX10_takes_29 : decode cX10_takes 29 = .ok (.iload 7, 2) := by decide +kernel
theorem dX10_takes_31 : decode cX10_takes 31 = .ok (.invokevirtual 144, 3) := by decide +kernel
theorem dX10_takes_34 : decode cX10_takes 34 = .ok (.iaload, 1) := by decide +kernel
theorem dX10_takes_35 : decode cX10_takes 35 = .ok (.iload 5, 2) := by decide +kernel
theorem dX10_takes_37 : decode cX10_takes 37 = .ok (.if_icmp .ne 19, 3) := by decide +kernel
theorem dX10_takes_40 : decode cX10_takes 40 = .ok (.iload 6, 2) := by decide +kernel
theorem dX10_takes_42 : decode cX10_takes 42 = .ok (.aload_n 0, 1) := by decide +kernel
theorem dX10_takes_43 : decode cX10_takes 43 = .ok (.iload 7, 2) := by decide +kernel
theorem dX10_takes_45 : decode cX10_takes 45 = .ok (.iload_n 2, 1) := by decide +kernel
theorem dX10_takes_46 : decode cX10_takes 46 = .ok (.aload_n 0, 1) := by decide +kernel
theorem dX10_takes_47 : decode cX10_takes 47 = .ok (.getfield 195, 3) := by decide +kernel
theorem dX10_takes_50 : decode cX10_takes 50 = .ok (.invokevirtual 224, 3) := by decide +kernel
theorem dX10_takes_53 : decode cX10_takes 53 = .ok (.iadd, 1) := by decide +kernel
theorem dX10_takes_54 : decode cX10_takes 54 = .ok (.istore 6, 2) := by decide +kernel
theorem dX10_takes_56 : decode cX10_takes 56 = .ok (.iinc 7 1, 3) := by decide +kernel
theorem dX10_takes_59 : decode cX10_takes 59 = .ok (.goto (-41), 3) := by decide +kernel
theorem dX10_takes_62 : decode cX10_takes 62 = .ok (.iload 4, 2) := by decide +kernel
theorem dX10_takes_64 : decode cX10_takes 64 = .ok (.iload 6, 2) := by decide +kernel
theorem dX10_takes_66 : decode cX10_takes 66 = .ok (.if_icmp .ge 8, 3) := by decide +kernel
theorem dX10_takes_69 : decode cX10_takes 69 = .ok (.iload 4, 2) := by decide +kernel
theorem dX10_takes_71 : decode cX10_takes 71 = .ok (.goto 5, 3) := by decide +kernel
theorem dX10_takes_74 : decode cX10_takes 74 = .ok (.iload 6, 2) := by decide +kernel
theorem dX10_takes_76 : decode cX10_takes 76 = .ok (.istore 7, 2) := by decide +kernel
theorem dX10_takes_78 : decode cX10_takes 78 = .ok (.aload_n 0, 1) := by decide +kernel
theorem dX10_takes_79 : decode cX10_takes 79 = .ok (.dup, 1) := by decide +kernel
theorem dX10_takes_80 : decode cX10_takes 80 = .ok (.getfield 208, 3) := by decide +kernel
theorem dX10_takes_83 : decode cX10_takes 83 = .ok (.iload 5, 2) := by decide +kernel
theorem dX10_takes_85 : decode cX10_takes 85 = .ok (.iload 7, 2) := by decide +kernel
theorem dX10_takes_87 : decode cX10_takes 87 = .ok (.imul, 1) := by decide +kernel
theorem dX10_takes_88 : decode cX10_takes 88 = .ok (.iadd, 1) := by decide +kernel
theorem dX10_takes_89 : decode cX10_takes 89 = .ok (.putfield 208, 3) := by decide +kernel
theorem dX10_takes_92 : decode cX10_takes 92 = .ok (.aload_n 0, 1) := by decide +kernel
theorem dX10_takes_93 : decode cX10_takes 93 = .ok (.dup, 1) := by decide +kernel
theorem dX10_takes_94 : decode cX10_takes 94 = .ok (.getfield 199, 3) := by decide +kernel
theorem dX10_takes_97 : decode cX10_takes 97 = .ok (.iload 7, 2) := by decide +kernel
theorem dX10_takes_99 : decode cX10_takes 99 = .ok (.iadd, 1) := by decide +kernel
theorem dX10_takes_100 : decode cX10_takes 100 = .ok (.putfield 199, 3) := by decide +kernel
theorem dX10_takes_103 : decode cX10_takes 103 = .ok (.iload 4, 2) := by decide +kernel
theorem dX10_takes_105 : decode cX10_takes 105 = .ok (.iload 7, 2) := by decide +kernel
theorem dX10_takes_107 : decode cX10_takes 107 = .ok (.isub, 1) := by decide +kernel
theorem dX10_takes_108 : decode cX10_takes 108 = .ok (.istore 4, 2) := by decide +kernel
theorem dX10_takes_110 : decode cX10_takes 110 = .ok (.iinc 5 1, 3) := by decide +kernel
theorem dX10_takes_113 : decode cX10_takes 113 = .ok (.goto (-107), 3) := by decide +kernel
theorem dX10_takes_116 : decode cX10_takes 116 = .ok (.aload_n 0, 1) := by decide +kernel
theorem dX10_takes_117 : decode cX10_takes 117 = .ok (.iload 4, 2) := by decide +kernel
theorem dX10_takes_119 : decode cX10_takes 119 = .ok (.ifCond .le 7, 3) := by decide +kernel
theorem dX10_takes_122 : decode cX10_takes 122 = .ok (.iconst 1, 1) := by decide +kernel
theorem dX10_takes_123 : decode cX10_takes 123 = .ok (.goto 4, 3) := by decide +kernel
theorem dX10_takes_126 : decode cX10_takes 126 = .ok (.iconst 0, 1) := by decide +kernel
theorem dX10_takes_127 : decode cX10_takes 127 = .ok (.putfield 211, 3) := by decide +kernel
theorem dX10_takes_130 : decode cX10_takes 130 = .ok (.return_, 1) := by decide +kernel
theorem ok_X10_takes : okY RX10 yX10_takes 3 := ⟨rfl, by decide, by decide, by decide +kernel⟩
def j_X10_takes_56_15 (v7_11 : Int32) (v6_14 : Int32) : Option ((Int32 × Int32) ⊕ (Int32)) := bnd (v7_11 + 1) (fun v7_16 => some (.inl (v6_14, v7_16)))
def s_X10_takes_18_9 (M_6 : OV) (p1 : Int32) (v5_5 : Int32) : (Int32 × Int32) → Option ((Int32 × Int32) ⊕ (Int32)) := un2 (fun v6_10 v7_11 => (if p1 < v7_11 then some (.inr v6_10) else (f_X10_classOf M_6 v7_11).bind (un1 (fun r_12 => gd (ix r_12 26) ((if (ar M_6 5 r_12.toNatClampNeg) = v5_5 then (f_X10_squeezeOf M_6 v7_11 p1 (iv M_6 13)).bind (un1 (fun r_17 => bnd (v6_10 + r_17) (fun v6_19 => j_X10_takes_56_15 v7_11 v6_19))) else j_X10_takes_56_15 v7_11 v6_10))))))
def j_X10_takes_76_22 (M_6 : OV) (v4_4 : Int32) (v5_5 : Int32) (t_21 : Int32) : Option ((Int32 × Int32 × OV) ⊕ (Int32 × OV)) := bnd t_21 (fun v7_23 => bnd (sI M_6 18 ((iv M_6 18) + (v5_5 * v7_23))) (fun M_24 => bnd (sI M_24 15 ((iv M_24 15) + v7_23)) (fun M_25 => bnd (v4_4 - v7_23) (fun v4_26 => bnd (v5_5 + 1) (fun v5_27 => some (.inl (v4_26, v5_27, M_25)))))))
def s_X10_takes_6_3 (p0 : Int32) (p1 : Int32) : (Int32 × Int32 × OV) → Option ((Int32 × Int32 × OV) ⊕ (Int32 × OV)) := un3 (fun v4_4 v5_5 M_6 => (if (3 : Int32) < v5_5 then some (.inr (v4_4, M_6)) else bnd (0 : Int32) (fun v6_7 => bnd p0 (fun v7_8 => ((lp (s_X10_takes_18_9 M_6 p1 v5_5) 5000 (v6_7, v7_8)).bind (un1 (fun v6_20 => (if v6_20 ≤ v4_4 then j_X10_takes_76_22 M_6 v4_4 v5_5 v6_20 else j_X10_takes_76_22 M_6 v4_4 v5_5 v4_4))))))))
def f_X10_takes (M : OV) (p0 : Int32) (p1 : Int32) (p2 : Int32) : Option (OV) := bnd p2 (fun v4_1 => bnd (1 : Int32) (fun v5_2 => ((lp (s_X10_takes_6_3 p0 p1) 5000 (v4_1, v5_2, M)).bind (un2 (fun v4_28 M_29 => (if v4_28 ≤ 0 then bnd (sI M_29 14 (0 : Int32)) (fun M_30 => some M_30) else bnd (sI M_29 14 (1 : Int32)) (fun M_31 => some M_31)))))))
def r_X10_takes : Room := { frames := 2, cells := 0, slots := 0, locals := 45 }
set_option maxHeartbeats 4000000 in
set_option maxRecDepth 100000 in
theorem c_X10_takes (l : Launch) (D : va_G) (ev : EvT) (cy : Nat → ClassId) (oM : Nat) (aM : Nat → Nat) (M : OV) (p0 : Int32) (p1 : Int32) (p2 : Int32) (o : OV) (hf : f_X10_takes M p0 p1 p2 = some o) : Fn l yX10_takes cX10_takes 8 none r_X10_takes D ev cy [.ref oM, .int p0, .int p1, .int p2] [gX10 cy oM aM M] (fun v G => v = none ∧ G = [gX10 cy oM aM o]) := by
  refine Fn_of (by decide) (Nat.le_of_ble_eq_true rfl) (fun X A Q h hQ _ => ?_)
  unfold f_X10_takes at hf
  show ww X D A 8 Q 0 0 0 [(0, .ref oM), (1, .int p0), (2, .int p1), (3, .int p2)] [] [gX10 cy oM aM M]
  refine ww_iload_n h dX10_takes_0 rfl 3 rfl 1 rfl ?_
  refine ww_ist h dX10_takes_1 (by decide) (fun v4_1 => [(4, .int v4_1), (0, .ref oM), (1, .int p0), (2, .int p1), (3, .int p2)]) (fun _ => rfl) 3 rfl (fun v4_1 e => ?_)
  replace hf := bnd_at e hf
  clear e
  refine ww_iconst (v := 1) h dX10_takes_3 (by decide) 4 rfl ?_
  refine ww_ist h dX10_takes_4 (by decide) (fun v5_2 => [(5, .int v5_2), (4, .int v4_1), (0, .ref oM), (1, .int p0), (2, .int p1), (3, .int p2)]) (fun _ => rfl) 6 rfl (fun v5_2 e => ?_)
  replace hf := bnd_at e hf
  clear e
  refine ww_lo [2, 3, 4, 1, 0] (lo' := [(0, .ref oM), (1, .int p0), (2, .int p1), (4, .int v4_1), (5, .int v5_2)]) rfl ?_
  obtain ⟨v4_28, M_29, h3, hf⟩ := ob2 hf
  refine lp_walk (un3 (fun v4_4 v5_5 M_6 => ww X D A 8 Q 0 0 6 [(0, .ref oM), (1, .int p0), (2, .int p1), (4, .int v4_4), (5, .int v5_5)] [] [gX10 cy oM aM M_6])) (un2 (fun v4_28 M_29 => ww X D A 8 Q 0 0 116 [(0, .ref oM), (4, .int v4_28)] [] [gX10 cy oM aM M_29])) ?_ _ _ _ h3 ?_
  · clear h3 hf
    intro s3 o3 hf hI3 hE3
    obtain ⟨v4_4, v5_5, M_6⟩ := s3
    unfold s_X10_takes_6_3 at hf
    replace hf := un3_e hf
    show ww X D A 8 Q 0 0 6 [(0, .ref oM), (1, .int p0), (2, .int p1), (4, .int v4_4), (5, .int v5_5)] [] [gX10 cy oM aM M_6]
    refine ww_iload h dX10_takes_6 4 rfl 8 rfl ?_
    refine ww_iconst (v := 3) h dX10_takes_8 (by decide) 9 rfl ?_
    refine ww_icmp_gt h dX10_takes_9 116 (by decide) 12 rfl (fun c => ?_) (fun c => ?_)
    · replace hf := ite_t c hf
      refine ww_lo [0, 3] (lo' := [(0, .ref oM), (4, .int v4_4)]) rfl ?_
      exact hE3 (v4_4, M_6) (Option.some.inj hf).symm
    · replace hf := ite_f c hf
      refine ww_iconst (v := 0) h dX10_takes_12 (by decide) 13 rfl ?_
      refine ww_ist h dX10_takes_13 (by decide) (fun v6_7 => [(6, .int v6_7), (0, .ref oM), (1, .int p0), (2, .int p1), (4, .int v4_4), (5, .int v5_5)]) (fun _ => rfl) 15 rfl (fun v6_7 e => ?_)
      replace hf := bnd_at e hf
      clear e
      refine ww_iload_n h dX10_takes_15 rfl 2 rfl 16 rfl ?_
      refine ww_ist h dX10_takes_16 (by decide) (fun v7_8 => [(7, .int v7_8), (6, .int v6_7), (0, .ref oM), (1, .int p0), (2, .int p1), (4, .int v4_4), (5, .int v5_5)]) (fun _ => rfl) 18 rfl (fun v7_8 e => ?_)
      replace hf := bnd_at e hf
      clear e
      refine ww_lo [2, 3, 4, 5, 6, 1, 0] (lo' := [(0, .ref oM), (1, .int p0), (2, .int p1), (4, .int v4_4), (5, .int v5_5), (6, .int v6_7), (7, .int v7_8)]) rfl ?_
      obtain ⟨v6_20, h9, hf⟩ := ob1 hf
      refine lp_walk (un2 (fun v6_10 v7_11 => ww X D A 8 Q 0 0 18 [(0, .ref oM), (1, .int p0), (2, .int p1), (4, .int v4_4), (5, .int v5_5), (6, .int v6_10), (7, .int v7_11)] [] [gX10 cy oM aM M_6])) (un1 (fun v6_20 => ww X D A 8 Q 0 0 62 [(0, .ref oM), (1, .int p0), (2, .int p1), (4, .int v4_4), (5, .int v5_5), (6, .int v6_20)] [] [gX10 cy oM aM M_6])) ?_ _ _ _ h9 ?_
      · clear h9 hf
        intro s9 o9 hf hI9 hE9
        obtain ⟨v6_10, v7_11⟩ := s9
        unfold s_X10_takes_18_9 at hf
        replace hf := un2_e hf
        show ww X D A 8 Q 0 0 18 [(0, .ref oM), (1, .int p0), (2, .int p1), (4, .int v4_4), (5, .int v5_5), (6, .int v6_10), (7, .int v7_11)] [] [gX10 cy oM aM M_6]
        refine ww_iload h dX10_takes_18 6 rfl 20 rfl ?_
        refine ww_iload_n h dX10_takes_20 rfl 2 rfl 21 rfl ?_
        refine ww_icmp_gt h dX10_takes_21 62 (by decide) 24 rfl (fun c => ?_) (fun c => ?_)
        · replace hf := ite_t c hf
          refine ww_lo [0, 1, 2, 3, 4, 5] (lo' := [(0, .ref oM), (1, .int p0), (2, .int p1), (4, .int v4_4), (5, .int v5_5), (6, .int v6_10)]) rfl ?_
          exact hE9 v6_10 (Option.some.inj hf).symm
        · replace hf := ite_f c hf
          refine ww_aload_n h dX10_takes_24 rfl 0 rfl 25 rfl ?_
          refine ww_get h inG10 rfl 0 rfl rfl 5 (by decide) w_1162 rfl dX10_takes_25 28 rfl ?_
          refine ww_aload_n h dX10_takes_28 rfl 0 rfl 29 rfl ?_
          refine ww_iload h dX10_takes_29 6 rfl 31 rfl ?_
          obtain ⟨r_12, hu13, hf⟩ := ob1 hf
          refine ww_cVi h (c_X10_classOf l D ev cy oM aM M_6 v7_11 _ hu13) ⟨w_1369, w_1366, w_1368, w_44, w_111, ok_X10_classOf⟩ ⟨by decide, by decide⟩ ⟨by decide, by decide⟩ ⟨rfl, rfl⟩ [0] rfl 0 rfl rfl rfl rfl (Nat.le_of_ble_eq_true rfl) dX10_takes_31 34 rfl (Gs' := [gX10 cy oM aM M_6]) rfl ?_
          clear hu13
          have hi := (gd_some hf).1
          replace hf := (gd_some hf).2
          refine ww_iald h 0 rfl 5 rfl (ix_in hi) dX10_takes_34 35 rfl ?_
          clear hi
          refine ww_iload h dX10_takes_35 4 rfl 37 rfl ?_
          have hJ56_15 : ∀ (v6_14 : Int32), j_X10_takes_56_15 v7_11 v6_14 = some o9 → ww X D A 8 Q 0 0 56 [(0, .ref oM), (1, .int p0), (2, .int p1), (4, .int v4_4), (5, .int v5_5), (6, .int v6_14), (7, .int v7_11)] [] [gX10 cy oM aM M_6] := by
            intro v6_14 hf
            unfold j_X10_takes_56_15 at hf
            refine ww_inc (c := 1) h dX10_takes_56 6 rfl (by decide) (by decide) (fun v7_16 => [(7, .int v7_16), (0, .ref oM), (1, .int p0), (2, .int p1), (4, .int v4_4), (5, .int v5_5), (6, .int v6_14)]) (fun _ => rfl) 59 rfl (fun v7_16 e => ?_)
            replace hf := bnd_at e hf
            clear e
            refine ww_goto h dX10_takes_59 18 (by decide) ?_
            refine ww_lo [1, 2, 3, 4, 5, 6, 0] (lo' := [(0, .ref oM), (1, .int p0), (2, .int p1), (4, .int v4_4), (5, .int v5_5), (6, .int v6_14), (7, .int v7_16)]) rfl ?_
            exact hI9 (v6_14, v7_16) (Option.some.inj hf).symm
          refine ww_icmp_ne h dX10_takes_37 56 (by decide) 40 rfl (fun c => ?_) (fun c => ?_)
          · replace hf := ite_f c hf
            exact hJ56_15 v6_10 hf
          · replace hf := ite_t c hf
            refine ww_iload h dX10_takes_40 5 rfl 42 rfl ?_
            refine ww_aload_n h dX10_takes_42 rfl 0 rfl 43 rfl ?_
            refine ww_iload h dX10_takes_43 6 rfl 45 rfl ?_
            refine ww_iload_n h dX10_takes_45 rfl 2 rfl 46 rfl ?_
            refine ww_aload_n h dX10_takes_46 rfl 0 rfl 47 rfl ?_
            refine ww_get h inG10 rfl 0 rfl rfl 13 (by decide) w_1170 rfl dX10_takes_47 50 rfl ?_
            obtain ⟨r_17, hu18, hf⟩ := ob1 hf
            refine ww_cVi h (c_X10_squeezeOf l D ev cy oM aM M_6 v7_11 p1 (iv M_6 13) _ hu18) ⟨w_1477, w_1474, w_1476, w_54, w_111, ok_X10_squeezeOf⟩ ⟨by decide, by decide⟩ ⟨by decide, by decide⟩ ⟨rfl, rfl⟩ [0] rfl 0 rfl rfl rfl rfl (Nat.le_of_ble_eq_true rfl) dX10_takes_50 53 rfl (Gs' := [gX10 cy oM aM M_6]) rfl ?_
            clear hu18
            refine ww_iadd h dX10_takes_53 54 rfl ?_
            refine ww_ist h dX10_takes_54 (by decide) (fun v6_19 => [(6, .int v6_19), (0, .ref oM), (1, .int p0), (2, .int p1), (4, .int v4_4), (5, .int v5_5), (7, .int v7_11)]) (fun _ => rfl) 56 rfl (fun v6_19 e => ?_)
            replace hf := bnd_at e hf
            clear e
            refine ww_lo [1, 2, 3, 4, 5, 0, 6] (lo' := [(0, .ref oM), (1, .int p0), (2, .int p1), (4, .int v4_4), (5, .int v5_5), (6, .int v6_19), (7, .int v7_11)]) rfl ?_
            exact hJ56_15 v6_19 hf
      · clear h9
        show ww X D A 8 Q 0 0 62 [(0, .ref oM), (1, .int p0), (2, .int p1), (4, .int v4_4), (5, .int v5_5), (6, .int v6_20)] [] [gX10 cy oM aM M_6]
        refine ww_iload h dX10_takes_62 3 rfl 64 rfl ?_
        refine ww_iload h dX10_takes_64 5 rfl 66 rfl ?_
        have hJ76_22 : ∀ (t_21 : Int32), j_X10_takes_76_22 M_6 v4_4 v5_5 t_21 = some o3 → ww X D A 8 Q 0 0 76 [(0, .ref oM), (1, .int p0), (2, .int p1), (4, .int v4_4), (5, .int v5_5)] [.int t_21] [gX10 cy oM aM M_6] := by
          intro t_21 hf
          unfold j_X10_takes_76_22 at hf
          refine ww_ist h dX10_takes_76 (by decide) (fun v7_23 => [(7, .int v7_23), (0, .ref oM), (1, .int p0), (2, .int p1), (4, .int v4_4), (5, .int v5_5)]) (fun _ => rfl) 78 rfl (fun v7_23 e => ?_)
          replace hf := bnd_at e hf
          clear e
          refine ww_aload_n h dX10_takes_78 rfl 1 rfl 79 rfl ?_
          refine ww_dup h dX10_takes_79 rfl 80 rfl ?_
          refine ww_get h inG10 rfl 0 rfl rfl 18 (by decide) w_1175 rfl dX10_takes_80 83 rfl ?_
          refine ww_iload h dX10_takes_83 5 rfl 85 rfl ?_
          refine ww_iload h dX10_takes_85 0 rfl 87 rfl ?_
          refine ww_imul h dX10_takes_87 88 rfl ?_
          refine ww_iadd h dX10_takes_88 89 rfl ?_
          refine ww_put (ty := .int) h inG10 tyX10_ok nmX10 rfl 0 rfl rfl 18 (by decide) w_1175 rfl (by decide +kernel) rfl rfl (Nat.le_of_ble_eq_true rfl) (Nat.le_of_ble_eq_true rfl) dX10_takes_89 92 rfl ?_
          refine ww_nm (fun z => [gX10 cy oM aM z]) (sI M_6 18 ((iv M_6 18) + (v5_5 * v7_23))) (fun M_24 e => ?_)
          replace hf := bnd_at e hf
          clear e
          refine ww_aload_n h dX10_takes_92 rfl 1 rfl 93 rfl ?_
          refine ww_dup h dX10_takes_93 rfl 94 rfl ?_
          refine ww_get h inG10 rfl 0 rfl rfl 15 (by decide) w_1172 rfl dX10_takes_94 97 rfl ?_
          refine ww_iload h dX10_takes_97 0 rfl 99 rfl ?_
          refine ww_iadd h dX10_takes_99 100 rfl ?_
          refine ww_put (ty := .int) h inG10 tyX10_ok nmX10 rfl 0 rfl rfl 15 (by decide) w_1172 rfl (by decide +kernel) rfl rfl (Nat.le_of_ble_eq_true rfl) (Nat.le_of_ble_eq_true rfl) dX10_takes_100 103 rfl ?_
          refine ww_nm (fun z => [gX10 cy oM aM z]) (sI M_24 15 ((iv M_24 15) + v7_23)) (fun M_25 e => ?_)
          replace hf := bnd_at e hf
          clear e
          refine ww_iload h dX10_takes_103 4 rfl 105 rfl ?_
          refine ww_iload h dX10_takes_105 0 rfl 107 rfl ?_
          refine ww_isub h dX10_takes_107 108 rfl ?_
          refine ww_ist h dX10_takes_108 (by decide) (fun v4_26 => [(4, .int v4_26), (7, .int v7_23), (0, .ref oM), (1, .int p0), (2, .int p1), (5, .int v5_5)]) (fun _ => rfl) 110 rfl (fun v4_26 e => ?_)
          replace hf := bnd_at e hf
          clear e
          refine ww_inc (c := 1) h dX10_takes_110 5 rfl (by decide) (by decide) (fun v5_27 => [(5, .int v5_27), (4, .int v4_26), (7, .int v7_23), (0, .ref oM), (1, .int p0), (2, .int p1)]) (fun _ => rfl) 113 rfl (fun v5_27 e => ?_)
          replace hf := bnd_at e hf
          clear e
          refine ww_goto h dX10_takes_113 6 (by decide) ?_
          refine ww_lo [3, 4, 5, 1, 0] (lo' := [(0, .ref oM), (1, .int p0), (2, .int p1), (4, .int v4_26), (5, .int v5_27)]) rfl ?_
          exact hI3 (v4_26, v5_27, M_25) (Option.some.inj hf).symm
        refine ww_icmp_ge h dX10_takes_66 74 (by decide) 69 rfl (fun c => ?_) (fun c => ?_)
        · replace hf := ite_t c hf
          refine ww_iload h dX10_takes_74 5 rfl 76 rfl ?_
          refine ww_lo [0, 1, 2, 3, 4] (lo' := [(0, .ref oM), (1, .int p0), (2, .int p1), (4, .int v4_4), (5, .int v5_5)]) rfl ?_
          exact hJ76_22 v6_20 hf
        · replace hf := ite_f c hf
          refine ww_iload h dX10_takes_69 3 rfl 71 rfl ?_
          refine ww_goto h dX10_takes_71 76 (by decide) ?_
          refine ww_lo [0, 1, 2, 3, 4] (lo' := [(0, .ref oM), (1, .int p0), (2, .int p1), (4, .int v4_4), (5, .int v5_5)]) rfl ?_
          exact hJ76_22 v4_4 hf
  · clear h3
    show ww X D A 8 Q 0 0 116 [(0, .ref oM), (4, .int v4_28)] [] [gX10 cy oM aM M_29]
    refine ww_aload_n h dX10_takes_116 rfl 0 rfl 117 rfl ?_
    refine ww_iload h dX10_takes_117 1 rfl 119 rfl ?_
    refine ww_if_le h dX10_takes_119 126 (by decide) 122 rfl (fun c => ?_) (fun c => ?_)
    · replace hf := ite_t c hf
      refine ww_iconst (v := 0) h dX10_takes_126 (by decide) 127 rfl ?_
      refine ww_put (ty := .boolean) h inG10 tyX10_ok nmX10 rfl 0 rfl rfl 14 (by decide) w_1171 rfl (by decide +kernel) (by decide) (by decide) (Nat.le_of_ble_eq_true rfl) (Nat.le_of_ble_eq_true rfl) dX10_takes_127 130 rfl ?_
      refine ww_nm (fun z => [gX10 cy oM aM z]) (sI M_29 14 (0 : Int32)) (fun M_30 e => ?_)
      replace hf := bnd_at e hf
      clear e
      obtain rfl := Option.some.inj hf
      exact ww_vret h dX10_takes_130 hQ ⟨rfl, rfl⟩
    · replace hf := ite_f c hf
      refine ww_iconst (v := 1) h dX10_takes_122 (by decide) 123 rfl ?_
      refine ww_goto h dX10_takes_123 127 (by decide) ?_
      refine ww_put (ty := .boolean) h inG10 tyX10_ok nmX10 rfl 0 rfl rfl 14 (by decide) w_1171 rfl (by decide +kernel) (by decide) (by decide) (Nat.le_of_ble_eq_true rfl) (Nat.le_of_ble_eq_true rfl) dX10_takes_127 130 rfl ?_
      refine ww_nm (fun z => [gX10 cy oM aM z]) (sI M_29 14 (1 : Int32)) (fun M_31 e => ?_)
      replace hf := bnd_at e hf
      clear e
      obtain rfl := Option.some.inj hf
      exact ww_vret h dX10_takes_130 hQ ⟨rfl, rfl⟩
theorem dX10_gives_0 : decode cX10_gives 0 = .ok (.aload_n 0, 1) := by decide +kernel
theorem dX10_gives_1 : decode cX10_gives 1 = .ok (.iload_n 3, 1) := by decide +kernel
theorem dX10_gives_2 : decode cX10_gives 2 = .ok (.putfield 205, 3) := by decide +kernel
theorem dX10_gives_5 : decode cX10_gives 5 = .ok (.iconst 1, 1) := by decide +kernel
theorem dX10_gives_6 : decode cX10_gives 6 = .ok (.istore 4, 2) := by decide +kernel
theorem dX10_gives_8 : decode cX10_gives 8 = .ok (.iload 4, 2) := by decide +kernel
theorem dX10_gives_10 : decode cX10_gives 10 = .ok (.iconst 3, 1) := by decide +kernel
theorem dX10_gives_11 : decode cX10_gives 11 = .ok (.if_icmp .gt 115, 3) := by decide +kernel
theorem dX10_gives_14 : decode cX10_gives 14 = .ok (.iconst 0, 1) := by decide +kernel
theorem dX10_gives_15 : decode cX10_gives 15 = .ok (.istore 5, 2) := by decide +kernel
theorem dX10_gives_17 : decode cX10_gives 17 = .ok (.iload_n 1, 1) := by decide +kernel
theorem dX10_gives_18 : decode cX10_gives 18 = .ok (.istore 6, 2) := by decide +kernel
theorem dX10_gives_20 : decode cX10_gives 20 = .ok (.iload 6, 2) := by decide +kernel
theorem dX10_gives_22 : decode cX10_gives 22 = .ok (.iload_n 2, 1) := by decide +kernel
theorem dX10_gives_23 : decode cX10_gives 23 = .ok (.if_icmp .ge 41, 3) := by decide +kernel
theorem dX10_gives_26 : decode cX10_gives 26 = .ok (.aload_n 0, 1) := by decide +kernel
theorem dX10_gives_27 : decode cX10_gives 27 = .ok (.getfield 33, 3) := by decide +kernel
theorem dX10_gives_30 : decode cX10_gives 30 = .ok (.aload_n 0, 1) := by decide +kernel
theorem dX10_gives_31 : decode cX10_gives 31 = .ok (.iload 6, 2) := by decide +kernel
theorem dX10_gives_33 : decode cX10_gives 33 = .ok (.invokevirtual 144, 3) := by decide +kernel
theorem dX10_gives_36 : decode cX10_gives 36 = .ok (.iaload, 1) := by decide +kernel
theorem dX10_gives_37 : decode cX10_gives 37 = .ok (.iload 4, 2) := by decide +kernel
theorem dX10_gives_39 : decode cX10_gives 39 = .ok (.if_icmp .ne 19, 3) := by decide +kernel
theorem dX10_gives_42 : decode cX10_gives 42 = .ok (.iload 5, 2) := by decide +kernel
theorem dX10_gives_44 : decode cX10_gives 44 = .ok (.aload_n 0, 1) := by decide +kernel
theorem dX10_gives_45 : decode cX10_gives 45 = .ok (.getfield 30, 3) := by decide +kernel
theorem dX10_gives_48 : decode cX10_gives 48 = .ok (.aload_n 0, 1) := by decide +kernel
theorem dX10_gives_49 : decode cX10_gives 49 = .ok (.iload 6, 2) := by decide +kernel
theorem dX10_gives_51 : decode cX10_gives 51 = .ok (.invokevirtual 144, 3) := by decide +kernel
theorem dX10_gives_54 : decode cX10_gives 54 = .ok (.iaload, 1) := by decide +kernel
theorem dX10_gives_55 : decode cX10_gives 55 = .ok (.iadd, 1) := by decide +kernel
theorem dX10_gives_56 : decode cX10_gives 56 = .ok (.istore 5, 2) := by decide +kernel
theorem dX10_gives_58 : decode cX10_gives 58 = .ok (.iinc 6 1, 3) := by decide +kernel
theorem dX10_gives_61 : decode cX10_gives 61 = .ok (.goto (-41), 3) := by decide +kernel
theorem dX10_gives_64 : decode cX10_gives 64 = .ok (.aload_n 0, 1) := by decide +kernel
theorem dX10_gives_65 : decode cX10_gives 65 = .ok (.getfield 205, 3) := by decide +kernel
theorem dX10_gives_68 : decode cX10_gives 68 = .ok (.iload 5, 2) := by decide +kernel
theorem dX10_gives_70 : decode cX10_gives 70 = .ok (.if_icmp .ge 10, 3) := by decide +kernel
theorem dX10_gives_73 : decode cX10_gives 73 = .ok (.aload_n 0, 1) := by decide +kernel
theorem dX10_gives_74 : decode cX10_gives 74 = .ok (.getfield 205, 3) := by decide +kernel
theorem dX10_gives_77 : decode cX10_gives 77 = .ok (.goto 5, 3) := by decide +kernel
theorem dX10_gives_80 : decode cX10_gives 80 = .ok (.iload 5, 2) := by decide +kernel
theorem dX10_gives_82 : decode cX10_gives 82 = .ok (.istore 6, 2) := by decide +kernel
theorem dX10_gives_84 : decode cX10_gives 84 = .ok (.aload_n 0, 1) := by decide +kernel
theorem dX10_gives_85 : decode cX10_gives 85 = .ok (.dup, 1) := by decide +kernel
theorem dX10_gives_86 : decode cX10_gives 86 = .ok (.getfield 208, 3) := by decide +kernel
theorem dX10_gives_89 : decode cX10_gives 89 = .ok (.iload 4, 2) := by decide +kernel
theorem dX10_gives_91 : decode cX10_gives 91 = .ok (.iload 6, 2) := by decide +kernel
theorem dX10_gives_93 : decode cX10_gives 93 = .ok (.imul, 1) := by decide +kernel
theorem dX10_gives_94 : decode cX10_gives 94 = .ok (.iadd, 1) := by decide +kernel
theorem dX10_gives_95 : decode cX10_gives 95 = .ok (.putfield 208, 3) := by decide +kernel
theorem dX10_gives_98 : decode cX10_gives 98 = .ok (.aload_n 0, 1) := by decide +kernel
theorem dX10_gives_99 : decode cX10_gives 99 = .ok (.dup, 1) := by decide +kernel
theorem dX10_gives_100 : decode cX10_gives 100 = .ok (.getfield 202, 3) := by decide +kernel
theorem dX10_gives_103 : decode cX10_gives 103 = .ok (.iload 6, 2) := by decide +kernel
theorem dX10_gives_105 : decode cX10_gives 105 = .ok (.iadd, 1) := by decide +kernel
theorem dX10_gives_106 : decode cX10_gives 106 = .ok (.putfield 202, 3) := by decide +kernel
theorem dX10_gives_109 : decode cX10_gives 109 = .ok (.aload_n 0, 1) := by decide +kernel
theorem dX10_gives_110 : decode cX10_gives 110 = .ok (.dup, 1) := by decide +kernel
theorem dX10_gives_111 : decode cX10_gives 111 = .ok (.getfield 205, 3) := by decide +kernel
theorem dX10_gives_114 : decode cX10_gives 114 = .ok (.iload 6, 2) := by decide +kernel
theorem dX10_gives_116 : decode cX10_gives 116 = .ok (.isub, 1) := by decide +kernel
theorem dX10_gives_117 : decode cX10_gives 117 = .ok (.putfield 205, 3) := by decide +kernel
theorem dX10_gives_120 : decode cX10_gives 120 = .ok (.iinc 4 1, 3) := by decide +kernel
theorem dX10_gives_123 : decode cX10_gives 123 = .ok (.goto (-115), 3) := by decide +kernel
theorem dX10_gives_126 : decode cX10_gives 126 = .ok (.aload_n 0, 1) := by decide +kernel
theorem dX10_gives_127 : decode cX10_gives 127 = .ok (.dup, 1) := by decide +kernel
theorem dX10_gives_128 : decode cX10_gives 128 = .ok (.getfield 208, 3) := by decide +kernel
theorem dX10_gives_131 : decode cX10_gives 131 = .ok (.aload_n 0, 1) := by decide +kernel
theorem dX10_gives_132 : decode cX10_gives 132 = .ok (.getfield 205, 3) := by decide +kernel
theorem dX10_gives_135 : decode cX10_gives 135 = .ok (.aload_n 0, 1) := by decide +kernel
theorem dX10_gives_136 : decode cX10_gives 136 = .ok (.getfield 36, 3) := by decide +kernel
theorem dX10_gives_139 : decode cX10_gives 139 = .ok (.bipush 85, 2) := by decide +kernel
theorem dX10_gives_141 : decode cX10_gives 141 = .ok (.iaload, 1) := by decide +kernel
theorem dX10_gives_142 : decode cX10_gives 142 = .ok (.imul, 1) := by decide +kernel
theorem dX10_gives_143 : decode cX10_gives 143 = .ok (.iadd, 1) := by decide +kernel
theorem dX10_gives_144 : decode cX10_gives 144 = .ok (.putfield 208, 3) := by decide +kernel
theorem dX10_gives_147 : decode cX10_gives 147 = .ok (.return_, 1) := by decide +kernel
theorem ok_X10_gives : okY RX10 yX10_gives 3 := ⟨rfl, by decide, by decide, by decide +kernel⟩
def j_X10_gives_58_14 (v6_10 : Int32) (v5_13 : Int32) : Option ((Int32 × Int32) ⊕ (Int32)) := bnd (v6_10 + 1) (fun v6_15 => some (.inl (v5_13, v6_15)))
def s_X10_gives_20_8 (M_5 : OV) (p1 : Int32) (v4_4 : Int32) : (Int32 × Int32) → Option ((Int32 × Int32) ⊕ (Int32)) := un2 (fun v5_9 v6_10 => (if p1 ≤ v6_10 then some (.inr v5_9) else (f_X10_classOf M_5 v6_10).bind (un1 (fun r_11 => gd (ix r_11 26) ((if (ar M_5 7 r_11.toNatClampNeg) = v4_4 then (f_X10_classOf M_5 v6_10).bind (un1 (fun r_16 => gd (ix r_16 26) (bnd (v5_9 + (ar M_5 6 r_16.toNatClampNeg)) (fun v5_18 => j_X10_gives_58_14 v6_10 v5_18)))) else j_X10_gives_58_14 v6_10 v5_9))))))
def j_X10_gives_82_21 (M_5 : OV) (v4_4 : Int32) (t_20 : Int32) : Option ((Int32 × OV) ⊕ (OV)) := bnd t_20 (fun v6_22 => bnd (sI M_5 18 ((iv M_5 18) + (v4_4 * v6_22))) (fun M_23 => bnd (sI M_23 16 ((iv M_23 16) + v6_22)) (fun M_24 => bnd (sI M_24 17 ((iv M_24 17) - v6_22)) (fun M_25 => bnd (v4_4 + 1) (fun v4_26 => some (.inl (v4_26, M_25)))))))
def s_X10_gives_8_3 (p0 : Int32) (p1 : Int32) : (Int32 × OV) → Option ((Int32 × OV) ⊕ (OV)) := un2 (fun v4_4 M_5 => (if (3 : Int32) < v4_4 then some (.inr M_5) else bnd (0 : Int32) (fun v5_6 => bnd p0 (fun v6_7 => ((lp (s_X10_gives_20_8 M_5 p1 v4_4) 5000 (v5_6, v6_7)).bind (un1 (fun v5_19 => (if v5_19 ≤ (iv M_5 17) then j_X10_gives_82_21 M_5 v4_4 v5_19 else j_X10_gives_82_21 M_5 v4_4 (iv M_5 17)))))))))
def f_X10_gives (M : OV) (p0 : Int32) (p1 : Int32) (p2 : Int32) : Option (OV) := bnd (sI M 17 p2) (fun M_1 => bnd (1 : Int32) (fun v4_2 => ((lp (s_X10_gives_8_3 p0 p1) 5000 (v4_2, M_1)).bind (un1 (fun M_27 => gd (ix (85 : Int32) 113) (bnd (sI M_27 18 ((iv M_27 18) + ((iv M_27 17) * (ar M_27 8 (85 : Int32).toNatClampNeg)))) (fun M_28 => some M_28)))))))
def r_X10_gives : Room := { frames := 1, cells := 0, slots := 0, locals := 21 }
set_option maxHeartbeats 4000000 in
set_option maxRecDepth 100000 in
theorem c_X10_gives (l : Launch) (D : va_G) (ev : EvT) (cy : Nat → ClassId) (oM : Nat) (aM : Nat → Nat) (M : OV) (p0 : Int32) (p1 : Int32) (p2 : Int32) (o : OV) (hf : f_X10_gives M p0 p1 p2 = some o) : Fn l yX10_gives cX10_gives 7 none r_X10_gives D ev cy [.ref oM, .int p0, .int p1, .int p2] [gX10 cy oM aM M] (fun v G => v = none ∧ G = [gX10 cy oM aM o]) := by
  refine Fn_of (by decide) (Nat.le_of_ble_eq_true rfl) (fun X A Q h hQ _ => ?_)
  unfold f_X10_gives at hf
  show ww X D A 7 Q 0 0 0 [(0, .ref oM), (1, .int p0), (2, .int p1), (3, .int p2)] [] [gX10 cy oM aM M]
  refine ww_aload_n h dX10_gives_0 rfl 0 rfl 1 rfl ?_
  refine ww_iload_n h dX10_gives_1 rfl 3 rfl 2 rfl ?_
  refine ww_put (ty := .int) h inG10 tyX10_ok nmX10 rfl 0 rfl rfl 17 (by decide) w_1174 rfl (by decide +kernel) rfl rfl (Nat.le_of_ble_eq_true rfl) (Nat.le_of_ble_eq_true rfl) dX10_gives_2 5 rfl ?_
  refine ww_nm (fun z => [gX10 cy oM aM z]) (sI M 17 p2) (fun M_1 e => ?_)
  replace hf := bnd_at e hf
  clear e
  refine ww_iconst (v := 1) h dX10_gives_5 (by decide) 6 rfl ?_
  refine ww_ist h dX10_gives_6 (by decide) (fun v4_2 => [(4, .int v4_2), (0, .ref oM), (1, .int p0), (2, .int p1), (3, .int p2)]) (fun _ => rfl) 8 rfl (fun v4_2 e => ?_)
  replace hf := bnd_at e hf
  clear e
  refine ww_lo [1, 2, 3, 0] (lo' := [(0, .ref oM), (1, .int p0), (2, .int p1), (4, .int v4_2)]) rfl ?_
  obtain ⟨M_27, h3, hf⟩ := ob1 hf
  refine lp_walk (un2 (fun v4_4 M_5 => ww X D A 7 Q 0 0 8 [(0, .ref oM), (1, .int p0), (2, .int p1), (4, .int v4_4)] [] [gX10 cy oM aM M_5])) (un1 (fun M_27 => ww X D A 7 Q 0 0 126 [(0, .ref oM)] [] [gX10 cy oM aM M_27])) ?_ _ _ _ h3 ?_
  · clear h3 hf
    intro s3 o3 hf hI3 hE3
    obtain ⟨v4_4, M_5⟩ := s3
    unfold s_X10_gives_8_3 at hf
    replace hf := un2_e hf
    show ww X D A 7 Q 0 0 8 [(0, .ref oM), (1, .int p0), (2, .int p1), (4, .int v4_4)] [] [gX10 cy oM aM M_5]
    refine ww_iload h dX10_gives_8 3 rfl 10 rfl ?_
    refine ww_iconst (v := 3) h dX10_gives_10 (by decide) 11 rfl ?_
    refine ww_icmp_gt h dX10_gives_11 126 (by decide) 14 rfl (fun c => ?_) (fun c => ?_)
    · replace hf := ite_t c hf
      refine ww_lo [0] (lo' := [(0, .ref oM)]) rfl ?_
      exact hE3 M_5 (Option.some.inj hf).symm
    · replace hf := ite_f c hf
      refine ww_iconst (v := 0) h dX10_gives_14 (by decide) 15 rfl ?_
      refine ww_ist h dX10_gives_15 (by decide) (fun v5_6 => [(5, .int v5_6), (0, .ref oM), (1, .int p0), (2, .int p1), (4, .int v4_4)]) (fun _ => rfl) 17 rfl (fun v5_6 e => ?_)
      replace hf := bnd_at e hf
      clear e
      refine ww_iload_n h dX10_gives_17 rfl 2 rfl 18 rfl ?_
      refine ww_ist h dX10_gives_18 (by decide) (fun v6_7 => [(6, .int v6_7), (5, .int v5_6), (0, .ref oM), (1, .int p0), (2, .int p1), (4, .int v4_4)]) (fun _ => rfl) 20 rfl (fun v6_7 e => ?_)
      replace hf := bnd_at e hf
      clear e
      refine ww_lo [2, 3, 4, 5, 1, 0] (lo' := [(0, .ref oM), (1, .int p0), (2, .int p1), (4, .int v4_4), (5, .int v5_6), (6, .int v6_7)]) rfl ?_
      obtain ⟨v5_19, h8, hf⟩ := ob1 hf
      refine lp_walk (un2 (fun v5_9 v6_10 => ww X D A 7 Q 0 0 20 [(0, .ref oM), (1, .int p0), (2, .int p1), (4, .int v4_4), (5, .int v5_9), (6, .int v6_10)] [] [gX10 cy oM aM M_5])) (un1 (fun v5_19 => ww X D A 7 Q 0 0 64 [(0, .ref oM), (1, .int p0), (2, .int p1), (4, .int v4_4), (5, .int v5_19)] [] [gX10 cy oM aM M_5])) ?_ _ _ _ h8 ?_
      · clear h8 hf
        intro s8 o8 hf hI8 hE8
        obtain ⟨v5_9, v6_10⟩ := s8
        unfold s_X10_gives_20_8 at hf
        replace hf := un2_e hf
        show ww X D A 7 Q 0 0 20 [(0, .ref oM), (1, .int p0), (2, .int p1), (4, .int v4_4), (5, .int v5_9), (6, .int v6_10)] [] [gX10 cy oM aM M_5]
        refine ww_iload h dX10_gives_20 5 rfl 22 rfl ?_
        refine ww_iload_n h dX10_gives_22 rfl 2 rfl 23 rfl ?_
        refine ww_icmp_ge h dX10_gives_23 64 (by decide) 26 rfl (fun c => ?_) (fun c => ?_)
        · replace hf := ite_t c hf
          refine ww_lo [0, 1, 2, 3, 4] (lo' := [(0, .ref oM), (1, .int p0), (2, .int p1), (4, .int v4_4), (5, .int v5_9)]) rfl ?_
          exact hE8 v5_9 (Option.some.inj hf).symm
        · replace hf := ite_f c hf
          refine ww_aload_n h dX10_gives_26 rfl 0 rfl 27 rfl ?_
          refine ww_get h inG10 rfl 0 rfl rfl 7 (by decide) w_1164 rfl dX10_gives_27 30 rfl ?_
          refine ww_aload_n h dX10_gives_30 rfl 0 rfl 31 rfl ?_
          refine ww_iload h dX10_gives_31 5 rfl 33 rfl ?_
          obtain ⟨r_11, hu12, hf⟩ := ob1 hf
          refine ww_cVi h (c_X10_classOf l D ev cy oM aM M_5 v6_10 _ hu12) ⟨w_1369, w_1366, w_1368, w_44, w_111, ok_X10_classOf⟩ ⟨by decide, by decide⟩ ⟨by decide, by decide⟩ ⟨rfl, rfl⟩ [0] rfl 0 rfl rfl rfl rfl (Nat.le_of_ble_eq_true rfl) dX10_gives_33 36 rfl (Gs' := [gX10 cy oM aM M_5]) rfl ?_
          clear hu12
          have hi := (gd_some hf).1
          replace hf := (gd_some hf).2
          refine ww_iald h 0 rfl 7 rfl (ix_in hi) dX10_gives_36 37 rfl ?_
          clear hi
          refine ww_iload h dX10_gives_37 3 rfl 39 rfl ?_
          have hJ58_14 : ∀ (v5_13 : Int32), j_X10_gives_58_14 v6_10 v5_13 = some o8 → ww X D A 7 Q 0 0 58 [(0, .ref oM), (1, .int p0), (2, .int p1), (4, .int v4_4), (5, .int v5_13), (6, .int v6_10)] [] [gX10 cy oM aM M_5] := by
            intro v5_13 hf
            unfold j_X10_gives_58_14 at hf
            refine ww_inc (c := 1) h dX10_gives_58 5 rfl (by decide) (by decide) (fun v6_15 => [(6, .int v6_15), (0, .ref oM), (1, .int p0), (2, .int p1), (4, .int v4_4), (5, .int v5_13)]) (fun _ => rfl) 61 rfl (fun v6_15 e => ?_)
            replace hf := bnd_at e hf
            clear e
            refine ww_goto h dX10_gives_61 20 (by decide) ?_
            refine ww_lo [1, 2, 3, 4, 5, 0] (lo' := [(0, .ref oM), (1, .int p0), (2, .int p1), (4, .int v4_4), (5, .int v5_13), (6, .int v6_15)]) rfl ?_
            exact hI8 (v5_13, v6_15) (Option.some.inj hf).symm
          refine ww_icmp_ne h dX10_gives_39 58 (by decide) 42 rfl (fun c => ?_) (fun c => ?_)
          · replace hf := ite_f c hf
            exact hJ58_14 v5_9 hf
          · replace hf := ite_t c hf
            refine ww_iload h dX10_gives_42 4 rfl 44 rfl ?_
            refine ww_aload_n h dX10_gives_44 rfl 0 rfl 45 rfl ?_
            refine ww_get h inG10 rfl 0 rfl rfl 6 (by decide) w_1163 rfl dX10_gives_45 48 rfl ?_
            refine ww_aload_n h dX10_gives_48 rfl 0 rfl 49 rfl ?_
            refine ww_iload h dX10_gives_49 5 rfl 51 rfl ?_
            obtain ⟨r_16, hu17, hf⟩ := ob1 hf
            refine ww_cVi h (c_X10_classOf l D ev cy oM aM M_5 v6_10 _ hu17) ⟨w_1369, w_1366, w_1368, w_44, w_111, ok_X10_classOf⟩ ⟨by decide, by decide⟩ ⟨by decide, by decide⟩ ⟨rfl, rfl⟩ [0] rfl 0 rfl rfl rfl rfl (Nat.le_of_ble_eq_true rfl) dX10_gives_51 54 rfl (Gs' := [gX10 cy oM aM M_5]) rfl ?_
            clear hu17
            have hi := (gd_some hf).1
            replace hf := (gd_some hf).2
            refine ww_iald h 0 rfl 6 rfl (ix_in hi) dX10_gives_54 55 rfl ?_
            clear hi
            refine ww_iadd h dX10_gives_55 56 rfl ?_
            refine ww_ist h dX10_gives_56 (by decide) (fun v5_18 => [(5, .int v5_18), (0, .ref oM), (1, .int p0), (2, .int p1), (4, .int v4_4), (6, .int v6_10)]) (fun _ => rfl) 58 rfl (fun v5_18 e => ?_)
            replace hf := bnd_at e hf
            clear e
            refine ww_lo [1, 2, 3, 4, 0, 5] (lo' := [(0, .ref oM), (1, .int p0), (2, .int p1), (4, .int v4_4), (5, .int v5_18), (6, .int v6_10)]) rfl ?_
            exact hJ58_14 v5_18 hf
      · clear h8
        show ww X D A 7 Q 0 0 64 [(0, .ref oM), (1, .int p0), (2, .int p1), (4, .int v4_4), (5, .int v5_19)] [] [gX10 cy oM aM M_5]
        refine ww_aload_n h dX10_gives_64 rfl 0 rfl 65 rfl ?_
        refine ww_get h inG10 rfl 0 rfl rfl 17 (by decide) w_1174 rfl dX10_gives_65 68 rfl ?_
        refine ww_iload h dX10_gives_68 4 rfl 70 rfl ?_
        have hJ82_21 : ∀ (t_20 : Int32), j_X10_gives_82_21 M_5 v4_4 t_20 = some o3 → ww X D A 7 Q 0 0 82 [(0, .ref oM), (1, .int p0), (2, .int p1), (4, .int v4_4)] [.int t_20] [gX10 cy oM aM M_5] := by
          intro t_20 hf
          unfold j_X10_gives_82_21 at hf
          refine ww_ist h dX10_gives_82 (by decide) (fun v6_22 => [(6, .int v6_22), (0, .ref oM), (1, .int p0), (2, .int p1), (4, .int v4_4)]) (fun _ => rfl) 84 rfl (fun v6_22 e => ?_)
          replace hf := bnd_at e hf
          clear e
          refine ww_aload_n h dX10_gives_84 rfl 1 rfl 85 rfl ?_
          refine ww_dup h dX10_gives_85 rfl 86 rfl ?_
          refine ww_get h inG10 rfl 0 rfl rfl 18 (by decide) w_1175 rfl dX10_gives_86 89 rfl ?_
          refine ww_iload h dX10_gives_89 4 rfl 91 rfl ?_
          refine ww_iload h dX10_gives_91 0 rfl 93 rfl ?_
          refine ww_imul h dX10_gives_93 94 rfl ?_
          refine ww_iadd h dX10_gives_94 95 rfl ?_
          refine ww_put (ty := .int) h inG10 tyX10_ok nmX10 rfl 0 rfl rfl 18 (by decide) w_1175 rfl (by decide +kernel) rfl rfl (Nat.le_of_ble_eq_true rfl) (Nat.le_of_ble_eq_true rfl) dX10_gives_95 98 rfl ?_
          refine ww_nm (fun z => [gX10 cy oM aM z]) (sI M_5 18 ((iv M_5 18) + (v4_4 * v6_22))) (fun M_23 e => ?_)
          replace hf := bnd_at e hf
          clear e
          refine ww_aload_n h dX10_gives_98 rfl 1 rfl 99 rfl ?_
          refine ww_dup h dX10_gives_99 rfl 100 rfl ?_
          refine ww_get h inG10 rfl 0 rfl rfl 16 (by decide) w_1173 rfl dX10_gives_100 103 rfl ?_
          refine ww_iload h dX10_gives_103 0 rfl 105 rfl ?_
          refine ww_iadd h dX10_gives_105 106 rfl ?_
          refine ww_put (ty := .int) h inG10 tyX10_ok nmX10 rfl 0 rfl rfl 16 (by decide) w_1173 rfl (by decide +kernel) rfl rfl (Nat.le_of_ble_eq_true rfl) (Nat.le_of_ble_eq_true rfl) dX10_gives_106 109 rfl ?_
          refine ww_nm (fun z => [gX10 cy oM aM z]) (sI M_23 16 ((iv M_23 16) + v6_22)) (fun M_24 e => ?_)
          replace hf := bnd_at e hf
          clear e
          refine ww_aload_n h dX10_gives_109 rfl 1 rfl 110 rfl ?_
          refine ww_dup h dX10_gives_110 rfl 111 rfl ?_
          refine ww_get h inG10 rfl 0 rfl rfl 17 (by decide) w_1174 rfl dX10_gives_111 114 rfl ?_
          refine ww_iload h dX10_gives_114 0 rfl 116 rfl ?_
          refine ww_isub h dX10_gives_116 117 rfl ?_
          refine ww_put (ty := .int) h inG10 tyX10_ok nmX10 rfl 0 rfl rfl 17 (by decide) w_1174 rfl (by decide +kernel) rfl rfl (Nat.le_of_ble_eq_true rfl) (Nat.le_of_ble_eq_true rfl) dX10_gives_117 120 rfl ?_
          refine ww_nm (fun z => [gX10 cy oM aM z]) (sI M_24 17 ((iv M_24 17) - v6_22)) (fun M_25 e => ?_)
          replace hf := bnd_at e hf
          clear e
          refine ww_inc (c := 1) h dX10_gives_120 4 rfl (by decide) (by decide) (fun v4_26 => [(4, .int v4_26), (6, .int v6_22), (0, .ref oM), (1, .int p0), (2, .int p1)]) (fun _ => rfl) 123 rfl (fun v4_26 e => ?_)
          replace hf := bnd_at e hf
          clear e
          refine ww_goto h dX10_gives_123 8 (by decide) ?_
          refine ww_lo [2, 3, 4, 0] (lo' := [(0, .ref oM), (1, .int p0), (2, .int p1), (4, .int v4_26)]) rfl ?_
          exact hI3 (v4_26, M_25) (Option.some.inj hf).symm
        refine ww_icmp_ge h dX10_gives_70 80 (by decide) 73 rfl (fun c => ?_) (fun c => ?_)
        · replace hf := ite_t c hf
          refine ww_iload h dX10_gives_80 4 rfl 82 rfl ?_
          refine ww_lo [0, 1, 2, 3] (lo' := [(0, .ref oM), (1, .int p0), (2, .int p1), (4, .int v4_4)]) rfl ?_
          exact hJ82_21 v5_19 hf
        · replace hf := ite_f c hf
          refine ww_aload_n h dX10_gives_73 rfl 0 rfl 74 rfl ?_
          refine ww_get h inG10 rfl 0 rfl rfl 17 (by decide) w_1174 rfl dX10_gives_74 77 rfl ?_
          refine ww_goto h dX10_gives_77 82 (by decide) ?_
          refine ww_lo [0, 1, 2, 3] (lo' := [(0, .ref oM), (1, .int p0), (2, .int p1), (4, .int v4_4)]) rfl ?_
          exact hJ82_21 (iv M_5 17) hf
  · clear h3
    show ww X D A 7 Q 0 0 126 [(0, .ref oM)] [] [gX10 cy oM aM M_27]
    refine ww_aload_n h dX10_gives_126 rfl 0 rfl 127 rfl ?_
    refine ww_dup h dX10_gives_127 rfl 128 rfl ?_
    refine ww_get h inG10 rfl 0 rfl rfl 18 (by decide) w_1175 rfl dX10_gives_128 131 rfl ?_
    refine ww_aload_n h dX10_gives_131 rfl 0 rfl 132 rfl ?_
    refine ww_get h inG10 rfl 0 rfl rfl 17 (by decide) w_1174 rfl dX10_gives_132 135 rfl ?_
    refine ww_aload_n h dX10_gives_135 rfl 0 rfl 136 rfl ?_
    refine ww_get h inG10 rfl 0 rfl rfl 8 (by decide) w_1165 rfl dX10_gives_136 139 rfl ?_
    refine ww_bipush (v := 85) h dX10_gives_139 (by decide) 141 rfl ?_
    have hi := (gd_some hf).1
    replace hf := (gd_some hf).2
    refine ww_iald h 0 rfl 8 rfl (ix_in hi) dX10_gives_141 142 rfl ?_
    clear hi
    refine ww_imul h dX10_gives_142 143 rfl ?_
    refine ww_iadd h dX10_gives_143 144 rfl ?_
    refine ww_put (ty := .int) h inG10 tyX10_ok nmX10 rfl 0 rfl rfl 18 (by decide) w_1175 rfl (by decide +kernel) rfl rfl (Nat.le_of_ble_eq_true rfl) (Nat.le_of_ble_eq_true rfl) dX10_gives_144 147 rfl ?_
    refine ww_nm (fun z => [gX10 cy oM aM z]) (sI M_27 18 ((iv M_27 18) + ((iv M_27 17) * (ar M_27 8 (85 : Int32).toNatClampNeg)))) (fun M_28 e => ?_)
    replace hf := bnd_at e hf
    clear e
    obtain rfl := Option.some.inj hf
    exact ww_vret h dX10_gives_147 hQ ⟨rfl, rfl⟩
