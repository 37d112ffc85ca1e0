theorem dX0_add_0 : decode cX0_add 0 = .ok (.aload_n 0, 1) := by decide +kernel
theorem dX0_add_1 : decode cX0_add 1 = .ok (.getfield 21, 3) := by decide +kernel
theorem dX0_add_4 : decode cX0_add 4 = .ok (.aload_n 0, 1) := by decide +kernel
theorem dX0_add_5 : decode cX0_add 5 = .ok (.getfield 15, 3) := by decide +kernel
theorem dX0_add_8 : decode cX0_add 8 = .ok (.arraylength, 1) := by decide +kernel
theorem dX0_add_9 : decode cX0_add 9 = .ok (.if_icmp .ge 23, 3) := by decide +kernel
theorem dX0_add_12 : decode cX0_add 12 = .ok (.aload_n 0, 1) := by decide +kernel
theorem dX0_add_13 : decode cX0_add 13 = .ok (.getfield 15, 3) := by decide +kernel
theorem dX0_add_16 : decode cX0_add 16 = .ok (.aload_n 0, 1) := by decide +kernel
theorem dX0_add_17 : decode cX0_add 17 = .ok (.getfield 21, 3) := by decide +kernel
theorem dX0_add_20 : decode cX0_add 20 = .ok (.iload_n 1, 1) := by decide +kernel
theorem dX0_add_21 : decode cX0_add 21 = .ok (.iastore, 1) := by decide +kernel
theorem dX0_add_22 : decode cX0_add 22 = .ok (.aload_n 0, 1) := by decide +kernel
theorem dX0_add_23 : decode cX0_add 23 = .ok (.dup, 1) := by decide +kernel
theorem dX0_add_24 : decode cX0_add 24 = .ok (.getfield 21, 3) := by decide +kernel
theorem dX0_add_27 : decode cX0_add 27 = .ok (.iconst 1, 1) := by decide +kernel
theorem dX0_add_28 : decode cX0_add 28 = .ok (.iadd, 1) := by decide +kernel
theorem dX0_add_29 : decode cX0_add 29 = .ok (.putfield 21, 3) := by decide +kernel
theorem dX0_add_32 : decode cX0_add 32 = .ok (.return_, 1) := by decide +kernel
theorem ok_X0_add : okY RX0 yX0_add 1 := ⟨rfl, by decide, by decide, by decide +kernel⟩
def f_X0_add (aB : Nat → Nat) (B : OV) (p0 : Int32) : Option (OV) := (if (Int32.ofNat (aB 98)) ≤ (iv B 1) then some B else gd (ix (iv B 1) (aB 98)) (bnd (sA B 0 (iv B 1).toNatClampNeg p0) (fun B_1 => bnd (sI B_1 1 ((iv B_1 1) + (1 : Int32))) (fun B_2 => some B_2))))
def r_X0_add : Room := { frames := 0, cells := 0, slots := 0, locals := 0 }
set_option maxHeartbeats 4000000 in
set_option maxRecDepth 100000 in
theorem c_X0_add (l : Launch) (D : va_G) (ev : EvT) (cy : Nat → ClassId) (oB : Nat) (aB : Nat → Nat) (B : OV) (p0 : Int32) (o : OV) (hf : f_X0_add aB B p0 = some o) : Fn l yX0_add cX0_add 2 none r_X0_add D ev cy [.ref oB, .int p0] [gX0 cy oB aB B] (fun v G => v = none ∧ G = [gX0 cy oB aB o]) := by
  refine Fn_of (by decide) (Nat.le_of_ble_eq_true rfl) (fun X A Q h hQ _ => ?_)
  unfold f_X0_add at hf
  show ww X D A 2 Q 0 0 0 [(0, .ref oB), (1, .int p0)] [] [gX0 cy oB aB B]
  refine ww_aload_n h dX0_add_0 rfl 0 rfl 1 rfl ?_
  refine ww_get h inG0 rfl 0 rfl rfl 1 (by decide) w_140 rfl dX0_add_1 4 rfl ?_
  refine ww_aload_n h dX0_add_4 rfl 0 rfl 5 rfl ?_
  refine ww_get h inG0 rfl 0 rfl rfl 0 (by decide) w_136 rfl dX0_add_5 8 rfl ?_
  refine ww_alen (v := Int32.ofNat (aB 98)) h 0 rfl 1 rfl 0 rfl rfl dX0_add_8 9 rfl ?_
  refine ww_icmp_ge h dX0_add_9 32 (by decide) 12 rfl (fun c => ?_) (fun c => ?_)
  · replace hf := ite_t c hf
    obtain rfl := Option.some.inj hf
    exact ww_vret h dX0_add_32 hQ ⟨rfl, rfl⟩
  · replace hf := ite_f c hf
    refine ww_aload_n h dX0_add_12 rfl 0 rfl 13 rfl ?_
    refine ww_get h inG0 rfl 0 rfl rfl 0 (by decide) w_136 rfl dX0_add_13 16 rfl ?_
    refine ww_aload_n h dX0_add_16 rfl 0 rfl 17 rfl ?_
    refine ww_get h inG0 rfl 0 rfl rfl 1 (by decide) w_140 rfl dX0_add_17 20 rfl ?_
    refine ww_iload_n h dX0_add_20 rfl 1 rfl 21 rfl ?_
    have hi := (gd_some hf).1
    replace hf := (gd_some hf).2
    refine ww_iast h 0 rfl 1 rfl (ix_in hi) dX0_add_21 22 rfl ?_
    clear hi
    refine ww_nm (fun z => [gX0 cy oB aB z]) (sA B 0 (iv B 1).toNatClampNeg p0) (fun B_1 e => ?_)
    replace hf := bnd_at e hf
    clear e
    refine ww_aload_n h dX0_add_22 rfl 0 rfl 23 rfl ?_
    refine ww_dup h dX0_add_23 rfl 24 rfl ?_
    refine ww_get h inG0 rfl 0 rfl rfl 1 (by decide) w_140 rfl dX0_add_24 27 rfl ?_
    refine ww_iconst (v := 1) h dX0_add_27 (by decide) 28 rfl ?_
    refine ww_iadd h dX0_add_28 29 rfl ?_
    refine ww_put (ty := .int) h inG0 tyX0_ok nmX0 rfl 0 rfl rfl 1 (by decide) w_140 rfl (by decide +kernel) rfl rfl (Nat.le_of_ble_eq_true rfl) (Nat.le_of_ble_eq_true rfl) dX0_add_29 32 rfl ?_
    refine ww_nm (fun z => [gX0 cy oB aB z]) (sI B_1 1 ((iv B_1 1) + (1 : Int32))) (fun B_2 e => ?_)
    replace hf := bnd_at e hf
    clear e
    obtain rfl := Option.some.inj hf
    exact ww_vret h dX0_add_32 hQ ⟨rfl, rfl⟩
theorem dX0_addFour_0 : decode cX0_addFour 0 = .ok (.aload_n 0, 1) := by decide +kernel
theorem dX0_addFour_1 : decode cX0_addFour 1 = .ok (.iload_n 1, 1) := by decide +kernel
theorem dX0_addFour_2 : decode cX0_addFour 2 = .ok (.bipush 24, 2) := by decide +kernel
theorem dX0_addFour_4 : decode cX0_addFour 4 = .ok (.iushr, 1) := by decide +kernel
theorem dX0_addFour_5 : decode cX0_addFour 5 = .ok (.invokevirtual 25, 3) := by decide +kernel
theorem dX0_addFour_8 : decode cX0_addFour 8 = .ok (.aload_n 0, 1) := by decide +kernel
theorem dX0_addFour_9 : decode cX0_addFour 9 = .ok (.iload_n 1, 1) := by decide +kernel
theorem dX0_addFour_10 : decode cX0_addFour 10 = .ok (.bipush 16, 2) := by decide +kernel
theorem dX0_addFour_12 : decode cX0_addFour 12 = .ok (.iushr, 1) := by decide +kernel
theorem dX0_addFour_13 : decode cX0_addFour 13 = .ok (.sipush 255, 3) := by decide +kernel
theorem dX0_addFour_16 : decode cX0_addFour 16 = .ok (.iand, 1) := by decide +kernel
theorem dX0_addFour_17 : decode cX0_addFour 17 = .ok (.invokevirtual 25, 3) := by decide +kernel
theorem dX0_addFour_20 : decode cX0_addFour 20 = .ok (.aload_n 0, 1) := by decide +kernel
theorem dX0_addFour_21 : decode cX0_addFour 21 = .ok (.iload_n 1, 1) := by decide +kernel
theorem dX0_addFour_22 : decode cX0_addFour 22 = .ok (.bipush 8, 2) := by decide +kernel
theorem dX0_addFour_24 : decode cX0_addFour 24 = .ok (.iushr, 1) := by decide +kernel
theorem dX0_addFour_25 : decode cX0_addFour 25 = .ok (.sipush 255, 3) := by decide +kernel
theorem dX0_addFour_28 : decode cX0_addFour 28 = .ok (.iand, 1) := by decide +kernel
theorem dX0_addFour_29 : decode cX0_addFour 29 = .ok (.invokevirtual 25, 3) := by decide +kernel
theorem dX0_addFour_32 : decode cX0_addFour 32 = .ok (.aload_n 0, 1) := by decide +kernel
theorem dX0_addFour_33 : decode cX0_addFour 33 = .ok (.iload_n 1, 1) := by decide +kernel
theorem dX0_addFour_34 : decode cX0_addFour 34 = .ok (.sipush 255, 3) := by decide +kernel
theorem dX0_addFour_37 : decode cX0_addFour 37 = .ok (.iand, 1) := by decide +kernel
theorem dX0_addFour_38 : decode cX0_addFour 38 = .ok (.invokevirtual 25, 3) := by decide +kernel
theorem dX0_addFour_41 : decode cX0_addFour 41 = .ok (.return_, 1) := by decide +kernel
theorem ok_X0_addFour : okY RX0 yX0_addFour 1 := ⟨rfl, by decide, by decide, by decide +kernel⟩
def f_X0_addFour (aB : Nat → Nat) (B : OV) (p0 : Int32) : Option (OV) := (f_X0_add aB B ((p0.toUInt32 >>> ((24 : Int32).toUInt32 &&& Int32.toUInt32 31)).toInt32)).bind (un1 (fun B_1 => (f_X0_add aB B_1 (((p0.toUInt32 >>> ((16 : Int32).toUInt32 &&& Int32.toUInt32 31)).toInt32) &&& (255 : Int32))).bind (un1 (fun B_3 => (f_X0_add aB B_3 (((p0.toUInt32 >>> ((8 : Int32).toUInt32 &&& Int32.toUInt32 31)).toInt32) &&& (255 : Int32))).bind (un1 (fun B_5 => (f_X0_add aB B_5 (p0 &&& (255 : Int32))).bind (un1 (fun B_7 => some B_7))))))))
def r_X0_addFour : Room := { frames := 1, cells := 0, slots := 0, locals := 21 }
set_option maxHeartbeats 4000000 in
set_option maxRecDepth 100000 in
theorem c_X0_addFour (l : Launch) (D : va_G) (ev : EvT) (cy : Nat → ClassId) (oB : Nat) (aB : Nat → Nat) (B : OV) (p0 : Int32) (o : OV) (hf : f_X0_addFour aB B p0 = some o) : Fn l yX0_addFour cX0_addFour 2 none r_X0_addFour D ev cy [.ref oB, .int p0] [gX0 cy oB aB B] (fun v G => v = none ∧ G = [gX0 cy oB aB o]) := by
  refine Fn_of (by decide) (Nat.le_of_ble_eq_true rfl) (fun X A Q h hQ _ => ?_)
  unfold f_X0_addFour at hf
  show ww X D A 2 Q 0 0 0 [(0, .ref oB), (1, .int p0)] [] [gX0 cy oB aB B]
  refine ww_aload_n h dX0_addFour_0 rfl 0 rfl 1 rfl ?_
  refine ww_iload_n h dX0_addFour_1 rfl 1 rfl 2 rfl ?_
  refine ww_bipush (v := 24) h dX0_addFour_2 (by decide) 4 rfl ?_
  refine ww_iushr h dX0_addFour_4 5 rfl ?_
  obtain ⟨B_1, hu2, hf⟩ := ob1 hf
  refine ww_cVv h (c_X0_add l D ev cy oB aB B ((p0.toUInt32 >>> ((24 : Int32).toUInt32 &&& Int32.toUInt32 31)).toInt32) _ hu2) ⟨w_464, w_461, w_462, w_463, w_102, ok_X0_add⟩ ⟨by decide, by decide⟩ ⟨by decide, by decide⟩ ⟨rfl, rfl⟩ [0] rfl 0 rfl rfl rfl rfl (Nat.le_of_ble_eq_true rfl) dX0_addFour_5 8 rfl (Gs' := [gX0 cy oB aB B_1]) rfl ?_
  clear hu2
  refine ww_aload_n h dX0_addFour_8 rfl 0 rfl 9 rfl ?_
  refine ww_iload_n h dX0_addFour_9 rfl 1 rfl 10 rfl ?_
  refine ww_bipush (v := 16) h dX0_addFour_10 (by decide) 12 rfl ?_
  refine ww_iushr h dX0_addFour_12 13 rfl ?_
  refine ww_sipush (v := 255) h dX0_addFour_13 (by decide) 16 rfl ?_
  refine ww_iand h dX0_addFour_16 17 rfl ?_
  obtain ⟨B_3, hu4, hf⟩ := ob1 hf
  refine ww_cVv h (c_X0_add l D ev cy oB aB B_1 (((p0.toUInt32 >>> ((16 : Int32).toUInt32 &&& Int32.toUInt32 31)).toInt32) &&& (255 : Int32)) _ hu4) ⟨w_464, w_461, w_462, w_463, w_102, ok_X0_add⟩ ⟨by decide, by decide⟩ ⟨by decide, by decide⟩ ⟨rfl, rfl⟩ [0] rfl 0 rfl rfl rfl rfl (Nat.le_of_ble_eq_true rfl) dX0_addFour_17 20 rfl (Gs' := [gX0 cy oB aB B_3]) rfl ?_
  clear hu4
  refine ww_aload_n h dX0_addFour_20 rfl 0 rfl 21 rfl ?_
  refine ww_iload_n h dX0_addFour_21 rfl 1 rfl 22 rfl ?_
  refine ww_bipush (v := 8) h dX0_addFour_22 (by decide) 24 rfl ?_
  refine ww_iushr h dX0_addFour_24 25 rfl ?_
  refine ww_sipush (v := 255) h dX0_addFour_25 (by decide) 28 rfl ?_
  refine ww_iand h dX0_addFour_28 29 rfl ?_
  obtain ⟨B_5, hu6, hf⟩ := ob1 hf
  refine ww_cVv h (c_X0_add l D ev cy oB aB B_3 (((p0.toUInt32 >>> ((8 : Int32).toUInt32 &&& Int32.toUInt32 31)).toInt32) &&& (255 : Int32)) _ hu6) ⟨w_464, w_461, w_462, w_463, w_102, ok_X0_add⟩ ⟨by decide, by decide⟩ ⟨by decide, by decide⟩ ⟨rfl, rfl⟩ [0] rfl 0 rfl rfl rfl rfl (Nat.le_of_ble_eq_true rfl) dX0_addFour_29 32 rfl (Gs' := [gX0 cy oB aB B_5]) rfl ?_
  clear hu6
  refine ww_aload_n h dX0_addFour_32 rfl 0 rfl 33 rfl ?_
  refine ww_iload_n h dX0_addFour_33 rfl 1 rfl 34 rfl ?_
  refine ww_sipush (v := 255) h dX0_addFour_34 (by decide) 37 rfl ?_
  refine ww_iand h dX0_addFour_37 38 rfl ?_
  obtain ⟨B_7, hu8, hf⟩ := ob1 hf
  refine ww_cVv h (c_X0_add l D ev cy oB aB B_5 (p0 &&& (255 : Int32)) _ hu8) ⟨w_464, w_461, w_462, w_463, w_102, ok_X0_add⟩ ⟨by decide, by decide⟩ ⟨by decide, by decide⟩ ⟨rfl, rfl⟩ [0] rfl 0 rfl rfl rfl rfl (Nat.le_of_ble_eq_true rfl) dX0_addFour_38 41 rfl (Gs' := [gX0 cy oB aB B_7]) rfl ?_
  clear hu8
  obtain rfl := Option.some.inj hf
  exact ww_vret h dX0_addFour_41 hQ ⟨rfl, rfl⟩
theorem dX0_addTimes_0 : decode cX0_addTimes 0 = .ok (.iconst 0, 1) := by decide +kernel
theorem dX0_addTimes_1 : decode cX0_addTimes 1 = .ok (.istore_n 3, 1) := by decide +kernel
theorem dX0_addTimes_2 : decode cX0_addTimes 2 = .ok (.iload_n 3, 1) := by decide +kernel
theorem dX0_addTimes_3 : decode cX0_addTimes 3 = .ok (.iload_n 2, 1) := by decide +kernel
theorem dX0_addTimes_4 : decode cX0_addTimes 4 = .ok (.if_icmp .ge 14, 3) := by decide +kernel
theorem dX0_addTimes_7 : decode cX0_addTimes 7 = .ok (.aload_n 0, 1) := by decide +kernel
theorem dX0_addTimes_8 : decode cX0_addTimes 8 = .ok (.iload_n 1, 1) := by decide +kernel
theorem dX0_addTimes_9 : decode cX0_addTimes 9 = .ok (.invokevirtual 25, 3) := by decide +kernel
theorem dX0_addTimes_12 : decode cX0_addTimes 12 = .ok (.iinc 3 1, 3) := by decide +kernel
theorem dX0_addTimes_15 : decode cX0_addTimes 15 = .ok (.goto (-13), 3) := by decide +kernel
theorem dX0_addTimes_18 : decode cX0_addTimes 18 = .ok (.return_, 1) := by decide +kernel
theorem ok_X0_addTimes : okY RX0 yX0_addTimes 2 := ⟨rfl, by decide, by decide, by decide +kernel⟩
def s_X0_addTimes_2_2 (aB : Nat → Nat) (p0 : Int32) (p1 : Int32) : (Int32 × OV) → Option ((Int32 × OV) ⊕ (OV)) := un2 (fun v3_3 B_4 => (if p1 ≤ v3_3 then some (.inr B_4) else (f_X0_add aB B_4 p0).bind (un1 (fun B_5 => bnd (v3_3 + 1) (fun v3_7 => some (.inl (v3_7, B_5)))))))
def f_X0_addTimes (aB : Nat → Nat) (B : OV) (p0 : Int32) (p1 : Int32) : Option (OV) := bnd (0 : Int32) (fun v3_1 => ((lp (s_X0_addTimes_2_2 aB p0 p1) 5000 (v3_1, B)).bind (un1 (fun B_8 => some B_8))))
def r_X0_addTimes : Room := { frames := 1, cells := 0, slots := 0, locals := 21 }
set_option maxHeartbeats 4000000 in
set_option maxRecDepth 100000 in
theorem c_X0_addTimes (l : Launch) (D : va_G) (ev : EvT) (cy : Nat → ClassId) (oB : Nat) (aB : Nat → Nat) (B : OV) (p0 : Int32) (p1 : Int32) (o : OV) (hf : f_X0_addTimes aB B p0 p1 = some o) : Fn l yX0_addTimes cX0_addTimes 4 none r_X0_addTimes D ev cy [.ref oB, .int p0, .int p1] [gX0 cy oB aB B] (fun v G => v = none ∧ G = [gX0 cy oB aB o]) := by
  refine Fn_of (by decide) (Nat.le_of_ble_eq_true rfl) (fun X A Q h hQ _ => ?_)
  unfold f_X0_addTimes at hf
  show ww X D A 4 Q 0 0 0 [(0, .ref oB), (1, .int p0), (2, .int p1)] [] [gX0 cy oB aB B]
  refine ww_iconst (v := 0) h dX0_addTimes_0 (by decide) 1 rfl ?_
  refine ww_ist_n h dX0_addTimes_1 rfl (by decide) (fun v3_1 => [(3, .int v3_1), (0, .ref oB), (1, .int p0), (2, .int p1)]) (fun _ => rfl) 2 rfl (fun v3_1 e => ?_)
  replace hf := bnd_at e hf
  clear e
  refine ww_lo [1, 2, 3, 0] (lo' := [(0, .ref oB), (1, .int p0), (2, .int p1), (3, .int v3_1)]) rfl ?_
  obtain ⟨B_8, h2, hf⟩ := ob1 hf
  refine lp_walk (un2 (fun v3_3 B_4 => ww X D A 4 Q 0 0 2 [(0, .ref oB), (1, .int p0), (2, .int p1), (3, .int v3_3)] [] [gX0 cy oB aB B_4])) (un1 (fun B_8 => ww X D A 4 Q 0 0 18 [] [] [gX0 cy oB aB B_8])) ?_ _ _ _ h2 ?_
  · clear h2 hf
    intro s2 o2 hf hI2 hE2
    obtain ⟨v3_3, B_4⟩ := s2
    unfold s_X0_addTimes_2_2 at hf
    replace hf := un2_e hf
    show ww X D A 4 Q 0 0 2 [(0, .ref oB), (1, .int p0), (2, .int p1), (3, .int v3_3)] [] [gX0 cy oB aB B_4]
    refine ww_iload_n h dX0_addTimes_2 rfl 3 rfl 3 rfl ?_
    refine ww_iload_n h dX0_addTimes_3 rfl 2 rfl 4 rfl ?_
    refine ww_icmp_ge h dX0_addTimes_4 18 (by decide) 7 rfl (fun c => ?_) (fun c => ?_)
    · replace hf := ite_t c hf
      refine ww_lo [] (lo' := []) rfl ?_
      exact hE2 B_4 (Option.some.inj hf).symm
    · replace hf := ite_f c hf
      refine ww_aload_n h dX0_addTimes_7 rfl 0 rfl 8 rfl ?_
      refine ww_iload_n h dX0_addTimes_8 rfl 1 rfl 9 rfl ?_
      obtain ⟨B_5, hu6, hf⟩ := ob1 hf
      refine ww_cVv h (c_X0_add l D ev cy oB aB B_4 p0 _ hu6) ⟨w_464, w_461, w_462, w_463, w_102, ok_X0_add⟩ ⟨by decide, by decide⟩ ⟨by decide, by decide⟩ ⟨rfl, rfl⟩ [0] rfl 0 rfl rfl rfl rfl (Nat.le_of_ble_eq_true rfl) dX0_addTimes_9 12 rfl (Gs' := [gX0 cy oB aB B_5]) rfl ?_
      clear hu6
      refine ww_inc (c := 1) h dX0_addTimes_12 3 rfl (by decide) (by decide) (fun v3_7 => [(3, .int v3_7), (0, .ref oB), (1, .int p0), (2, .int p1)]) (fun _ => rfl) 15 rfl (fun v3_7 e => ?_)
      replace hf := bnd_at e hf
      clear e
      refine ww_goto h dX0_addTimes_15 2 (by decide) ?_
      refine ww_lo [1, 2, 3, 0] (lo' := [(0, .ref oB), (1, .int p0), (2, .int p1), (3, .int v3_7)]) rfl ?_
      exact hI2 (v3_7, B_5) (Option.some.inj hf).symm
  · clear h2
    show ww X D A 4 Q 0 0 18 [] [] [gX0 cy oB aB B_8]
    obtain rfl := Option.some.inj hf
    exact ww_vret h dX0_addTimes_18 hQ ⟨rfl, rfl⟩
theorem dX0_addText_0 : decode cX0_addText 0 = .ok (.iconst 0, 1) := by decide +kernel
theorem dX0_addText_1 : decode cX0_addText 1 = .ok (.istore_n 2, 1) := by decide +kernel
theorem dX0_addText_2 : decode cX0_addText 2 = .ok (.iload_n 2, 1) := by decide +kernel
theorem dX0_addText_3 : decode cX0_addText 3 = .ok (.aload_n 1, 1) := by decide +kernel
theorem dX0_addText_4 : decode cX0_addText 4 = .ok (.invokevirtual 29, 3) := by decide +kernel
theorem dX0_addText_7 : decode cX0_addText 7 = .ok (.if_icmp .ge 18, 3) := by decide +kernel
theorem dX0_addText_10 : decode cX0_addText 10 = .ok (.aload_n 0, 1) := by decide +kernel
theorem dX0_addText_11 : decode cX0_addText 11 = .ok (.aload_n 1, 1) := by decide +kernel
theorem dX0_addText_12 : decode cX0_addText 12 = .ok (.iload_n 2, 1) := by decide +kernel
theorem dX0_addText_13 : decode cX0_addText 13 = .ok (.invokevirtual 34, 3) := by decide +kernel
theorem dX0_addText_16 : decode cX0_addText 16 = .ok (.invokevirtual 25, 3) := by decide +kernel
theorem dX0_addText_19 : decode cX0_addText 19 = .ok (.iinc 2 1, 3) := by decide +kernel
theorem dX0_addText_22 : decode cX0_addText 22 = .ok (.goto (-20), 3) := by decide +kernel
theorem dX0_addText_25 : decode cX0_addText 25 = .ok (.return_, 1) := by decide +kernel
theorem ok_X0_addText : okY RX0 yX0_addText 1 := ⟨rfl, by decide, by decide, by decide +kernel⟩
def s_X0_addText_2_2 (w0 : Nat) (aB : Nat → Nat) : (Int32 × OV) → Option ((Int32 × OV) ⊕ (OV)) := un2 (fun v2_3 B_4 => gd (decide (w0 < 21)) ((if (sln w0) ≤ v2_3 then some (.inr B_4) else gd (decide (w0 < 21)) (gd (ix v2_3 (lenJ.getD w0 0)) ((f_X0_add aB B_4 (sch w0 v2_3)).bind (un1 (fun B_5 => bnd (v2_3 + 1) (fun v2_7 => some (.inl (v2_7, B_5))))))))))
def f_X0_addText (aB : Nat → Nat) (B : OV) (w0 : Nat) : Option (OV) := bnd (0 : Int32) (fun v2_1 => ((lp (s_X0_addText_2_2 w0 aB) 5000 (v2_1, B)).bind (un1 (fun B_8 => some B_8))))
def r_X0_addText : Room := { frames := 4, cells := 0, slots := 0, locals := 85 }
set_option maxHeartbeats 4000000 in
set_option maxRecDepth 100000 in
theorem c_X0_addText (l : Launch) (D : va_G) (ev : EvT) (cy : Nat → ClassId) (oB : Nat) (aB : Nat → Nat) (B : OV) (w0 : Nat) (o : OV) (hf : f_X0_addText aB B w0 = some o) : Fn l yX0_addText cX0_addText 3 none r_X0_addText D ev cy [.ref oB, .ref (ev.1 w0)] [gX0 cy oB aB B] (fun v G => v = none ∧ G = [gX0 cy oB aB o]) := by
  refine Fn_of (by decide) (Nat.le_of_ble_eq_true rfl) (fun X A Q h hQ _ => ?_)
  unfold f_X0_addText at hf
  show ww X D A 3 Q 0 0 0 [(0, .ref oB), (1, .ref (ev.1 w0))] [] [gX0 cy oB aB B]
  refine ww_iconst (v := 0) h dX0_addText_0 (by decide) 1 rfl ?_
  refine ww_ist_n h dX0_addText_1 rfl (by decide) (fun v2_1 => [(2, .int v2_1), (0, .ref oB), (1, .ref (ev.1 w0))]) (fun _ => rfl) 2 rfl (fun v2_1 e => ?_)
  replace hf := bnd_at e hf
  clear e
  refine ww_lo [1, 2, 0] (lo' := [(0, .ref oB), (1, .ref (ev.1 w0)), (2, .int v2_1)]) rfl ?_
  obtain ⟨B_8, h2, hf⟩ := ob1 hf
  refine lp_walk (un2 (fun v2_3 B_4 => ww X D A 3 Q 0 0 2 [(0, .ref oB), (1, .ref (ev.1 w0)), (2, .int v2_3)] [] [gX0 cy oB aB B_4])) (un1 (fun B_8 => ww X D A 3 Q 0 0 25 [] [] [gX0 cy oB aB B_8])) ?_ _ _ _ h2 ?_
  · clear h2 hf
    intro s2 o2 hf hI2 hE2
    obtain ⟨v2_3, B_4⟩ := s2
    unfold s_X0_addText_2_2 at hf
    replace hf := un2_e hf
    show ww X D A 3 Q 0 0 2 [(0, .ref oB), (1, .ref (ev.1 w0)), (2, .int v2_3)] [] [gX0 cy oB aB B_4]
    refine ww_iload_n h dX0_addText_2 rfl 2 rfl 3 rfl ?_
    refine ww_aload_n h dX0_addText_3 rfl 1 rfl 4 rfl ?_
    have hw := (gd_some hf).1
    replace hf := (gd_some hf).2
    refine ww_cT (As := []) (st := [.int v2_3]) h (of_decide_eq_true hw) (c_J0len l D ev cy w0 (of_decide_eq_true hw)) ⟨w_531, w_1046, w_529, w_530, w_114, ok_J0len⟩ ⟨by decide, by decide⟩ ⟨by decide, by decide⟩ ⟨rfl, rfl⟩ rfl (Nat.le_of_ble_eq_true rfl) dX0_addText_4 7 rfl ?_
    clear hw
    refine ww_icmp_ge h dX0_addText_7 25 (by decide) 10 rfl (fun c => ?_) (fun c => ?_)
    · replace hf := ite_t c hf
      refine ww_lo [] (lo' := []) rfl ?_
      exact hE2 B_4 (Option.some.inj hf).symm
    · replace hf := ite_f c hf
      refine ww_aload_n h dX0_addText_10 rfl 0 rfl 11 rfl ?_
      refine ww_aload_n h dX0_addText_11 rfl 1 rfl 12 rfl ?_
      refine ww_iload_n h dX0_addText_12 rfl 2 rfl 13 rfl ?_
      have hw := (gd_some hf).1
      replace hf := (gd_some hf).2
      have hi := (gd_some hf).1
      replace hf := (gd_some hf).2
      refine ww_cT (As := [.int v2_3]) (st := [.ref oB]) h (of_decide_eq_true hw) (c_J0ca l D ev cy w0 v2_3 (of_decide_eq_true hw) hi) ⟨w_541, w_1047, w_539, w_540, w_114, ok_J0ca⟩ ⟨by decide, by decide⟩ ⟨by decide, by decide⟩ ⟨rfl, rfl⟩ rfl (Nat.le_of_ble_eq_true rfl) dX0_addText_13 16 rfl ?_
      clear hw
      clear hi
      obtain ⟨B_5, hu6, hf⟩ := ob1 hf
      refine ww_cVv h (c_X0_add l D ev cy oB aB B_4 (sch w0 v2_3) _ hu6) ⟨w_464, w_461, w_462, w_463, w_102, ok_X0_add⟩ ⟨by decide, by decide⟩ ⟨by decide, by decide⟩ ⟨rfl, rfl⟩ [0] rfl 0 rfl rfl rfl rfl (Nat.le_of_ble_eq_true rfl) dX0_addText_16 19 rfl (Gs' := [gX0 cy oB aB B_5]) rfl ?_
      clear hu6
      refine ww_inc (c := 1) h dX0_addText_19 2 rfl (by decide) (by decide) (fun v2_7 => [(2, .int v2_7), (0, .ref oB), (1, .ref (ev.1 w0))]) (fun _ => rfl) 22 rfl (fun v2_7 e => ?_)
      replace hf := bnd_at e hf
      clear e
      refine ww_goto h dX0_addText_22 2 (by decide) ?_
      refine ww_lo [1, 2, 0] (lo' := [(0, .ref oB), (1, .ref (ev.1 w0)), (2, .int v2_7)]) rfl ?_
      exact hI2 (v2_7, B_5) (Option.some.inj hf).symm
  · clear h2
    show ww X D A 3 Q 0 0 25 [] [] [gX0 cy oB aB B_8]
    obtain rfl := Option.some.inj hf
    exact ww_vret h dX0_addText_25 hQ ⟨rfl, rfl⟩
theorem dX0_addNumber_0 : decode cX0_addNumber 0 = .ok (.aload_n 0, 1) := by decide +kernel
theorem dX0_addNumber_1 : decode cX0_addNumber 1 = .ok (.aload_n 1, 1) := by decide +kernel
theorem dX0_addNumber_2 : decode cX0_addNumber 2 = .ok (.invokevirtual 38, 3) := by decide +kernel
theorem dX0_addNumber_5 : decode cX0_addNumber 5 = .ok (.aload_n 0, 1) := by decide +kernel
theorem dX0_addNumber_6 : decode cX0_addNumber 6 = .ok (.bipush 48, 2) := by decide +kernel
theorem dX0_addNumber_8 : decode cX0_addNumber 8 = .ok (.iload_n 2, 1) := by decide +kernel
theorem dX0_addNumber_9 : decode cX0_addNumber 9 = .ok (.iadd, 1) := by decide +kernel
theorem dX0_addNumber_10 : decode cX0_addNumber 10 = .ok (.invokevirtual 25, 3) := by decide +kernel
theorem dX0_addNumber_13 : decode cX0_addNumber 13 = .ok (.return_, 1) := by decide +kernel
theorem ok_X0_addNumber : okY RX0 yX0_addNumber 2 := ⟨rfl, by decide, by decide, by decide +kernel⟩
def f_X0_addNumber (aB : Nat → Nat) (B : OV) (w0 : Nat) (p1 : Int32) : Option (OV) := (f_X0_addText aB B w0).bind (un1 (fun B_1 => (f_X0_add aB B_1 ((48 : Int32) + p1)).bind (un1 (fun B_3 => some B_3))))
def r_X0_addNumber : Room := { frames := 5, cells := 0, slots := 0, locals := 107 }
set_option maxHeartbeats 4000000 in
set_option maxRecDepth 100000 in
theorem c_X0_addNumber (l : Launch) (D : va_G) (ev : EvT) (cy : Nat → ClassId) (oB : Nat) (aB : Nat → Nat) (B : OV) (w0 : Nat) (p1 : Int32) (o : OV) (hf : f_X0_addNumber aB B w0 p1 = some o) : Fn l yX0_addNumber cX0_addNumber 3 none r_X0_addNumber D ev cy [.ref oB, .ref (ev.1 w0), .int p1] [gX0 cy oB aB B] (fun v G => v = none ∧ G = [gX0 cy oB aB o]) := by
  refine Fn_of (by decide) (Nat.le_of_ble_eq_true rfl) (fun X A Q h hQ _ => ?_)
  unfold f_X0_addNumber at hf
  show ww X D A 3 Q 0 0 0 [(0, .ref oB), (1, .ref (ev.1 w0)), (2, .int p1)] [] [gX0 cy oB aB B]
  refine ww_aload_n h dX0_addNumber_0 rfl 0 rfl 1 rfl ?_
  refine ww_aload_n h dX0_addNumber_1 rfl 1 rfl 2 rfl ?_
  obtain ⟨B_1, hu2, hf⟩ := ob1 hf
  refine ww_cVv h (c_X0_addText l D ev cy oB aB B w0 _ hu2) ⟨w_1045, w_1053, w_1043, w_1044, w_102, ok_X0_addText⟩ ⟨by decide, by decide⟩ ⟨by decide, by decide⟩ ⟨rfl, rfl⟩ [0] rfl 0 rfl rfl rfl rfl (Nat.le_of_ble_eq_true rfl) dX0_addNumber_2 5 rfl (Gs' := [gX0 cy oB aB B_1]) rfl ?_
  clear hu2
  refine ww_aload_n h dX0_addNumber_5 rfl 0 rfl 6 rfl ?_
  refine ww_bipush (v := 48) h dX0_addNumber_6 (by decide) 8 rfl ?_
  refine ww_iload_n h dX0_addNumber_8 rfl 2 rfl 9 rfl ?_
  refine ww_iadd h dX0_addNumber_9 10 rfl ?_
  obtain ⟨B_3, hu4, hf⟩ := ob1 hf
  refine ww_cVv h (c_X0_add l D ev cy oB aB B_1 ((48 : Int32) + p1) _ hu4) ⟨w_464, w_461, w_462, w_463, w_102, ok_X0_add⟩ ⟨by decide, by decide⟩ ⟨by decide, by decide⟩ ⟨rfl, rfl⟩ [0] rfl 0 rfl rfl rfl rfl (Nat.le_of_ble_eq_true rfl) dX0_addNumber_10 13 rfl (Gs' := [gX0 cy oB aB B_3]) rfl ?_
  clear hu4
  obtain rfl := Option.some.inj hf
  exact ww_vret h dX0_addNumber_13 hQ ⟨rfl, rfl⟩
theorem dX0_told_0 : decode cX0_told 0 = .ok (.iload_n 1, 1) := by decide +kernel
theorem dX0_told_1 : decode cX0_told 1 = .ok (.ifCond .ge 8, 3) := by decide +kernel
theorem dX0_told_4 : decode cX0_told 4 = .ok (.aload_n 0, 1) := by decide +kernel
theorem dX0_told_5 : decode cX0_told 5 = .ok (.getfield 21, 3) := by decide +kernel
theorem dX0_told_8 : decode cX0_told 8 = .ok (.ireturn, 1) := by decide +kernel
theorem dX0_told_9 : decode cX0_told 9 = .ok (.iload_n 1, 1) := by decide +kernel
theorem dX0_told_10 : decode cX0_told 10 = .ok (.aload_n 0, 1) := by decide +kernel
theorem dX0_told_11 : decode cX0_told 11 = .ok (.getfield 21, 3) := by decide +kernel
theorem dX0_told_14 : decode cX0_told 14 = .ok (.if_icmp .ge 12, 3) := by decide +kernel
theorem dX0_told_17 : decode cX0_told 17 = .ok (.aload_n 0, 1) := by decide +kernel
theorem dX0_told_18 : decode cX0_told 18 = .ok (.getfield 15, 3) := by decide +kernel
theorem dX0_told_21 : decode cX0_told 21 = .ok (.iload_n 1, 1) := by decide +kernel
theorem dX0_told_22 : decode cX0_told 22 = .ok (.iaload, 1) := by decide +kernel
theorem dX0_told_23 : decode cX0_told 23 = .ok (.goto 5, 3) := by decide +kernel
theorem dX0_told_26 : decode cX0_told 26 = .ok (.bipush (-2), 2) := by decide +kernel
theorem dX0_told_28 : decode cX0_told 28 = .ok (.ireturn, 1) := by decide +kernel
theorem ok_X0_told : okY RX0 yX0_told 1 := ⟨rfl, by decide, by decide, by decide +kernel⟩
def f_X0_told (aB : Nat → Nat) (B : OV) (p0 : Int32) : Option (Int32) := (if 0 ≤ p0 then (if (iv B 1) ≤ p0 then some (-2 : Int32) else gd (ix p0 (aB 98)) (some (ar B 0 p0.toNatClampNeg))) else some (iv B 1))
def r_X0_told : Room := { frames := 0, cells := 0, slots := 0, locals := 0 }
set_option maxHeartbeats 4000000 in
set_option maxRecDepth 100000 in
theorem c_X0_told (l : Launch) (D : va_G) (ev : EvT) (cy : Nat → ClassId) (oB : Nat) (aB : Nat → Nat) (B : OV) (p0 : Int32) (o : Int32) (hf : f_X0_told aB B p0 = some o) : Fn l yX0_told cX0_told 2 (some .int) r_X0_told D ev cy [.ref oB, .int p0] [gX0 cy oB aB B] (fun v G => v = some (.int o) ∧ G = [gX0 cy oB aB B]) := by
  refine Fn_of (by decide) (Nat.le_of_ble_eq_true rfl) (fun X A Q h hQ _ => ?_)
  unfold f_X0_told at hf
  show ww X D A 2 Q 0 0 0 [(0, .ref oB), (1, .int p0)] [] [gX0 cy oB aB B]
  refine ww_iload_n h dX0_told_0 rfl 1 rfl 1 rfl ?_
  refine ww_if_ge h dX0_told_1 9 (by decide) 4 rfl (fun c => ?_) (fun c => ?_)
  · replace hf := ite_t c hf
    refine ww_iload_n h dX0_told_9 rfl 1 rfl 10 rfl ?_
    refine ww_aload_n h dX0_told_10 rfl 0 rfl 11 rfl ?_
    refine ww_get h inG0 rfl 0 rfl rfl 1 (by decide) w_140 rfl dX0_told_11 14 rfl ?_
    refine ww_icmp_ge h dX0_told_14 26 (by decide) 17 rfl (fun c => ?_) (fun c => ?_)
    · replace hf := ite_t c hf
      refine ww_bipush (v := (-2)) h dX0_told_26 (by decide) 28 rfl ?_
      obtain rfl := Option.some.inj hf
      exact ww_iret h dX0_told_28 hQ ⟨rfl, rfl⟩
    · replace hf := ite_f c hf
      refine ww_aload_n h dX0_told_17 rfl 0 rfl 18 rfl ?_
      refine ww_get h inG0 rfl 0 rfl rfl 0 (by decide) w_136 rfl dX0_told_18 21 rfl ?_
      refine ww_iload_n h dX0_told_21 rfl 1 rfl 22 rfl ?_
      have hi := (gd_some hf).1
      replace hf := (gd_some hf).2
      refine ww_iald h 0 rfl 1 rfl (ix_in hi) dX0_told_22 23 rfl ?_
      clear hi
      refine ww_goto h dX0_told_23 28 (by decide) ?_
      obtain rfl := Option.some.inj hf
      exact ww_iret h dX0_told_28 hQ ⟨rfl, rfl⟩
  · replace hf := ite_f c hf
    refine ww_aload_n h dX0_told_4 rfl 0 rfl 5 rfl ?_
    refine ww_get h inG0 rfl 0 rfl rfl 1 (by decide) w_140 rfl dX0_told_5 8 rfl ?_
    obtain rfl := Option.some.inj hf
    exact ww_iret h dX0_told_8 hQ ⟨rfl, rfl⟩
theorem dX0_dropBlanks_0 : decode cX0_dropBlanks 0 = .ok (.iconst 0, 1) := by decide +kernel
theorem dX0_dropBlanks_1 : decode cX0_dropBlanks 1 = .ok (.istore_n 1, 1) := by decide +kernel
theorem dX0_dropBlanks_2 : decode cX0_dropBlanks 2 = .ok (.iconst 0, 1) := by decide +kernel
theorem dX0_dropBlanks_3 : decode cX0_dropBlanks 3 = .ok (.istore_n 2, 1) := by decide +kernel
theorem dX0_dropBlanks_4 : decode cX0_dropBlanks 4 = .ok (.iload_n 2, 1) := by decide +kernel
theorem dX0_dropBlanks_5 : decode cX0_dropBlanks 5 = .ok (.aload_n 0, 1) := by decide +kernel
theorem dX0_dropBlanks_6 : decode cX0_dropBlanks 6 = .ok (.getfield 21, 3) := by decide +kernel
theorem dX0_dropBlanks_9 : decode cX0_dropBlanks 9 = .ok (.if_icmp .ge 52, 3) := by decide +kernel
theorem dX0_dropBlanks_12 : decode cX0_dropBlanks 12 = .ok (.aload_n 0, 1) := by decide +kernel
theorem dX0_dropBlanks_13 : decode cX0_dropBlanks 13 = .ok (.getfield 15, 3) := by decide +kernel
theorem dX0_dropBlanks_16 : decode cX0_dropBlanks 16 = .ok (.iload_n 2, 1) := by decide +kernel
theorem dX0_dropBlanks_17 : decode cX0_dropBlanks 17 = .ok (.iaload, 1) := by decide +kernel
theorem dX0_dropBlanks_18 : decode cX0_dropBlanks 18 = .ok (.istore_n 3, 1) := by decide +kernel
theorem dX0_dropBlanks_19 : decode cX0_dropBlanks 19 = .ok (.iload_n 3, 1) := by decide +kernel
theorem dX0_dropBlanks_20 : decode cX0_dropBlanks 20 = .ok (.bipush 97, 2) := by decide +kernel
theorem dX0_dropBlanks_22 : decode cX0_dropBlanks 22 = .ok (.if_icmp .lt 25, 3) := by decide +kernel
theorem dX0_dropBlanks_25 : decode cX0_dropBlanks 25 = .ok (.iload_n 3, 1) := by decide +kernel
theorem dX0_dropBlanks_26 : decode cX0_dropBlanks 26 = .ok (.bipush 122, 2) := by decide +kernel
theorem dX0_dropBlanks_28 : decode cX0_dropBlanks 28 = .ok (.if_icmp .gt 19, 3) := by decide +kernel
theorem dX0_dropBlanks_31 : decode cX0_dropBlanks 31 = .ok (.aload_n 0, 1) := by decide +kernel
theorem dX0_dropBlanks_32 : decode cX0_dropBlanks 32 = .ok (.getfield 15, 3) := by decide +kernel
theorem dX0_dropBlanks_35 : decode cX0_dropBlanks 35 = .ok (.iload_n 1, 1) := by decide +kernel
theorem dX0_dropBlanks_36 : decode cX0_dropBlanks 36 = .ok (.iload_n 3, 1) := by decide +kernel
theorem dX0_dropBlanks_37 : decode cX0_dropBlanks 37 = .ok (.bipush 97, 2) := by decide +kernel
theorem dX0_dropBlanks_39 : decode cX0_dropBlanks 39 = .ok (.isub, 1) := by decide +kernel
theorem dX0_dropBlanks_40 : decode cX0_dropBlanks 40 = .ok (.iastore, 1) := by decide +kernel
theorem dX0_dropBlanks_41 : decode cX0_dropBlanks 41 = .ok (.iinc 1 1, 3) := by decide +kernel
theorem dX0_dropBlanks_44 : decode cX0_dropBlanks 44 = .ok (.goto 11, 3) := by decide +kernel
theorem dX0_dropBlanks_47 : decode cX0_dropBlanks 47 = .ok (.iload_n 3, 1) := by decide +kernel
theorem dX0_dropBlanks_48 : decode cX0_dropBlanks 48 = .ok (.bipush 32, 2) := by decide +kernel
theorem dX0_dropBlanks_50 : decode cX0_dropBlanks 50 = .ok (.if_icmp .eq 5, 3) := by decide +kernel
theorem dX0_dropBlanks_53 : decode cX0_dropBlanks 53 = .ok (.iconst 0, 1) := by decide +kernel
theorem dX0_dropBlanks_54 : decode cX0_dropBlanks 54 = .ok (.ireturn, 1) := by decide +kernel
theorem dX0_dropBlanks_55 : decode cX0_dropBlanks 55 = .ok (.iinc 2 1, 3) := by decide +kernel
theorem dX0_dropBlanks_58 : decode cX0_dropBlanks 58 = .ok (.goto (-54), 3) := by decide +kernel
theorem dX0_dropBlanks_61 : decode cX0_dropBlanks 61 = .ok (.aload_n 0, 1) := by decide +kernel
theorem dX0_dropBlanks_62 : decode cX0_dropBlanks 62 = .ok (.iload_n 1, 1) := by decide +kernel
theorem dX0_dropBlanks_63 : decode cX0_dropBlanks 63 = .ok (.putfield 21, 3) := by decide +kernel
theorem dX0_dropBlanks_66 : decode cX0_dropBlanks 66 = .ok (.iconst 1, 1) := by decide +kernel
theorem dX0_dropBlanks_67 : decode cX0_dropBlanks 67 = .ok (.ireturn, 1) := by decide +kernel
theorem ok_X0_dropBlanks : okY RX0 yX0_dropBlanks 0 := ⟨rfl, by decide, by decide, by decide +kernel⟩
def j_X0_dropBlanks_55_10 (v2_5 : Int32) (v1_8 : Int32) (B_9 : OV) : Option ((Int32 × Int32 × OV) ⊕ ((Int32 × OV) ⊕ (Int32 × OV))) := bnd (v2_5 + 1) (fun v2_11 => some (.inl (v1_8, v2_11, B_9)))
def j_X0_dropBlanks_47_12 (B_6 : OV) (v1_4 : Int32) (v2_5 : Int32) (v3_7 : Int32) : Option ((Int32 × Int32 × OV) ⊕ ((Int32 × OV) ⊕ (Int32 × OV))) := (if v3_7 = (32 : Int32) then j_X0_dropBlanks_55_10 v2_5 v1_4 B_6 else some (.inr (.inr ((0 : Int32), B_6))))
def s_X0_dropBlanks_4_3 (aB : Nat → Nat) : (Int32 × Int32 × OV) → Option ((Int32 × Int32 × OV) ⊕ ((Int32 × OV) ⊕ (Int32 × OV))) := un3 (fun v1_4 v2_5 B_6 => (if (iv B_6 1) ≤ v2_5 then some (.inr (.inl (v1_4, B_6))) else gd (ix v2_5 (aB 98)) (bnd (ar B_6 0 v2_5.toNatClampNeg) (fun v3_7 => (if v3_7 < (97 : Int32) then j_X0_dropBlanks_47_12 B_6 v1_4 v2_5 v3_7 else (if (122 : Int32) < v3_7 then j_X0_dropBlanks_47_12 B_6 v1_4 v2_5 v3_7 else gd (ix v1_4 (aB 98)) (bnd (sA B_6 0 v1_4.toNatClampNeg (v3_7 - (97 : Int32))) (fun B_13 => bnd (v1_4 + 1) (fun v1_14 => j_X0_dropBlanks_55_10 v2_5 v1_14 B_13)))))))))
def f_X0_dropBlanks (aB : Nat → Nat) (B : OV) : Option (Int32 × OV) := bnd (0 : Int32) (fun v1_1 => bnd (0 : Int32) (fun v2_2 => ((lp (s_X0_dropBlanks_4_3 aB) 5000 (v1_1, v2_2, B)).bind (Sum.elim (un2 (fun v1_15 B_16 => bnd (sI B_16 1 v1_15) (fun B_17 => some ((1 : Int32), B_17)))) (fun r => some r)))))
def r_X0_dropBlanks : Room := { frames := 0, cells := 0, slots := 0, locals := 0 }
set_option maxHeartbeats 4000000 in
set_option maxRecDepth 100000 in
theorem c_X0_dropBlanks (l : Launch) (D : va_G) (ev : EvT) (cy : Nat → ClassId) (oB : Nat) (aB : Nat → Nat) (B : OV) (o : Int32 × OV) (hf : f_X0_dropBlanks aB B = some o) : Fn l yX0_dropBlanks cX0_dropBlanks 4 (some .boolean) r_X0_dropBlanks D ev cy [.ref oB] [gX0 cy oB aB B] (fun v G => v = some (.int o.1) ∧ G = [gX0 cy oB aB o.2]) := by
  refine Fn_of (by decide) (Nat.le_of_ble_eq_true rfl) (fun X A Q h hQ _ => ?_)
  unfold f_X0_dropBlanks at hf
  show ww X D A 4 Q 0 0 0 [(0, .ref oB)] [] [gX0 cy oB aB B]
  refine ww_iconst (v := 0) h dX0_dropBlanks_0 (by decide) 1 rfl ?_
  refine ww_ist_n h dX0_dropBlanks_1 rfl (by decide) (fun v1_1 => [(1, .int v1_1), (0, .ref oB)]) (fun _ => rfl) 2 rfl (fun v1_1 e => ?_)
  replace hf := bnd_at e hf
  clear e
  refine ww_iconst (v := 0) h dX0_dropBlanks_2 (by decide) 3 rfl ?_
  refine ww_ist_n h dX0_dropBlanks_3 rfl (by decide) (fun v2_2 => [(2, .int v2_2), (1, .int v1_1), (0, .ref oB)]) (fun _ => rfl) 4 rfl (fun v2_2 e => ?_)
  replace hf := bnd_at e hf
  clear e
  refine ww_lo [2, 1, 0] (lo' := [(0, .ref oB), (1, .int v1_1), (2, .int v2_2)]) rfl ?_
  obtain ⟨x3, h3, hf⟩ := ob_some hf
  refine lp_walk (un3 (fun v1_4 v2_5 B_6 => ww X D A 4 Q 0 0 4 [(0, .ref oB), (1, .int v1_4), (2, .int v2_5)] [] [gX0 cy oB aB B_6])) (Sum.elim (un2 (fun v1_15 B_16 => ww X D A 4 Q 0 0 61 [(0, .ref oB), (1, .int v1_15)] [] [gX0 cy oB aB B_16])) (fun r => r = o)) ?_ _ _ _ h3 ?_
  · clear h3 hf
    intro s3 o3 hf hI3 hE3
    obtain ⟨v1_4, v2_5, B_6⟩ := s3
    unfold s_X0_dropBlanks_4_3 at hf
    replace hf := un3_e hf
    show ww X D A 4 Q 0 0 4 [(0, .ref oB), (1, .int v1_4), (2, .int v2_5)] [] [gX0 cy oB aB B_6]
    refine ww_iload_n h dX0_dropBlanks_4 rfl 2 rfl 5 rfl ?_
    refine ww_aload_n h dX0_dropBlanks_5 rfl 0 rfl 6 rfl ?_
    refine ww_get h inG0 rfl 0 rfl rfl 1 (by decide) w_140 rfl dX0_dropBlanks_6 9 rfl ?_
    refine ww_icmp_ge h dX0_dropBlanks_9 61 (by decide) 12 rfl (fun c => ?_) (fun c => ?_)
    · replace hf := ite_t c hf
      refine ww_lo [0, 1] (lo' := [(0, .ref oB), (1, .int v1_4)]) rfl ?_
      exact hE3 (.inl (v1_4, B_6)) (Option.some.inj hf).symm
    · replace hf := ite_f c hf
      refine ww_aload_n h dX0_dropBlanks_12 rfl 0 rfl 13 rfl ?_
      refine ww_get h inG0 rfl 0 rfl rfl 0 (by decide) w_136 rfl dX0_dropBlanks_13 16 rfl ?_
      refine ww_iload_n h dX0_dropBlanks_16 rfl 2 rfl 17 rfl ?_
      have hi := (gd_some hf).1
      replace hf := (gd_some hf).2
      refine ww_iald h 0 rfl 1 rfl (ix_in hi) dX0_dropBlanks_17 18 rfl ?_
      clear hi
      refine ww_ist_n h dX0_dropBlanks_18 rfl (by decide) (fun v3_7 => [(3, .int v3_7), (0, .ref oB), (1, .int v1_4), (2, .int v2_5)]) (fun _ => rfl) 19 rfl (fun v3_7 e => ?_)
      replace hf := bnd_at e hf
      clear e
      refine ww_iload_n h dX0_dropBlanks_19 rfl 0 rfl 20 rfl ?_
      refine ww_bipush (v := 97) h dX0_dropBlanks_20 (by decide) 22 rfl ?_
      have hJ55_10 : ∀ (v1_8 : Int32) (B_9 : OV), j_X0_dropBlanks_55_10 v2_5 v1_8 B_9 = some o3 → ww X D A 4 Q 0 0 55 [(0, .ref oB), (1, .int v1_8), (2, .int v2_5)] [] [gX0 cy oB aB B_9] := by
        intro v1_8 B_9 hf
        unfold j_X0_dropBlanks_55_10 at hf
        refine ww_inc (c := 1) h dX0_dropBlanks_55 2 rfl (by decide) (by decide) (fun v2_11 => [(2, .int v2_11), (0, .ref oB), (1, .int v1_8)]) (fun _ => rfl) 58 rfl (fun v2_11 e => ?_)
        replace hf := bnd_at e hf
        clear e
        refine ww_goto h dX0_dropBlanks_58 4 (by decide) ?_
        refine ww_lo [1, 2, 0] (lo' := [(0, .ref oB), (1, .int v1_8), (2, .int v2_11)]) rfl ?_
        exact hI3 (v1_8, v2_11, B_9) (Option.some.inj hf).symm
      have hJ47_12 : ∀ (_ : Unit), j_X0_dropBlanks_47_12 B_6 v1_4 v2_5 v3_7 = some o3 → ww X D A 4 Q 0 0 47 [(0, .ref oB), (1, .int v1_4), (2, .int v2_5), (3, .int v3_7)] [] [gX0 cy oB aB B_6] := by
        intro _ hf
        unfold j_X0_dropBlanks_47_12 at hf
        refine ww_iload_n h dX0_dropBlanks_47 rfl 3 rfl 48 rfl ?_
        refine ww_bipush (v := 32) h dX0_dropBlanks_48 (by decide) 50 rfl ?_
        refine ww_icmp_eq h dX0_dropBlanks_50 55 (by decide) 53 rfl (fun c => ?_) (fun c => ?_)
        · replace hf := ite_t c hf
          refine ww_lo [0, 1, 2] (lo' := [(0, .ref oB), (1, .int v1_4), (2, .int v2_5)]) rfl ?_
          exact hJ55_10 v1_4 B_6 hf
        · replace hf := ite_f c hf
          refine ww_iconst (v := 0) h dX0_dropBlanks_53 (by decide) 54 rfl ?_
          obtain rfl := hE3 (.inr ((0 : Int32), B_6)) (Option.some.inj hf).symm
          exact ww_zret h (Or.inl rfl) dX0_dropBlanks_54 hQ ⟨rfl, rfl⟩
      refine ww_icmp_lt h dX0_dropBlanks_22 47 (by decide) 25 rfl (fun c => ?_) (fun c => ?_)
      · replace hf := ite_t c hf
        refine ww_lo [1, 2, 3, 0] (lo' := [(0, .ref oB), (1, .int v1_4), (2, .int v2_5), (3, .int v3_7)]) rfl ?_
        exact hJ47_12 () hf
      · replace hf := ite_f c hf
        refine ww_iload_n h dX0_dropBlanks_25 rfl 0 rfl 26 rfl ?_
        refine ww_bipush (v := 122) h dX0_dropBlanks_26 (by decide) 28 rfl ?_
        refine ww_icmp_gt h dX0_dropBlanks_28 47 (by decide) 31 rfl (fun c => ?_) (fun c => ?_)
        · replace hf := ite_t c hf
          refine ww_lo [1, 2, 3, 0] (lo' := [(0, .ref oB), (1, .int v1_4), (2, .int v2_5), (3, .int v3_7)]) rfl ?_
          exact hJ47_12 () hf
        · replace hf := ite_f c hf
          refine ww_aload_n h dX0_dropBlanks_31 rfl 1 rfl 32 rfl ?_
          refine ww_get h inG0 rfl 0 rfl rfl 0 (by decide) w_136 rfl dX0_dropBlanks_32 35 rfl ?_
          refine ww_iload_n h dX0_dropBlanks_35 rfl 2 rfl 36 rfl ?_
          refine ww_iload_n h dX0_dropBlanks_36 rfl 0 rfl 37 rfl ?_
          refine ww_bipush (v := 97) h dX0_dropBlanks_37 (by decide) 39 rfl ?_
          refine ww_isub h dX0_dropBlanks_39 40 rfl ?_
          have hi := (gd_some hf).1
          replace hf := (gd_some hf).2
          refine ww_iast h 0 rfl 1 rfl (ix_in hi) dX0_dropBlanks_40 41 rfl ?_
          clear hi
          refine ww_nm (fun z => [gX0 cy oB aB z]) (sA B_6 0 v1_4.toNatClampNeg (v3_7 - (97 : Int32))) (fun B_13 e => ?_)
          replace hf := bnd_at e hf
          clear e
          refine ww_inc (c := 1) h dX0_dropBlanks_41 2 rfl (by decide) (by decide) (fun v1_14 => [(1, .int v1_14), (3, .int v3_7), (0, .ref oB), (2, .int v2_5)]) (fun _ => rfl) 44 rfl (fun v1_14 e => ?_)
          replace hf := bnd_at e hf
          clear e
          refine ww_goto h dX0_dropBlanks_44 55 (by decide) ?_
          refine ww_lo [2, 0, 3] (lo' := [(0, .ref oB), (1, .int v1_14), (2, .int v2_5)]) rfl ?_
          exact hJ55_10 v1_14 B_13 hf
  · clear h3
    rcases x3 with x3 | x3
    · replace hf := sel_l hf
      obtain ⟨v1_15, B_16⟩ := x3
      replace hf := un2_e hf
      show ww X D A 4 Q 0 0 61 [(0, .ref oB), (1, .int v1_15)] [] [gX0 cy oB aB B_16]
      refine ww_aload_n h dX0_dropBlanks_61 rfl 0 rfl 62 rfl ?_
      refine ww_iload_n h dX0_dropBlanks_62 rfl 1 rfl 63 rfl ?_
      refine ww_put (ty := .int) h inG0 tyX0_ok nmX0 rfl 0 rfl rfl 1 (by decide) w_140 rfl (by decide +kernel) rfl rfl (Nat.le_of_ble_eq_true rfl) (Nat.le_of_ble_eq_true rfl) dX0_dropBlanks_63 66 rfl ?_
      refine ww_nm (fun z => [gX0 cy oB aB z]) (sI B_16 1 v1_15) (fun B_17 e => ?_)
      replace hf := bnd_at e hf
      clear e
      refine ww_iconst (v := 1) h dX0_dropBlanks_66 (by decide) 67 rfl ?_
      obtain rfl := Option.some.inj hf
      exact ww_zret h (Or.inr rfl) dX0_dropBlanks_67 hQ ⟨rfl, rfl⟩
    · replace hf := sel_r hf
      exact Option.some.inj hf
