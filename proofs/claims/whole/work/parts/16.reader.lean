theorem dX6_letterHere_0 : decode cX6_letterHere 0 = .ok (.aload_n 0, 1) := by decide +kernel
theorem dX6_letterHere_1 : decode cX6_letterHere 1 = .ok (.getfield 19, 3) := by decide +kernel
theorem dX6_letterHere_4 : decode cX6_letterHere 4 = .ok (.iconst 1, 1) := by decide +kernel
theorem dX6_letterHere_5 : decode cX6_letterHere 5 = .ok (.if_icmp .ne 34, 3) := by decide +kernel
theorem dX6_letterHere_8 : decode cX6_letterHere 8 = .ok (.aload_n 0, 1) := by decide +kernel
theorem dX6_letterHere_9 : decode cX6_letterHere 9 = .ok (.getfield 26, 3) := by decide +kernel
theorem dX6_letterHere_12 : decode cX6_letterHere 12 = .ok (.aload_n 0, 1) := by decide +kernel
theorem dX6_letterHere_13 : decode cX6_letterHere 13 = .ok (.getfield 23, 3) := by decide +kernel
theorem dX6_letterHere_16 : decode cX6_letterHere 16 = .ok (.iconst 1, 1) := by decide +kernel
theorem dX6_letterHere_17 : decode cX6_letterHere 17 = .ok (.iadd, 1) := by decide +kernel
theorem dX6_letterHere_18 : decode cX6_letterHere 18 = .ok (.if_icmp .ne 21, 3) := by decide +kernel
theorem dX6_letterHere_21 : decode cX6_letterHere 21 = .ok (.aload_n 0, 1) := by decide +kernel
theorem dX6_letterHere_22 : decode cX6_letterHere 22 = .ok (.getfield 23, 3) := by decide +kernel
theorem dX6_letterHere_25 : decode cX6_letterHere 25 = .ok (.aload_n 0, 1) := by decide +kernel
theorem dX6_letterHere_26 : decode cX6_letterHere 26 = .ok (.getfield 9, 3) := by decide +kernel
theorem dX6_letterHere_29 : decode cX6_letterHere 29 = .ok (.getfield 40, 3) := by decide +kernel
theorem dX6_letterHere_32 : decode cX6_letterHere 32 = .ok (.if_icmp .ge 7, 3) := by decide +kernel
theorem dX6_letterHere_35 : decode cX6_letterHere 35 = .ok (.iconst 1, 1) := by decide +kernel
theorem dX6_letterHere_36 : decode cX6_letterHere 36 = .ok (.goto 4, 3) := by decide +kernel
theorem dX6_letterHere_39 : decode cX6_letterHere 39 = .ok (.iconst 0, 1) := by decide +kernel
theorem dX6_letterHere_40 : decode cX6_letterHere 40 = .ok (.istore_n 1, 1) := by decide +kernel
theorem dX6_letterHere_41 : decode cX6_letterHere 41 = .ok (.iload_n 1, 1) := by decide +kernel
theorem dX6_letterHere_42 : decode cX6_letterHere 42 = .ok (.ifCond .eq 21, 3) := by decide +kernel
theorem dX6_letterHere_45 : decode cX6_letterHere 45 = .ok (.aload_n 0, 1) := by decide +kernel
theorem dX6_letterHere_46 : decode cX6_letterHere 46 = .ok (.getfield 9, 3) := by decide +kernel
theorem dX6_letterHere_49 : decode cX6_letterHere 49 = .ok (.getfield 135, 3) := by decide +kernel
theorem dX6_letterHere_52 : decode cX6_letterHere 52 = .ok (.aload_n 0, 1) := by decide +kernel
theorem dX6_letterHere_53 : decode cX6_letterHere 53 = .ok (.getfield 23, 3) := by decide +kernel
theorem dX6_letterHere_56 : decode cX6_letterHere 56 = .ok (.iaload, 1) := by decide +kernel
theorem dX6_letterHere_57 : decode cX6_letterHere 57 = .ok (.bipush 97, 2) := by decide +kernel
theorem dX6_letterHere_59 : decode cX6_letterHere 59 = .ok (.isub, 1) := by decide +kernel
theorem dX6_letterHere_60 : decode cX6_letterHere 60 = .ok (.goto 4, 3) := by decide +kernel
theorem dX6_letterHere_63 : decode cX6_letterHere 63 = .ok (.iconst (-1), 1) := by decide +kernel
theorem dX6_letterHere_64 : decode cX6_letterHere 64 = .ok (.ireturn, 1) := by decide +kernel
theorem ok_X6_letterHere : okY RX6 yX6_letterHere 0 := ⟨rfl, by decide, by decide, by decide +kernel⟩
def j_X6_letterHere_40_2 (aB : Nat → Nat) (E : OV) (B : OV) (t_1 : Int32) : Option (Int32) := bnd t_1 (fun v1_3 => (if v1_3 = 0 then some (-1 : Int32) else gd (ix (iv E 3) (aB 98)) (some ((ar B 0 (iv E 3).toNatClampNeg) - (97 : Int32)))))
def j_X6_letterHere_39_4 (aB : Nat → Nat) (E : OV) (B : OV) : Option (Int32) := j_X6_letterHere_40_2 aB E B (0 : Int32)
def f_X6_letterHere (E : OV) (aB : Nat → Nat) (B : OV) : Option (Int32) := (if (iv E 2) = (1 : Int32) then (if (iv E 4) = ((iv E 3) + (1 : Int32)) then (if (iv B 1) ≤ (iv E 3) then j_X6_letterHere_39_4 aB E B else j_X6_letterHere_40_2 aB E B (1 : Int32)) else j_X6_letterHere_39_4 aB E B) else j_X6_letterHere_39_4 aB E B)
def r_X6_letterHere : Room := { frames := 0, cells := 0, slots := 0, locals := 0 }
set_option maxHeartbeats 4000000 in
set_option maxRecDepth 100000 in
theorem c_X6_letterHere (l : Launch) (D : va_G) (ev : EvT) (cy : Nat → ClassId) (oE : Nat) (aE : Nat → Nat) (E : OV) (aB : Nat → Nat) (B : OV) (o : Int32) (hf : f_X6_letterHere E aB B = some o) : Fn l yX6_letterHere cX6_letterHere 2 (some .int) r_X6_letterHere D ev cy [.ref oE] [gX6 cy oE aE E, gX0 cy (aE 0) aB B] (fun v G => v = some (.int o) ∧ G = [gX6 cy oE aE E, gX0 cy (aE 0) aB B]) := by
  refine Fn_of (by decide) (Nat.le_of_ble_eq_true rfl) (fun X A Q h hQ _ => ?_)
  unfold f_X6_letterHere at hf
  show ww X D A 2 Q 0 0 0 [(0, .ref oE)] [] [gX6 cy oE aE E, gX0 cy (aE 0) aB B]
  refine ww_aload_n h dX6_letterHere_0 rfl 0 rfl 1 rfl ?_
  refine ww_get h inG6 rfl 0 rfl rfl 2 (by decide) w_481 rfl dX6_letterHere_1 4 rfl ?_
  refine ww_iconst (v := 1) h dX6_letterHere_4 (by decide) 5 rfl ?_
  have hJ40_2 : ∀ (t_1 : Int32), j_X6_letterHere_40_2 aB E B t_1 = some o → ww X D A 2 Q 0 0 40 [(0, .ref oE)] [.int t_1] [gX6 cy oE aE E, gX0 cy (aE 0) aB B] := by
    intro t_1 hf
    unfold j_X6_letterHere_40_2 at hf
    refine ww_ist_n h dX6_letterHere_40 rfl (by decide) (fun v1_3 => [(1, .int v1_3), (0, .ref oE)]) (fun _ => rfl) 41 rfl (fun v1_3 e => ?_)
    replace hf := bnd_at e hf
    clear e
    refine ww_iload_n h dX6_letterHere_41 rfl 0 rfl 42 rfl ?_
    refine ww_if_eq h dX6_letterHere_42 63 (by decide) 45 rfl (fun c => ?_) (fun c => ?_)
    · replace hf := ite_t c hf
      refine ww_iconst (v := (-1)) h dX6_letterHere_63 (by decide) 64 rfl ?_
      obtain rfl := Option.some.inj hf
      exact ww_iret h dX6_letterHere_64 hQ ⟨rfl, rfl⟩
    · replace hf := ite_f c hf
      refine ww_aload_n h dX6_letterHere_45 rfl 1 rfl 46 rfl ?_
      refine ww_get h inG6 rfl 0 rfl rfl 0 (by decide) w_479 rfl dX6_letterHere_46 49 rfl ?_
      refine ww_get h inG0 rfl 1 rfl rfl 0 (by decide) w_138 rfl dX6_letterHere_49 52 rfl ?_
      refine ww_aload_n h dX6_letterHere_52 rfl 1 rfl 53 rfl ?_
      refine ww_get h inG6 rfl 0 rfl rfl 3 (by decide) w_482 rfl dX6_letterHere_53 56 rfl ?_
      have hi := (gd_some hf).1
      replace hf := (gd_some hf).2
      refine ww_iald h 1 rfl 1 rfl (ix_in hi) dX6_letterHere_56 57 rfl ?_
      clear hi
      refine ww_bipush (v := 97) h dX6_letterHere_57 (by decide) 59 rfl ?_
      refine ww_isub h dX6_letterHere_59 60 rfl ?_
      refine ww_goto h dX6_letterHere_60 64 (by decide) ?_
      obtain rfl := Option.some.inj hf
      exact ww_iret h dX6_letterHere_64 hQ ⟨rfl, rfl⟩
  have hJ39_4 : ∀ (_ : Unit), j_X6_letterHere_39_4 aB E B = some o → ww X D A 2 Q 0 0 39 [(0, .ref oE)] [] [gX6 cy oE aE E, gX0 cy (aE 0) aB B] := by
    intro _ hf
    unfold j_X6_letterHere_39_4 at hf
    refine ww_iconst (v := 0) h dX6_letterHere_39 (by decide) 40 rfl ?_
    exact hJ40_2 (0 : Int32) hf
  refine ww_icmp_ne h dX6_letterHere_5 39 (by decide) 8 rfl (fun c => ?_) (fun c => ?_)
  · replace hf := ite_f c hf
    exact hJ39_4 () hf
  · replace hf := ite_t c hf
    refine ww_aload_n h dX6_letterHere_8 rfl 0 rfl 9 rfl ?_
    refine ww_get h inG6 rfl 0 rfl rfl 4 (by decide) w_483 rfl dX6_letterHere_9 12 rfl ?_
    refine ww_aload_n h dX6_letterHere_12 rfl 0 rfl 13 rfl ?_
    refine ww_get h inG6 rfl 0 rfl rfl 3 (by decide) w_482 rfl dX6_letterHere_13 16 rfl ?_
    refine ww_iconst (v := 1) h dX6_letterHere_16 (by decide) 17 rfl ?_
    refine ww_iadd h dX6_letterHere_17 18 rfl ?_
    refine ww_icmp_ne h dX6_letterHere_18 39 (by decide) 21 rfl (fun c => ?_) (fun c => ?_)
    · replace hf := ite_f c hf
      exact hJ39_4 () hf
    · replace hf := ite_t c hf
      refine ww_aload_n h dX6_letterHere_21 rfl 0 rfl 22 rfl ?_
      refine ww_get h inG6 rfl 0 rfl rfl 3 (by decide) w_482 rfl dX6_letterHere_22 25 rfl ?_
      refine ww_aload_n h dX6_letterHere_25 rfl 0 rfl 26 rfl ?_
      refine ww_get h inG6 rfl 0 rfl rfl 0 (by decide) w_479 rfl dX6_letterHere_26 29 rfl ?_
      refine ww_get h inG0 rfl 1 rfl rfl 1 (by decide) w_142 rfl dX6_letterHere_29 32 rfl ?_
      refine ww_icmp_ge h dX6_letterHere_32 39 (by decide) 35 rfl (fun c => ?_) (fun c => ?_)
      · replace hf := ite_t c hf
        exact hJ39_4 () hf
      · replace hf := ite_f c hf
        refine ww_iconst (v := 1) h dX6_letterHere_35 (by decide) 36 rfl ?_
        refine ww_goto h dX6_letterHere_36 40 (by decide) ?_
        exact hJ40_2 (1 : Int32) hf
theorem dX6_fail_0 : decode cX6_fail 0 = .ok (.aload_n 0, 1) := by decide +kernel
theorem dX6_fail_1 : decode cX6_fail 1 = .ok (.getfield 29, 3) := by decide +kernel
theorem dX6_fail_4 : decode cX6_fail 4 = .ok (.iconst (-1), 1) := by decide +kernel
theorem dX6_fail_5 : decode cX6_fail 5 = .ok (.if_icmp .ne 11, 3) := by decide +kernel
theorem dX6_fail_8 : decode cX6_fail 8 = .ok (.aload_n 0, 1) := by decide +kernel
theorem dX6_fail_9 : decode cX6_fail 9 = .ok (.aload_n 0, 1) := by decide +kernel
theorem dX6_fail_10 : decode cX6_fail 10 = .ok (.getfield 23, 3) := by decide +kernel
theorem dX6_fail_13 : decode cX6_fail 13 = .ok (.putfield 29, 3) := by decide +kernel
theorem dX6_fail_16 : decode cX6_fail 16 = .ok (.return_, 1) := by decide +kernel
theorem ok_X6_fail : okY RX6 yX6_fail 0 := ⟨rfl, by decide, by decide, by decide +kernel⟩
def f_X6_fail (E : OV) : Option (OV) := (if (iv E 5) = (-1 : Int32) then bnd (sI E 5 (iv E 3)) (fun E_1 => some E_1) else some E)
def r_X6_fail : Room := { frames := 0, cells := 0, slots := 0, locals := 0 }
set_option maxHeartbeats 4000000 in
set_option maxRecDepth 100000 in
theorem c_X6_fail (l : Launch) (D : va_G) (ev : EvT) (cy : Nat → ClassId) (oE : Nat) (aE : Nat → Nat) (E : OV) (o : OV) (hf : f_X6_fail E = some o) : Fn l yX6_fail cX6_fail 1 none r_X6_fail D ev cy [.ref oE] [gX6 cy oE aE E] (fun v G => v = none ∧ G = [gX6 cy oE aE o]) := by
  refine Fn_of (by decide) (Nat.le_of_ble_eq_true rfl) (fun X A Q h hQ _ => ?_)
  unfold f_X6_fail at hf
  show ww X D A 1 Q 0 0 0 [(0, .ref oE)] [] [gX6 cy oE aE E]
  refine ww_aload_n h dX6_fail_0 rfl 0 rfl 1 rfl ?_
  refine ww_get h inG6 rfl 0 rfl rfl 5 (by decide) w_484 rfl dX6_fail_1 4 rfl ?_
  refine ww_iconst (v := (-1)) h dX6_fail_4 (by decide) 5 rfl ?_
  refine ww_icmp_ne h dX6_fail_5 16 (by decide) 8 rfl (fun c => ?_) (fun c => ?_)
  · replace hf := ite_f c hf
    obtain rfl := Option.some.inj hf
    exact ww_vret h dX6_fail_16 hQ ⟨rfl, rfl⟩
  · replace hf := ite_t c hf
    refine ww_aload_n h dX6_fail_8 rfl 0 rfl 9 rfl ?_
    refine ww_aload_n h dX6_fail_9 rfl 0 rfl 10 rfl ?_
    refine ww_get h inG6 rfl 0 rfl rfl 3 (by decide) w_482 rfl dX6_fail_10 13 rfl ?_
    refine ww_put (ty := .int) h inG6 tyX6_ok nmX6 rfl 0 rfl rfl 5 (by decide) w_484 rfl (by decide +kernel) rfl rfl (Nat.le_of_ble_eq_true rfl) (Nat.le_of_ble_eq_true rfl) dX6_fail_13 16 rfl ?_
    refine ww_nm (fun z => [gX6 cy oE aE z]) (sI E 5 (iv E 3)) (fun E_1 e => ?_)
    replace hf := bnd_at e hf
    clear e
    obtain rfl := Option.some.inj hf
    exact ww_vret h dX6_fail_16 hQ ⟨rfl, rfl⟩
theorem dX6_isText_0 : decode cX6_isText 0 = .ok (.aload_n 0, 1) := by decide +kernel
theorem dX6_isText_1 : decode cX6_isText 1 = .ok (.getfield 19, 3) := by decide +kernel
theorem dX6_isText_4 : decode cX6_isText 4 = .ok (.iconst 1, 1) := by decide +kernel
theorem dX6_isText_5 : decode cX6_isText 5 = .ok (.if_icmp .ne 19, 3) := by decide +kernel
theorem dX6_isText_8 : decode cX6_isText 8 = .ok (.aload_n 0, 1) := by decide +kernel
theorem dX6_isText_9 : decode cX6_isText 9 = .ok (.getfield 26, 3) := by decide +kernel
theorem dX6_isText_12 : decode cX6_isText 12 = .ok (.aload_n 0, 1) := by decide +kernel
theorem dX6_isText_13 : decode cX6_isText 13 = .ok (.getfield 23, 3) := by decide +kernel
theorem dX6_isText_16 : decode cX6_isText 16 = .ok (.isub, 1) := by decide +kernel
theorem dX6_isText_17 : decode cX6_isText 17 = .ok (.aload_n 1, 1) := by decide +kernel
theorem dX6_isText_18 : decode cX6_isText 18 = .ok (.invokevirtual 138, 3) := by decide +kernel
theorem dX6_isText_21 : decode cX6_isText 21 = .ok (.if_icmp .eq 5, 3) := by decide +kernel
theorem dX6_isText_24 : decode cX6_isText 24 = .ok (.iconst 0, 1) := by decide +kernel
theorem dX6_isText_25 : decode cX6_isText 25 = .ok (.ireturn, 1) := by decide +kernel
theorem dX6_isText_26 : decode cX6_isText 26 = .ok (.iconst 0, 1) := by decide +kernel
theorem dX6_isText_27 : decode cX6_isText 27 = .ok (.istore_n 2, 1) := by decide +kernel
theorem dX6_isText_28 : decode cX6_isText 28 = .ok (.iload_n 2, 1) := by decide +kernel
theorem dX6_isText_29 : decode cX6_isText 29 = .ok (.aload_n 1, 1) := by decide +kernel
theorem dX6_isText_30 : decode cX6_isText 30 = .ok (.invokevirtual 138, 3) := by decide +kernel
theorem dX6_isText_33 : decode cX6_isText 33 = .ok (.if_icmp .ge 33, 3) := by decide +kernel
theorem dX6_isText_36 : decode cX6_isText 36 = .ok (.aload_n 0, 1) := by decide +kernel
theorem dX6_isText_37 : decode cX6_isText 37 = .ok (.getfield 9, 3) := by decide +kernel
theorem dX6_isText_40 : decode cX6_isText 40 = .ok (.getfield 135, 3) := by decide +kernel
theorem dX6_isText_43 : decode cX6_isText 43 = .ok (.aload_n 0, 1) := by decide +kernel
theorem dX6_isText_44 : decode cX6_isText 44 = .ok (.getfield 23, 3) := by decide +kernel
theorem dX6_isText_47 : decode cX6_isText 47 = .ok (.iload_n 2, 1) := by decide +kernel
theorem dX6_isText_48 : decode cX6_isText 48 = .ok (.iadd, 1) := by decide +kernel
theorem dX6_isText_49 : decode cX6_isText 49 = .ok (.iaload, 1) := by decide +kernel
theorem dX6_isText_50 : decode cX6_isText 50 = .ok (.aload_n 1, 1) := by decide +kernel
theorem dX6_isText_51 : decode cX6_isText 51 = .ok (.iload_n 2, 1) := by decide +kernel
theorem dX6_isText_52 : decode cX6_isText 52 = .ok (.invokevirtual 142, 3) := by decide +kernel
theorem dX6_isText_55 : decode cX6_isText 55 = .ok (.if_icmp .eq 5, 3) := by decide +kernel
theorem dX6_isText_58 : decode cX6_isText 58 = .ok (.iconst 0, 1) := by decide +kernel
theorem dX6_isText_59 : decode cX6_isText 59 = .ok (.ireturn, 1) := by decide +kernel
theorem dX6_isText_60 : decode cX6_isText 60 = .ok (.iinc 2 1, 3) := by decide +kernel
theorem dX6_isText_63 : decode cX6_isText 63 = .ok (.goto (-35), 3) := by decide +kernel
theorem dX6_isText_66 : decode cX6_isText 66 = .ok (.iconst 1, 1) := by decide +kernel
theorem dX6_isText_67 : decode cX6_isText 67 = .ok (.ireturn, 1) := by decide +kernel
theorem ok_X6_isText : okY RX6 yX6_isText 1 := ⟨rfl, by decide, by decide, by decide +kernel⟩
def s_X6_isText_28_2 (w0 : Nat) (aB : Nat → Nat) (E : OV) (B : OV) : (Int32) → Option ((Int32) ⊕ ((Unit) ⊕ (Int32))) := un1 (fun v2_3 => gd (decide (w0 < 21)) ((if (sln w0) ≤ v2_3 then some (.inr (.inl ())) else gd (ix ((iv E 3) + v2_3) (aB 98)) (gd (decide (w0 < 21)) (gd (ix v2_3 (lenJ.getD w0 0)) ((if (ar B 0 ((iv E 3) + v2_3).toNatClampNeg) = (sch w0 v2_3) then bnd (v2_3 + 1) (fun v2_4 => some (.inl v2_4)) else some (.inr (.inr (0 : Int32))))))))))
def f_X6_isText (E : OV) (aB : Nat → Nat) (B : OV) (w0 : Nat) : Option (Int32) := (if (iv E 2) = (1 : Int32) then gd (decide (w0 < 21)) ((if ((iv E 4) - (iv E 3)) = (sln w0) then bnd (0 : Int32) (fun v2_1 => ((lp (s_X6_isText_28_2 w0 aB E B) 5000 v2_1).bind (Sum.elim (un1 (fun (_u : Unit) => some (1 : Int32))) (fun r => some r)))) else some (0 : Int32))) else some (0 : Int32))
def r_X6_isText : Room := { frames := 4, cells := 0, slots := 0, locals := 85 }
set_option maxHeartbeats 4000000 in
set_option maxRecDepth 100000 in
theorem c_X6_isText (l : Launch) (D : va_G) (ev : EvT) (cy : Nat → ClassId) (oE : Nat) (aE : Nat → Nat) (E : OV) (aB : Nat → Nat) (B : OV) (w0 : Nat) (o : Int32) (hf : f_X6_isText E aB B w0 = some o) : Fn l yX6_isText cX6_isText 3 (some .boolean) r_X6_isText D ev cy [.ref oE, .ref (ev.1 w0)] [gX6 cy oE aE E, gX0 cy (aE 0) aB B] (fun v G => v = some (.int o) ∧ G = [gX6 cy oE aE E, gX0 cy (aE 0) aB B]) := by
  refine Fn_of (by decide) (Nat.le_of_ble_eq_true rfl) (fun X A Q h hQ _ => ?_)
  unfold f_X6_isText at hf
  show ww X D A 3 Q 0 0 0 [(0, .ref oE), (1, .ref (ev.1 w0))] [] [gX6 cy oE aE E, gX0 cy (aE 0) aB B]
  refine ww_aload_n h dX6_isText_0 rfl 0 rfl 1 rfl ?_
  refine ww_get h inG6 rfl 0 rfl rfl 2 (by decide) w_481 rfl dX6_isText_1 4 rfl ?_
  refine ww_iconst (v := 1) h dX6_isText_4 (by decide) 5 rfl ?_
  refine ww_icmp_ne h dX6_isText_5 24 (by decide) 8 rfl (fun c => ?_) (fun c => ?_)
  · replace hf := ite_f c hf
    refine ww_iconst (v := 0) h dX6_isText_24 (by decide) 25 rfl ?_
    obtain rfl := Option.some.inj hf
    exact ww_zret h (Or.inl rfl) dX6_isText_25 hQ ⟨rfl, rfl⟩
  · replace hf := ite_t c hf
    refine ww_aload_n h dX6_isText_8 rfl 0 rfl 9 rfl ?_
    refine ww_get h inG6 rfl 0 rfl rfl 4 (by decide) w_483 rfl dX6_isText_9 12 rfl ?_
    refine ww_aload_n h dX6_isText_12 rfl 0 rfl 13 rfl ?_
    refine ww_get h inG6 rfl 0 rfl rfl 3 (by decide) w_482 rfl dX6_isText_13 16 rfl ?_
    refine ww_isub h dX6_isText_16 17 rfl ?_
    refine ww_aload_n h dX6_isText_17 rfl 1 rfl 18 rfl ?_
    have hw := (gd_some hf).1
    replace hf := (gd_some hf).2
    refine ww_cT (As := []) (st := [.int ((iv E 4) - (iv E 3))]) h (of_decide_eq_true hw) (c_J0len l D ev cy w0 (of_decide_eq_true hw)) ⟨w_531, w_528, w_529, w_530, w_114, ok_J0len⟩ ⟨by decide, by decide⟩ ⟨by decide, by decide⟩ ⟨rfl, rfl⟩ rfl (Nat.le_of_ble_eq_true rfl) dX6_isText_18 21 rfl ?_
    clear hw
    refine ww_icmp_eq h dX6_isText_21 26 (by decide) 24 rfl (fun c => ?_) (fun c => ?_)
    · replace hf := ite_t c hf
      refine ww_iconst (v := 0) h dX6_isText_26 (by decide) 27 rfl ?_
      refine ww_ist_n h dX6_isText_27 rfl (by decide) (fun v2_1 => [(2, .int v2_1), (0, .ref oE), (1, .ref (ev.1 w0))]) (fun _ => rfl) 28 rfl (fun v2_1 e => ?_)
      replace hf := bnd_at e hf
      clear e
      refine ww_lo [1, 2, 0] (lo' := [(0, .ref oE), (1, .ref (ev.1 w0)), (2, .int v2_1)]) rfl ?_
      obtain ⟨x2, h2, hf⟩ := ob_some hf
      refine lp_walk (un1 (fun v2_3 => ww X D A 3 Q 0 0 28 [(0, .ref oE), (1, .ref (ev.1 w0)), (2, .int v2_3)] [] [gX6 cy oE aE E, gX0 cy (aE 0) aB B])) (Sum.elim (un1 (fun (_u : Unit) => ww X D A 3 Q 0 0 66 [] [] [gX6 cy oE aE E, gX0 cy (aE 0) aB B])) (fun r => r = o)) ?_ _ _ _ h2 ?_
      · clear h2 hf
        intro s2 o2 hf hI2 hE2
        obtain ⟨v2_3, rfl⟩ : ∃ z, z = s2 := ⟨_, rfl⟩
        unfold s_X6_isText_28_2 at hf
        replace hf := un1_e hf
        show ww X D A 3 Q 0 0 28 [(0, .ref oE), (1, .ref (ev.1 w0)), (2, .int v2_3)] [] [gX6 cy oE aE E, gX0 cy (aE 0) aB B]
        refine ww_iload_n h dX6_isText_28 rfl 2 rfl 29 rfl ?_
        refine ww_aload_n h dX6_isText_29 rfl 1 rfl 30 rfl ?_
        have hw := (gd_some hf).1
        replace hf := (gd_some hf).2
        refine ww_cT (As := []) (st := [.int v2_3]) h (of_decide_eq_true hw) (c_J0len l D ev cy w0 (of_decide_eq_true hw)) ⟨w_531, w_528, w_529, w_530, w_114, ok_J0len⟩ ⟨by decide, by decide⟩ ⟨by decide, by decide⟩ ⟨rfl, rfl⟩ rfl (Nat.le_of_ble_eq_true rfl) dX6_isText_30 33 rfl ?_
        clear hw
        refine ww_icmp_ge h dX6_isText_33 66 (by decide) 36 rfl (fun c => ?_) (fun c => ?_)
        · replace hf := ite_t c hf
          refine ww_lo [] (lo' := []) rfl ?_
          exact hE2 (.inl ()) (Option.some.inj hf).symm
        · replace hf := ite_f c hf
          refine ww_aload_n h dX6_isText_36 rfl 0 rfl 37 rfl ?_
          refine ww_get h inG6 rfl 0 rfl rfl 0 (by decide) w_479 rfl dX6_isText_37 40 rfl ?_
          refine ww_get h inG0 rfl 1 rfl rfl 0 (by decide) w_138 rfl dX6_isText_40 43 rfl ?_
          refine ww_aload_n h dX6_isText_43 rfl 0 rfl 44 rfl ?_
          refine ww_get h inG6 rfl 0 rfl rfl 3 (by decide) w_482 rfl dX6_isText_44 47 rfl ?_
          refine ww_iload_n h dX6_isText_47 rfl 2 rfl 48 rfl ?_
          refine ww_iadd h dX6_isText_48 49 rfl ?_
          have hi := (gd_some hf).1
          replace hf := (gd_some hf).2
          refine ww_iald h 1 rfl 1 rfl (ix_in hi) dX6_isText_49 50 rfl ?_
          clear hi
          refine ww_aload_n h dX6_isText_50 rfl 1 rfl 51 rfl ?_
          refine ww_iload_n h dX6_isText_51 rfl 2 rfl 52 rfl ?_
          have hw := (gd_some hf).1
          replace hf := (gd_some hf).2
          have hi := (gd_some hf).1
          replace hf := (gd_some hf).2
          refine ww_cT (As := [.int v2_3]) (st := [.int (ar B 0 ((iv E 3) + v2_3).toNatClampNeg)]) h (of_decide_eq_true hw) (c_J0ca l D ev cy w0 v2_3 (of_decide_eq_true hw) hi) ⟨w_541, w_538, w_539, w_540, w_114, ok_J0ca⟩ ⟨by decide, by decide⟩ ⟨by decide, by decide⟩ ⟨rfl, rfl⟩ rfl (Nat.le_of_ble_eq_true rfl) dX6_isText_52 55 rfl ?_
          clear hw
          clear hi
          refine ww_icmp_eq h dX6_isText_55 60 (by decide) 58 rfl (fun c => ?_) (fun c => ?_)
          · replace hf := ite_t c hf
            refine ww_inc (c := 1) h dX6_isText_60 2 rfl (by decide) (by decide) (fun v2_4 => [(2, .int v2_4), (0, .ref oE), (1, .ref (ev.1 w0))]) (fun _ => rfl) 63 rfl (fun v2_4 e => ?_)
            replace hf := bnd_at e hf
            clear e
            refine ww_goto h dX6_isText_63 28 (by decide) ?_
            refine ww_lo [1, 2, 0] (lo' := [(0, .ref oE), (1, .ref (ev.1 w0)), (2, .int v2_4)]) rfl ?_
            exact hI2 v2_4 (Option.some.inj hf).symm
          · replace hf := ite_f c hf
            refine ww_iconst (v := 0) h dX6_isText_58 (by decide) 59 rfl ?_
            obtain rfl := hE2 (.inr (0 : Int32)) (Option.some.inj hf).symm
            exact ww_zret h (Or.inl rfl) dX6_isText_59 hQ ⟨rfl, rfl⟩
      · clear h2
        rcases x2 with x2 | x2
        · replace hf := sel_l hf
          obtain ⟨_u, rfl⟩ : ∃ z, z = x2 := ⟨_, rfl⟩
          replace hf := un1_e hf
          show ww X D A 3 Q 0 0 66 [] [] [gX6 cy oE aE E, gX0 cy (aE 0) aB B]
          refine ww_iconst (v := 1) h dX6_isText_66 (by decide) 67 rfl ?_
          obtain rfl := Option.some.inj hf
          exact ww_zret h (Or.inr rfl) dX6_isText_67 hQ ⟨rfl, rfl⟩
        · replace hf := sel_r hf
          exact Option.some.inj hf
    · replace hf := ite_f c hf
      refine ww_iconst (v := 0) h dX6_isText_24 (by decide) 25 rfl ?_
      obtain rfl := Option.some.inj hf
      exact ww_zret h (Or.inl rfl) dX6_isText_25 hQ ⟨rfl, rfl⟩
theorem dX6_isWordOrNumber_0 : decode cX6_isWordOrNumber 0 = .ok (.aload_n 0, 1) := by decide +kernel
theorem dX6_isWordOrNumber_1 : decode cX6_isWordOrNumber 1 = .ok (.getfield 19, 3) := by decide +kernel
theorem dX6_isWordOrNumber_4 : decode cX6_isWordOrNumber 4 = .ok (.iconst 1, 1) := by decide +kernel
theorem dX6_isWordOrNumber_5 : decode cX6_isWordOrNumber 5 = .ok (.if_icmp .eq 11, 3) := by decide +kernel
theorem dX6_isWordOrNumber_8 : decode cX6_isWordOrNumber 8 = .ok (.aload_n 0, 1) := by decide +kernel
theorem dX6_isWordOrNumber_9 : decode cX6_isWordOrNumber 9 = .ok (.getfield 19, 3) := by decide +kernel
theorem dX6_isWordOrNumber_12 : decode cX6_isWordOrNumber 12 = .ok (.iconst 2, 1) := by decide +kernel
theorem dX6_isWordOrNumber_13 : decode cX6_isWordOrNumber 13 = .ok (.if_icmp .ne 7, 3) := by decide +kernel
theorem dX6_isWordOrNumber_16 : decode cX6_isWordOrNumber 16 = .ok (.iconst 1, 1) := by decide +kernel
theorem dX6_isWordOrNumber_17 : decode cX6_isWordOrNumber 17 = .ok (.goto 4, 3) := by decide +kernel
theorem dX6_isWordOrNumber_20 : decode cX6_isWordOrNumber 20 = .ok (.iconst 0, 1) := by decide +kernel
theorem dX6_isWordOrNumber_21 : decode cX6_isWordOrNumber 21 = .ok (.ireturn, 1) := by decide +kernel
theorem ok_X6_isWordOrNumber : okY RX6 yX6_isWordOrNumber 0 := ⟨rfl, by decide, by decide, by decide +kernel⟩
def j_X6_isWordOrNumber_16_1 : Option (Int32) := some (1 : Int32)
def f_X6_isWordOrNumber (E : OV) : Option (Int32) := (if (iv E 2) = (1 : Int32) then j_X6_isWordOrNumber_16_1 else (if (iv E 2) = (2 : Int32) then j_X6_isWordOrNumber_16_1 else some (0 : Int32)))
def r_X6_isWordOrNumber : Room := { frames := 0, cells := 0, slots := 0, locals := 0 }
set_option maxHeartbeats 4000000 in
set_option maxRecDepth 100000 in
theorem c_X6_isWordOrNumber (l : Launch) (D : va_G) (ev : EvT) (cy : Nat → ClassId) (oE : Nat) (aE : Nat → Nat) (E : OV) (o : Int32) (hf : f_X6_isWordOrNumber E = some o) : Fn l yX6_isWordOrNumber cX6_isWordOrNumber 1 (some .boolean) r_X6_isWordOrNumber D ev cy [.ref oE] [gX6 cy oE aE E] (fun v G => v = some (.int o) ∧ G = [gX6 cy oE aE E]) := by
  refine Fn_of (by decide) (Nat.le_of_ble_eq_true rfl) (fun X A Q h hQ _ => ?_)
  unfold f_X6_isWordOrNumber at hf
  show ww X D A 1 Q 0 0 0 [(0, .ref oE)] [] [gX6 cy oE aE E]
  refine ww_aload_n h dX6_isWordOrNumber_0 rfl 0 rfl 1 rfl ?_
  refine ww_get h inG6 rfl 0 rfl rfl 2 (by decide) w_481 rfl dX6_isWordOrNumber_1 4 rfl ?_
  refine ww_iconst (v := 1) h dX6_isWordOrNumber_4 (by decide) 5 rfl ?_
  have hJ16_1 : ∀ (_ : Unit), j_X6_isWordOrNumber_16_1 = some o → ww X D A 1 Q 0 0 16 [] [] [gX6 cy oE aE E] := by
    intro _ hf
    unfold j_X6_isWordOrNumber_16_1 at hf
    refine ww_iconst (v := 1) h dX6_isWordOrNumber_16 (by decide) 17 rfl ?_
    refine ww_goto h dX6_isWordOrNumber_17 21 (by decide) ?_
    obtain rfl := Option.some.inj hf
    exact ww_zret h (Or.inr rfl) dX6_isWordOrNumber_21 hQ ⟨rfl, rfl⟩
  refine ww_icmp_eq h dX6_isWordOrNumber_5 16 (by decide) 8 rfl (fun c => ?_) (fun c => ?_)
  · replace hf := ite_t c hf
    refine ww_lo [] (lo' := []) rfl ?_
    exact hJ16_1 () hf
  · replace hf := ite_f c hf
    refine ww_aload_n h dX6_isWordOrNumber_8 rfl 0 rfl 9 rfl ?_
    refine ww_get h inG6 rfl 0 rfl rfl 2 (by decide) w_481 rfl dX6_isWordOrNumber_9 12 rfl ?_
    refine ww_iconst (v := 2) h dX6_isWordOrNumber_12 (by decide) 13 rfl ?_
    refine ww_icmp_ne h dX6_isWordOrNumber_13 20 (by decide) 16 rfl (fun c => ?_) (fun c => ?_)
    · replace hf := ite_f c hf
      refine ww_iconst (v := 0) h dX6_isWordOrNumber_20 (by decide) 21 rfl ?_
      obtain rfl := Option.some.inj hf
      exact ww_zret h (Or.inl rfl) dX6_isWordOrNumber_21 hQ ⟨rfl, rfl⟩
    · replace hf := ite_t c hf
      refine ww_lo [] (lo' := []) rfl ?_
      exact hJ16_1 () hf
theorem dX6_kindOf_0 : decode cX6_kindOf 0 = .ok (.iload_n 0, 1) := by decide +kernel
theorem dX6_kindOf_1 : decode cX6_kindOf 1 = .ok (.bipush 97, 2) := by decide +kernel
theorem dX6_kindOf_3 : decode cX6_kindOf 3 = .ok (.if_icmp .lt 11, 3) := by decide +kernel
theorem dX6_kindOf_6 : decode cX6_kindOf 6 = .ok (.iload_n 0, 1) := by decide +kernel
theorem dX6_kindOf_7 : decode cX6_kindOf 7 = .ok (.bipush 122, 2) := by decide +kernel
theorem dX6_kindOf_9 : decode cX6_kindOf 9 = .ok (.if_icmp .gt 5, 3) := by decide +kernel
theorem dX6_kindOf_12 : decode cX6_kindOf 12 = .ok (.iconst 1, 1) := by decide +kernel
theorem dX6_kindOf_13 : decode cX6_kindOf 13 = .ok (.ireturn, 1) := by decide +kernel
theorem dX6_kindOf_14 : decode cX6_kindOf 14 = .ok (.iload_n 0, 1) := by decide +kernel
theorem dX6_kindOf_15 : decode cX6_kindOf 15 = .ok (.bipush 48, 2) := by decide +kernel
theorem dX6_kindOf_17 : decode cX6_kindOf 17 = .ok (.if_icmp .lt 11, 3) := by decide +kernel
theorem dX6_kindOf_20 : decode cX6_kindOf 20 = .ok (.iload_n 0, 1) := by decide +kernel
theorem dX6_kindOf_21 : decode cX6_kindOf 21 = .ok (.bipush 57, 2) := by decide +kernel
theorem dX6_kindOf_23 : decode cX6_kindOf 23 = .ok (.if_icmp .gt 5, 3) := by decide +kernel
theorem dX6_kindOf_26 : decode cX6_kindOf 26 = .ok (.iconst 2, 1) := by decide +kernel
theorem dX6_kindOf_27 : decode cX6_kindOf 27 = .ok (.ireturn, 1) := by decide +kernel
theorem dX6_kindOf_28 : decode cX6_kindOf 28 = .ok (.iload_n 0, 1) := by decide +kernel
theorem dX6_kindOf_29 : decode cX6_kindOf 29 = .ok (.bipush 59, 2) := by decide +kernel
theorem dX6_kindOf_31 : decode cX6_kindOf 31 = .ok (.if_icmp .ne 7, 3) := by decide +kernel
theorem dX6_kindOf_34 : decode cX6_kindOf 34 = .ok (.iconst 3, 1) := by decide +kernel
theorem dX6_kindOf_35 : decode cX6_kindOf 35 = .ok (.goto 4, 3) := by decide +kernel
theorem dX6_kindOf_38 : decode cX6_kindOf 38 = .ok (.iconst 4, 1) := by decide +kernel
theorem dX6_kindOf_39 : decode cX6_kindOf 39 = .ok (.ireturn, 1) := by decide +kernel
theorem ok_X6_kindOf : okY RX6 yX6_kindOf 1 := ⟨rfl, by decide, by decide, by decide +kernel⟩
def j_X6_kindOf_28_2 (p0 : Int32) : Option (Int32) := (if p0 = (59 : Int32) then some (3 : Int32) else some (4 : Int32))
def j_X6_kindOf_14_1 (p0 : Int32) : Option (Int32) := (if p0 < (48 : Int32) then j_X6_kindOf_28_2 p0 else (if (57 : Int32) < p0 then j_X6_kindOf_28_2 p0 else some (2 : Int32)))
def f_X6_kindOf (p0 : Int32) : Option (Int32) := (if p0 < (97 : Int32) then j_X6_kindOf_14_1 p0 else (if (122 : Int32) < p0 then j_X6_kindOf_14_1 p0 else some (1 : Int32)))
def r_X6_kindOf : Room := { frames := 0, cells := 0, slots := 0, locals := 0 }
set_option maxHeartbeats 4000000 in
set_option maxRecDepth 100000 in
theorem c_X6_kindOf (l : Launch) (D : va_G) (ev : EvT) (cy : Nat → ClassId) (p0 : Int32) (o : Int32) (hf : f_X6_kindOf p0 = some o) : Fn l yX6_kindOf cX6_kindOf 1 (some .int) r_X6_kindOf D ev cy [.int p0] [] (fun v G => v = some (.int o) ∧ G = []) := by
  refine Fn_of (by decide) (Nat.le_of_ble_eq_true rfl) (fun X A Q h hQ _ => ?_)
  unfold f_X6_kindOf at hf
  show ww X D A 1 Q 0 0 0 [(0, .int p0)] [] []
  refine ww_iload_n h dX6_kindOf_0 rfl 0 rfl 1 rfl ?_
  refine ww_bipush (v := 97) h dX6_kindOf_1 (by decide) 3 rfl ?_
  have hJ14_1 : ∀ (_ : Unit), j_X6_kindOf_14_1 p0 = some o → ww X D A 1 Q 0 0 14 [(0, .int p0)] [] [] := by
    intro _ hf
    unfold j_X6_kindOf_14_1 at hf
    refine ww_iload_n h dX6_kindOf_14 rfl 0 rfl 15 rfl ?_
    refine ww_bipush (v := 48) h dX6_kindOf_15 (by decide) 17 rfl ?_
    have hJ28_2 : ∀ (_ : Unit), j_X6_kindOf_28_2 p0 = some o → ww X D A 1 Q 0 0 28 [(0, .int p0)] [] [] := by
      intro _ hf
      unfold j_X6_kindOf_28_2 at hf
      refine ww_iload_n h dX6_kindOf_28 rfl 0 rfl 29 rfl ?_
      refine ww_bipush (v := 59) h dX6_kindOf_29 (by decide) 31 rfl ?_
      refine ww_icmp_ne h dX6_kindOf_31 38 (by decide) 34 rfl (fun c => ?_) (fun c => ?_)
      · replace hf := ite_f c hf
        refine ww_iconst (v := 4) h dX6_kindOf_38 (by decide) 39 rfl ?_
        obtain rfl := Option.some.inj hf
        exact ww_iret h dX6_kindOf_39 hQ ⟨rfl, rfl⟩
      · replace hf := ite_t c hf
        refine ww_iconst (v := 3) h dX6_kindOf_34 (by decide) 35 rfl ?_
        refine ww_goto h dX6_kindOf_35 39 (by decide) ?_
        obtain rfl := Option.some.inj hf
        exact ww_iret h dX6_kindOf_39 hQ ⟨rfl, rfl⟩
    refine ww_icmp_lt h dX6_kindOf_17 28 (by decide) 20 rfl (fun c => ?_) (fun c => ?_)
    · replace hf := ite_t c hf
      exact hJ28_2 () hf
    · replace hf := ite_f c hf
      refine ww_iload_n h dX6_kindOf_20 rfl 0 rfl 21 rfl ?_
      refine ww_bipush (v := 57) h dX6_kindOf_21 (by decide) 23 rfl ?_
      refine ww_icmp_gt h dX6_kindOf_23 28 (by decide) 26 rfl (fun c => ?_) (fun c => ?_)
      · replace hf := ite_t c hf
        exact hJ28_2 () hf
      · replace hf := ite_f c hf
        refine ww_iconst (v := 2) h dX6_kindOf_26 (by decide) 27 rfl ?_
        obtain rfl := Option.some.inj hf
        exact ww_iret h dX6_kindOf_27 hQ ⟨rfl, rfl⟩
  refine ww_icmp_lt h dX6_kindOf_3 14 (by decide) 6 rfl (fun c => ?_) (fun c => ?_)
  · replace hf := ite_t c hf
    exact hJ14_1 () hf
  · replace hf := ite_f c hf
    refine ww_iload_n h dX6_kindOf_6 rfl 0 rfl 7 rfl ?_
    refine ww_bipush (v := 122) h dX6_kindOf_7 (by decide) 9 rfl ?_
    refine ww_icmp_gt h dX6_kindOf_9 14 (by decide) 12 rfl (fun c => ?_) (fun c => ?_)
    · replace hf := ite_t c hf
      exact hJ14_1 () hf
    · replace hf := ite_f c hf
      refine ww_iconst (v := 1) h dX6_kindOf_12 (by decide) 13 rfl ?_
      obtain rfl := Option.some.inj hf
      exact ww_iret h dX6_kindOf_13 hQ ⟨rfl, rfl⟩
theorem dX6_next_0 : decode cX6_next 0 = .ok (.aload_n 0, 1) := by decide +kernel
theorem dX6_next_1 : decode cX6_next 1 = .ok (.invokevirtual 146, 3) := by decide +kernel
theorem dX6_next_4 : decode cX6_next 4 = .ok (.istore_n 1, 1) := by decide +kernel
theorem dX6_next_5 : decode cX6_next 5 = .ok (.aload_n 0, 1) := by decide +kernel
theorem dX6_next_6 : decode cX6_next 6 = .ok (.getfield 26, 3) := by decide +kernel
theorem dX6_next_9 : decode cX6_next 9 = .ok (.istore_n 2, 1) := by decide +kernel
theorem dX6_next_10 : decode cX6_next 10 = .ok (.aload_n 0, 1) := by decide +kernel
theorem dX6_next_11 : decode cX6_next 11 = .ok (.aload_n 0, 1) := by decide +kernel
theorem dX6_next_12 : decode cX6_next 12 = .ok (.getfield 26, 3) := by decide +kernel
theorem dX6_next_15 : decode cX6_next 15 = .ok (.putfield 23, 3) := by decide +kernel
theorem dX6_next_18 : decode cX6_next 18 = .ok (.aload_n 0, 1) := by decide +kernel
theorem dX6_next_19 : decode cX6_next 19 = .ok (.getfield 23, 3) := by decide +kernel
theorem dX6_next_22 : decode cX6_next 22 = .ok (.aload_n 0, 1) := by decide +kernel
theorem dX6_next_23 : decode cX6_next 23 = .ok (.getfield 9, 3) := by decide +kernel
theorem dX6_next_26 : decode cX6_next 26 = .ok (.getfield 40, 3) := by decide +kernel
theorem dX6_next_29 : decode cX6_next 29 = .ok (.if_icmp .ge 33, 3) := by decide +kernel
theorem dX6_next_32 : decode cX6_next 32 = .ok (.aload_n 0, 1) := by decide +kernel
theorem dX6_next_33 : decode cX6_next 33 = .ok (.getfield 9, 3) := by decide +kernel
theorem dX6_next_36 : decode cX6_next 36 = .ok (.getfield 135, 3) := by decide +kernel
theorem dX6_next_39 : decode cX6_next 39 = .ok (.aload_n 0, 1) := by decide +kernel
theorem dX6_next_40 : decode cX6_next 40 = .ok (.getfield 23, 3) := by decide +kernel
theorem dX6_next_43 : decode cX6_next 43 = .ok (.iaload, 1) := by decide +kernel
theorem dX6_next_44 : decode cX6_next 44 = .ok (.bipush 32, 2) := by decide +kernel
theorem dX6_next_46 : decode cX6_next 46 = .ok (.if_icmp .ne 16, 3) := by decide +kernel
theorem dX6_next_49 : decode cX6_next 49 = .ok (.aload_n 0, 1) := by decide +kernel
theorem dX6_next_50 : decode cX6_next 50 = .ok (.dup, 1) := by decide +kernel
theorem dX6_next_51 : decode cX6_next 51 = .ok (.getfield 23, 3) := by decide +kernel
theorem dX6_next_54 : decode cX6_next 54 = .ok (.iconst 1, 1) := by decide +kernel
theorem dX6_next_55 : decode cX6_next 55 = .ok (.iadd, 1) := by decide +kernel
theorem dX6_next_56 : decode cX6_next 56 = .ok (.putfield 23, 3) := by decide +kernel
theorem dX6_next_59 : decode cX6_next 59 = .ok (.goto (-41), 3) := by decide +kernel
theorem dX6_next_62 : decode cX6_next 62 = .ok (.aload_n 0, 1) := by decide +kernel
theorem dX6_next_63 : decode cX6_next 63 = .ok (.aload_n 0, 1) := by decide +kernel
theorem dX6_next_64 : decode cX6_next 64 = .ok (.getfield 23, 3) := by decide +kernel
theorem dX6_next_67 : decode cX6_next 67 = .ok (.iconst 1, 1) := by decide +kernel
theorem dX6_next_68 : decode cX6_next 68 = .ok (.iadd, 1) := by decide +kernel
theorem dX6_next_69 : decode cX6_next 69 = .ok (.aload_n 0, 1) := by decide +kernel
theorem dX6_next_70 : decode cX6_next 70 = .ok (.getfield 9, 3) := by decide +kernel
theorem dX6_next_73 : decode cX6_next 73 = .ok (.getfield 40, 3) := by decide +kernel
theorem dX6_next_76 : decode cX6_next 76 = .ok (.invokestatic 150, 3) := by decide +kernel
theorem dX6_next_79 : decode cX6_next 79 = .ok (.putfield 26, 3) := by decide +kernel
theorem dX6_next_82 : decode cX6_next 82 = .ok (.aload_n 0, 1) := by decide +kernel
theorem dX6_next_83 : decode cX6_next 83 = .ok (.aload_n 0, 1) := by decide +kernel
theorem dX6_next_84 : decode cX6_next 84 = .ok (.getfield 23, 3) := by decide +kernel
theorem dX6_next_87 : decode cX6_next 87 = .ok (.aload_n 0, 1) := by decide +kernel
theorem dX6_next_88 : decode cX6_next 88 = .ok (.getfield 9, 3) := by decide +kernel
theorem dX6_next_91 : decode cX6_next 91 = .ok (.getfield 40, 3) := by decide +kernel
theorem dX6_next_94 : decode cX6_next 94 = .ok (.if_icmp .ge 21, 3) := by decide +kernel
theorem dX6_next_97 : decode cX6_next 97 = .ok (.aload_n 0, 1) := by decide +kernel
theorem dX6_next_98 : decode cX6_next 98 = .ok (.getfield 9, 3) := by decide +kernel
theorem dX6_next_101 : decode cX6_next 101 = .ok (.getfield 135, 3) := by decide +kernel
theorem dX6_next_104 : decode cX6_next 104 = .ok (.aload_n 0, 1) := by decide +kernel
theorem dX6_next_105 : decode cX6_next 105 = .ok (.getfield 23, 3) := by decide +kernel
theorem dX6_next_108 : decode cX6_next 108 = .ok (.iaload, 1) := by decide +kernel
theorem dX6_next_109 : decode cX6_next 109 = .ok (.invokestatic 155, 3) := by decide +kernel
theorem dX6_next_112 : decode cX6_next 112 = .ok (.goto 4, 3) := by decide +kernel
theorem dX6_next_115 : decode cX6_next 115 = .ok (.iconst 5, 1) := by decide +kernel
theorem dX6_next_116 : decode cX6_next 116 = .ok (.putfield 19, 3) := by decide +kernel
theorem dX6_next_119 : decode cX6_next 119 = .ok (.aload_n 0, 1) := by decide +kernel
theorem dX6_next_120 : decode cX6_next 120 = .ok (.getfield 19, 3) := by decide +kernel
theorem dX6_next_123 : decode cX6_next 123 = .ok (.iconst 1, 1) := by decide +kernel
theorem dX6_next_124 : decode cX6_next 124 = .ok (.if_icmp .ne 49, 3) := by decide +kernel
theorem dX6_next_127 : decode cX6_next 127 = .ok (.aload_n 0, 1) := by decide +kernel
theorem dX6_next_128 : decode cX6_next 128 = .ok (.getfield 26, 3) := by decide +kernel
theorem dX6_next_131 : decode cX6_next 131 = .ok (.aload_n 0, 1) := by decide +kernel
theorem dX6_next_132 : decode cX6_next 132 = .ok (.getfield 9, 3) := by decide +kernel
theorem dX6_next_135 : decode cX6_next 135 = .ok (.getfield 40, 3) := by decide +kernel
theorem dX6_next_138 : decode cX6_next 138 = .ok (.if_icmp .ge 35, 3) := by decide +kernel
theorem dX6_next_141 : decode cX6_next 141 = .ok (.aload_n 0, 1) := by decide +kernel
theorem dX6_next_142 : decode cX6_next 142 = .ok (.getfield 9, 3) := by decide +kernel
theorem dX6_next_145 : decode cX6_next 145 = .ok (.getfield 135, 3) := by decide +kernel
theorem dX6_next_148 : decode cX6_next 148 = .ok (.aload_n 0, 1) := by decide +kernel
theorem dX6_next_149 : decode cX6_next 149 = .ok (.getfield 26, 3) := by decide +kernel
theorem dX6_next_152 : decode cX6_next 152 = .ok (.iaload, 1) := by decide +kernel
theorem dX6_next_153 : decode cX6_next 153 = .ok (.invokestatic 155, 3) := by decide +kernel
theorem dX6_next_156 : decode cX6_next 156 = .ok (.iconst 1, 1) := by decide +kernel
theorem dX6_next_157 : decode cX6_next 157 = .ok (.if_icmp .ne 16, 3) := by decide +kernel
theorem dX6_next_160 : decode cX6_next 160 = .ok (.aload_n 0, 1) := by decide +kernel
theorem dX6_next_161 : decode cX6_next 161 = .ok (.dup, 1) := by decide +kernel
theorem dX6_next_162 : decode cX6_next 162 = .ok (.getfield 26, 3) := by decide +kernel
theorem dX6_next_165 : decode cX6_next 165 = .ok (.iconst 1, 1) := by decide +kernel
theorem dX6_next_166 : decode cX6_next 166 = .ok (.iadd, 1) := by decide +kernel
theorem dX6_next_167 : decode cX6_next 167 = .ok (.putfield 26, 3) := by decide +kernel
theorem dX6_next_170 : decode cX6_next 170 = .ok (.goto (-43), 3) := by decide +kernel
theorem dX6_next_173 : decode cX6_next 173 = .ok (.iload_n 1, 1) := by decide +kernel
theorem dX6_next_174 : decode cX6_next 174 = .ok (.ifCond .eq 23, 3) := by decide +kernel
theorem dX6_next_177 : decode cX6_next 177 = .ok (.aload_n 0, 1) := by decide +kernel
theorem dX6_next_178 : decode cX6_next 178 = .ok (.getfield 23, 3) := by decide +kernel
theorem dX6_next_181 : decode cX6_next 181 = .ok (.iload_n 2, 1) := by decide +kernel
theorem dX6_next_182 : decode cX6_next 182 = .ok (.if_icmp .ne 15, 3) := by decide +kernel
theorem dX6_next_185 : decode cX6_next 185 = .ok (.aload_n 0, 1) := by decide +kernel
theorem dX6_next_186 : decode cX6_next 186 = .ok (.invokevirtual 146, 3) := by decide +kernel
theorem dX6_next_189 : decode cX6_next 189 = .ok (.ifCond .eq 8, 3) := by decide +kernel
theorem dX6_next_192 : decode cX6_next 192 = .ok (.aload_n 0, 1) := by decide +kernel
theorem dX6_next_193 : decode cX6_next 193 = .ok (.iconst 4, 1) := by decide +kernel
theorem dX6_next_194 : decode cX6_next 194 = .ok (.putfield 19, 3) := by decide +kernel
theorem dX6_next_197 : decode cX6_next 197 = .ok (.return_, 1) := by decide +kernel
theorem ok_X6_next : okY RX6 yX6_next 0 := ⟨rfl, by decide, by decide, by decide +kernel⟩
def s_X6_next_18_6 (aB : Nat → Nat) (B : OV) : (OV) → Option ((OV) ⊕ (OV)) := un1 (fun E_7 => (if (iv B 1) ≤ (iv E_7 3) then some (.inr E_7) else gd (ix (iv E_7 3) (aB 98)) ((if (ar B 0 (iv E_7 3).toNatClampNeg) = (32 : Int32) then bnd (sI E_7 3 ((iv E_7 3) + (1 : Int32))) (fun E_8 => some (.inl E_8)) else some (.inr E_7)))))
def j_X6_next_173_15 (v1_3 : Int32) (v2_4 : Int32) (E_14 : OV) : Option (OV) := (if v1_3 = 0 then some E_14 else (if (iv E_14 3) = v2_4 then (f_X6_isWordOrNumber E_14).bind (un1 (fun r_16 => (if r_16 = 0 then some E_14 else bnd (sI E_14 2 (4 : Int32)) (fun E_18 => some E_18)))) else some E_14))
def s_X6_next_127_19 (aB : Nat → Nat) (B : OV) : (OV) → Option ((OV) ⊕ (OV)) := un1 (fun E_20 => (if (iv B 1) ≤ (iv E_20 4) then some (.inr E_20) else gd (ix (iv E_20 4) (aB 98)) ((f_X6_kindOf (ar B 0 (iv E_20 4).toNatClampNeg)).bind (un1 (fun r_21 => (if r_21 = (1 : Int32) then bnd (sI E_20 4 ((iv E_20 4) + (1 : Int32))) (fun E_23 => some (.inl E_23)) else some (.inr E_20)))))))
def j_X6_next_116_12 (aB : Nat → Nat) (B : OV) (E_10 : OV) (v1_3 : Int32) (v2_4 : Int32) (t_11 : Int32) : Option (OV) := bnd (sI E_10 2 t_11) (fun E_13 => (if (iv E_13 2) = (1 : Int32) then ((lp (s_X6_next_127_19 aB B) 5000 E_13).bind (un1 (fun E_24 => j_X6_next_173_15 v1_3 v2_4 E_24))) else j_X6_next_173_15 v1_3 v2_4 E_13))
def f_X6_next (E : OV) (aB : Nat → Nat) (B : OV) : Option (OV) := (f_X6_isWordOrNumber E).bind (un1 (fun r_1 => bnd r_1 (fun v1_3 => bnd (iv E 4) (fun v2_4 => bnd (sI E 3 (iv E 4)) (fun E_5 => ((lp (s_X6_next_18_6 aB B) 5000 E_5).bind (un1 (fun E_9 => bnd (sI E_9 4 (if (iv B 1) < ((iv E_9 3) + (1 : Int32)) then (iv B 1) else ((iv E_9 3) + (1 : Int32)))) (fun E_10 => (if (iv B 1) ≤ (iv E_10 3) then j_X6_next_116_12 aB B E_10 v1_3 v2_4 (5 : Int32) else gd (ix (iv E_10 3) (aB 98)) ((f_X6_kindOf (ar B 0 (iv E_10 3).toNatClampNeg)).bind (un1 (fun r_25 => j_X6_next_116_12 aB B E_10 v1_3 v2_4 r_25)))))))))))))
def r_X6_next : Room := { frames := 1, cells := 0, slots := 0, locals := 21 }
set_option maxHeartbeats 4000000 in
set_option maxRecDepth 100000 in
theorem c_X6_next (l : Launch) (D : va_G) (ev : EvT) (cy : Nat → ClassId) (oE : Nat) (aE : Nat → Nat) (E : OV) (aB : Nat → Nat) (B : OV) (o : OV) (hf : f_X6_next E aB B = some o) : Fn l yX6_next cX6_next 3 none r_X6_next D ev cy [.ref oE] [gX6 cy oE aE E, gX0 cy (aE 0) aB B] (fun v G => v = none ∧ G = [gX6 cy oE aE o, gX0 cy (aE 0) aB B]) := by
  refine Fn_of (by decide) (Nat.le_of_ble_eq_true rfl) (fun X A Q h hQ _ => ?_)
  unfold f_X6_next at hf
  show ww X D A 3 Q 0 0 0 [(0, .ref oE)] [] [gX6 cy oE aE E, gX0 cy (aE 0) aB B]
  refine ww_aload_n h dX6_next_0 rfl 0 rfl 1 rfl ?_
  obtain ⟨r_1, hu2, hf⟩ := ob1 hf
  refine ww_cVi h (c_X6_isWordOrNumber l D ev cy oE aE E _ hu2) ⟨w_516, w_513, w_515, w_1, w_112, ok_X6_isWordOrNumber⟩ ⟨by decide, by decide⟩ ⟨by decide, by decide⟩ ⟨rfl, rfl⟩ [0] rfl 0 rfl rfl rfl rfl (Nat.le_of_ble_eq_true rfl) dX6_next_1 4 rfl (Gs' := [gX6 cy oE aE E, gX0 cy (aE 0) aB B]) rfl ?_
  clear hu2
  refine ww_ist_n h dX6_next_4 rfl (by decide) (fun v1_3 => [(1, .int v1_3), (0, .ref oE)]) (fun _ => rfl) 5 rfl (fun v1_3 e => ?_)
  replace hf := bnd_at e hf
  clear e
  refine ww_aload_n h dX6_next_5 rfl 1 rfl 6 rfl ?_
  refine ww_get h inG6 rfl 0 rfl rfl 4 (by decide) w_483 rfl dX6_next_6 9 rfl ?_
  refine ww_ist_n h dX6_next_9 rfl (by decide) (fun v2_4 => [(2, .int v2_4), (1, .int v1_3), (0, .ref oE)]) (fun _ => rfl) 10 rfl (fun v2_4 e => ?_)
  replace hf := bnd_at e hf
  clear e
  refine ww_aload_n h dX6_next_10 rfl 2 rfl 11 rfl ?_
  refine ww_aload_n h dX6_next_11 rfl 2 rfl 12 rfl ?_
  refine ww_get h inG6 rfl 0 rfl rfl 4 (by decide) w_483 rfl dX6_next_12 15 rfl ?_
  refine ww_put (ty := .int) h inG6 tyX6_ok nmX6 rfl 0 rfl rfl 3 (by decide) w_482 rfl (by decide +kernel) rfl rfl (Nat.le_of_ble_eq_true rfl) (Nat.le_of_ble_eq_true rfl) dX6_next_15 18 rfl ?_
  refine ww_nm (fun z => [gX6 cy oE aE z, gX0 cy (aE 0) aB B]) (sI E 3 (iv E 4)) (fun E_5 e => ?_)
  replace hf := bnd_at e hf
  clear e
  refine ww_lo [2, 1, 0] (lo' := [(0, .ref oE), (1, .int v1_3), (2, .int v2_4)]) rfl ?_
  obtain ⟨E_9, h6, hf⟩ := ob1 hf
  refine lp_walk (un1 (fun E_7 => ww X D A 3 Q 0 0 18 [(0, .ref oE), (1, .int v1_3), (2, .int v2_4)] [] [gX6 cy oE aE E_7, gX0 cy (aE 0) aB B])) (un1 (fun E_9 => ww X D A 3 Q 0 0 62 [(0, .ref oE), (1, .int v1_3), (2, .int v2_4)] [] [gX6 cy oE aE E_9, gX0 cy (aE 0) aB B])) ?_ _ _ _ h6 ?_
  · clear h6 hf
    intro s6 o6 hf hI6 hE6
    obtain ⟨E_7, rfl⟩ : ∃ z, z = s6 := ⟨_, rfl⟩
    unfold s_X6_next_18_6 at hf
    replace hf := un1_e hf
    show ww X D A 3 Q 0 0 18 [(0, .ref oE), (1, .int v1_3), (2, .int v2_4)] [] [gX6 cy oE aE E_7, gX0 cy (aE 0) aB B]
    refine ww_aload_n h dX6_next_18 rfl 0 rfl 19 rfl ?_
    refine ww_get h inG6 rfl 0 rfl rfl 3 (by decide) w_482 rfl dX6_next_19 22 rfl ?_
    refine ww_aload_n h dX6_next_22 rfl 0 rfl 23 rfl ?_
    refine ww_get h inG6 rfl 0 rfl rfl 0 (by decide) w_479 rfl dX6_next_23 26 rfl ?_
    refine ww_get h inG0 rfl 1 rfl rfl 1 (by decide) w_142 rfl dX6_next_26 29 rfl ?_
    refine ww_icmp_ge h dX6_next_29 62 (by decide) 32 rfl (fun c => ?_) (fun c => ?_)
    · replace hf := ite_t c hf
      exact hE6 E_7 (Option.some.inj hf).symm
    · replace hf := ite_f c hf
      refine ww_aload_n h dX6_next_32 rfl 0 rfl 33 rfl ?_
      refine ww_get h inG6 rfl 0 rfl rfl 0 (by decide) w_479 rfl dX6_next_33 36 rfl ?_
      refine ww_get h inG0 rfl 1 rfl rfl 0 (by decide) w_138 rfl dX6_next_36 39 rfl ?_
      refine ww_aload_n h dX6_next_39 rfl 0 rfl 40 rfl ?_
      refine ww_get h inG6 rfl 0 rfl rfl 3 (by decide) w_482 rfl dX6_next_40 43 rfl ?_
      have hi := (gd_some hf).1
      replace hf := (gd_some hf).2
      refine ww_iald h 1 rfl 1 rfl (ix_in hi) dX6_next_43 44 rfl ?_
      clear hi
      refine ww_bipush (v := 32) h dX6_next_44 (by decide) 46 rfl ?_
      refine ww_icmp_ne h dX6_next_46 62 (by decide) 49 rfl (fun c => ?_) (fun c => ?_)
      · replace hf := ite_f c hf
        exact hE6 E_7 (Option.some.inj hf).symm
      · replace hf := ite_t c hf
        refine ww_aload_n h dX6_next_49 rfl 0 rfl 50 rfl ?_
        refine ww_dup h dX6_next_50 rfl 51 rfl ?_
        refine ww_get h inG6 rfl 0 rfl rfl 3 (by decide) w_482 rfl dX6_next_51 54 rfl ?_
        refine ww_iconst (v := 1) h dX6_next_54 (by decide) 55 rfl ?_
        refine ww_iadd h dX6_next_55 56 rfl ?_
        refine ww_put (ty := .int) h inG6 tyX6_ok nmX6 rfl 0 rfl rfl 3 (by decide) w_482 rfl (by decide +kernel) rfl rfl (Nat.le_of_ble_eq_true rfl) (Nat.le_of_ble_eq_true rfl) dX6_next_56 59 rfl ?_
        refine ww_nm (fun z => [gX6 cy oE aE z, gX0 cy (aE 0) aB B]) (sI E_7 3 ((iv E_7 3) + (1 : Int32))) (fun E_8 e => ?_)
        replace hf := bnd_at e hf
        clear e
        refine ww_goto h dX6_next_59 18 (by decide) ?_
        exact hI6 E_8 (Option.some.inj hf).symm
  · clear h6
    show ww X D A 3 Q 0 0 62 [(0, .ref oE), (1, .int v1_3), (2, .int v2_4)] [] [gX6 cy oE aE E_9, gX0 cy (aE 0) aB B]
    refine ww_aload_n h dX6_next_62 rfl 0 rfl 63 rfl ?_
    refine ww_aload_n h dX6_next_63 rfl 0 rfl 64 rfl ?_
    refine ww_get h inG6 rfl 0 rfl rfl 3 (by decide) w_482 rfl dX6_next_64 67 rfl ?_
    refine ww_iconst (v := 1) h dX6_next_67 (by decide) 68 rfl ?_
    refine ww_iadd h dX6_next_68 69 rfl ?_
    refine ww_aload_n h dX6_next_69 rfl 0 rfl 70 rfl ?_
    refine ww_get h inG6 rfl 0 rfl rfl 0 (by decide) w_479 rfl dX6_next_70 73 rfl ?_
    refine ww_get h inG0 rfl 1 rfl rfl 1 (by decide) w_142 rfl dX6_next_73 76 rfl ?_
    refine ww_min h w_517 w_518 w_103 w_519 ⟨by decide, Nat.le_of_ble_eq_true rfl, by decide, by decide⟩ dX6_next_76 79 rfl ?_
    refine ww_put (ty := .int) h inG6 tyX6_ok nmX6 rfl 0 rfl rfl 4 (by decide) w_483 rfl (by decide +kernel) rfl rfl (Nat.le_of_ble_eq_true rfl) (Nat.le_of_ble_eq_true rfl) dX6_next_79 82 rfl ?_
    refine ww_nm (fun z => [gX6 cy oE aE z, gX0 cy (aE 0) aB B]) (sI E_9 4 (if (iv B 1) < ((iv E_9 3) + (1 : Int32)) then (iv B 1) else ((iv E_9 3) + (1 : Int32)))) (fun E_10 e => ?_)
    replace hf := bnd_at e hf
    clear e
    refine ww_aload_n h dX6_next_82 rfl 0 rfl 83 rfl ?_
    refine ww_aload_n h dX6_next_83 rfl 0 rfl 84 rfl ?_
    refine ww_get h inG6 rfl 0 rfl rfl 3 (by decide) w_482 rfl dX6_next_84 87 rfl ?_
    refine ww_aload_n h dX6_next_87 rfl 0 rfl 88 rfl ?_
    refine ww_get h inG6 rfl 0 rfl rfl 0 (by decide) w_479 rfl dX6_next_88 91 rfl ?_
    refine ww_get h inG0 rfl 1 rfl rfl 1 (by decide) w_142 rfl dX6_next_91 94 rfl ?_
    have hJ116_12 : ∀ (t_11 : Int32), j_X6_next_116_12 aB B E_10 v1_3 v2_4 t_11 = some o → ww X D A 3 Q 0 0 116 [(0, .ref oE), (1, .int v1_3), (2, .int v2_4)] [.int t_11, .ref oE] [gX6 cy oE aE E_10, gX0 cy (aE 0) aB B] := by
      intro t_11 hf
      unfold j_X6_next_116_12 at hf
      refine ww_put (ty := .int) h inG6 tyX6_ok nmX6 rfl 0 rfl rfl 2 (by decide) w_481 rfl (by decide +kernel) rfl rfl (Nat.le_of_ble_eq_true rfl) (Nat.le_of_ble_eq_true rfl) dX6_next_116 119 rfl ?_
      refine ww_nm (fun z => [gX6 cy oE aE z, gX0 cy (aE 0) aB B]) (sI E_10 2 t_11) (fun E_13 e => ?_)
      replace hf := bnd_at e hf
      clear e
      refine ww_aload_n h dX6_next_119 rfl 0 rfl 120 rfl ?_
      refine ww_get h inG6 rfl 0 rfl rfl 2 (by decide) w_481 rfl dX6_next_120 123 rfl ?_
      refine ww_iconst (v := 1) h dX6_next_123 (by decide) 124 rfl ?_
      have hJ173_15 : ∀ (E_14 : OV), j_X6_next_173_15 v1_3 v2_4 E_14 = some o → ww X D A 3 Q 0 0 173 [(0, .ref oE), (1, .int v1_3), (2, .int v2_4)] [] [gX6 cy oE aE E_14, gX0 cy (aE 0) aB B] := by
        intro E_14 hf
        unfold j_X6_next_173_15 at hf
        refine ww_iload_n h dX6_next_173 rfl 1 rfl 174 rfl ?_
        refine ww_if_eq h dX6_next_174 197 (by decide) 177 rfl (fun c => ?_) (fun c => ?_)
        · replace hf := ite_t c hf
          obtain rfl := Option.some.inj hf
          exact ww_vret h dX6_next_197 hQ ⟨rfl, rfl⟩
        · replace hf := ite_f c hf
          refine ww_aload_n h dX6_next_177 rfl 0 rfl 178 rfl ?_
          refine ww_get h inG6 rfl 0 rfl rfl 3 (by decide) w_482 rfl dX6_next_178 181 rfl ?_
          refine ww_iload_n h dX6_next_181 rfl 2 rfl 182 rfl ?_
          refine ww_icmp_ne h dX6_next_182 197 (by decide) 185 rfl (fun c => ?_) (fun c => ?_)
          · replace hf := ite_f c hf
            obtain rfl := Option.some.inj hf
            exact ww_vret h dX6_next_197 hQ ⟨rfl, rfl⟩
          · replace hf := ite_t c hf
            refine ww_aload_n h dX6_next_185 rfl 0 rfl 186 rfl ?_
            obtain ⟨r_16, hu17, hf⟩ := ob1 hf
            refine ww_cVi h (c_X6_isWordOrNumber l D ev cy oE aE E_14 _ hu17) ⟨w_516, w_513, w_515, w_1, w_112, ok_X6_isWordOrNumber⟩ ⟨by decide, by decide⟩ ⟨by decide, by decide⟩ ⟨rfl, rfl⟩ [0] rfl 0 rfl rfl rfl rfl (Nat.le_of_ble_eq_true rfl) dX6_next_186 189 rfl (Gs' := [gX6 cy oE aE E_14, gX0 cy (aE 0) aB B]) rfl ?_
            clear hu17
            refine ww_if_eq h dX6_next_189 197 (by decide) 192 rfl (fun c => ?_) (fun c => ?_)
            · replace hf := ite_t c hf
              obtain rfl := Option.some.inj hf
              exact ww_vret h dX6_next_197 hQ ⟨rfl, rfl⟩
            · replace hf := ite_f c hf
              refine ww_aload_n h dX6_next_192 rfl 0 rfl 193 rfl ?_
              refine ww_iconst (v := 4) h dX6_next_193 (by decide) 194 rfl ?_
              refine ww_put (ty := .int) h inG6 tyX6_ok nmX6 rfl 0 rfl rfl 2 (by decide) w_481 rfl (by decide +kernel) rfl rfl (Nat.le_of_ble_eq_true rfl) (Nat.le_of_ble_eq_true rfl) dX6_next_194 197 rfl ?_
              refine ww_nm (fun z => [gX6 cy oE aE z, gX0 cy (aE 0) aB B]) (sI E_14 2 (4 : Int32)) (fun E_18 e => ?_)
              replace hf := bnd_at e hf
              clear e
              obtain rfl := Option.some.inj hf
              exact ww_vret h dX6_next_197 hQ ⟨rfl, rfl⟩
      refine ww_icmp_ne h dX6_next_124 173 (by decide) 127 rfl (fun c => ?_) (fun c => ?_)
      · replace hf := ite_f c hf
        exact hJ173_15 E_13 hf
      · replace hf := ite_t c hf
        obtain ⟨E_24, h19, hf⟩ := ob1 hf
        refine lp_walk (un1 (fun E_20 => ww X D A 3 Q 0 0 127 [(0, .ref oE), (1, .int v1_3), (2, .int v2_4)] [] [gX6 cy oE aE E_20, gX0 cy (aE 0) aB B])) (un1 (fun E_24 => ww X D A 3 Q 0 0 173 [(0, .ref oE), (1, .int v1_3), (2, .int v2_4)] [] [gX6 cy oE aE E_24, gX0 cy (aE 0) aB B])) ?_ _ _ _ h19 ?_
        · clear h19 hf
          intro s19 o19 hf hI19 hE19
          obtain ⟨E_20, rfl⟩ : ∃ z, z = s19 := ⟨_, rfl⟩
          unfold s_X6_next_127_19 at hf
          replace hf := un1_e hf
          show ww X D A 3 Q 0 0 127 [(0, .ref oE), (1, .int v1_3), (2, .int v2_4)] [] [gX6 cy oE aE E_20, gX0 cy (aE 0) aB B]
          refine ww_aload_n h dX6_next_127 rfl 0 rfl 128 rfl ?_
          refine ww_get h inG6 rfl 0 rfl rfl 4 (by decide) w_483 rfl dX6_next_128 131 rfl ?_
          refine ww_aload_n h dX6_next_131 rfl 0 rfl 132 rfl ?_
          refine ww_get h inG6 rfl 0 rfl rfl 0 (by decide) w_479 rfl dX6_next_132 135 rfl ?_
          refine ww_get h inG0 rfl 1 rfl rfl 1 (by decide) w_142 rfl dX6_next_135 138 rfl ?_
          refine ww_icmp_ge h dX6_next_138 173 (by decide) 141 rfl (fun c => ?_) (fun c => ?_)
          · replace hf := ite_t c hf
            exact hE19 E_20 (Option.some.inj hf).symm
          · replace hf := ite_f c hf
            refine ww_aload_n h dX6_next_141 rfl 0 rfl 142 rfl ?_
            refine ww_get h inG6 rfl 0 rfl rfl 0 (by decide) w_479 rfl dX6_next_142 145 rfl ?_
            refine ww_get h inG0 rfl 1 rfl rfl 0 (by decide) w_138 rfl dX6_next_145 148 rfl ?_
            refine ww_aload_n h dX6_next_148 rfl 0 rfl 149 rfl ?_
            refine ww_get h inG6 rfl 0 rfl rfl 4 (by decide) w_483 rfl dX6_next_149 152 rfl ?_
            have hi := (gd_some hf).1
            replace hf := (gd_some hf).2
            refine ww_iald h 1 rfl 1 rfl (ix_in hi) dX6_next_152 153 rfl ?_
            clear hi
            obtain ⟨r_21, hu22, hf⟩ := ob1 hf
            refine ww_cSi h (c_X6_kindOf l D ev cy (ar B 0 (iv E_20 4).toNatClampNeg) _ hu22) ⟨w_522, w_520, w_521, w_112, ok_X6_kindOf⟩ ⟨by decide, by decide⟩ ⟨by decide, by decide⟩ ⟨rfl, rfl⟩ [] rfl rfl (Nat.le_of_ble_eq_true rfl) dX6_next_153 156 rfl (Gs' := [gX6 cy oE aE E_20, gX0 cy (aE 0) aB B]) rfl ?_
            clear hu22
            refine ww_iconst (v := 1) h dX6_next_156 (by decide) 157 rfl ?_
            refine ww_icmp_ne h dX6_next_157 173 (by decide) 160 rfl (fun c => ?_) (fun c => ?_)
            · replace hf := ite_f c hf
              exact hE19 E_20 (Option.some.inj hf).symm
            · replace hf := ite_t c hf
              refine ww_aload_n h dX6_next_160 rfl 0 rfl 161 rfl ?_
              refine ww_dup h dX6_next_161 rfl 162 rfl ?_
              refine ww_get h inG6 rfl 0 rfl rfl 4 (by decide) w_483 rfl dX6_next_162 165 rfl ?_
              refine ww_iconst (v := 1) h dX6_next_165 (by decide) 166 rfl ?_
              refine ww_iadd h dX6_next_166 167 rfl ?_
              refine ww_put (ty := .int) h inG6 tyX6_ok nmX6 rfl 0 rfl rfl 4 (by decide) w_483 rfl (by decide +kernel) rfl rfl (Nat.le_of_ble_eq_true rfl) (Nat.le_of_ble_eq_true rfl) dX6_next_167 170 rfl ?_
              refine ww_nm (fun z => [gX6 cy oE aE z, gX0 cy (aE 0) aB B]) (sI E_20 4 ((iv E_20 4) + (1 : Int32))) (fun E_23 e => ?_)
              replace hf := bnd_at e hf
              clear e
              refine ww_goto h dX6_next_170 127 (by decide) ?_
              exact hI19 E_23 (Option.some.inj hf).symm
        · clear h19
          show ww X D A 3 Q 0 0 173 [(0, .ref oE), (1, .int v1_3), (2, .int v2_4)] [] [gX6 cy oE aE E_24, gX0 cy (aE 0) aB B]
          exact hJ173_15 E_24 hf
    refine ww_icmp_ge h dX6_next_94 115 (by decide) 97 rfl (fun c => ?_) (fun c => ?_)
    · replace hf := ite_t c hf
      refine ww_iconst (v := 5) h dX6_next_115 (by decide) 116 rfl ?_
      exact hJ116_12 (5 : Int32) hf
    · replace hf := ite_f c hf
      refine ww_aload_n h dX6_next_97 rfl 0 rfl 98 rfl ?_
      refine ww_get h inG6 rfl 0 rfl rfl 0 (by decide) w_479 rfl dX6_next_98 101 rfl ?_
      refine ww_get h inG0 rfl 1 rfl rfl 0 (by decide) w_138 rfl dX6_next_101 104 rfl ?_
      refine ww_aload_n h dX6_next_104 rfl 0 rfl 105 rfl ?_
      refine ww_get h inG6 rfl 0 rfl rfl 3 (by decide) w_482 rfl dX6_next_105 108 rfl ?_
      have hi := (gd_some hf).1
      replace hf := (gd_some hf).2
      refine ww_iald h 1 rfl 1 rfl (ix_in hi) dX6_next_108 109 rfl ?_
      clear hi
      obtain ⟨r_25, hu26, hf⟩ := ob1 hf
      refine ww_cSi h (c_X6_kindOf l D ev cy (ar B 0 (iv E_10 3).toNatClampNeg) _ hu26) ⟨w_522, w_520, w_521, w_112, ok_X6_kindOf⟩ ⟨by decide, by decide⟩ ⟨by decide, by decide⟩ ⟨rfl, rfl⟩ [] rfl rfl (Nat.le_of_ble_eq_true rfl) dX6_next_109 112 rfl (Gs' := [gX6 cy oE aE E_10, gX0 cy (aE 0) aB B]) rfl ?_
      clear hu26
      refine ww_goto h dX6_next_112 116 (by decide) ?_
      exact hJ116_12 r_25 hf
theorem dX6_readNewLetter_0 : decode cX6_readNewLetter 0 = .ok (.aload_n 0, 1) := by decide +kernel
theorem dX6_readNewLetter_1 : decode cX6_readNewLetter 1 = .ok (.invokevirtual 125, 3) := by decide +kernel
theorem dX6_readNewLetter_4 : decode cX6_readNewLetter 4 = .ok (.istore_n 1, 1) := by decide +kernel
theorem dX6_readNewLetter_5 : decode cX6_readNewLetter 5 = .ok (.iload_n 1, 1) := by decide +kernel
theorem dX6_readNewLetter_6 : decode cX6_readNewLetter 6 = .ok (.iconst (-1), 1) := by decide +kernel
theorem dX6_readNewLetter_7 : decode cX6_readNewLetter 7 = .ok (.if_icmp .eq 26, 3) := by decide +kernel
theorem dX6_readNewLetter_10 : decode cX6_readNewLetter 10 = .ok (.aload_n 0, 1) := by decide +kernel
theorem dX6_readNewLetter_11 : decode cX6_readNewLetter 11 = .ok (.getfield 15, 3) := by decide +kernel
theorem dX6_readNewLetter_14 : decode cX6_readNewLetter 14 = .ok (.iload_n 1, 1) := by decide +kernel
theorem dX6_readNewLetter_15 : decode cX6_readNewLetter 15 = .ok (.invokevirtual 128, 3) := by decide +kernel
theorem dX6_readNewLetter_18 : decode cX6_readNewLetter 18 = .ok (.ifCond .ne 15, 3) := by decide +kernel
theorem dX6_readNewLetter_21 : decode cX6_readNewLetter 21 = .ok (.aload_n 0, 1) := by decide +kernel
theorem dX6_readNewLetter_22 : decode cX6_readNewLetter 22 = .ok (.getfield 15, 3) := by decide +kernel
theorem dX6_readNewLetter_25 : decode cX6_readNewLetter 25 = .ok (.getfield 75, 3) := by decide +kernel
theorem dX6_readNewLetter_28 : decode cX6_readNewLetter 28 = .ok (.bipush 10, 2) := by decide +kernel
theorem dX6_readNewLetter_30 : decode cX6_readNewLetter 30 = .ok (.if_icmp .lt 9, 3) := by decide +kernel
theorem dX6_readNewLetter_33 : decode cX6_readNewLetter 33 = .ok (.aload_n 0, 1) := by decide +kernel
theorem dX6_readNewLetter_34 : decode cX6_readNewLetter 34 = .ok (.invokevirtual 132, 3) := by decide +kernel
theorem dX6_readNewLetter_37 : decode cX6_readNewLetter 37 = .ok (.iconst 0, 1) := by decide +kernel
theorem dX6_readNewLetter_38 : decode cX6_readNewLetter 38 = .ok (.ireturn, 1) := by decide +kernel
theorem dX6_readNewLetter_39 : decode cX6_readNewLetter 39 = .ok (.aload_n 0, 1) := by decide +kernel
theorem dX6_readNewLetter_40 : decode cX6_readNewLetter 40 = .ok (.invokevirtual 37, 3) := by decide +kernel
theorem dX6_readNewLetter_43 : decode cX6_readNewLetter 43 = .ok (.iload_n 1, 1) := by decide +kernel
theorem dX6_readNewLetter_44 : decode cX6_readNewLetter 44 = .ok (.ireturn, 1) := by decide +kernel
theorem ok_X6_readNewLetter : okY RX6 yX6_readNewLetter 0 := ⟨rfl, by decide, by decide, by decide +kernel⟩
def j_X6_readNewLetter_33_4 (E : OV) : Option (Int32 × OV) := (f_X6_fail E).bind (un1 (fun E_5 => some ((0 : Int32), E_5)))
def f_X6_readNewLetter (E : OV) (aB : Nat → Nat) (B : OV) (C : OV) : Option (Int32 × OV) := (f_X6_letterHere E aB B).bind (un1 (fun r_1 => bnd r_1 (fun v1_3 => (if v1_3 = (-1 : Int32) then j_X6_readNewLetter_33_4 E else (f_X1_has C v1_3).bind (un1 (fun r_7 => (if r_7 = 0 then (if (iv C 5) < (10 : Int32) then (f_X6_next E aB B).bind (un1 (fun E_9 => some (v1_3, E_9))) else j_X6_readNewLetter_33_4 E) else j_X6_readNewLetter_33_4 E)))))))
def r_X6_readNewLetter : Room := { frames := 2, cells := 0, slots := 0, locals := 43 }
set_option maxHeartbeats 4000000 in
set_option maxRecDepth 100000 in
theorem c_X6_readNewLetter (l : Launch) (D : va_G) (ev : EvT) (cy : Nat → ClassId) (oE : Nat) (aE : Nat → Nat) (E : OV) (aB : Nat → Nat) (B : OV) (aC : Nat → Nat) (C : OV) (o : Int32 × OV) (hf : f_X6_readNewLetter E aB B C = some o) : Fn l yX6_readNewLetter cX6_readNewLetter 2 (some .int) r_X6_readNewLetter D ev cy [.ref oE] [gX6 cy oE aE E, gX0 cy (aE 0) aB B, gX1 cy (aE 1) aC C] (fun v G => v = some (.int o.1) ∧ G = [gX6 cy oE aE o.2, gX0 cy (aE 0) aB B, gX1 cy (aE 1) aC C]) := by
  refine Fn_of (by decide) (Nat.le_of_ble_eq_true rfl) (fun X A Q h hQ _ => ?_)
  unfold f_X6_readNewLetter at hf
  show ww X D A 2 Q 0 0 0 [(0, .ref oE)] [] [gX6 cy oE aE E, gX0 cy (aE 0) aB B, gX1 cy (aE 1) aC C]
  refine ww_aload_n h dX6_readNewLetter_0 rfl 0 rfl 1 rfl ?_
  obtain ⟨r_1, hu2, hf⟩ := ob1 hf
  refine ww_cVi h (c_X6_letterHere l D ev cy oE aE E aB B _ hu2) ⟨w_587, w_584, w_586, w_5, w_112, ok_X6_letterHere⟩ ⟨by decide, by decide⟩ ⟨by decide, by decide⟩ ⟨rfl, rfl⟩ [0, 0] rfl 0 rfl rfl rfl rfl (Nat.le_of_ble_eq_true rfl) dX6_readNewLetter_1 4 rfl (Gs' := [gX6 cy oE aE E, gX0 cy (aE 0) aB B, gX1 cy (aE 1) aC C]) rfl ?_
  clear hu2
  refine ww_ist_n h dX6_readNewLetter_4 rfl (by decide) (fun v1_3 => [(1, .int v1_3), (0, .ref oE)]) (fun _ => rfl) 5 rfl (fun v1_3 e => ?_)
  replace hf := bnd_at e hf
  clear e
  refine ww_iload_n h dX6_readNewLetter_5 rfl 0 rfl 6 rfl ?_
  refine ww_iconst (v := (-1)) h dX6_readNewLetter_6 (by decide) 7 rfl ?_
  have hJ33_4 : ∀ (_ : Unit), j_X6_readNewLetter_33_4 E = some o → ww X D A 2 Q 0 0 33 [(0, .ref oE)] [] [gX6 cy oE aE E, gX0 cy (aE 0) aB B, gX1 cy (aE 1) aC C] := by
    intro _ hf
    unfold j_X6_readNewLetter_33_4 at hf
    refine ww_aload_n h dX6_readNewLetter_33 rfl 0 rfl 34 rfl ?_
    obtain ⟨E_5, hu6, hf⟩ := ob1 hf
    refine ww_cVv h (c_X6_fail l D ev cy oE aE E _ hu6) ⟨w_595, w_592, w_594, w_6, w_112, ok_X6_fail⟩ ⟨by decide, by decide⟩ ⟨by decide, by decide⟩ ⟨rfl, rfl⟩ [0] rfl 0 rfl rfl rfl rfl (Nat.le_of_ble_eq_true rfl) dX6_readNewLetter_34 37 rfl (Gs' := [gX6 cy oE aE E_5, gX0 cy (aE 0) aB B, gX1 cy (aE 1) aC C]) rfl ?_
    clear hu6
    refine ww_iconst (v := 0) h dX6_readNewLetter_37 (by decide) 38 rfl ?_
    obtain rfl := Option.some.inj hf
    exact ww_iret h dX6_readNewLetter_38 hQ ⟨rfl, rfl⟩
  refine ww_icmp_eq h dX6_readNewLetter_7 33 (by decide) 10 rfl (fun c => ?_) (fun c => ?_)
  · replace hf := ite_t c hf
    refine ww_lo [1] (lo' := [(0, .ref oE)]) rfl ?_
    exact hJ33_4 () hf
  · replace hf := ite_f c hf
    refine ww_aload_n h dX6_readNewLetter_10 rfl 1 rfl 11 rfl ?_
    refine ww_get h inG6 rfl 0 rfl rfl 1 (by decide) w_480 rfl dX6_readNewLetter_11 14 rfl ?_
    refine ww_iload_n h dX6_readNewLetter_14 rfl 0 rfl 15 rfl ?_
    obtain ⟨r_7, hu8, hf⟩ := ob1 hf
    refine ww_cVi h (c_X1_has l D ev cy (aE 1) aC C v1_3 _ hu8) ⟨w_591, w_588, w_589, w_590, w_104, ok_X1_has⟩ ⟨by decide, by decide⟩ ⟨by decide, by decide⟩ ⟨rfl, rfl⟩ [2] rfl 0 rfl rfl rfl rfl (Nat.le_of_ble_eq_true rfl) dX6_readNewLetter_15 18 rfl (Gs' := [gX1 cy (aE 1) aC C, gX6 cy oE aE E, gX0 cy (aE 0) aB B]) rfl ?_
    clear hu8
    refine ww_if_ne h dX6_readNewLetter_18 33 (by decide) 21 rfl (fun c => ?_) (fun c => ?_)
    · replace hf := ite_f c hf
      refine ww_lo [1] (lo' := [(0, .ref oE)]) rfl ?_
      refine ww_perm [1, 1, 0] (Gs' := [gX6 cy oE aE E, gX0 cy (aE 0) aB B, gX1 cy (aE 1) aC C]) rfl ?_
      exact hJ33_4 () hf
    · replace hf := ite_t c hf
      refine ww_aload_n h dX6_readNewLetter_21 rfl 1 rfl 22 rfl ?_
      refine ww_get h inG6 rfl 1 rfl rfl 1 (by decide) w_480 rfl dX6_readNewLetter_22 25 rfl ?_
      refine ww_get h inG1 rfl 0 rfl rfl 5 (by decide) w_173 rfl dX6_readNewLetter_25 28 rfl ?_
      refine ww_bipush (v := 10) h dX6_readNewLetter_28 (by decide) 30 rfl ?_
      refine ww_icmp_lt h dX6_readNewLetter_30 39 (by decide) 33 rfl (fun c => ?_) (fun c => ?_)
      · replace hf := ite_t c hf
        refine ww_aload_n h dX6_readNewLetter_39 rfl 1 rfl 40 rfl ?_
        obtain ⟨E_9, hu10, hf⟩ := ob1 hf
        refine ww_cVv h (c_X6_next l D ev cy oE aE E aB B _ hu10) ⟨w_512, w_509, w_511, w_0, w_112, ok_X6_next⟩ ⟨by decide, by decide⟩ ⟨by decide, by decide⟩ ⟨rfl, rfl⟩ [1, 1] rfl 0 rfl rfl rfl rfl (Nat.le_of_ble_eq_true rfl) dX6_readNewLetter_40 43 rfl (Gs' := [gX6 cy oE aE E_9, gX0 cy (aE 0) aB B, gX1 cy (aE 1) aC C]) rfl ?_
        clear hu10
        refine ww_iload_n h dX6_readNewLetter_43 rfl 0 rfl 44 rfl ?_
        obtain rfl := Option.some.inj hf
        exact ww_iret h dX6_readNewLetter_44 hQ ⟨rfl, rfl⟩
      · replace hf := ite_f c hf
        refine ww_lo [1] (lo' := [(0, .ref oE)]) rfl ?_
        refine ww_perm [1, 1, 0] (Gs' := [gX6 cy oE aE E, gX0 cy (aE 0) aB B, gX1 cy (aE 1) aC C]) rfl ?_
        exact hJ33_4 () hf
theorem dX6_readToldLetter_0 : decode cX6_readToldLetter 0 = .ok (.aload_n 0, 1) := by decide +kernel
theorem dX6_readToldLetter_1 : decode cX6_readToldLetter 1 = .ok (.invokevirtual 125, 3) := by decide +kernel
theorem dX6_readToldLetter_4 : decode cX6_readToldLetter 4 = .ok (.istore_n 1, 1) := by decide +kernel
theorem dX6_readToldLetter_5 : decode cX6_readToldLetter 5 = .ok (.aload_n 0, 1) := by decide +kernel
theorem dX6_readToldLetter_6 : decode cX6_readToldLetter 6 = .ok (.getfield 15, 3) := by decide +kernel
theorem dX6_readToldLetter_9 : decode cX6_readToldLetter 9 = .ok (.iload_n 1, 1) := by decide +kernel
theorem dX6_readToldLetter_10 : decode cX6_readToldLetter 10 = .ok (.invokevirtual 128, 3) := by decide +kernel
theorem dX6_readToldLetter_13 : decode cX6_readToldLetter 13 = .ok (.ifCond .ne 9, 3) := by decide +kernel
theorem dX6_readToldLetter_16 : decode cX6_readToldLetter 16 = .ok (.aload_n 0, 1) := by decide +kernel
theorem dX6_readToldLetter_17 : decode cX6_readToldLetter 17 = .ok (.invokevirtual 132, 3) := by decide +kernel
theorem dX6_readToldLetter_20 : decode cX6_readToldLetter 20 = .ok (.iconst 0, 1) := by decide +kernel
theorem dX6_readToldLetter_21 : decode cX6_readToldLetter 21 = .ok (.ireturn, 1) := by decide +kernel
theorem dX6_readToldLetter_22 : decode cX6_readToldLetter 22 = .ok (.aload_n 0, 1) := by decide +kernel
theorem dX6_readToldLetter_23 : decode cX6_readToldLetter 23 = .ok (.invokevirtual 37, 3) := by decide +kernel
theorem dX6_readToldLetter_26 : decode cX6_readToldLetter 26 = .ok (.iload_n 1, 1) := by decide +kernel
theorem dX6_readToldLetter_27 : decode cX6_readToldLetter 27 = .ok (.ireturn, 1) := by decide +kernel
theorem ok_X6_readToldLetter : okY RX6 yX6_readToldLetter 0 := ⟨rfl, by decide, by decide, by decide +kernel⟩
def f_X6_readToldLetter (E : OV) (aB : Nat → Nat) (B : OV) (C : OV) : Option (Int32 × OV) := (f_X6_letterHere E aB B).bind (un1 (fun r_1 => bnd r_1 (fun v1_3 => (f_X1_has C v1_3).bind (un1 (fun r_4 => (if r_4 = 0 then (f_X6_fail E).bind (un1 (fun E_8 => some ((0 : Int32), E_8))) else (f_X6_next E aB B).bind (un1 (fun E_6 => some (v1_3, E_6)))))))))
def r_X6_readToldLetter : Room := { frames := 2, cells := 0, slots := 0, locals := 43 }
set_option maxHeartbeats 4000000 in
set_option maxRecDepth 100000 in
theorem c_X6_readToldLetter (l : Launch) (D : va_G) (ev : EvT) (cy : Nat → ClassId) (oE : Nat) (aE : Nat → Nat) (E : OV) (aB : Nat → Nat) (B : OV) (aC : Nat → Nat) (C : OV) (o : Int32 × OV) (hf : f_X6_readToldLetter E aB B C = some o) : Fn l yX6_readToldLetter cX6_readToldLetter 2 (some .int) r_X6_readToldLetter D ev cy [.ref oE] [gX6 cy oE aE E, gX0 cy (aE 0) aB B, gX1 cy (aE 1) aC C] (fun v G => v = some (.int o.1) ∧ G = [gX6 cy oE aE o.2, gX0 cy (aE 0) aB B, gX1 cy (aE 1) aC C]) := by
  refine Fn_of (by decide) (Nat.le_of_ble_eq_true rfl) (fun X A Q h hQ _ => ?_)
  unfold f_X6_readToldLetter at hf
  show ww X D A 2 Q 0 0 0 [(0, .ref oE)] [] [gX6 cy oE aE E, gX0 cy (aE 0) aB B, gX1 cy (aE 1) aC C]
  refine ww_aload_n h dX6_readToldLetter_0 rfl 0 rfl 1 rfl ?_
  obtain ⟨r_1, hu2, hf⟩ := ob1 hf
  refine ww_cVi h (c_X6_letterHere l D ev cy oE aE E aB B _ hu2) ⟨w_587, w_584, w_586, w_5, w_112, ok_X6_letterHere⟩ ⟨by decide, by decide⟩ ⟨by decide, by decide⟩ ⟨rfl, rfl⟩ [0, 0] rfl 0 rfl rfl rfl rfl (Nat.le_of_ble_eq_true rfl) dX6_readToldLetter_1 4 rfl (Gs' := [gX6 cy oE aE E, gX0 cy (aE 0) aB B, gX1 cy (aE 1) aC C]) rfl ?_
  clear hu2
  refine ww_ist_n h dX6_readToldLetter_4 rfl (by decide) (fun v1_3 => [(1, .int v1_3), (0, .ref oE)]) (fun _ => rfl) 5 rfl (fun v1_3 e => ?_)
  replace hf := bnd_at e hf
  clear e
  refine ww_aload_n h dX6_readToldLetter_5 rfl 1 rfl 6 rfl ?_
  refine ww_get h inG6 rfl 0 rfl rfl 1 (by decide) w_480 rfl dX6_readToldLetter_6 9 rfl ?_
  refine ww_iload_n h dX6_readToldLetter_9 rfl 0 rfl 10 rfl ?_
  obtain ⟨r_4, hu5, hf⟩ := ob1 hf
  refine ww_cVi h (c_X1_has l D ev cy (aE 1) aC C v1_3 _ hu5) ⟨w_591, w_588, w_589, w_590, w_104, ok_X1_has⟩ ⟨by decide, by decide⟩ ⟨by decide, by decide⟩ ⟨rfl, rfl⟩ [2] rfl 0 rfl rfl rfl rfl (Nat.le_of_ble_eq_true rfl) dX6_readToldLetter_10 13 rfl (Gs' := [gX1 cy (aE 1) aC C, gX6 cy oE aE E, gX0 cy (aE 0) aB B]) rfl ?_
  clear hu5
  refine ww_if_ne h dX6_readToldLetter_13 22 (by decide) 16 rfl (fun c => ?_) (fun c => ?_)
  · replace hf := ite_f c hf
    refine ww_aload_n h dX6_readToldLetter_22 rfl 1 rfl 23 rfl ?_
    obtain ⟨E_6, hu7, hf⟩ := ob1 hf
    refine ww_cVv h (c_X6_next l D ev cy oE aE E aB B _ hu7) ⟨w_512, w_509, w_511, w_0, w_112, ok_X6_next⟩ ⟨by decide, by decide⟩ ⟨by decide, by decide⟩ ⟨rfl, rfl⟩ [1, 1] rfl 0 rfl rfl rfl rfl (Nat.le_of_ble_eq_true rfl) dX6_readToldLetter_23 26 rfl (Gs' := [gX6 cy oE aE E_6, gX0 cy (aE 0) aB B, gX1 cy (aE 1) aC C]) rfl ?_
    clear hu7
    refine ww_iload_n h dX6_readToldLetter_26 rfl 0 rfl 27 rfl ?_
    obtain rfl := Option.some.inj hf
    exact ww_iret h dX6_readToldLetter_27 hQ ⟨rfl, rfl⟩
  · replace hf := ite_t c hf
    refine ww_aload_n h dX6_readToldLetter_16 rfl 1 rfl 17 rfl ?_
    obtain ⟨E_8, hu9, hf⟩ := ob1 hf
    refine ww_cVv h (c_X6_fail l D ev cy oE aE E _ hu9) ⟨w_595, w_592, w_594, w_6, w_112, ok_X6_fail⟩ ⟨by decide, by decide⟩ ⟨by decide, by decide⟩ ⟨rfl, rfl⟩ [1] rfl 0 rfl rfl rfl rfl (Nat.le_of_ble_eq_true rfl) dX6_readToldLetter_17 20 rfl (Gs' := [gX6 cy oE aE E_8, gX1 cy (aE 1) aC C, gX0 cy (aE 0) aB B]) rfl ?_
    clear hu9
    refine ww_iconst (v := 0) h dX6_readToldLetter_20 (by decide) 21 rfl ?_
    refine ww_perm [0, 1, 0] (Gs' := [gX6 cy oE aE E_8, gX0 cy (aE 0) aB B, gX1 cy (aE 1) aC C]) rfl ?_
    obtain rfl := Option.some.inj hf
    exact ww_iret h dX6_readToldLetter_21 hQ ⟨rfl, rfl⟩
theorem dX6_readNumber_0 : decode cX6_readNumber 0 = .ok (.aload_n 0, 1) := by decide +kernel
theorem dX6_readNumber_1 : decode cX6_readNumber 1 = .ok (.getfield 19, 3) := by decide +kernel
theorem dX6_readNumber_4 : decode cX6_readNumber 4 = .ok (.iconst 2, 1) := by decide +kernel
theorem dX6_readNumber_5 : decode cX6_readNumber 5 = .ok (.if_icmp .ne 35, 3) := by decide +kernel
theorem dX6_readNumber_8 : decode cX6_readNumber 8 = .ok (.aload_n 0, 1) := by decide +kernel
theorem dX6_readNumber_9 : decode cX6_readNumber 9 = .ok (.getfield 23, 3) := by decide +kernel
theorem dX6_readNumber_12 : decode cX6_readNumber 12 = .ok (.aload_n 0, 1) := by decide +kernel
theorem dX6_readNumber_13 : decode cX6_readNumber 13 = .ok (.getfield 9, 3) := by decide +kernel
theorem dX6_readNumber_16 : decode cX6_readNumber 16 = .ok (.getfield 40, 3) := by decide +kernel
theorem dX6_readNumber_19 : decode cX6_readNumber 19 = .ok (.if_icmp .ge 21, 3) := by decide +kernel
theorem dX6_readNumber_22 : decode cX6_readNumber 22 = .ok (.aload_n 0, 1) := by decide +kernel
theorem dX6_readNumber_23 : decode cX6_readNumber 23 = .ok (.getfield 9, 3) := by decide +kernel
theorem dX6_readNumber_26 : decode cX6_readNumber 26 = .ok (.getfield 135, 3) := by decide +kernel
theorem dX6_readNumber_29 : decode cX6_readNumber 29 = .ok (.aload_n 0, 1) := by decide +kernel
theorem dX6_readNumber_30 : decode cX6_readNumber 30 = .ok (.getfield 23, 3) := by decide +kernel
theorem dX6_readNumber_33 : decode cX6_readNumber 33 = .ok (.iaload, 1) := by decide +kernel
theorem dX6_readNumber_34 : decode cX6_readNumber 34 = .ok (.bipush 48, 2) := by decide +kernel
theorem dX6_readNumber_36 : decode cX6_readNumber 36 = .ok (.isub, 1) := by decide +kernel
theorem dX6_readNumber_37 : decode cX6_readNumber 37 = .ok (.goto 4, 3) := by decide +kernel
theorem dX6_readNumber_40 : decode cX6_readNumber 40 = .ok (.iconst (-1), 1) := by decide +kernel
theorem dX6_readNumber_41 : decode cX6_readNumber 41 = .ok (.istore_n 3, 1) := by decide +kernel
theorem dX6_readNumber_42 : decode cX6_readNumber 42 = .ok (.iload_n 3, 1) := by decide +kernel
theorem dX6_readNumber_43 : decode cX6_readNumber 43 = .ok (.iload_n 1, 1) := by decide +kernel
theorem dX6_readNumber_44 : decode cX6_readNumber 44 = .ok (.if_icmp .lt 8, 3) := by decide +kernel
theorem dX6_readNumber_47 : decode cX6_readNumber 47 = .ok (.iload_n 3, 1) := by decide +kernel
theorem dX6_readNumber_48 : decode cX6_readNumber 48 = .ok (.iload_n 2, 1) := by decide +kernel
theorem dX6_readNumber_49 : decode cX6_readNumber 49 = .ok (.if_icmp .le 9, 3) := by decide +kernel
theorem dX6_readNumber_52 : decode cX6_readNumber 52 = .ok (.aload_n 0, 1) := by decide +kernel
theorem dX6_readNumber_53 : decode cX6_readNumber 53 = .ok (.invokevirtual 132, 3) := by decide +kernel
theorem dX6_readNumber_56 : decode cX6_readNumber 56 = .ok (.iload_n 1, 1) := by decide +kernel
theorem dX6_readNumber_57 : decode cX6_readNumber 57 = .ok (.ireturn, 1) := by decide +kernel
theorem dX6_readNumber_58 : decode cX6_readNumber 58 = .ok (.aload_n 0, 1) := by decide +kernel
theorem dX6_readNumber_59 : decode cX6_readNumber 59 = .ok (.invokevirtual 37, 3) := by decide +kernel
theorem dX6_readNumber_62 : decode cX6_readNumber 62 = .ok (.iload_n 3, 1) := by decide +kernel
theorem dX6_readNumber_63 : decode cX6_readNumber 63 = .ok (.ireturn, 1) := by decide +kernel
theorem ok_X6_readNumber : okY RX6 yX6_readNumber 2 := ⟨rfl, by decide, by decide, by decide +kernel⟩
def j_X6_readNumber_52_4 (E : OV) (p0 : Int32) : Option (Int32 × OV) := (f_X6_fail E).bind (un1 (fun E_5 => some (p0, E_5)))
def j_X6_readNumber_41_2 (aB : Nat → Nat) (E : OV) (B : OV) (p0 : Int32) (p1 : Int32) (t_1 : Int32) : Option (Int32 × OV) := bnd t_1 (fun v3_3 => (if v3_3 < p0 then j_X6_readNumber_52_4 E p0 else (if v3_3 ≤ p1 then (f_X6_next E aB B).bind (un1 (fun E_7 => some (v3_3, E_7))) else j_X6_readNumber_52_4 E p0)))
def j_X6_readNumber_40_9 (aB : Nat → Nat) (E : OV) (B : OV) (p0 : Int32) (p1 : Int32) : Option (Int32 × OV) := j_X6_readNumber_41_2 aB E B p0 p1 (-1 : Int32)
def f_X6_readNumber (E : OV) (aB : Nat → Nat) (B : OV) (p0 : Int32) (p1 : Int32) : Option (Int32 × OV) := (if (iv E 2) = (2 : Int32) then (if (iv B 1) ≤ (iv E 3) then j_X6_readNumber_40_9 aB E B p0 p1 else gd (ix (iv E 3) (aB 98)) (j_X6_readNumber_41_2 aB E B p0 p1 ((ar B 0 (iv E 3).toNatClampNeg) - (48 : Int32)))) else j_X6_readNumber_40_9 aB E B p0 p1)
def r_X6_readNumber : Room := { frames := 2, cells := 0, slots := 0, locals := 43 }
set_option maxHeartbeats 4000000 in
set_option maxRecDepth 100000 in
theorem c_X6_readNumber (l : Launch) (D : va_G) (ev : EvT) (cy : Nat → ClassId) (oE : Nat) (aE : Nat → Nat) (E : OV) (aB : Nat → Nat) (B : OV) (p0 : Int32) (p1 : Int32) (o : Int32 × OV) (hf : f_X6_readNumber E aB B p0 p1 = some o) : Fn l yX6_readNumber cX6_readNumber 4 (some .int) r_X6_readNumber D ev cy [.ref oE, .int p0, .int p1] [gX6 cy oE aE E, gX0 cy (aE 0) aB B] (fun v G => v = some (.int o.1) ∧ G = [gX6 cy oE aE o.2, gX0 cy (aE 0) aB B]) := by
  refine Fn_of (by decide) (Nat.le_of_ble_eq_true rfl) (fun X A Q h hQ _ => ?_)
  unfold f_X6_readNumber at hf
  show ww X D A 4 Q 0 0 0 [(0, .ref oE), (1, .int p0), (2, .int p1)] [] [gX6 cy oE aE E, gX0 cy (aE 0) aB B]
  refine ww_aload_n h dX6_readNumber_0 rfl 0 rfl 1 rfl ?_
  refine ww_get h inG6 rfl 0 rfl rfl 2 (by decide) w_481 rfl dX6_readNumber_1 4 rfl ?_
  refine ww_iconst (v := 2) h dX6_readNumber_4 (by decide) 5 rfl ?_
  have hJ41_2 : ∀ (t_1 : Int32), j_X6_readNumber_41_2 aB E B p0 p1 t_1 = some o → ww X D A 4 Q 0 0 41 [(0, .ref oE), (1, .int p0), (2, .int p1)] [.int t_1] [gX6 cy oE aE E, gX0 cy (aE 0) aB B] := by
    intro t_1 hf
    unfold j_X6_readNumber_41_2 at hf
    refine ww_ist_n h dX6_readNumber_41 rfl (by decide) (fun v3_3 => [(3, .int v3_3), (0, .ref oE), (1, .int p0), (2, .int p1)]) (fun _ => rfl) 42 rfl (fun v3_3 e => ?_)
    replace hf := bnd_at e hf
    clear e
    refine ww_iload_n h dX6_readNumber_42 rfl 0 rfl 43 rfl ?_
    refine ww_iload_n h dX6_readNumber_43 rfl 2 rfl 44 rfl ?_
    have hJ52_4 : ∀ (_ : Unit), j_X6_readNumber_52_4 E p0 = some o → ww X D A 4 Q 0 0 52 [(0, .ref oE), (1, .int p0)] [] [gX6 cy oE aE E, gX0 cy (aE 0) aB B] := by
      intro _ hf
      unfold j_X6_readNumber_52_4 at hf
      refine ww_aload_n h dX6_readNumber_52 rfl 0 rfl 53 rfl ?_
      obtain ⟨E_5, hu6, hf⟩ := ob1 hf
      refine ww_cVv h (c_X6_fail l D ev cy oE aE E _ hu6) ⟨w_595, w_592, w_594, w_6, w_112, ok_X6_fail⟩ ⟨by decide, by decide⟩ ⟨by decide, by decide⟩ ⟨rfl, rfl⟩ [0] rfl 0 rfl rfl rfl rfl (Nat.le_of_ble_eq_true rfl) dX6_readNumber_53 56 rfl (Gs' := [gX6 cy oE aE E_5, gX0 cy (aE 0) aB B]) rfl ?_
      clear hu6
      refine ww_iload_n h dX6_readNumber_56 rfl 1 rfl 57 rfl ?_
      obtain rfl := Option.some.inj hf
      exact ww_iret h dX6_readNumber_57 hQ ⟨rfl, rfl⟩
    refine ww_icmp_lt h dX6_readNumber_44 52 (by decide) 47 rfl (fun c => ?_) (fun c => ?_)
    · replace hf := ite_t c hf
      refine ww_lo [1, 2] (lo' := [(0, .ref oE), (1, .int p0)]) rfl ?_
      exact hJ52_4 () hf
    · replace hf := ite_f c hf
      refine ww_iload_n h dX6_readNumber_47 rfl 0 rfl 48 rfl ?_
      refine ww_iload_n h dX6_readNumber_48 rfl 3 rfl 49 rfl ?_
      refine ww_icmp_le h dX6_readNumber_49 58 (by decide) 52 rfl (fun c => ?_) (fun c => ?_)
      · replace hf := ite_t c hf
        refine ww_aload_n h dX6_readNumber_58 rfl 1 rfl 59 rfl ?_
        obtain ⟨E_7, hu8, hf⟩ := ob1 hf
        refine ww_cVv h (c_X6_next l D ev cy oE aE E aB B _ hu8) ⟨w_512, w_509, w_511, w_0, w_112, ok_X6_next⟩ ⟨by decide, by decide⟩ ⟨by decide, by decide⟩ ⟨rfl, rfl⟩ [0, 0] rfl 0 rfl rfl rfl rfl (Nat.le_of_ble_eq_true rfl) dX6_readNumber_59 62 rfl (Gs' := [gX6 cy oE aE E_7, gX0 cy (aE 0) aB B]) rfl ?_
        clear hu8
        refine ww_iload_n h dX6_readNumber_62 rfl 0 rfl 63 rfl ?_
        obtain rfl := Option.some.inj hf
        exact ww_iret h dX6_readNumber_63 hQ ⟨rfl, rfl⟩
      · replace hf := ite_f c hf
        refine ww_lo [1, 2] (lo' := [(0, .ref oE), (1, .int p0)]) rfl ?_
        exact hJ52_4 () hf
  have hJ40_9 : ∀ (_ : Unit), j_X6_readNumber_40_9 aB E B p0 p1 = some o → ww X D A 4 Q 0 0 40 [(0, .ref oE), (1, .int p0), (2, .int p1)] [] [gX6 cy oE aE E, gX0 cy (aE 0) aB B] := by
    intro _ hf
    unfold j_X6_readNumber_40_9 at hf
    refine ww_iconst (v := (-1)) h dX6_readNumber_40 (by decide) 41 rfl ?_
    exact hJ41_2 (-1 : Int32) hf
  refine ww_icmp_ne h dX6_readNumber_5 40 (by decide) 8 rfl (fun c => ?_) (fun c => ?_)
  · replace hf := ite_f c hf
    exact hJ40_9 () hf
  · replace hf := ite_t c hf
    refine ww_aload_n h dX6_readNumber_8 rfl 0 rfl 9 rfl ?_
    refine ww_get h inG6 rfl 0 rfl rfl 3 (by decide) w_482 rfl dX6_readNumber_9 12 rfl ?_
    refine ww_aload_n h dX6_readNumber_12 rfl 0 rfl 13 rfl ?_
    refine ww_get h inG6 rfl 0 rfl rfl 0 (by decide) w_479 rfl dX6_readNumber_13 16 rfl ?_
    refine ww_get h inG0 rfl 1 rfl rfl 1 (by decide) w_142 rfl dX6_readNumber_16 19 rfl ?_
    refine ww_icmp_ge h dX6_readNumber_19 40 (by decide) 22 rfl (fun c => ?_) (fun c => ?_)
    · replace hf := ite_t c hf
      exact hJ40_9 () hf
    · replace hf := ite_f c hf
      refine ww_aload_n h dX6_readNumber_22 rfl 0 rfl 23 rfl ?_
      refine ww_get h inG6 rfl 0 rfl rfl 0 (by decide) w_479 rfl dX6_readNumber_23 26 rfl ?_
      refine ww_get h inG0 rfl 1 rfl rfl 0 (by decide) w_138 rfl dX6_readNumber_26 29 rfl ?_
      refine ww_aload_n h dX6_readNumber_29 rfl 0 rfl 30 rfl ?_
      refine ww_get h inG6 rfl 0 rfl rfl 3 (by decide) w_482 rfl dX6_readNumber_30 33 rfl ?_
      have hi := (gd_some hf).1
      replace hf := (gd_some hf).2
      refine ww_iald h 1 rfl 1 rfl (ix_in hi) dX6_readNumber_33 34 rfl ?_
      clear hi
      refine ww_bipush (v := 48) h dX6_readNumber_34 (by decide) 36 rfl ?_
      refine ww_isub h dX6_readNumber_36 37 rfl ?_
      refine ww_goto h dX6_readNumber_37 41 (by decide) ?_
      exact hJ41_2 ((ar B 0 (iv E 3).toNatClampNeg) - (48 : Int32)) hf
theorem dX6_expect_0 : decode cX6_expect 0 = .ok (.aload_n 0, 1) := by decide +kernel
theorem dX6_expect_1 : decode cX6_expect 1 = .ok (.aload_n 1, 1) := by decide +kernel
theorem dX6_expect_2 : decode cX6_expect 2 = .ok (.invokevirtual 47, 3) := by decide +kernel
theorem dX6_expect_5 : decode cX6_expect 5 = .ok (.ifCond .eq 10, 3) := by decide +kernel
theorem dX6_expect_8 : decode cX6_expect 8 = .ok (.aload_n 0, 1) := by decide +kernel
theorem dX6_expect_9 : decode cX6_expect 9 = .ok (.invokevirtual 37, 3) := by decide +kernel
theorem dX6_expect_12 : decode cX6_expect 12 = .ok (.goto 7, 3) := by decide +kernel
theorem dX6_expect_15 : decode cX6_expect 15 = .ok (.aload_n 0, 1) := by decide +kernel
theorem dX6_expect_16 : decode cX6_expect 16 = .ok (.invokevirtual 132, 3) := by decide +kernel
theorem dX6_expect_19 : decode cX6_expect 19 = .ok (.return_, 1) := by decide +kernel
theorem ok_X6_expect : okY RX6 yX6_expect 1 := ⟨rfl, by decide, by decide, by decide +kernel⟩
def f_X6_expect (E : OV) (aB : Nat → Nat) (B : OV) (w0 : Nat) : Option (OV) := (f_X6_isText E aB B w0).bind (un1 (fun r_1 => (if r_1 = 0 then (f_X6_fail E).bind (un1 (fun E_3 => some E_3)) else (f_X6_next E aB B).bind (un1 (fun E_5 => some E_5)))))
def r_X6_expect : Room := { frames := 5, cells := 0, slots := 0, locals := 107 }
set_option maxHeartbeats 4000000 in
set_option maxRecDepth 100000 in
theorem c_X6_expect (l : Launch) (D : va_G) (ev : EvT) (cy : Nat → ClassId) (oE : Nat) (aE : Nat → Nat) (E : OV) (aB : Nat → Nat) (B : OV) (w0 : Nat) (o : OV) (hf : f_X6_expect E aB B w0 = some o) : Fn l yX6_expect cX6_expect 2 none r_X6_expect D ev cy [.ref oE, .ref (ev.1 w0)] [gX6 cy oE aE E, gX0 cy (aE 0) aB B] (fun v G => v = none ∧ G = [gX6 cy oE aE o, gX0 cy (aE 0) aB B]) := by
  refine Fn_of (by decide) (Nat.le_of_ble_eq_true rfl) (fun X A Q h hQ _ => ?_)
  unfold f_X6_expect at hf
  show ww X D A 2 Q 0 0 0 [(0, .ref oE), (1, .ref (ev.1 w0))] [] [gX6 cy oE aE E, gX0 cy (aE 0) aB B]
  refine ww_aload_n h dX6_expect_0 rfl 0 rfl 1 rfl ?_
  refine ww_aload_n h dX6_expect_1 rfl 1 rfl 2 rfl ?_
  obtain ⟨r_1, hu2, hf⟩ := ob1 hf
  refine ww_cVi h (c_X6_isText l D ev cy oE aE E aB B w0 _ hu2) ⟨w_527, w_524, w_526, w_2, w_112, ok_X6_isText⟩ ⟨by decide, by decide⟩ ⟨by decide, by decide⟩ ⟨rfl, rfl⟩ [0, 0] rfl 0 rfl rfl rfl rfl (Nat.le_of_ble_eq_true rfl) dX6_expect_2 5 rfl (Gs' := [gX6 cy oE aE E, gX0 cy (aE 0) aB B]) rfl ?_
  clear hu2
  refine ww_if_eq h dX6_expect_5 15 (by decide) 8 rfl (fun c => ?_) (fun c => ?_)
  · replace hf := ite_t c hf
    refine ww_aload_n h dX6_expect_15 rfl 0 rfl 16 rfl ?_
    obtain ⟨E_3, hu4, hf⟩ := ob1 hf
    refine ww_cVv h (c_X6_fail l D ev cy oE aE E _ hu4) ⟨w_595, w_592, w_594, w_6, w_112, ok_X6_fail⟩ ⟨by decide, by decide⟩ ⟨by decide, by decide⟩ ⟨rfl, rfl⟩ [0] rfl 0 rfl rfl rfl rfl (Nat.le_of_ble_eq_true rfl) dX6_expect_16 19 rfl (Gs' := [gX6 cy oE aE E_3, gX0 cy (aE 0) aB B]) rfl ?_
    clear hu4
    obtain rfl := Option.some.inj hf
    exact ww_vret h dX6_expect_19 hQ ⟨rfl, rfl⟩
  · replace hf := ite_f c hf
    refine ww_aload_n h dX6_expect_8 rfl 0 rfl 9 rfl ?_
    obtain ⟨E_5, hu6, hf⟩ := ob1 hf
    refine ww_cVv h (c_X6_next l D ev cy oE aE E aB B _ hu6) ⟨w_512, w_509, w_511, w_0, w_112, ok_X6_next⟩ ⟨by decide, by decide⟩ ⟨by decide, by decide⟩ ⟨rfl, rfl⟩ [0, 0] rfl 0 rfl rfl rfl rfl (Nat.le_of_ble_eq_true rfl) dX6_expect_9 12 rfl (Gs' := [gX6 cy oE aE E_5, gX0 cy (aE 0) aB B]) rfl ?_
    clear hu6
    refine ww_goto h dX6_expect_12 19 (by decide) ?_
    obtain rfl := Option.some.inj hf
    exact ww_vret h dX6_expect_19 hQ ⟨rfl, rfl⟩
theorem dX6_expectStop_0 : decode cX6_expectStop 0 = .ok (.aload_n 0, 1) := by decide +kernel
theorem dX6_expectStop_1 : decode cX6_expectStop 1 = .ok (.getfield 19, 3) := by decide +kernel
theorem dX6_expectStop_4 : decode cX6_expectStop 4 = .ok (.iconst 3, 1) := by decide +kernel
theorem dX6_expectStop_5 : decode cX6_expectStop 5 = .ok (.if_icmp .ne 10, 3) := by decide +kernel
theorem dX6_expectStop_8 : decode cX6_expectStop 8 = .ok (.aload_n 0, 1) := by decide +kernel
theorem dX6_expectStop_9 : decode cX6_expectStop 9 = .ok (.invokevirtual 37, 3) := by decide +kernel
theorem dX6_expectStop_12 : decode cX6_expectStop 12 = .ok (.goto 7, 3) := by decide +kernel
theorem dX6_expectStop_15 : decode cX6_expectStop 15 = .ok (.aload_n 0, 1) := by decide +kernel
theorem dX6_expectStop_16 : decode cX6_expectStop 16 = .ok (.invokevirtual 132, 3) := by decide +kernel
theorem dX6_expectStop_19 : decode cX6_expectStop 19 = .ok (.return_, 1) := by decide +kernel
theorem ok_X6_expectStop : okY RX6 yX6_expectStop 0 := ⟨rfl, by decide, by decide, by decide +kernel⟩
def f_X6_expectStop (E : OV) (aB : Nat → Nat) (B : OV) : Option (OV) := (if (iv E 2) = (3 : Int32) then (f_X6_next E aB B).bind (un1 (fun E_3 => some E_3)) else (f_X6_fail E).bind (un1 (fun E_1 => some E_1)))
def r_X6_expectStop : Room := { frames := 2, cells := 0, slots := 0, locals := 43 }
set_option maxHeartbeats 4000000 in
set_option maxRecDepth 100000 in
theorem c_X6_expectStop (l : Launch) (D : va_G) (ev : EvT) (cy : Nat → ClassId) (oE : Nat) (aE : Nat → Nat) (E : OV) (aB : Nat → Nat) (B : OV) (o : OV) (hf : f_X6_expectStop E aB B = some o) : Fn l yX6_expectStop cX6_expectStop 1 none r_X6_expectStop D ev cy [.ref oE] [gX6 cy oE aE E, gX0 cy (aE 0) aB B] (fun v G => v = none ∧ G = [gX6 cy oE aE o, gX0 cy (aE 0) aB B]) := by
  refine Fn_of (by decide) (Nat.le_of_ble_eq_true rfl) (fun X A Q h hQ _ => ?_)
  unfold f_X6_expectStop at hf
  show ww X D A 1 Q 0 0 0 [(0, .ref oE)] [] [gX6 cy oE aE E, gX0 cy (aE 0) aB B]
  refine ww_aload_n h dX6_expectStop_0 rfl 0 rfl 1 rfl ?_
  refine ww_get h inG6 rfl 0 rfl rfl 2 (by decide) w_481 rfl dX6_expectStop_1 4 rfl ?_
  refine ww_iconst (v := 3) h dX6_expectStop_4 (by decide) 5 rfl ?_
  refine ww_icmp_ne h dX6_expectStop_5 15 (by decide) 8 rfl (fun c => ?_) (fun c => ?_)
  · replace hf := ite_f c hf
    refine ww_aload_n h dX6_expectStop_15 rfl 0 rfl 16 rfl ?_
    obtain ⟨E_1, hu2, hf⟩ := ob1 hf
    refine ww_cVv h (c_X6_fail l D ev cy oE aE E _ hu2) ⟨w_595, w_592, w_594, w_6, w_112, ok_X6_fail⟩ ⟨by decide, by decide⟩ ⟨by decide, by decide⟩ ⟨rfl, rfl⟩ [0] rfl 0 rfl rfl rfl rfl (Nat.le_of_ble_eq_true rfl) dX6_expectStop_16 19 rfl (Gs' := [gX6 cy oE aE E_1, gX0 cy (aE 0) aB B]) rfl ?_
    clear hu2
    obtain rfl := Option.some.inj hf
    exact ww_vret h dX6_expectStop_19 hQ ⟨rfl, rfl⟩
  · replace hf := ite_t c hf
    refine ww_aload_n h dX6_expectStop_8 rfl 0 rfl 9 rfl ?_
    obtain ⟨E_3, hu4, hf⟩ := ob1 hf
    refine ww_cVv h (c_X6_next l D ev cy oE aE E aB B _ hu4) ⟨w_512, w_509, w_511, w_0, w_112, ok_X6_next⟩ ⟨by decide, by decide⟩ ⟨by decide, by decide⟩ ⟨rfl, rfl⟩ [0, 0] rfl 0 rfl rfl rfl rfl (Nat.le_of_ble_eq_true rfl) dX6_expectStop_9 12 rfl (Gs' := [gX6 cy oE aE E_3, gX0 cy (aE 0) aB B]) rfl ?_
    clear hu4
    refine ww_goto h dX6_expectStop_12 19 (by decide) ?_
    obtain rfl := Option.some.inj hf
    exact ww_vret h dX6_expectStop_19 hQ ⟨rfl, rfl⟩
theorem dX6_takes_0 : decode cX6_takes 0 = .ok (.aload_n 0, 1) := by decide +kernel
theorem dX6_takes_1 : decode cX6_takes 1 = .ok (.getfield 29, 3) := by decide +kernel
theorem dX6_takes_4 : decode cX6_takes 4 = .ok (.iconst (-1), 1) := by decide +kernel
theorem dX6_takes_5 : decode cX6_takes 5 = .ok (.if_icmp .ne 11, 3) := by decide +kernel
theorem dX6_takes_8 : decode cX6_takes 8 = .ok (.aload_n 0, 1) := by decide +kernel
theorem dX6_takes_9 : decode cX6_takes 9 = .ok (.aload_n 1, 1) := by decide +kernel
theorem dX6_takes_10 : decode cX6_takes 10 = .ok (.invokevirtual 47, 3) := by decide +kernel
theorem dX6_takes_13 : decode cX6_takes 13 = .ok (.ifCond .ne 5, 3) := by decide +kernel
theorem dX6_takes_16 : decode cX6_takes 16 = .ok (.iconst 0, 1) := by decide +kernel
theorem dX6_takes_17 : decode cX6_takes 17 = .ok (.ireturn, 1) := by decide +kernel
theorem dX6_takes_18 : decode cX6_takes 18 = .ok (.aload_n 0, 1) := by decide +kernel
theorem dX6_takes_19 : decode cX6_takes 19 = .ok (.invokevirtual 37, 3) := by decide +kernel
theorem dX6_takes_22 : decode cX6_takes 22 = .ok (.iconst 1, 1) := by decide +kernel
theorem dX6_takes_23 : decode cX6_takes 23 = .ok (.ireturn, 1) := by decide +kernel
theorem ok_X6_takes : okY RX6 yX6_takes 1 := ⟨rfl, by decide, by decide, by decide +kernel⟩
def f_X6_takes (E : OV) (aB : Nat → Nat) (B : OV) (w0 : Nat) : Option (Int32 × OV) := (if (iv E 5) = (-1 : Int32) then (f_X6_isText E aB B w0).bind (un1 (fun r_1 => (if r_1 = 0 then some ((0 : Int32), E) else (f_X6_next E aB B).bind (un1 (fun E_3 => some ((1 : Int32), E_3)))))) else some ((0 : Int32), E))
def r_X6_takes : Room := { frames := 5, cells := 0, slots := 0, locals := 107 }
set_option maxHeartbeats 4000000 in
set_option maxRecDepth 100000 in
theorem c_X6_takes (l : Launch) (D : va_G) (ev : EvT) (cy : Nat → ClassId) (oE : Nat) (aE : Nat → Nat) (E : OV) (aB : Nat → Nat) (B : OV) (w0 : Nat) (o : Int32 × OV) (hf : f_X6_takes E aB B w0 = some o) : Fn l yX6_takes cX6_takes 2 (some .boolean) r_X6_takes D ev cy [.ref oE, .ref (ev.1 w0)] [gX6 cy oE aE E, gX0 cy (aE 0) aB B] (fun v G => v = some (.int o.1) ∧ G = [gX6 cy oE aE o.2, gX0 cy (aE 0) aB B]) := by
  refine Fn_of (by decide) (Nat.le_of_ble_eq_true rfl) (fun X A Q h hQ _ => ?_)
  unfold f_X6_takes at hf
  show ww X D A 2 Q 0 0 0 [(0, .ref oE), (1, .ref (ev.1 w0))] [] [gX6 cy oE aE E, gX0 cy (aE 0) aB B]
  refine ww_aload_n h dX6_takes_0 rfl 0 rfl 1 rfl ?_
  refine ww_get h inG6 rfl 0 rfl rfl 5 (by decide) w_484 rfl dX6_takes_1 4 rfl ?_
  refine ww_iconst (v := (-1)) h dX6_takes_4 (by decide) 5 rfl ?_
  refine ww_icmp_ne h dX6_takes_5 16 (by decide) 8 rfl (fun c => ?_) (fun c => ?_)
  · replace hf := ite_f c hf
    refine ww_iconst (v := 0) h dX6_takes_16 (by decide) 17 rfl ?_
    obtain rfl := Option.some.inj hf
    exact ww_zret h (Or.inl rfl) dX6_takes_17 hQ ⟨rfl, rfl⟩
  · replace hf := ite_t c hf
    refine ww_aload_n h dX6_takes_8 rfl 0 rfl 9 rfl ?_
    refine ww_aload_n h dX6_takes_9 rfl 1 rfl 10 rfl ?_
    obtain ⟨r_1, hu2, hf⟩ := ob1 hf
    refine ww_cVi h (c_X6_isText l D ev cy oE aE E aB B w0 _ hu2) ⟨w_527, w_524, w_526, w_2, w_112, ok_X6_isText⟩ ⟨by decide, by decide⟩ ⟨by decide, by decide⟩ ⟨rfl, rfl⟩ [0, 0] rfl 0 rfl rfl rfl rfl (Nat.le_of_ble_eq_true rfl) dX6_takes_10 13 rfl (Gs' := [gX6 cy oE aE E, gX0 cy (aE 0) aB B]) rfl ?_
    clear hu2
    refine ww_if_ne h dX6_takes_13 18 (by decide) 16 rfl (fun c => ?_) (fun c => ?_)
    · replace hf := ite_f c hf
      refine ww_aload_n h dX6_takes_18 rfl 0 rfl 19 rfl ?_
      obtain ⟨E_3, hu4, hf⟩ := ob1 hf
      refine ww_cVv h (c_X6_next l D ev cy oE aE E aB B _ hu4) ⟨w_512, w_509, w_511, w_0, w_112, ok_X6_next⟩ ⟨by decide, by decide⟩ ⟨by decide, by decide⟩ ⟨rfl, rfl⟩ [0, 0] rfl 0 rfl rfl rfl rfl (Nat.le_of_ble_eq_true rfl) dX6_takes_19 22 rfl (Gs' := [gX6 cy oE aE E_3, gX0 cy (aE 0) aB B]) rfl ?_
      clear hu4
      refine ww_iconst (v := 1) h dX6_takes_22 (by decide) 23 rfl ?_
      obtain rfl := Option.some.inj hf
      exact ww_zret h (Or.inr rfl) dX6_takes_23 hQ ⟨rfl, rfl⟩
    · replace hf := ite_t c hf
      refine ww_iconst (v := 0) h dX6_takes_16 (by decide) 17 rfl ?_
      obtain rfl := Option.some.inj hf
      exact ww_zret h (Or.inl rfl) dX6_takes_17 hQ ⟨rfl, rfl⟩
theorem dX6_readShy_0 : decode cX6_readShy 0 = .ok (.aload_n 0, 1) := by decide +kernel
theorem dX6_readShy_1 : decode cX6_readShy 1 = .ok (.ldc 98, 2) := by decide +kernel
theorem dX6_readShy_3 : decode cX6_readShy 3 = .ok (.invokevirtual 84, 3) := by decide +kernel
theorem dX6_readShy_6 : decode cX6_readShy 6 = .ok (.ifCond .ne 4, 3) := by decide +kernel
theorem dX6_readShy_9 : decode cX6_readShy 9 = .ok (.return_, 1) := by decide +kernel
theorem dX6_readShy_10 : decode cX6_readShy 10 = .ok (.iconst 1, 1) := by decide +kernel
theorem dX6_readShy_11 : decode cX6_readShy 11 = .ok (.istore_n 2, 1) := by decide +kernel
theorem dX6_readShy_12 : decode cX6_readShy 12 = .ok (.aload_n 0, 1) := by decide +kernel
theorem dX6_readShy_13 : decode cX6_readShy 13 = .ok (.ldc 100, 2) := by decide +kernel
theorem dX6_readShy_15 : decode cX6_readShy 15 = .ok (.invokevirtual 84, 3) := by decide +kernel
theorem dX6_readShy_18 : decode cX6_readShy 18 = .ok (.ifCond .eq 25, 3) := by decide +kernel
theorem dX6_readShy_21 : decode cX6_readShy 21 = .ok (.aload_n 0, 1) := by decide +kernel
theorem dX6_readShy_22 : decode cX6_readShy 22 = .ok (.getfield 15, 3) := by decide +kernel
theorem dX6_readShy_25 : decode cX6_readShy 25 = .ok (.dup, 1) := by decide +kernel
theorem dX6_readShy_26 : decode cX6_readShy 26 = .ok (.getfield 102, 3) := by decide +kernel
theorem dX6_readShy_29 : decode cX6_readShy 29 = .ok (.iconst 1, 1) := by decide +kernel
theorem dX6_readShy_30 : decode cX6_readShy 30 = .ok (.iload_n 1, 1) := by decide +kernel
theorem dX6_readShy_31 : decode cX6_readShy 31 = .ok (.ishl, 1) := by decide +kernel
theorem dX6_readShy_32 : decode cX6_readShy 32 = .ok (.ior, 1) := by decide +kernel
theorem dX6_readShy_33 : decode cX6_readShy 33 = .ok (.putfield 102, 3) := by decide +kernel
theorem dX6_readShy_36 : decode cX6_readShy 36 = .ok (.aload_n 0, 1) := by decide +kernel
theorem dX6_readShy_37 : decode cX6_readShy 37 = .ok (.ldc 98, 2) := by decide +kernel
theorem dX6_readShy_39 : decode cX6_readShy 39 = .ok (.invokevirtual 84, 3) := by decide +kernel
theorem dX6_readShy_42 : decode cX6_readShy 42 = .ok (.istore_n 2, 1) := by decide +kernel
theorem dX6_readShy_43 : decode cX6_readShy 43 = .ok (.iload_n 2, 1) := by decide +kernel
theorem dX6_readShy_44 : decode cX6_readShy 44 = .ok (.ifCond .eq 24, 3) := by decide +kernel
theorem dX6_readShy_47 : decode cX6_readShy 47 = .ok (.aload_n 0, 1) := by decide +kernel
theorem dX6_readShy_48 : decode cX6_readShy 48 = .ok (.ldc 105, 2) := by decide +kernel
theorem dX6_readShy_50 : decode cX6_readShy 50 = .ok (.invokevirtual 63, 3) := by decide +kernel
theorem dX6_readShy_53 : decode cX6_readShy 53 = .ok (.aload_n 0, 1) := by decide +kernel
theorem dX6_readShy_54 : decode cX6_readShy 54 = .ok (.getfield 15, 3) := by decide +kernel
theorem dX6_readShy_57 : decode cX6_readShy 57 = .ok (.dup, 1) := by decide +kernel
theorem dX6_readShy_58 : decode cX6_readShy 58 = .ok (.getfield 107, 3) := by decide +kernel
theorem dX6_readShy_61 : decode cX6_readShy 61 = .ok (.iconst 1, 1) := by decide +kernel
theorem dX6_readShy_62 : decode cX6_readShy 62 = .ok (.iload_n 1, 1) := by decide +kernel
theorem dX6_readShy_63 : decode cX6_readShy 63 = .ok (.ishl, 1) := by decide +kernel
theorem dX6_readShy_64 : decode cX6_readShy 64 = .ok (.ior, 1) := by decide +kernel
theorem dX6_readShy_65 : decode cX6_readShy 65 = .ok (.putfield 107, 3) := by decide +kernel
theorem dX6_readShy_68 : decode cX6_readShy 68 = .ok (.return_, 1) := by decide +kernel
theorem ok_X6_readShy : okY RX6 yX6_readShy 1 := ⟨rfl, by decide, by decide, by decide +kernel⟩
def j_X6_readShy_43_11 (aB : Nat → Nat) (B : OV) (p0 : Int32) (v2_8 : Int32) (E_9 : OV) (C_10 : OV) : Option (OV × OV) := (if v2_8 = 0 then some (E_9, C_10) else (f_X6_expect E_9 aB B 4).bind (un1 (fun E_12 => bnd (sI C_10 3 ((iv C_10 3) ||| ((1 : Int32) <<< (p0 &&& 31)))) (fun C_14 => some (E_12, C_14)))))
def f_X6_readShy (E : OV) (aB : Nat → Nat) (B : OV) (C : OV) (p0 : Int32) : Option (OV × OV) := (f_X6_takes E aB B 2).bind (un2 (fun r_1 E_2 => (if r_1 = 0 then some (E_2, C) else bnd (1 : Int32) (fun v2_4 => (f_X6_takes E_2 aB B 3).bind (un2 (fun r_5 E_6 => (if r_5 = 0 then j_X6_readShy_43_11 aB B p0 v2_4 E_6 C else bnd (sI C 2 ((iv C 2) ||| ((1 : Int32) <<< (p0 &&& 31)))) (fun C_15 => (f_X6_takes E_6 aB B 2).bind (un2 (fun r_16 E_17 => bnd r_16 (fun v2_19 => j_X6_readShy_43_11 aB B p0 v2_19 E_17 C_15)))))))))))
def r_X6_readShy : Room := { frames := 6, cells := 0, slots := 0, locals := 128 }
set_option maxHeartbeats 4000000 in
set_option maxRecDepth 100000 in
theorem c_X6_readShy (l : Launch) (D : va_G) (ev : EvT) (cy : Nat → ClassId) (oE : Nat) (aE : Nat → Nat) (E : OV) (aB : Nat → Nat) (B : OV) (aC : Nat → Nat) (C : OV) (p0 : Int32) (o : OV × OV) (hf : f_X6_readShy E aB B C p0 = some o) : Fn l yX6_readShy cX6_readShy 3 none r_X6_readShy D ev cy [.ref oE, .int p0] [gX6 cy oE aE E, gX0 cy (aE 0) aB B, gX1 cy (aE 1) aC C] (fun v G => v = none ∧ G = [gX6 cy oE aE o.1, gX0 cy (aE 0) aB B, gX1 cy (aE 1) aC o.2]) := by
  refine Fn_of (by decide) (Nat.le_of_ble_eq_true rfl) (fun X A Q h hQ _ => ?_)
  unfold f_X6_readShy at hf
  show ww X D A 3 Q 0 0 0 [(0, .ref oE), (1, .int p0)] [] [gX6 cy oE aE E, gX0 cy (aE 0) aB B, gX1 cy (aE 1) aC C]
  refine ww_aload_n h dX6_readShy_0 rfl 0 rfl 1 rfl ?_
  refine ww_ldcS h 2 rfl dX6_readShy_1 3 rfl ?_
  obtain ⟨r_1, E_2, hu3, hf⟩ := ob2 hf
  refine ww_cVi h (c_X6_takes l D ev cy oE aE E aB B 2 _ hu3) ⟨w_613, w_610, w_612, w_10, w_112, ok_X6_takes⟩ ⟨by decide, by decide⟩ ⟨by decide, by decide⟩ ⟨rfl, rfl⟩ [0, 0] rfl 0 rfl rfl rfl rfl (Nat.le_of_ble_eq_true rfl) dX6_readShy_3 6 rfl (Gs' := [gX6 cy oE aE E_2, gX0 cy (aE 0) aB B, gX1 cy (aE 1) aC C]) rfl ?_
  clear hu3
  refine ww_if_ne h dX6_readShy_6 10 (by decide) 9 rfl (fun c => ?_) (fun c => ?_)
  · replace hf := ite_f c hf
    refine ww_iconst (v := 1) h dX6_readShy_10 (by decide) 11 rfl ?_
    refine ww_ist_n h dX6_readShy_11 rfl (by decide) (fun v2_4 => [(2, .int v2_4), (0, .ref oE), (1, .int p0)]) (fun _ => rfl) 12 rfl (fun v2_4 e => ?_)
    replace hf := bnd_at e hf
    clear e
    refine ww_aload_n h dX6_readShy_12 rfl 1 rfl 13 rfl ?_
    refine ww_ldcS h 3 rfl dX6_readShy_13 15 rfl ?_
    obtain ⟨r_5, E_6, hu7, hf⟩ := ob2 hf
    refine ww_cVi h (c_X6_takes l D ev cy oE aE E_2 aB B 3 _ hu7) ⟨w_613, w_610, w_612, w_10, w_112, ok_X6_takes⟩ ⟨by decide, by decide⟩ ⟨by decide, by decide⟩ ⟨rfl, rfl⟩ [0, 0] rfl 0 rfl rfl rfl rfl (Nat.le_of_ble_eq_true rfl) dX6_readShy_15 18 rfl (Gs' := [gX6 cy oE aE E_6, gX0 cy (aE 0) aB B, gX1 cy (aE 1) aC C]) rfl ?_
    clear hu7
    have hJ43_11 : ∀ (v2_8 : Int32) (E_9 : OV) (C_10 : OV), j_X6_readShy_43_11 aB B p0 v2_8 E_9 C_10 = some o → ww X D A 3 Q 0 0 43 [(0, .ref oE), (1, .int p0), (2, .int v2_8)] [] [gX6 cy oE aE E_9, gX0 cy (aE 0) aB B, gX1 cy (aE 1) aC C_10] := by
      intro v2_8 E_9 C_10 hf
      unfold j_X6_readShy_43_11 at hf
      refine ww_iload_n h dX6_readShy_43 rfl 2 rfl 44 rfl ?_
      refine ww_if_eq h dX6_readShy_44 68 (by decide) 47 rfl (fun c => ?_) (fun c => ?_)
      · replace hf := ite_t c hf
        obtain rfl := Option.some.inj hf
        exact ww_vret h dX6_readShy_68 hQ ⟨rfl, rfl⟩
      · replace hf := ite_f c hf
        refine ww_aload_n h dX6_readShy_47 rfl 0 rfl 48 rfl ?_
        refine ww_ldcS h 4 rfl dX6_readShy_48 50 rfl ?_
        obtain ⟨E_12, hu13, hf⟩ := ob1 hf
        refine ww_cVv h (c_X6_expect l D ev cy oE aE E_9 aB B 4 _ hu13) ⟨w_600, w_597, w_599, w_7, w_112, ok_X6_expect⟩ ⟨by decide, by decide⟩ ⟨by decide, by decide⟩ ⟨rfl, rfl⟩ [0, 0] rfl 0 rfl rfl rfl rfl (Nat.le_of_ble_eq_true rfl) dX6_readShy_50 53 rfl (Gs' := [gX6 cy oE aE E_12, gX0 cy (aE 0) aB B, gX1 cy (aE 1) aC C_10]) rfl ?_
        clear hu13
        refine ww_aload_n h dX6_readShy_53 rfl 0 rfl 54 rfl ?_
        refine ww_get h inG6 rfl 0 rfl rfl 1 (by decide) w_480 rfl dX6_readShy_54 57 rfl ?_
        refine ww_dup h dX6_readShy_57 rfl 58 rfl ?_
        refine ww_get h inG1 rfl 2 rfl rfl 3 (by decide) w_169 rfl dX6_readShy_58 61 rfl ?_
        refine ww_iconst (v := 1) h dX6_readShy_61 (by decide) 62 rfl ?_
        refine ww_iload_n h dX6_readShy_62 rfl 1 rfl 63 rfl ?_
        refine ww_ishl h dX6_readShy_63 64 rfl ?_
        refine ww_ior h dX6_readShy_64 65 rfl ?_
        refine ww_put (ty := .int) h inG1 tyX1_ok nmX1 rfl 2 rfl rfl 3 (by decide) w_169 rfl (by decide +kernel) rfl rfl (Nat.le_of_ble_eq_true rfl) (Nat.le_of_ble_eq_true rfl) dX6_readShy_65 68 rfl ?_
        refine ww_nm (fun z => [gX6 cy oE aE E_12, gX0 cy (aE 0) aB B, gX1 cy (aE 1) aC z]) (sI C_10 3 ((iv C_10 3) ||| ((1 : Int32) <<< (p0 &&& 31)))) (fun C_14 e => ?_)
        replace hf := bnd_at e hf
        clear e
        obtain rfl := Option.some.inj hf
        exact ww_vret h dX6_readShy_68 hQ ⟨rfl, rfl⟩
    refine ww_if_eq h dX6_readShy_18 43 (by decide) 21 rfl (fun c => ?_) (fun c => ?_)
    · replace hf := ite_t c hf
      refine ww_lo [1, 2, 0] (lo' := [(0, .ref oE), (1, .int p0), (2, .int v2_4)]) rfl ?_
      exact hJ43_11 v2_4 E_6 C hf
    · replace hf := ite_f c hf
      refine ww_aload_n h dX6_readShy_21 rfl 1 rfl 22 rfl ?_
      refine ww_get h inG6 rfl 0 rfl rfl 1 (by decide) w_480 rfl dX6_readShy_22 25 rfl ?_
      refine ww_dup h dX6_readShy_25 rfl 26 rfl ?_
      refine ww_get h inG1 rfl 2 rfl rfl 2 (by decide) w_166 rfl dX6_readShy_26 29 rfl ?_
      refine ww_iconst (v := 1) h dX6_readShy_29 (by decide) 30 rfl ?_
      refine ww_iload_n h dX6_readShy_30 rfl 2 rfl 31 rfl ?_
      refine ww_ishl h dX6_readShy_31 32 rfl ?_
      refine ww_ior h dX6_readShy_32 33 rfl ?_
      refine ww_put (ty := .int) h inG1 tyX1_ok nmX1 rfl 2 rfl rfl 2 (by decide) w_166 rfl (by decide +kernel) rfl rfl (Nat.le_of_ble_eq_true rfl) (Nat.le_of_ble_eq_true rfl) dX6_readShy_33 36 rfl ?_
      refine ww_nm (fun z => [gX6 cy oE aE E_6, gX0 cy (aE 0) aB B, gX1 cy (aE 1) aC z]) (sI C 2 ((iv C 2) ||| ((1 : Int32) <<< (p0 &&& 31)))) (fun C_15 e => ?_)
      replace hf := bnd_at e hf
      clear e
      refine ww_aload_n h dX6_readShy_36 rfl 1 rfl 37 rfl ?_
      refine ww_ldcS h 2 rfl dX6_readShy_37 39 rfl ?_
      obtain ⟨r_16, E_17, hu18, hf⟩ := ob2 hf
      refine ww_cVi h (c_X6_takes l D ev cy oE aE E_6 aB B 2 _ hu18) ⟨w_613, w_610, w_612, w_10, w_112, ok_X6_takes⟩ ⟨by decide, by decide⟩ ⟨by decide, by decide⟩ ⟨rfl, rfl⟩ [0, 0] rfl 0 rfl rfl rfl rfl (Nat.le_of_ble_eq_true rfl) dX6_readShy_39 42 rfl (Gs' := [gX6 cy oE aE E_17, gX0 cy (aE 0) aB B, gX1 cy (aE 1) aC C_15]) rfl ?_
      clear hu18
      refine ww_ist_n h dX6_readShy_42 rfl (by decide) (fun v2_19 => [(2, .int v2_19), (0, .ref oE), (1, .int p0)]) (fun _ => rfl) 43 rfl (fun v2_19 e => ?_)
      replace hf := bnd_at e hf
      clear e
      refine ww_lo [1, 2, 0] (lo' := [(0, .ref oE), (1, .int p0), (2, .int v2_19)]) rfl ?_
      exact hJ43_11 v2_19 E_17 C_15 hf
  · replace hf := ite_t c hf
    obtain rfl := Option.some.inj hf
    exact ww_vret h dX6_readShy_9 hQ ⟨rfl, rfl⟩
theorem dX6_readPair_0 : decode cX6_readPair 0 = .ok (.aload_n 0, 1) := by decide +kernel
theorem dX6_readPair_1 : decode cX6_readPair 1 = .ok (.ldc 110, 2) := by decide +kernel
theorem dX6_readPair_3 : decode cX6_readPair 3 = .ok (.invokevirtual 63, 3) := by decide +kernel
theorem dX6_readPair_6 : decode cX6_readPair 6 = .ok (.aload_n 0, 1) := by decide +kernel
theorem dX6_readPair_7 : decode cX6_readPair 7 = .ok (.getfield 23, 3) := by decide +kernel
theorem dX6_readPair_10 : decode cX6_readPair 10 = .ok (.istore_n 1, 1) := by decide +kernel
theorem dX6_readPair_11 : decode cX6_readPair 11 = .ok (.aload_n 0, 1) := by decide +kernel
theorem dX6_readPair_12 : decode cX6_readPair 12 = .ok (.invokevirtual 112, 3) := by decide +kernel
theorem dX6_readPair_15 : decode cX6_readPair 15 = .ok (.istore_n 2, 1) := by decide +kernel
theorem dX6_readPair_16 : decode cX6_readPair 16 = .ok (.aload_n 0, 1) := by decide +kernel
theorem dX6_readPair_17 : decode cX6_readPair 17 = .ok (.invokevirtual 112, 3) := by decide +kernel
theorem dX6_readPair_20 : decode cX6_readPair 20 = .ok (.istore_n 3, 1) := by decide +kernel
theorem dX6_readPair_21 : decode cX6_readPair 21 = .ok (.aload_n 0, 1) := by decide +kernel
theorem dX6_readPair_22 : decode cX6_readPair 22 = .ok (.getfield 29, 3) := by decide +kernel
theorem dX6_readPair_25 : decode cX6_readPair 25 = .ok (.iconst (-1), 1) := by decide +kernel
theorem dX6_readPair_26 : decode cX6_readPair 26 = .ok (.if_icmp .eq 4, 3) := by decide +kernel
theorem dX6_readPair_29 : decode cX6_readPair 29 = .ok (.return_, 1) := by decide +kernel
theorem dX6_readPair_30 : decode cX6_readPair 30 = .ok (.aload_n 0, 1) := by decide +kernel
theorem dX6_readPair_31 : decode cX6_readPair 31 = .ok (.getfield 15, 3) := by decide +kernel
theorem dX6_readPair_34 : decode cX6_readPair 34 = .ok (.getfield 115, 3) := by decide +kernel
theorem dX6_readPair_37 : decode cX6_readPair 37 = .ok (.iload_n 2, 1) := by decide +kernel
theorem dX6_readPair_38 : decode cX6_readPair 38 = .ok (.iaload, 1) := by decide +kernel
theorem dX6_readPair_39 : decode cX6_readPair 39 = .ok (.iload_n 3, 1) := by decide +kernel
theorem dX6_readPair_40 : decode cX6_readPair 40 = .ok (.invokestatic 119, 3) := by decide +kernel
theorem dX6_readPair_43 : decode cX6_readPair 43 = .ok (.ifCond .ne 49, 3) := by decide +kernel
theorem dX6_readPair_46 : decode cX6_readPair 46 = .ok (.aload_n 0, 1) := by decide +kernel
theorem dX6_readPair_47 : decode cX6_readPair 47 = .ok (.getfield 15, 3) := by decide +kernel
theorem dX6_readPair_50 : decode cX6_readPair 50 = .ok (.getfield 122, 3) := by decide +kernel
theorem dX6_readPair_53 : decode cX6_readPair 53 = .ok (.bipush 12, 2) := by decide +kernel
theorem dX6_readPair_55 : decode cX6_readPair 55 = .ok (.if_icmp .ne 9, 3) := by decide +kernel
theorem dX6_readPair_58 : decode cX6_readPair 58 = .ok (.aload_n 0, 1) := by decide +kernel
theorem dX6_readPair_59 : decode cX6_readPair 59 = .ok (.iload_n 1, 1) := by decide +kernel
theorem dX6_readPair_60 : decode cX6_readPair 60 = .ok (.putfield 29, 3) := by decide +kernel
theorem dX6_readPair_63 : decode cX6_readPair 63 = .ok (.return_, 1) := by decide +kernel
theorem dX6_readPair_64 : decode cX6_readPair 64 = .ok (.aload_n 0, 1) := by decide +kernel
theorem dX6_readPair_65 : decode cX6_readPair 65 = .ok (.getfield 15, 3) := by decide +kernel
theorem dX6_readPair_68 : decode cX6_readPair 68 = .ok (.getfield 115, 3) := by decide +kernel
theorem dX6_readPair_71 : decode cX6_readPair 71 = .ok (.iload_n 2, 1) := by decide +kernel
theorem dX6_readPair_72 : decode cX6_readPair 72 = .ok (.dup2, 1) := by decide +kernel
theorem dX6_readPair_73 : decode cX6_readPair 73 = .ok (.iaload, 1) := by decide +kernel
theorem dX6_readPair_74 : decode cX6_readPair 74 = .ok (.iconst 1, 1) := by decide +kernel
theorem dX6_readPair_75 : decode cX6_readPair 75 = .ok (.iload_n 3, 1) := by decide +kernel
theorem dX6_readPair_76 : decode cX6_readPair 76 = .ok (.ishl, 1) := by decide +kernel
theorem dX6_readPair_77 : decode cX6_readPair 77 = .ok (.ior, 1) := by decide +kernel
theorem dX6_readPair_78 : decode cX6_readPair 78 = .ok (.iastore, 1) := by decide +kernel
theorem dX6_readPair_79 : decode cX6_readPair 79 = .ok (.aload_n 0, 1) := by decide +kernel
theorem dX6_readPair_80 : decode cX6_readPair 80 = .ok (.getfield 15, 3) := by decide +kernel
theorem dX6_readPair_83 : decode cX6_readPair 83 = .ok (.dup, 1) := by decide +kernel
theorem dX6_readPair_84 : decode cX6_readPair 84 = .ok (.getfield 122, 3) := by decide +kernel
theorem dX6_readPair_87 : decode cX6_readPair 87 = .ok (.iconst 1, 1) := by decide +kernel
theorem dX6_readPair_88 : decode cX6_readPair 88 = .ok (.iadd, 1) := by decide +kernel
theorem dX6_readPair_89 : decode cX6_readPair 89 = .ok (.putfield 122, 3) := by decide +kernel
theorem dX6_readPair_92 : decode cX6_readPair 92 = .ok (.aload_n 0, 1) := by decide +kernel
theorem dX6_readPair_93 : decode cX6_readPair 93 = .ok (.invokevirtual 95, 3) := by decide +kernel
theorem dX6_readPair_96 : decode cX6_readPair 96 = .ok (.return_, 1) := by decide +kernel
theorem ok_X6_readPair : okY RX6 yX6_readPair 0 := ⟨rfl, by decide, by decide, by decide +kernel⟩
def j_X6_readPair_92_15 (aB : Nat → Nat) (B : OV) (E_9 : OV) (C_14 : OV) : Option (OV × OV) := (f_X6_expectStop E_9 aB B).bind (un1 (fun E_16 => some (E_16, C_14)))
def f_X6_readPair (E : OV) (aB : Nat → Nat) (B : OV) (C : OV) : Option (OV × OV) := (f_X6_expect E aB B 10).bind (un1 (fun E_1 => bnd (iv E_1 3) (fun v1_3 => (f_X6_readToldLetter E_1 aB B C).bind (un2 (fun r_4 E_5 => bnd r_4 (fun v2_7 => (f_X6_readToldLetter E_5 aB B C).bind (un2 (fun r_8 E_9 => bnd r_8 (fun v3_11 => (if (iv E_9 5) = (-1 : Int32) then gd (ix v2_7 26) ((f_X9_bitOf (ar C 1 v2_7.toNatClampNeg) v3_11).bind (un1 (fun r_12 => (if r_12 = 0 then (if (iv C 4) = (12 : Int32) then bnd (sI E_9 5 v1_3) (fun E_20 => some (E_20, C)) else gd (ix v2_7 26) (gd (ix v2_7 26) (bnd (sA C 1 v2_7.toNatClampNeg ((ar C 1 v2_7.toNatClampNeg) ||| ((1 : Int32) <<< (v3_11 &&& 31)))) (fun C_18 => bnd (sI C_18 4 ((iv C_18 4) + (1 : Int32))) (fun C_19 => j_X6_readPair_92_15 aB B E_9 C_19))))) else j_X6_readPair_92_15 aB B E_9 C)))) else some (E_9, C)))))))))))
def r_X6_readPair : Room := { frames := 6, cells := 0, slots := 0, locals := 128 }
set_option maxHeartbeats 4000000 in
set_option maxRecDepth 100000 in
theorem c_X6_readPair (l : Launch) (D : va_G) (ev : EvT) (cy : Nat → ClassId) (oE : Nat) (aE : Nat → Nat) (E : OV) (aB : Nat → Nat) (B : OV) (aC : Nat → Nat) (C : OV) (o : OV × OV) (hf : f_X6_readPair E aB B C = some o) : Fn l yX6_readPair cX6_readPair 4 none r_X6_readPair D ev cy [.ref oE] [gX6 cy oE aE E, gX0 cy (aE 0) aB B, gX1 cy (aE 1) aC C] (fun v G => v = none ∧ G = [gX6 cy oE aE o.1, gX0 cy (aE 0) aB B, gX1 cy (aE 1) aC o.2]) := by
  refine Fn_of (by decide) (Nat.le_of_ble_eq_true rfl) (fun X A Q h hQ _ => ?_)
  unfold f_X6_readPair at hf
  show ww X D A 4 Q 0 0 0 [(0, .ref oE)] [] [gX6 cy oE aE E, gX0 cy (aE 0) aB B, gX1 cy (aE 1) aC C]
  refine ww_aload_n h dX6_readPair_0 rfl 0 rfl 1 rfl ?_
  refine ww_ldcS h 10 rfl dX6_readPair_1 3 rfl ?_
  obtain ⟨E_1, hu2, hf⟩ := ob1 hf
  refine ww_cVv h (c_X6_expect l D ev cy oE aE E aB B 10 _ hu2) ⟨w_600, w_597, w_599, w_7, w_112, ok_X6_expect⟩ ⟨by decide, by decide⟩ ⟨by decide, by decide⟩ ⟨rfl, rfl⟩ [0, 0] rfl 0 rfl rfl rfl rfl (Nat.le_of_ble_eq_true rfl) dX6_readPair_3 6 rfl (Gs' := [gX6 cy oE aE E_1, gX0 cy (aE 0) aB B, gX1 cy (aE 1) aC C]) rfl ?_
  clear hu2
  refine ww_aload_n h dX6_readPair_6 rfl 0 rfl 7 rfl ?_
  refine ww_get h inG6 rfl 0 rfl rfl 3 (by decide) w_482 rfl dX6_readPair_7 10 rfl ?_
  refine ww_ist_n h dX6_readPair_10 rfl (by decide) (fun v1_3 => [(1, .int v1_3), (0, .ref oE)]) (fun _ => rfl) 11 rfl (fun v1_3 e => ?_)
  replace hf := bnd_at e hf
  clear e
  refine ww_aload_n h dX6_readPair_11 rfl 1 rfl 12 rfl ?_
  obtain ⟨r_4, E_5, hu6, hf⟩ := ob2 hf
  refine ww_cVi h (c_X6_readToldLetter l D ev cy oE aE E_1 aB B aC C _ hu6) ⟨w_633, w_630, w_632, w_13, w_112, ok_X6_readToldLetter⟩ ⟨by decide, by decide⟩ ⟨by decide, by decide⟩ ⟨rfl, rfl⟩ [0, 0, 0] rfl 0 rfl rfl rfl rfl (Nat.le_of_ble_eq_true rfl) dX6_readPair_12 15 rfl (Gs' := [gX6 cy oE aE E_5, gX0 cy (aE 0) aB B, gX1 cy (aE 1) aC C]) rfl ?_
  clear hu6
  refine ww_ist_n h dX6_readPair_15 rfl (by decide) (fun v2_7 => [(2, .int v2_7), (1, .int v1_3), (0, .ref oE)]) (fun _ => rfl) 16 rfl (fun v2_7 e => ?_)
  replace hf := bnd_at e hf
  clear e
  refine ww_aload_n h dX6_readPair_16 rfl 2 rfl 17 rfl ?_
  obtain ⟨r_8, E_9, hu10, hf⟩ := ob2 hf
  refine ww_cVi h (c_X6_readToldLetter l D ev cy oE aE E_5 aB B aC C _ hu10) ⟨w_633, w_630, w_632, w_13, w_112, ok_X6_readToldLetter⟩ ⟨by decide, by decide⟩ ⟨by decide, by decide⟩ ⟨rfl, rfl⟩ [0, 0, 0] rfl 0 rfl rfl rfl rfl (Nat.le_of_ble_eq_true rfl) dX6_readPair_17 20 rfl (Gs' := [gX6 cy oE aE E_9, gX0 cy (aE 0) aB B, gX1 cy (aE 1) aC C]) rfl ?_
  clear hu10
  refine ww_ist_n h dX6_readPair_20 rfl (by decide) (fun v3_11 => [(3, .int v3_11), (2, .int v2_7), (1, .int v1_3), (0, .ref oE)]) (fun _ => rfl) 21 rfl (fun v3_11 e => ?_)
  replace hf := bnd_at e hf
  clear e
  refine ww_aload_n h dX6_readPair_21 rfl 3 rfl 22 rfl ?_
  refine ww_get h inG6 rfl 0 rfl rfl 5 (by decide) w_484 rfl dX6_readPair_22 25 rfl ?_
  refine ww_iconst (v := (-1)) h dX6_readPair_25 (by decide) 26 rfl ?_
  refine ww_icmp_eq h dX6_readPair_26 30 (by decide) 29 rfl (fun c => ?_) (fun c => ?_)
  · replace hf := ite_t c hf
    refine ww_aload_n h dX6_readPair_30 rfl 3 rfl 31 rfl ?_
    refine ww_get h inG6 rfl 0 rfl rfl 1 (by decide) w_480 rfl dX6_readPair_31 34 rfl ?_
    refine ww_get h inG1 rfl 2 rfl rfl 1 (by decide) w_163 rfl dX6_readPair_34 37 rfl ?_
    refine ww_iload_n h dX6_readPair_37 rfl 1 rfl 38 rfl ?_
    have hi := (gd_some hf).1
    replace hf := (gd_some hf).2
    refine ww_iald h 2 rfl 2 rfl (ix_in hi) dX6_readPair_38 39 rfl ?_
    clear hi
    refine ww_iload_n h dX6_readPair_39 rfl 0 rfl 40 rfl ?_
    obtain ⟨r_12, hu13, hf⟩ := ob1 hf
    refine ww_cSNi h (c_X9_bitOf l D ev cy (ar C 1 v2_7.toNatClampNeg) v3_11 _ hu13) w_636 (nw_in 634 rfl rfl) w_635 w_101 ok_X9_bitOf ⟨by decide, by decide⟩ ⟨by decide, by decide⟩ ⟨rfl, rfl⟩ [] rfl rfl (Nat.le_of_ble_eq_true rfl) dX6_readPair_40 43 rfl (Gs' := [gX6 cy oE aE E_9, gX0 cy (aE 0) aB B, gX1 cy (aE 1) aC C]) rfl ?_
    clear hu13
    have hJ92_15 : ∀ (C_14 : OV), j_X6_readPair_92_15 aB B E_9 C_14 = some o → ww X D A 4 Q 0 0 92 [(0, .ref oE)] [] [gX6 cy oE aE E_9, gX0 cy (aE 0) aB B, gX1 cy (aE 1) aC C_14] := by
      intro C_14 hf
      unfold j_X6_readPair_92_15 at hf
      refine ww_aload_n h dX6_readPair_92 rfl 0 rfl 93 rfl ?_
      obtain ⟨E_16, hu17, hf⟩ := ob1 hf
      refine ww_cVv h (c_X6_expectStop l D ev cy oE aE E_9 aB B _ hu17) ⟨w_624, w_621, w_623, w_11, w_112, ok_X6_expectStop⟩ ⟨by decide, by decide⟩ ⟨by decide, by decide⟩ ⟨rfl, rfl⟩ [0, 0] rfl 0 rfl rfl rfl rfl (Nat.le_of_ble_eq_true rfl) dX6_readPair_93 96 rfl (Gs' := [gX6 cy oE aE E_16, gX0 cy (aE 0) aB B, gX1 cy (aE 1) aC C_14]) rfl ?_
      clear hu17
      obtain rfl := Option.some.inj hf
      exact ww_vret h dX6_readPair_96 hQ ⟨rfl, rfl⟩
    refine ww_if_ne h dX6_readPair_43 92 (by decide) 46 rfl (fun c => ?_) (fun c => ?_)
    · replace hf := ite_f c hf
      refine ww_lo [3] (lo' := [(0, .ref oE)]) rfl ?_
      exact hJ92_15 C hf
    · replace hf := ite_t c hf
      refine ww_aload_n h dX6_readPair_46 rfl 3 rfl 47 rfl ?_
      refine ww_get h inG6 rfl 0 rfl rfl 1 (by decide) w_480 rfl dX6_readPair_47 50 rfl ?_
      refine ww_get h inG1 rfl 2 rfl rfl 4 (by decide) w_172 rfl dX6_readPair_50 53 rfl ?_
      refine ww_bipush (v := 12) h dX6_readPair_53 (by decide) 55 rfl ?_
      refine ww_icmp_ne h dX6_readPair_55 64 (by decide) 58 rfl (fun c => ?_) (fun c => ?_)
      · replace hf := ite_f c hf
        refine ww_aload_n h dX6_readPair_64 rfl 3 rfl 65 rfl ?_
        refine ww_get h inG6 rfl 0 rfl rfl 1 (by decide) w_480 rfl dX6_readPair_65 68 rfl ?_
        refine ww_get h inG1 rfl 2 rfl rfl 1 (by decide) w_163 rfl dX6_readPair_68 71 rfl ?_
        refine ww_iload_n h dX6_readPair_71 rfl 1 rfl 72 rfl ?_
        refine ww_dup2 h dX6_readPair_72 rfl rfl 73 rfl ?_
        have hi := (gd_some hf).1
        replace hf := (gd_some hf).2
        refine ww_iald h 2 rfl 2 rfl (ix_in hi) dX6_readPair_73 74 rfl ?_
        clear hi
        refine ww_iconst (v := 1) h dX6_readPair_74 (by decide) 75 rfl ?_
        refine ww_iload_n h dX6_readPair_75 rfl 0 rfl 76 rfl ?_
        refine ww_ishl h dX6_readPair_76 77 rfl ?_
        refine ww_ior h dX6_readPair_77 78 rfl ?_
        have hi := (gd_some hf).1
        replace hf := (gd_some hf).2
        refine ww_iast h 2 rfl 2 rfl (ix_in hi) dX6_readPair_78 79 rfl ?_
        clear hi
        refine ww_nm (fun z => [gX6 cy oE aE E_9, gX0 cy (aE 0) aB B, gX1 cy (aE 1) aC z]) (sA C 1 v2_7.toNatClampNeg ((ar C 1 v2_7.toNatClampNeg) ||| ((1 : Int32) <<< (v3_11 &&& 31)))) (fun C_18 e => ?_)
        replace hf := bnd_at e hf
        clear e
        refine ww_aload_n h dX6_readPair_79 rfl 3 rfl 80 rfl ?_
        refine ww_get h inG6 rfl 0 rfl rfl 1 (by decide) w_480 rfl dX6_readPair_80 83 rfl ?_
        refine ww_dup h dX6_readPair_83 rfl 84 rfl ?_
        refine ww_get h inG1 rfl 2 rfl rfl 4 (by decide) w_172 rfl dX6_readPair_84 87 rfl ?_
        refine ww_iconst (v := 1) h dX6_readPair_87 (by decide) 88 rfl ?_
        refine ww_iadd h dX6_readPair_88 89 rfl ?_
        refine ww_put (ty := .int) h inG1 tyX1_ok nmX1 rfl 2 rfl rfl 4 (by decide) w_172 rfl (by decide +kernel) rfl rfl (Nat.le_of_ble_eq_true rfl) (Nat.le_of_ble_eq_true rfl) dX6_readPair_89 92 rfl ?_
        refine ww_nm (fun z => [gX6 cy oE aE E_9, gX0 cy (aE 0) aB B, gX1 cy (aE 1) aC z]) (sI C_18 4 ((iv C_18 4) + (1 : Int32))) (fun C_19 e => ?_)
        replace hf := bnd_at e hf
        clear e
        refine ww_lo [3] (lo' := [(0, .ref oE)]) rfl ?_
        exact hJ92_15 C_19 hf
      · replace hf := ite_t c hf
        refine ww_aload_n h dX6_readPair_58 rfl 3 rfl 59 rfl ?_
        refine ww_iload_n h dX6_readPair_59 rfl 2 rfl 60 rfl ?_
        refine ww_put (ty := .int) h inG6 tyX6_ok nmX6 rfl 0 rfl rfl 5 (by decide) w_484 rfl (by decide +kernel) rfl rfl (Nat.le_of_ble_eq_true rfl) (Nat.le_of_ble_eq_true rfl) dX6_readPair_60 63 rfl ?_
        refine ww_nm (fun z => [gX6 cy oE aE z, gX0 cy (aE 0) aB B, gX1 cy (aE 1) aC C]) (sI E_9 5 v1_3) (fun E_20 e => ?_)
        replace hf := bnd_at e hf
        clear e
        obtain rfl := Option.some.inj hf
        exact ww_vret h dX6_readPair_63 hQ ⟨rfl, rfl⟩
  · replace hf := ite_f c hf
    obtain rfl := Option.some.inj hf
    exact ww_vret h dX6_readPair_29 hQ ⟨rfl, rfl⟩
theorem dX6_readClass_0 : decode cX6_readClass 0 = .ok (.aload_n 0, 1) := by decide +kernel
theorem dX6_readClass_1 : decode cX6_readClass 1 = .ok (.invokevirtual 37, 3) := by decide +kernel
theorem dX6_readClass_4 : decode cX6_readClass 4 = .ok (.aload_n 0, 1) := by decide +kernel
theorem dX6_readClass_5 : decode cX6_readClass 5 = .ok (.invokevirtual 57, 3) := by decide +kernel
theorem dX6_readClass_8 : decode cX6_readClass 8 = .ok (.istore_n 1, 1) := by decide +kernel
theorem dX6_readClass_9 : decode cX6_readClass 9 = .ok (.aload_n 0, 1) := by decide +kernel
theorem dX6_readClass_10 : decode cX6_readClass 10 = .ok (.ldc 61, 2) := by decide +kernel
theorem dX6_readClass_12 : decode cX6_readClass 12 = .ok (.invokevirtual 63, 3) := by decide +kernel
theorem dX6_readClass_15 : decode cX6_readClass 15 = .ok (.aload_n 0, 1) := by decide +kernel
theorem dX6_readClass_16 : decode cX6_readClass 16 = .ok (.iconst 1, 1) := by decide +kernel
theorem dX6_readClass_17 : decode cX6_readClass 17 = .ok (.bipush 9, 2) := by decide +kernel
theorem dX6_readClass_19 : decode cX6_readClass 19 = .ok (.invokevirtual 67, 3) := by decide +kernel
theorem dX6_readClass_22 : decode cX6_readClass 22 = .ok (.istore_n 2, 1) := by decide +kernel
theorem dX6_readClass_23 : decode cX6_readClass 23 = .ok (.aload_n 0, 1) := by decide +kernel
theorem dX6_readClass_24 : decode cX6_readClass 24 = .ok (.getfield 29, 3) := by decide +kernel
theorem dX6_readClass_27 : decode cX6_readClass 27 = .ok (.iconst (-1), 1) := by decide +kernel
theorem dX6_readClass_28 : decode cX6_readClass 28 = .ok (.if_icmp .eq 4, 3) := by decide +kernel
theorem dX6_readClass_31 : decode cX6_readClass 31 = .ok (.return_, 1) := by decide +kernel
theorem dX6_readClass_32 : decode cX6_readClass 32 = .ok (.aload_n 0, 1) := by decide +kernel
theorem dX6_readClass_33 : decode cX6_readClass 33 = .ok (.getfield 15, 3) := by decide +kernel
theorem dX6_readClass_36 : decode cX6_readClass 36 = .ok (.getfield 71, 3) := by decide +kernel
theorem dX6_readClass_39 : decode cX6_readClass 39 = .ok (.iconst 0, 1) := by decide +kernel
theorem dX6_readClass_40 : decode cX6_readClass 40 = .ok (.aaload, 1) := by decide +kernel
theorem dX6_readClass_41 : decode cX6_readClass 41 = .ok (.iload_n 1, 1) := by decide +kernel
theorem dX6_readClass_42 : decode cX6_readClass 42 = .ok (.iload_n 2, 1) := by decide +kernel
theorem dX6_readClass_43 : decode cX6_readClass 43 = .ok (.iastore, 1) := by decide +kernel
theorem dX6_readClass_44 : decode cX6_readClass 44 = .ok (.aload_n 0, 1) := by decide +kernel
theorem dX6_readClass_45 : decode cX6_readClass 45 = .ok (.getfield 15, 3) := by decide +kernel
theorem dX6_readClass_48 : decode cX6_readClass 48 = .ok (.dup, 1) := by decide +kernel
theorem dX6_readClass_49 : decode cX6_readClass 49 = .ok (.getfield 75, 3) := by decide +kernel
theorem dX6_readClass_52 : decode cX6_readClass 52 = .ok (.iconst 1, 1) := by decide +kernel
theorem dX6_readClass_53 : decode cX6_readClass 53 = .ok (.iadd, 1) := by decide +kernel
theorem dX6_readClass_54 : decode cX6_readClass 54 = .ok (.putfield 75, 3) := by decide +kernel
theorem dX6_readClass_57 : decode cX6_readClass 57 = .ok (.aload_n 0, 1) := by decide +kernel
theorem dX6_readClass_58 : decode cX6_readClass 58 = .ok (.iload_n 1, 1) := by decide +kernel
theorem dX6_readClass_59 : decode cX6_readClass 59 = .ok (.invokevirtual 78, 3) := by decide +kernel
theorem dX6_readClass_62 : decode cX6_readClass 62 = .ok (.aload_n 0, 1) := by decide +kernel
theorem dX6_readClass_63 : decode cX6_readClass 63 = .ok (.ldc 82, 2) := by decide +kernel
theorem dX6_readClass_65 : decode cX6_readClass 65 = .ok (.invokevirtual 84, 3) := by decide +kernel
theorem dX6_readClass_68 : decode cX6_readClass 68 = .ok (.ifCond .eq 15, 3) := by decide +kernel
theorem dX6_readClass_71 : decode cX6_readClass 71 = .ok (.aload_n 0, 1) := by decide +kernel
theorem dX6_readClass_72 : decode cX6_readClass 72 = .ok (.getfield 15, 3) := by decide +kernel
theorem dX6_readClass_75 : decode cX6_readClass 75 = .ok (.getfield 71, 3) := by decide +kernel
theorem dX6_readClass_78 : decode cX6_readClass 78 = .ok (.iconst 3, 1) := by decide +kernel
theorem dX6_readClass_79 : decode cX6_readClass 79 = .ok (.aaload, 1) := by decide +kernel
theorem dX6_readClass_80 : decode cX6_readClass 80 = .ok (.iload_n 1, 1) := by decide +kernel
theorem dX6_readClass_81 : decode cX6_readClass 81 = .ok (.iconst 1, 1) := by decide +kernel
theorem dX6_readClass_82 : decode cX6_readClass 82 = .ok (.iastore, 1) := by decide +kernel
theorem dX6_readClass_83 : decode cX6_readClass 83 = .ok (.aload_n 0, 1) := by decide +kernel
theorem dX6_readClass_84 : decode cX6_readClass 84 = .ok (.ldc 87, 2) := by decide +kernel
theorem dX6_readClass_86 : decode cX6_readClass 86 = .ok (.invokevirtual 84, 3) := by decide +kernel
theorem dX6_readClass_89 : decode cX6_readClass 89 = .ok (.ifCond .eq 22, 3) := by decide +kernel
theorem dX6_readClass_92 : decode cX6_readClass 92 = .ok (.aload_n 0, 1) := by decide +kernel
theorem dX6_readClass_93 : decode cX6_readClass 93 = .ok (.getfield 15, 3) := by decide +kernel
theorem dX6_readClass_96 : decode cX6_readClass 96 = .ok (.getfield 71, 3) := by decide +kernel
theorem dX6_readClass_99 : decode cX6_readClass 99 = .ok (.iconst 4, 1) := by decide +kernel
theorem dX6_readClass_100 : decode cX6_readClass 100 = .ok (.aaload, 1) := by decide +kernel
theorem dX6_readClass_101 : decode cX6_readClass 101 = .ok (.iload_n 1, 1) := by decide +kernel
theorem dX6_readClass_102 : decode cX6_readClass 102 = .ok (.aload_n 0, 1) := by decide +kernel
theorem dX6_readClass_103 : decode cX6_readClass 103 = .ok (.iconst 0, 1) := by decide +kernel
theorem dX6_readClass_104 : decode cX6_readClass 104 = .ok (.iload_n 2, 1) := by decide +kernel
theorem dX6_readClass_105 : decode cX6_readClass 105 = .ok (.iconst 1, 1) := by decide +kernel
theorem dX6_readClass_106 : decode cX6_readClass 106 = .ok (.isub, 1) := by decide +kernel
theorem dX6_readClass_107 : decode cX6_readClass 107 = .ok (.invokevirtual 67, 3) := by decide +kernel
theorem dX6_readClass_110 : decode cX6_readClass 110 = .ok (.iastore, 1) := by decide +kernel
theorem dX6_readClass_111 : decode cX6_readClass 111 = .ok (.aload_n 0, 1) := by decide +kernel
theorem dX6_readClass_112 : decode cX6_readClass 112 = .ok (.ldc 89, 2) := by decide +kernel
theorem dX6_readClass_114 : decode cX6_readClass 114 = .ok (.invokevirtual 84, 3) := by decide +kernel
theorem dX6_readClass_117 : decode cX6_readClass 117 = .ok (.ifCond .eq 46, 3) := by decide +kernel
theorem dX6_readClass_120 : decode cX6_readClass 120 = .ok (.aload_n 0, 1) := by decide +kernel
theorem dX6_readClass_121 : decode cX6_readClass 121 = .ok (.getfield 15, 3) := by decide +kernel
theorem dX6_readClass_124 : decode cX6_readClass 124 = .ok (.getfield 71, 3) := by decide +kernel
theorem dX6_readClass_127 : decode cX6_readClass 127 = .ok (.iconst 5, 1) := by decide +kernel
theorem dX6_readClass_128 : decode cX6_readClass 128 = .ok (.aaload, 1) := by decide +kernel
theorem dX6_readClass_129 : decode cX6_readClass 129 = .ok (.iload_n 1, 1) := by decide +kernel
theorem dX6_readClass_130 : decode cX6_readClass 130 = .ok (.aload_n 0, 1) := by decide +kernel
theorem dX6_readClass_131 : decode cX6_readClass 131 = .ok (.iconst 0, 1) := by decide +kernel
theorem dX6_readClass_132 : decode cX6_readClass 132 = .ok (.iload_n 2, 1) := by decide +kernel
theorem dX6_readClass_133 : decode cX6_readClass 133 = .ok (.iconst 1, 1) := by decide +kernel
theorem dX6_readClass_134 : decode cX6_readClass 134 = .ok (.isub, 1) := by decide +kernel
theorem dX6_readClass_135 : decode cX6_readClass 135 = .ok (.invokevirtual 67, 3) := by decide +kernel
theorem dX6_readClass_138 : decode cX6_readClass 138 = .ok (.iastore, 1) := by decide +kernel
theorem dX6_readClass_139 : decode cX6_readClass 139 = .ok (.aload_n 0, 1) := by decide +kernel
theorem dX6_readClass_140 : decode cX6_readClass 140 = .ok (.ldc 91, 2) := by decide +kernel
theorem dX6_readClass_142 : decode cX6_readClass 142 = .ok (.invokevirtual 63, 3) := by decide +kernel
theorem dX6_readClass_145 : decode cX6_readClass 145 = .ok (.aload_n 0, 1) := by decide +kernel
theorem dX6_readClass_146 : decode cX6_readClass 146 = .ok (.getfield 15, 3) := by decide +kernel
theorem dX6_readClass_149 : decode cX6_readClass 149 = .ok (.getfield 71, 3) := by decide +kernel
theorem dX6_readClass_152 : decode cX6_readClass 152 = .ok (.bipush 6, 2) := by decide +kernel
theorem dX6_readClass_154 : decode cX6_readClass 154 = .ok (.aaload, 1) := by decide +kernel
theorem dX6_readClass_155 : decode cX6_readClass 155 = .ok (.iload_n 1, 1) := by decide +kernel
theorem dX6_readClass_156 : decode cX6_readClass 156 = .ok (.aload_n 0, 1) := by decide +kernel
theorem dX6_readClass_157 : decode cX6_readClass 157 = .ok (.iconst 1, 1) := by decide +kernel
theorem dX6_readClass_158 : decode cX6_readClass 158 = .ok (.iconst 3, 1) := by decide +kernel
theorem dX6_readClass_159 : decode cX6_readClass 159 = .ok (.invokevirtual 67, 3) := by decide +kernel
theorem dX6_readClass_162 : decode cX6_readClass 162 = .ok (.iastore, 1) := by decide +kernel
theorem dX6_readClass_163 : decode cX6_readClass 163 = .ok (.aload_n 0, 1) := by decide +kernel
theorem dX6_readClass_164 : decode cX6_readClass 164 = .ok (.ldc 93, 2) := by decide +kernel
theorem dX6_readClass_166 : decode cX6_readClass 166 = .ok (.invokevirtual 84, 3) := by decide +kernel
theorem dX6_readClass_169 : decode cX6_readClass 169 = .ok (.ifCond .eq 46, 3) := by decide +kernel
theorem dX6_readClass_172 : decode cX6_readClass 172 = .ok (.aload_n 0, 1) := by decide +kernel
theorem dX6_readClass_173 : decode cX6_readClass 173 = .ok (.getfield 15, 3) := by decide +kernel
theorem dX6_readClass_176 : decode cX6_readClass 176 = .ok (.getfield 71, 3) := by decide +kernel
theorem dX6_readClass_179 : decode cX6_readClass 179 = .ok (.bipush 7, 2) := by decide +kernel
theorem dX6_readClass_181 : decode cX6_readClass 181 = .ok (.aaload, 1) := by decide +kernel
theorem dX6_readClass_182 : decode cX6_readClass 182 = .ok (.iload_n 1, 1) := by decide +kernel
theorem dX6_readClass_183 : decode cX6_readClass 183 = .ok (.aload_n 0, 1) := by decide +kernel
theorem dX6_readClass_184 : decode cX6_readClass 184 = .ok (.iconst 0, 1) := by decide +kernel
theorem dX6_readClass_185 : decode cX6_readClass 185 = .ok (.bipush 9, 2) := by decide +kernel
theorem dX6_readClass_187 : decode cX6_readClass 187 = .ok (.invokevirtual 67, 3) := by decide +kernel
theorem dX6_readClass_190 : decode cX6_readClass 190 = .ok (.iastore, 1) := by decide +kernel
theorem dX6_readClass_191 : decode cX6_readClass 191 = .ok (.aload_n 0, 1) := by decide +kernel
theorem dX6_readClass_192 : decode cX6_readClass 192 = .ok (.ldc 91, 2) := by decide +kernel
theorem dX6_readClass_194 : decode cX6_readClass 194 = .ok (.invokevirtual 63, 3) := by decide +kernel
theorem dX6_readClass_197 : decode cX6_readClass 197 = .ok (.aload_n 0, 1) := by decide +kernel
theorem dX6_readClass_198 : decode cX6_readClass 198 = .ok (.getfield 15, 3) := by decide +kernel
theorem dX6_readClass_201 : decode cX6_readClass 201 = .ok (.getfield 71, 3) := by decide +kernel
theorem dX6_readClass_204 : decode cX6_readClass 204 = .ok (.bipush 8, 2) := by decide +kernel
theorem dX6_readClass_206 : decode cX6_readClass 206 = .ok (.aaload, 1) := by decide +kernel
theorem dX6_readClass_207 : decode cX6_readClass 207 = .ok (.iload_n 1, 1) := by decide +kernel
theorem dX6_readClass_208 : decode cX6_readClass 208 = .ok (.aload_n 0, 1) := by decide +kernel
theorem dX6_readClass_209 : decode cX6_readClass 209 = .ok (.iconst 1, 1) := by decide +kernel
theorem dX6_readClass_210 : decode cX6_readClass 210 = .ok (.iconst 3, 1) := by decide +kernel
theorem dX6_readClass_211 : decode cX6_readClass 211 = .ok (.invokevirtual 67, 3) := by decide +kernel
theorem dX6_readClass_214 : decode cX6_readClass 214 = .ok (.iastore, 1) := by decide +kernel
theorem dX6_readClass_215 : decode cX6_readClass 215 = .ok (.aload_n 0, 1) := by decide +kernel
theorem dX6_readClass_216 : decode cX6_readClass 216 = .ok (.invokevirtual 95, 3) := by decide +kernel
theorem dX6_readClass_219 : decode cX6_readClass 219 = .ok (.return_, 1) := by decide +kernel
theorem ok_X6_readClass : okY RX6 yX6_readClass 0 := ⟨rfl, by decide, by decide, by decide +kernel⟩
def j_X6_readClass_215_41 (aB : Nat → Nat) (B : OV) (E_39 : OV) (C_40 : OV) : Option (OV × OV) := (f_X6_expectStop E_39 aB B).bind (un1 (fun E_42 => some (E_42, C_40)))
def j_X6_readClass_163_35 (aB : Nat → Nat) (B : OV) (v1_6 : Int32) (E_33 : OV) (C_34 : OV) : Option (OV × OV) := (f_X6_takes E_33 aB B 9).bind (un2 (fun r_36 E_37 => (if r_36 = 0 then j_X6_readClass_215_41 aB B E_37 C_34 else gd (ix (7 : Int32) 9) ((f_X6_readNumber E_37 aB B (0 : Int32) (9 : Int32)).bind (un2 (fun r_45 E_46 => gd (ix v1_6 26) (bnd (sG C_34 0 (7 : Int32).toNatClampNeg v1_6.toNatClampNeg r_45) (fun C_48 => (f_X6_expect E_46 aB B 8).bind (un1 (fun E_49 => gd (ix (8 : Int32) 9) ((f_X6_readNumber E_49 aB B (1 : Int32) (3 : Int32)).bind (un2 (fun r_52 E_53 => gd (ix v1_6 26) (bnd (sG C_48 0 (8 : Int32).toNatClampNeg v1_6.toNatClampNeg r_52) (fun C_55 => j_X6_readClass_215_41 aB B E_53 C_55)))))))))))))))
def j_X6_readClass_111_29 (aB : Nat → Nat) (B : OV) (v1_6 : Int32) (v2_12 : Int32) (E_27 : OV) (C_28 : OV) : Option (OV × OV) := (f_X6_takes E_27 aB B 7).bind (un2 (fun r_30 E_31 => (if r_30 = 0 then j_X6_readClass_163_35 aB B v1_6 E_31 C_28 else gd (ix (5 : Int32) 9) ((f_X6_readNumber E_31 aB B (0 : Int32) (v2_12 - (1 : Int32))).bind (un2 (fun r_57 E_58 => gd (ix v1_6 26) (bnd (sG C_28 0 (5 : Int32).toNatClampNeg v1_6.toNatClampNeg r_57) (fun C_60 => (f_X6_expect E_58 aB B 8).bind (un1 (fun E_61 => gd (ix (6 : Int32) 9) ((f_X6_readNumber E_61 aB B (1 : Int32) (3 : Int32)).bind (un2 (fun r_64 E_65 => gd (ix v1_6 26) (bnd (sG C_60 0 (6 : Int32).toNatClampNeg v1_6.toNatClampNeg r_64) (fun C_67 => j_X6_readClass_163_35 aB B v1_6 E_65 C_67)))))))))))))))
def j_X6_readClass_83_23 (aB : Nat → Nat) (B : OV) (E_20 : OV) (v1_6 : Int32) (v2_12 : Int32) (C_22 : OV) : Option (OV × OV) := (f_X6_takes E_20 aB B 6).bind (un2 (fun r_24 E_25 => (if r_24 = 0 then j_X6_readClass_111_29 aB B v1_6 v2_12 E_25 C_22 else gd (ix (4 : Int32) 9) ((f_X6_readNumber E_25 aB B (0 : Int32) (v2_12 - (1 : Int32))).bind (un2 (fun r_69 E_70 => gd (ix v1_6 26) (bnd (sG C_22 0 (4 : Int32).toNatClampNeg v1_6.toNatClampNeg r_69) (fun C_72 => j_X6_readClass_111_29 aB B v1_6 v2_12 E_70 C_72))))))))
def f_X6_readClass (E : OV) (aB : Nat → Nat) (B : OV) (C : OV) : Option (OV × OV) := (f_X6_next E aB B).bind (un1 (fun E_1 => (f_X6_readNewLetter E_1 aB B C).bind (un2 (fun r_3 E_4 => bnd r_3 (fun v1_6 => (f_X6_expect E_4 aB B 1).bind (un1 (fun E_7 => (f_X6_readNumber E_7 aB B (1 : Int32) (9 : Int32)).bind (un2 (fun r_9 E_10 => bnd r_9 (fun v2_12 => (if (iv E_10 5) = (-1 : Int32) then gd (ix (0 : Int32) 9) (gd (ix v1_6 26) (bnd (sG C 0 (0 : Int32).toNatClampNeg v1_6.toNatClampNeg v2_12) (fun C_14 => bnd (sI C_14 5 ((iv C_14 5) + (1 : Int32))) (fun C_15 => (f_X6_readShy E_10 aB B C_15 v1_6).bind (un2 (fun E_16 C_17 => (f_X6_takes E_16 aB B 5).bind (un2 (fun r_19 E_20 => (if r_19 = 0 then j_X6_readClass_83_23 aB B E_20 v1_6 v2_12 C_17 else gd (ix (3 : Int32) 9) (gd (ix v1_6 26) (bnd (sG C_17 0 (3 : Int32).toNatClampNeg v1_6.toNatClampNeg (1 : Int32)) (fun C_74 => j_X6_readClass_83_23 aB B E_20 v1_6 v2_12 C_74)))))))))))) else some (E_10, C))))))))))))
def r_X6_readClass : Room := { frames := 7, cells := 0, slots := 0, locals := 150 }
set_option maxHeartbeats 4000000 in
set_option maxRecDepth 100000 in
theorem c_X6_readClass (l : Launch) (D : va_G) (ev : EvT) (cy : Nat → ClassId) (oE : Nat) (aE : Nat → Nat) (E : OV) (aB : Nat → Nat) (B : OV) (aC : Nat → Nat) (C : OV) (o : OV × OV) (hf : f_X6_readClass E aB B C = some o) : Fn l yX6_readClass cX6_readClass 3 none r_X6_readClass D ev cy [.ref oE] [gX6 cy oE aE E, gX0 cy (aE 0) aB B, gX1 cy (aE 1) aC C] (fun v G => v = none ∧ G = [gX6 cy oE aE o.1, gX0 cy (aE 0) aB B, gX1 cy (aE 1) aC o.2]) := by
  refine Fn_of (by decide) (Nat.le_of_ble_eq_true rfl) (fun X A Q h hQ _ => ?_)
  unfold f_X6_readClass at hf
  show ww X D A 3 Q 0 0 0 [(0, .ref oE)] [] [gX6 cy oE aE E, gX0 cy (aE 0) aB B, gX1 cy (aE 1) aC C]
  refine ww_aload_n h dX6_readClass_0 rfl 0 rfl 1 rfl ?_
  obtain ⟨E_1, hu2, hf⟩ := ob1 hf
  refine ww_cVv h (c_X6_next l D ev cy oE aE E aB B _ hu2) ⟨w_512, w_509, w_511, w_0, w_112, ok_X6_next⟩ ⟨by decide, by decide⟩ ⟨by decide, by decide⟩ ⟨rfl, rfl⟩ [0, 0] rfl 0 rfl rfl rfl rfl (Nat.le_of_ble_eq_true rfl) dX6_readClass_1 4 rfl (Gs' := [gX6 cy oE aE E_1, gX0 cy (aE 0) aB B, gX1 cy (aE 1) aC C]) rfl ?_
  clear hu2
  refine ww_aload_n h dX6_readClass_4 rfl 0 rfl 5 rfl ?_
  obtain ⟨r_3, E_4, hu5, hf⟩ := ob2 hf
  refine ww_cVi h (c_X6_readNewLetter l D ev cy oE aE E_1 aB B aC C _ hu5) ⟨w_583, w_580, w_582, w_4, w_112, ok_X6_readNewLetter⟩ ⟨by decide, by decide⟩ ⟨by decide, by decide⟩ ⟨rfl, rfl⟩ [0, 0, 0] rfl 0 rfl rfl rfl rfl (Nat.le_of_ble_eq_true rfl) dX6_readClass_5 8 rfl (Gs' := [gX6 cy oE aE E_4, gX0 cy (aE 0) aB B, gX1 cy (aE 1) aC C]) rfl ?_
  clear hu5
  refine ww_ist_n h dX6_readClass_8 rfl (by decide) (fun v1_6 => [(1, .int v1_6), (0, .ref oE)]) (fun _ => rfl) 9 rfl (fun v1_6 e => ?_)
  replace hf := bnd_at e hf
  clear e
  refine ww_aload_n h dX6_readClass_9 rfl 1 rfl 10 rfl ?_
  refine ww_ldcS h 1 rfl dX6_readClass_10 12 rfl ?_
  obtain ⟨E_7, hu8, hf⟩ := ob1 hf
  refine ww_cVv h (c_X6_expect l D ev cy oE aE E_4 aB B 1 _ hu8) ⟨w_600, w_597, w_599, w_7, w_112, ok_X6_expect⟩ ⟨by decide, by decide⟩ ⟨by decide, by decide⟩ ⟨rfl, rfl⟩ [0, 0] rfl 0 rfl rfl rfl rfl (Nat.le_of_ble_eq_true rfl) dX6_readClass_12 15 rfl (Gs' := [gX6 cy oE aE E_7, gX0 cy (aE 0) aB B, gX1 cy (aE 1) aC C]) rfl ?_
  clear hu8
  refine ww_aload_n h dX6_readClass_15 rfl 1 rfl 16 rfl ?_
  refine ww_iconst (v := 1) h dX6_readClass_16 (by decide) 17 rfl ?_
  refine ww_bipush (v := 9) h dX6_readClass_17 (by decide) 19 rfl ?_
  obtain ⟨r_9, E_10, hu11, hf⟩ := ob2 hf
  refine ww_cVi h (c_X6_readNumber l D ev cy oE aE E_7 aB B (1 : Int32) (9 : Int32) _ hu11) ⟨w_604, w_601, w_603, w_8, w_112, ok_X6_readNumber⟩ ⟨by decide, by decide⟩ ⟨by decide, by decide⟩ ⟨rfl, rfl⟩ [0, 0] rfl 0 rfl rfl rfl rfl (Nat.le_of_ble_eq_true rfl) dX6_readClass_19 22 rfl (Gs' := [gX6 cy oE aE E_10, gX0 cy (aE 0) aB B, gX1 cy (aE 1) aC C]) rfl ?_
  clear hu11
  refine ww_ist_n h dX6_readClass_22 rfl (by decide) (fun v2_12 => [(2, .int v2_12), (1, .int v1_6), (0, .ref oE)]) (fun _ => rfl) 23 rfl (fun v2_12 e => ?_)
  replace hf := bnd_at e hf
  clear e
  refine ww_aload_n h dX6_readClass_23 rfl 2 rfl 24 rfl ?_
  refine ww_get h inG6 rfl 0 rfl rfl 5 (by decide) w_484 rfl dX6_readClass_24 27 rfl ?_
  refine ww_iconst (v := (-1)) h dX6_readClass_27 (by decide) 28 rfl ?_
  refine ww_icmp_eq h dX6_readClass_28 32 (by decide) 31 rfl (fun c => ?_) (fun c => ?_)
  · replace hf := ite_t c hf
    refine ww_aload_n h dX6_readClass_32 rfl 2 rfl 33 rfl ?_
    refine ww_get h inG6 rfl 0 rfl rfl 1 (by decide) w_480 rfl dX6_readClass_33 36 rfl ?_
    refine ww_get h inG1 rfl 2 rfl rfl 0 (by decide) w_158 rfl dX6_readClass_36 39 rfl ?_
    refine ww_iconst (v := 0) h dX6_readClass_39 (by decide) 40 rfl ?_
    have hi := (gd_some hf).1
    replace hf := (gd_some hf).2
    have hj13 := ix_lt hi
    refine ww_aaldR h 2 rfl 1 rfl 4 rfl rfl (ix_in hi) dX6_readClass_40 41 rfl ?_
    clear hi
    refine ww_iload_n h dX6_readClass_41 rfl 1 rfl 42 rfl ?_
    refine ww_iload_n h dX6_readClass_42 rfl 0 rfl 43 rfl ?_
    have hi := (gd_some hf).1
    replace hf := (gd_some hf).2
    refine ww_iastR h 2 rfl (3 + (0 : Int32).toNatClampNeg) (gX1_row0 hj13) (ix_in hi) (gX1_set0 hj13) (Gs' := [gX6 cy oE aE E_10, gX0 cy (aE 0) aB B, gX1 cy (aE 1) aC (sG C 0 (0 : Int32).toNatClampNeg v1_6.toNatClampNeg v2_12)]) rfl dX6_readClass_43 44 rfl ?_
    clear hi
    refine ww_nm (fun z => [gX6 cy oE aE E_10, gX0 cy (aE 0) aB B, gX1 cy (aE 1) aC z]) (sG C 0 (0 : Int32).toNatClampNeg v1_6.toNatClampNeg v2_12) (fun C_14 e => ?_)
    replace hf := bnd_at e hf
    clear e
    refine ww_aload_n h dX6_readClass_44 rfl 2 rfl 45 rfl ?_
    refine ww_get h inG6 rfl 0 rfl rfl 1 (by decide) w_480 rfl dX6_readClass_45 48 rfl ?_
    refine ww_dup h dX6_readClass_48 rfl 49 rfl ?_
    refine ww_get h inG1 rfl 2 rfl rfl 5 (by decide) w_173 rfl dX6_readClass_49 52 rfl ?_
    refine ww_iconst (v := 1) h dX6_readClass_52 (by decide) 53 rfl ?_
    refine ww_iadd h dX6_readClass_53 54 rfl ?_
    refine ww_put (ty := .int) h inG1 tyX1_ok nmX1 rfl 2 rfl rfl 5 (by decide) w_173 rfl (by decide +kernel) rfl rfl (Nat.le_of_ble_eq_true rfl) (Nat.le_of_ble_eq_true rfl) dX6_readClass_54 57 rfl ?_
    refine ww_nm (fun z => [gX6 cy oE aE E_10, gX0 cy (aE 0) aB B, gX1 cy (aE 1) aC z]) (sI C_14 5 ((iv C_14 5) + (1 : Int32))) (fun C_15 e => ?_)
    replace hf := bnd_at e hf
    clear e
    refine ww_aload_n h dX6_readClass_57 rfl 2 rfl 58 rfl ?_
    refine ww_iload_n h dX6_readClass_58 rfl 1 rfl 59 rfl ?_
    obtain ⟨E_16, C_17, hu18, hf⟩ := ob2 hf
    refine ww_cVv h (c_X6_readShy l D ev cy oE aE E_10 aB B aC C_15 v1_6 _ hu18) ⟨w_608, w_605, w_607, w_9, w_112, ok_X6_readShy⟩ ⟨by decide, by decide⟩ ⟨by decide, by decide⟩ ⟨rfl, rfl⟩ [0, 0, 0] rfl 0 rfl rfl rfl rfl (Nat.le_of_ble_eq_true rfl) dX6_readClass_59 62 rfl (Gs' := [gX6 cy oE aE E_16, gX0 cy (aE 0) aB B, gX1 cy (aE 1) aC C_17]) rfl ?_
    clear hu18
    refine ww_aload_n h dX6_readClass_62 rfl 2 rfl 63 rfl ?_
    refine ww_ldcS h 5 rfl dX6_readClass_63 65 rfl ?_
    obtain ⟨r_19, E_20, hu21, hf⟩ := ob2 hf
    refine ww_cVi h (c_X6_takes l D ev cy oE aE E_16 aB B 5 _ hu21) ⟨w_613, w_610, w_612, w_10, w_112, ok_X6_takes⟩ ⟨by decide, by decide⟩ ⟨by decide, by decide⟩ ⟨rfl, rfl⟩ [0, 0] rfl 0 rfl rfl rfl rfl (Nat.le_of_ble_eq_true rfl) dX6_readClass_65 68 rfl (Gs' := [gX6 cy oE aE E_20, gX0 cy (aE 0) aB B, gX1 cy (aE 1) aC C_17]) rfl ?_
    clear hu21
    have hJ83_23 : ∀ (C_22 : OV), j_X6_readClass_83_23 aB B E_20 v1_6 v2_12 C_22 = some o → ww X D A 3 Q 0 0 83 [(0, .ref oE), (1, .int v1_6), (2, .int v2_12)] [] [gX6 cy oE aE E_20, gX0 cy (aE 0) aB B, gX1 cy (aE 1) aC C_22] := by
      intro C_22 hf
      unfold j_X6_readClass_83_23 at hf
      refine ww_aload_n h dX6_readClass_83 rfl 0 rfl 84 rfl ?_
      refine ww_ldcS h 6 rfl dX6_readClass_84 86 rfl ?_
      obtain ⟨r_24, E_25, hu26, hf⟩ := ob2 hf
      refine ww_cVi h (c_X6_takes l D ev cy oE aE E_20 aB B 6 _ hu26) ⟨w_613, w_610, w_612, w_10, w_112, ok_X6_takes⟩ ⟨by decide, by decide⟩ ⟨by decide, by decide⟩ ⟨rfl, rfl⟩ [0, 0] rfl 0 rfl rfl rfl rfl (Nat.le_of_ble_eq_true rfl) dX6_readClass_86 89 rfl (Gs' := [gX6 cy oE aE E_25, gX0 cy (aE 0) aB B, gX1 cy (aE 1) aC C_22]) rfl ?_
      clear hu26
      have hJ111_29 : ∀ (E_27 : OV) (C_28 : OV), j_X6_readClass_111_29 aB B v1_6 v2_12 E_27 C_28 = some o → ww X D A 3 Q 0 0 111 [(0, .ref oE), (1, .int v1_6), (2, .int v2_12)] [] [gX6 cy oE aE E_27, gX0 cy (aE 0) aB B, gX1 cy (aE 1) aC C_28] := by
        intro E_27 C_28 hf
        unfold j_X6_readClass_111_29 at hf
        refine ww_aload_n h dX6_readClass_111 rfl 0 rfl 112 rfl ?_
        refine ww_ldcS h 7 rfl dX6_readClass_112 114 rfl ?_
        obtain ⟨r_30, E_31, hu32, hf⟩ := ob2 hf
        refine ww_cVi h (c_X6_takes l D ev cy oE aE E_27 aB B 7 _ hu32) ⟨w_613, w_610, w_612, w_10, w_112, ok_X6_takes⟩ ⟨by decide, by decide⟩ ⟨by decide, by decide⟩ ⟨rfl, rfl⟩ [0, 0] rfl 0 rfl rfl rfl rfl (Nat.le_of_ble_eq_true rfl) dX6_readClass_114 117 rfl (Gs' := [gX6 cy oE aE E_31, gX0 cy (aE 0) aB B, gX1 cy (aE 1) aC C_28]) rfl ?_
        clear hu32
        have hJ163_35 : ∀ (E_33 : OV) (C_34 : OV), j_X6_readClass_163_35 aB B v1_6 E_33 C_34 = some o → ww X D A 3 Q 0 0 163 [(0, .ref oE), (1, .int v1_6)] [] [gX6 cy oE aE E_33, gX0 cy (aE 0) aB B, gX1 cy (aE 1) aC C_34] := by
          intro E_33 C_34 hf
          unfold j_X6_readClass_163_35 at hf
          refine ww_aload_n h dX6_readClass_163 rfl 0 rfl 164 rfl ?_
          refine ww_ldcS h 9 rfl dX6_readClass_164 166 rfl ?_
          obtain ⟨r_36, E_37, hu38, hf⟩ := ob2 hf
          refine ww_cVi h (c_X6_takes l D ev cy oE aE E_33 aB B 9 _ hu38) ⟨w_613, w_610, w_612, w_10, w_112, ok_X6_takes⟩ ⟨by decide, by decide⟩ ⟨by decide, by decide⟩ ⟨rfl, rfl⟩ [0, 0] rfl 0 rfl rfl rfl rfl (Nat.le_of_ble_eq_true rfl) dX6_readClass_166 169 rfl (Gs' := [gX6 cy oE aE E_37, gX0 cy (aE 0) aB B, gX1 cy (aE 1) aC C_34]) rfl ?_
          clear hu38
          have hJ215_41 : ∀ (E_39 : OV) (C_40 : OV), j_X6_readClass_215_41 aB B E_39 C_40 = some o → ww X D A 3 Q 0 0 215 [(0, .ref oE)] [] [gX6 cy oE aE E_39, gX0 cy (aE 0) aB B, gX1 cy (aE 1) aC C_40] := by
            intro E_39 C_40 hf
            unfold j_X6_readClass_215_41 at hf
            refine ww_aload_n h dX6_readClass_215 rfl 0 rfl 216 rfl ?_
            obtain ⟨E_42, hu43, hf⟩ := ob1 hf
            refine ww_cVv h (c_X6_expectStop l D ev cy oE aE E_39 aB B _ hu43) ⟨w_624, w_621, w_623, w_11, w_112, ok_X6_expectStop⟩ ⟨by decide, by decide⟩ ⟨by decide, by decide⟩ ⟨rfl, rfl⟩ [0, 0] rfl 0 rfl rfl rfl rfl (Nat.le_of_ble_eq_true rfl) dX6_readClass_216 219 rfl (Gs' := [gX6 cy oE aE E_42, gX0 cy (aE 0) aB B, gX1 cy (aE 1) aC C_40]) rfl ?_
            clear hu43
            obtain rfl := Option.some.inj hf
            exact ww_vret h dX6_readClass_219 hQ ⟨rfl, rfl⟩
          refine ww_if_eq h dX6_readClass_169 215 (by decide) 172 rfl (fun c => ?_) (fun c => ?_)
          · replace hf := ite_t c hf
            refine ww_lo [0] (lo' := [(0, .ref oE)]) rfl ?_
            exact hJ215_41 E_37 C_34 hf
          · replace hf := ite_f c hf
            refine ww_aload_n h dX6_readClass_172 rfl 0 rfl 173 rfl ?_
            refine ww_get h inG6 rfl 0 rfl rfl 1 (by decide) w_480 rfl dX6_readClass_173 176 rfl ?_
            refine ww_get h inG1 rfl 2 rfl rfl 0 (by decide) w_158 rfl dX6_readClass_176 179 rfl ?_
            refine ww_bipush (v := 7) h dX6_readClass_179 (by decide) 181 rfl ?_
            have hi := (gd_some hf).1
            replace hf := (gd_some hf).2
            have hj44 := ix_lt hi
            refine ww_aaldR h 2 rfl 1 rfl 4 rfl rfl (ix_in hi) dX6_readClass_181 182 rfl ?_
            clear hi
            refine ww_iload_n h dX6_readClass_182 rfl 1 rfl 183 rfl ?_
            refine ww_aload_n h dX6_readClass_183 rfl 0 rfl 184 rfl ?_
            refine ww_iconst (v := 0) h dX6_readClass_184 (by decide) 185 rfl ?_
            refine ww_bipush (v := 9) h dX6_readClass_185 (by decide) 187 rfl ?_
            obtain ⟨r_45, E_46, hu47, hf⟩ := ob2 hf
            refine ww_cVi h (c_X6_readNumber l D ev cy oE aE E_37 aB B (0 : Int32) (9 : Int32) _ hu47) ⟨w_604, w_601, w_603, w_8, w_112, ok_X6_readNumber⟩ ⟨by decide, by decide⟩ ⟨by decide, by decide⟩ ⟨rfl, rfl⟩ [0, 0] rfl 0 rfl rfl rfl rfl (Nat.le_of_ble_eq_true rfl) dX6_readClass_187 190 rfl (Gs' := [gX6 cy oE aE E_46, gX0 cy (aE 0) aB B, gX1 cy (aE 1) aC C_34]) rfl ?_
            clear hu47
            have hi := (gd_some hf).1
            replace hf := (gd_some hf).2
            refine ww_iastR h 2 rfl (3 + (7 : Int32).toNatClampNeg) (gX1_row0 hj44) (ix_in hi) (gX1_set0 hj44) (Gs' := [gX6 cy oE aE E_46, gX0 cy (aE 0) aB B, gX1 cy (aE 1) aC (sG C_34 0 (7 : Int32).toNatClampNeg v1_6.toNatClampNeg r_45)]) rfl dX6_readClass_190 191 rfl ?_
            clear hi
            refine ww_nm (fun z => [gX6 cy oE aE E_46, gX0 cy (aE 0) aB B, gX1 cy (aE 1) aC z]) (sG C_34 0 (7 : Int32).toNatClampNeg v1_6.toNatClampNeg r_45) (fun C_48 e => ?_)
            replace hf := bnd_at e hf
            clear e
            refine ww_aload_n h dX6_readClass_191 rfl 0 rfl 192 rfl ?_
            refine ww_ldcS h 8 rfl dX6_readClass_192 194 rfl ?_
            obtain ⟨E_49, hu50, hf⟩ := ob1 hf
            refine ww_cVv h (c_X6_expect l D ev cy oE aE E_46 aB B 8 _ hu50) ⟨w_600, w_597, w_599, w_7, w_112, ok_X6_expect⟩ ⟨by decide, by decide⟩ ⟨by decide, by decide⟩ ⟨rfl, rfl⟩ [0, 0] rfl 0 rfl rfl rfl rfl (Nat.le_of_ble_eq_true rfl) dX6_readClass_194 197 rfl (Gs' := [gX6 cy oE aE E_49, gX0 cy (aE 0) aB B, gX1 cy (aE 1) aC C_48]) rfl ?_
            clear hu50
            refine ww_aload_n h dX6_readClass_197 rfl 0 rfl 198 rfl ?_
            refine ww_get h inG6 rfl 0 rfl rfl 1 (by decide) w_480 rfl dX6_readClass_198 201 rfl ?_
            refine ww_get h inG1 rfl 2 rfl rfl 0 (by decide) w_158 rfl dX6_readClass_201 204 rfl ?_
            refine ww_bipush (v := 8) h dX6_readClass_204 (by decide) 206 rfl ?_
            have hi := (gd_some hf).1
            replace hf := (gd_some hf).2
            have hj51 := ix_lt hi
            refine ww_aaldR h 2 rfl 1 rfl 4 rfl rfl (ix_in hi) dX6_readClass_206 207 rfl ?_
            clear hi
            refine ww_iload_n h dX6_readClass_207 rfl 1 rfl 208 rfl ?_
            refine ww_aload_n h dX6_readClass_208 rfl 0 rfl 209 rfl ?_
            refine ww_iconst (v := 1) h dX6_readClass_209 (by decide) 210 rfl ?_
            refine ww_iconst (v := 3) h dX6_readClass_210 (by decide) 211 rfl ?_
            obtain ⟨r_52, E_53, hu54, hf⟩ := ob2 hf
            refine ww_cVi h (c_X6_readNumber l D ev cy oE aE E_49 aB B (1 : Int32) (3 : Int32) _ hu54) ⟨w_604, w_601, w_603, w_8, w_112, ok_X6_readNumber⟩ ⟨by decide, by decide⟩ ⟨by decide, by decide⟩ ⟨rfl, rfl⟩ [0, 0] rfl 0 rfl rfl rfl rfl (Nat.le_of_ble_eq_true rfl) dX6_readClass_211 214 rfl (Gs' := [gX6 cy oE aE E_53, gX0 cy (aE 0) aB B, gX1 cy (aE 1) aC C_48]) rfl ?_
            clear hu54
            have hi := (gd_some hf).1
            replace hf := (gd_some hf).2
            refine ww_iastR h 2 rfl (3 + (8 : Int32).toNatClampNeg) (gX1_row0 hj51) (ix_in hi) (gX1_set0 hj51) (Gs' := [gX6 cy oE aE E_53, gX0 cy (aE 0) aB B, gX1 cy (aE 1) aC (sG C_48 0 (8 : Int32).toNatClampNeg v1_6.toNatClampNeg r_52)]) rfl dX6_readClass_214 215 rfl ?_
            clear hi
            refine ww_nm (fun z => [gX6 cy oE aE E_53, gX0 cy (aE 0) aB B, gX1 cy (aE 1) aC z]) (sG C_48 0 (8 : Int32).toNatClampNeg v1_6.toNatClampNeg r_52) (fun C_55 e => ?_)
            replace hf := bnd_at e hf
            clear e
            refine ww_lo [0] (lo' := [(0, .ref oE)]) rfl ?_
            exact hJ215_41 E_53 C_55 hf
        refine ww_if_eq h dX6_readClass_117 163 (by decide) 120 rfl (fun c => ?_) (fun c => ?_)
        · replace hf := ite_t c hf
          refine ww_lo [0, 1] (lo' := [(0, .ref oE), (1, .int v1_6)]) rfl ?_
          exact hJ163_35 E_31 C_28 hf
        · replace hf := ite_f c hf
          refine ww_aload_n h dX6_readClass_120 rfl 0 rfl 121 rfl ?_
          refine ww_get h inG6 rfl 0 rfl rfl 1 (by decide) w_480 rfl dX6_readClass_121 124 rfl ?_
          refine ww_get h inG1 rfl 2 rfl rfl 0 (by decide) w_158 rfl dX6_readClass_124 127 rfl ?_
          refine ww_iconst (v := 5) h dX6_readClass_127 (by decide) 128 rfl ?_
          have hi := (gd_some hf).1
          replace hf := (gd_some hf).2
          have hj56 := ix_lt hi
          refine ww_aaldR h 2 rfl 1 rfl 4 rfl rfl (ix_in hi) dX6_readClass_128 129 rfl ?_
          clear hi
          refine ww_iload_n h dX6_readClass_129 rfl 1 rfl 130 rfl ?_
          refine ww_aload_n h dX6_readClass_130 rfl 0 rfl 131 rfl ?_
          refine ww_iconst (v := 0) h dX6_readClass_131 (by decide) 132 rfl ?_
          refine ww_iload_n h dX6_readClass_132 rfl 2 rfl 133 rfl ?_
          refine ww_iconst (v := 1) h dX6_readClass_133 (by decide) 134 rfl ?_
          refine ww_isub h dX6_readClass_134 135 rfl ?_
          obtain ⟨r_57, E_58, hu59, hf⟩ := ob2 hf
          refine ww_cVi h (c_X6_readNumber l D ev cy oE aE E_31 aB B (0 : Int32) (v2_12 - (1 : Int32)) _ hu59) ⟨w_604, w_601, w_603, w_8, w_112, ok_X6_readNumber⟩ ⟨by decide, by decide⟩ ⟨by decide, by decide⟩ ⟨rfl, rfl⟩ [0, 0] rfl 0 rfl rfl rfl rfl (Nat.le_of_ble_eq_true rfl) dX6_readClass_135 138 rfl (Gs' := [gX6 cy oE aE E_58, gX0 cy (aE 0) aB B, gX1 cy (aE 1) aC C_28]) rfl ?_
          clear hu59
          have hi := (gd_some hf).1
          replace hf := (gd_some hf).2
          refine ww_iastR h 2 rfl (3 + (5 : Int32).toNatClampNeg) (gX1_row0 hj56) (ix_in hi) (gX1_set0 hj56) (Gs' := [gX6 cy oE aE E_58, gX0 cy (aE 0) aB B, gX1 cy (aE 1) aC (sG C_28 0 (5 : Int32).toNatClampNeg v1_6.toNatClampNeg r_57)]) rfl dX6_readClass_138 139 rfl ?_
          clear hi
          refine ww_nm (fun z => [gX6 cy oE aE E_58, gX0 cy (aE 0) aB B, gX1 cy (aE 1) aC z]) (sG C_28 0 (5 : Int32).toNatClampNeg v1_6.toNatClampNeg r_57) (fun C_60 e => ?_)
          replace hf := bnd_at e hf
          clear e
          refine ww_aload_n h dX6_readClass_139 rfl 0 rfl 140 rfl ?_
          refine ww_ldcS h 8 rfl dX6_readClass_140 142 rfl ?_
          obtain ⟨E_61, hu62, hf⟩ := ob1 hf
          refine ww_cVv h (c_X6_expect l D ev cy oE aE E_58 aB B 8 _ hu62) ⟨w_600, w_597, w_599, w_7, w_112, ok_X6_expect⟩ ⟨by decide, by decide⟩ ⟨by decide, by decide⟩ ⟨rfl, rfl⟩ [0, 0] rfl 0 rfl rfl rfl rfl (Nat.le_of_ble_eq_true rfl) dX6_readClass_142 145 rfl (Gs' := [gX6 cy oE aE E_61, gX0 cy (aE 0) aB B, gX1 cy (aE 1) aC C_60]) rfl ?_
          clear hu62
          refine ww_aload_n h dX6_readClass_145 rfl 0 rfl 146 rfl ?_
          refine ww_get h inG6 rfl 0 rfl rfl 1 (by decide) w_480 rfl dX6_readClass_146 149 rfl ?_
          refine ww_get h inG1 rfl 2 rfl rfl 0 (by decide) w_158 rfl dX6_readClass_149 152 rfl ?_
          refine ww_bipush (v := 6) h dX6_readClass_152 (by decide) 154 rfl ?_
          have hi := (gd_some hf).1
          replace hf := (gd_some hf).2
          have hj63 := ix_lt hi
          refine ww_aaldR h 2 rfl 1 rfl 4 rfl rfl (ix_in hi) dX6_readClass_154 155 rfl ?_
          clear hi
          refine ww_iload_n h dX6_readClass_155 rfl 1 rfl 156 rfl ?_
          refine ww_aload_n h dX6_readClass_156 rfl 0 rfl 157 rfl ?_
          refine ww_iconst (v := 1) h dX6_readClass_157 (by decide) 158 rfl ?_
          refine ww_iconst (v := 3) h dX6_readClass_158 (by decide) 159 rfl ?_
          obtain ⟨r_64, E_65, hu66, hf⟩ := ob2 hf
          refine ww_cVi h (c_X6_readNumber l D ev cy oE aE E_61 aB B (1 : Int32) (3 : Int32) _ hu66) ⟨w_604, w_601, w_603, w_8, w_112, ok_X6_readNumber⟩ ⟨by decide, by decide⟩ ⟨by decide, by decide⟩ ⟨rfl, rfl⟩ [0, 0] rfl 0 rfl rfl rfl rfl (Nat.le_of_ble_eq_true rfl) dX6_readClass_159 162 rfl (Gs' := [gX6 cy oE aE E_65, gX0 cy (aE 0) aB B, gX1 cy (aE 1) aC C_60]) rfl ?_
          clear hu66
          have hi := (gd_some hf).1
          replace hf := (gd_some hf).2
          refine ww_iastR h 2 rfl (3 + (6 : Int32).toNatClampNeg) (gX1_row0 hj63) (ix_in hi) (gX1_set0 hj63) (Gs' := [gX6 cy oE aE E_65, gX0 cy (aE 0) aB B, gX1 cy (aE 1) aC (sG C_60 0 (6 : Int32).toNatClampNeg v1_6.toNatClampNeg r_64)]) rfl dX6_readClass_162 163 rfl ?_
          clear hi
          refine ww_nm (fun z => [gX6 cy oE aE E_65, gX0 cy (aE 0) aB B, gX1 cy (aE 1) aC z]) (sG C_60 0 (6 : Int32).toNatClampNeg v1_6.toNatClampNeg r_64) (fun C_67 e => ?_)
          replace hf := bnd_at e hf
          clear e
          refine ww_lo [0, 1] (lo' := [(0, .ref oE), (1, .int v1_6)]) rfl ?_
          exact hJ163_35 E_65 C_67 hf
      refine ww_if_eq h dX6_readClass_89 111 (by decide) 92 rfl (fun c => ?_) (fun c => ?_)
      · replace hf := ite_t c hf
        exact hJ111_29 E_25 C_22 hf
      · replace hf := ite_f c hf
        refine ww_aload_n h dX6_readClass_92 rfl 0 rfl 93 rfl ?_
        refine ww_get h inG6 rfl 0 rfl rfl 1 (by decide) w_480 rfl dX6_readClass_93 96 rfl ?_
        refine ww_get h inG1 rfl 2 rfl rfl 0 (by decide) w_158 rfl dX6_readClass_96 99 rfl ?_
        refine ww_iconst (v := 4) h dX6_readClass_99 (by decide) 100 rfl ?_
        have hi := (gd_some hf).1
        replace hf := (gd_some hf).2
        have hj68 := ix_lt hi
        refine ww_aaldR h 2 rfl 1 rfl 4 rfl rfl (ix_in hi) dX6_readClass_100 101 rfl ?_
        clear hi
        refine ww_iload_n h dX6_readClass_101 rfl 1 rfl 102 rfl ?_
        refine ww_aload_n h dX6_readClass_102 rfl 0 rfl 103 rfl ?_
        refine ww_iconst (v := 0) h dX6_readClass_103 (by decide) 104 rfl ?_
        refine ww_iload_n h dX6_readClass_104 rfl 2 rfl 105 rfl ?_
        refine ww_iconst (v := 1) h dX6_readClass_105 (by decide) 106 rfl ?_
        refine ww_isub h dX6_readClass_106 107 rfl ?_
        obtain ⟨r_69, E_70, hu71, hf⟩ := ob2 hf
        refine ww_cVi h (c_X6_readNumber l D ev cy oE aE E_25 aB B (0 : Int32) (v2_12 - (1 : Int32)) _ hu71) ⟨w_604, w_601, w_603, w_8, w_112, ok_X6_readNumber⟩ ⟨by decide, by decide⟩ ⟨by decide, by decide⟩ ⟨rfl, rfl⟩ [0, 0] rfl 0 rfl rfl rfl rfl (Nat.le_of_ble_eq_true rfl) dX6_readClass_107 110 rfl (Gs' := [gX6 cy oE aE E_70, gX0 cy (aE 0) aB B, gX1 cy (aE 1) aC C_22]) rfl ?_
        clear hu71
        have hi := (gd_some hf).1
        replace hf := (gd_some hf).2
        refine ww_iastR h 2 rfl (3 + (4 : Int32).toNatClampNeg) (gX1_row0 hj68) (ix_in hi) (gX1_set0 hj68) (Gs' := [gX6 cy oE aE E_70, gX0 cy (aE 0) aB B, gX1 cy (aE 1) aC (sG C_22 0 (4 : Int32).toNatClampNeg v1_6.toNatClampNeg r_69)]) rfl dX6_readClass_110 111 rfl ?_
        clear hi
        refine ww_nm (fun z => [gX6 cy oE aE E_70, gX0 cy (aE 0) aB B, gX1 cy (aE 1) aC z]) (sG C_22 0 (4 : Int32).toNatClampNeg v1_6.toNatClampNeg r_69) (fun C_72 e => ?_)
        replace hf := bnd_at e hf
        clear e
        exact hJ111_29 E_70 C_72 hf
    refine ww_if_eq h dX6_readClass_68 83 (by decide) 71 rfl (fun c => ?_) (fun c => ?_)
    · replace hf := ite_t c hf
      refine ww_lo [2, 1, 0] (lo' := [(0, .ref oE), (1, .int v1_6), (2, .int v2_12)]) rfl ?_
      exact hJ83_23 C_17 hf
    · replace hf := ite_f c hf
      refine ww_aload_n h dX6_readClass_71 rfl 2 rfl 72 rfl ?_
      refine ww_get h inG6 rfl 0 rfl rfl 1 (by decide) w_480 rfl dX6_readClass_72 75 rfl ?_
      refine ww_get h inG1 rfl 2 rfl rfl 0 (by decide) w_158 rfl dX6_readClass_75 78 rfl ?_
      refine ww_iconst (v := 3) h dX6_readClass_78 (by decide) 79 rfl ?_
      have hi := (gd_some hf).1
      replace hf := (gd_some hf).2
      have hj73 := ix_lt hi
      refine ww_aaldR h 2 rfl 1 rfl 4 rfl rfl (ix_in hi) dX6_readClass_79 80 rfl ?_
      clear hi
      refine ww_iload_n h dX6_readClass_80 rfl 1 rfl 81 rfl ?_
      refine ww_iconst (v := 1) h dX6_readClass_81 (by decide) 82 rfl ?_
      have hi := (gd_some hf).1
      replace hf := (gd_some hf).2
      refine ww_iastR h 2 rfl (3 + (3 : Int32).toNatClampNeg) (gX1_row0 hj73) (ix_in hi) (gX1_set0 hj73) (Gs' := [gX6 cy oE aE E_20, gX0 cy (aE 0) aB B, gX1 cy (aE 1) aC (sG C_17 0 (3 : Int32).toNatClampNeg v1_6.toNatClampNeg (1 : Int32))]) rfl dX6_readClass_82 83 rfl ?_
      clear hi
      refine ww_nm (fun z => [gX6 cy oE aE E_20, gX0 cy (aE 0) aB B, gX1 cy (aE 1) aC z]) (sG C_17 0 (3 : Int32).toNatClampNeg v1_6.toNatClampNeg (1 : Int32)) (fun C_74 e => ?_)
      replace hf := bnd_at e hf
      clear e
      refine ww_lo [2, 1, 0] (lo' := [(0, .ref oE), (1, .int v1_6), (2, .int v2_12)]) rfl ?_
      exact hJ83_23 C_74 hf
  · replace hf := ite_f c hf
    obtain rfl := Option.some.inj hf
    exact ww_vret h dX6_readClass_31 hQ ⟨rfl, rfl⟩
theorem dX6_readTable_0 : decode cX6_readTable 0 = .ok (.aload_n 0, 1) := by decide +kernel
theorem dX6_readTable_1 : decode cX6_readTable 1 = .ok (.getfield 15, 3) := by decide +kernel
theorem dX6_readTable_4 : decode cX6_readTable 4 = .ok (.invokevirtual 32, 3) := by decide +kernel
theorem dX6_readTable_7 : decode cX6_readTable 7 = .ok (.aload_n 0, 1) := by decide +kernel
theorem dX6_readTable_8 : decode cX6_readTable 8 = .ok (.invokevirtual 37, 3) := by decide +kernel
theorem dX6_readTable_11 : decode cX6_readTable 11 = .ok (.iconst 0, 1) := by decide +kernel
theorem dX6_readTable_12 : decode cX6_readTable 12 = .ok (.istore_n 1, 1) := by decide +kernel
theorem dX6_readTable_13 : decode cX6_readTable 13 = .ok (.iload_n 1, 1) := by decide +kernel
theorem dX6_readTable_14 : decode cX6_readTable 14 = .ok (.aload_n 0, 1) := by decide +kernel
theorem dX6_readTable_15 : decode cX6_readTable 15 = .ok (.getfield 9, 3) := by decide +kernel
theorem dX6_readTable_18 : decode cX6_readTable 18 = .ok (.getfield 40, 3) := by decide +kernel
theorem dX6_readTable_21 : decode cX6_readTable 21 = .ok (.if_icmp .gt 45, 3) := by decide +kernel
theorem dX6_readTable_24 : decode cX6_readTable 24 = .ok (.aload_n 0, 1) := by decide +kernel
theorem dX6_readTable_25 : decode cX6_readTable 25 = .ok (.getfield 29, 3) := by decide +kernel
theorem dX6_readTable_28 : decode cX6_readTable 28 = .ok (.iconst (-1), 1) := by decide +kernel
theorem dX6_readTable_29 : decode cX6_readTable 29 = .ok (.if_icmp .ne 37, 3) := by decide +kernel
theorem dX6_readTable_32 : decode cX6_readTable 32 = .ok (.aload_n 0, 1) := by decide +kernel
theorem dX6_readTable_33 : decode cX6_readTable 33 = .ok (.getfield 19, 3) := by decide +kernel
theorem dX6_readTable_36 : decode cX6_readTable 36 = .ok (.iconst 5, 1) := by decide +kernel
theorem dX6_readTable_37 : decode cX6_readTable 37 = .ok (.if_icmp .eq 29, 3) := by decide +kernel
theorem dX6_readTable_40 : decode cX6_readTable 40 = .ok (.aload_n 0, 1) := by decide +kernel
theorem dX6_readTable_41 : decode cX6_readTable 41 = .ok (.ldc 45, 2) := by decide +kernel
theorem dX6_readTable_43 : decode cX6_readTable 43 = .ok (.invokevirtual 47, 3) := by decide +kernel
theorem dX6_readTable_46 : decode cX6_readTable 46 = .ok (.ifCond .eq 10, 3) := by decide +kernel
theorem dX6_readTable_49 : decode cX6_readTable 49 = .ok (.aload_n 0, 1) := by decide +kernel
theorem dX6_readTable_50 : decode cX6_readTable 50 = .ok (.invokevirtual 51, 3) := by decide +kernel
theorem dX6_readTable_53 : decode cX6_readTable 53 = .ok (.goto 7, 3) := by decide +kernel
theorem dX6_readTable_56 : decode cX6_readTable 56 = .ok (.aload_n 0, 1) := by decide +kernel
theorem dX6_readTable_57 : decode cX6_readTable 57 = .ok (.invokevirtual 54, 3) := by decide +kernel
theorem dX6_readTable_60 : decode cX6_readTable 60 = .ok (.iinc 1 1, 3) := by decide +kernel
theorem dX6_readTable_63 : decode cX6_readTable 63 = .ok (.goto (-50), 3) := by decide +kernel
theorem dX6_readTable_66 : decode cX6_readTable 66 = .ok (.aload_n 0, 1) := by decide +kernel
theorem dX6_readTable_67 : decode cX6_readTable 67 = .ok (.getfield 29, 3) := by decide +kernel
theorem dX6_readTable_70 : decode cX6_readTable 70 = .ok (.ireturn, 1) := by decide +kernel
theorem ok_X6_readTable : okY RX6 yX6_readTable 0 := ⟨rfl, by decide, by decide, by decide +kernel⟩
def j_X6_readTable_60_14 (v1_7 : Int32) (E_12 : OV) (C_13 : OV) : Option ((Int32 × OV × OV) ⊕ (OV × OV)) := bnd (v1_7 + 1) (fun v1_15 => some (.inl (v1_15, E_12, C_13)))
def s_X6_readTable_13_6 (aB : Nat → Nat) (B : OV) : (Int32 × OV × OV) → Option ((Int32 × OV × OV) ⊕ (OV × OV)) := un3 (fun v1_7 E_8 C_9 => (if (iv B 1) < v1_7 then some (.inr (E_8, C_9)) else (if (iv E_8 5) = (-1 : Int32) then (if (iv E_8 2) = (5 : Int32) then some (.inr (E_8, C_9)) else (f_X6_isText E_8 aB B 0).bind (un1 (fun r_10 => (if r_10 = 0 then (f_X6_readPair E_8 aB B C_9).bind (un2 (fun E_16 C_17 => j_X6_readTable_60_14 v1_7 E_16 C_17)) else (f_X6_readClass E_8 aB B C_9).bind (un2 (fun E_19 C_20 => j_X6_readTable_60_14 v1_7 E_19 C_20)))))) else some (.inr (E_8, C_9)))))
def f_X6_readTable (E : OV) (aB : Nat → Nat) (B : OV) (C : OV) : Option (Int32 × OV × OV) := (f_X1_clear C).bind (un1 (fun C_1 => (f_X6_next E aB B).bind (un1 (fun E_3 => bnd (0 : Int32) (fun v1_5 => ((lp (s_X6_readTable_13_6 aB B) 5000 (v1_5, E_3, C_1)).bind (un2 (fun E_22 C_23 => some ((iv E_22 5), E_22, C_23)))))))))
def r_X6_readTable : Room := { frames := 8, cells := 0, slots := 0, locals := 172 }
set_option maxHeartbeats 4000000 in
set_option maxRecDepth 100000 in
theorem c_X6_readTable (l : Launch) (D : va_G) (ev : EvT) (cy : Nat → ClassId) (oE : Nat) (aE : Nat → Nat) (E : OV) (aB : Nat → Nat) (B : OV) (aC : Nat → Nat) (C : OV) (o : Int32 × OV × OV) (hf : f_X6_readTable E aB B C = some o) : Fn l yX6_readTable cX6_readTable 2 (some .int) r_X6_readTable D ev cy [.ref oE] [gX6 cy oE aE E, gX0 cy (aE 0) aB B, gX1 cy (aE 1) aC C] (fun v G => v = some (.int o.1) ∧ G = [gX6 cy oE aE o.2.1, gX0 cy (aE 0) aB B, gX1 cy (aE 1) aC o.2.2]) := by
  refine Fn_of (by decide) (Nat.le_of_ble_eq_true rfl) (fun X A Q h hQ _ => ?_)
  unfold f_X6_readTable at hf
  show ww X D A 2 Q 0 0 0 [(0, .ref oE)] [] [gX6 cy oE aE E, gX0 cy (aE 0) aB B, gX1 cy (aE 1) aC C]
  refine ww_aload_n h dX6_readTable_0 rfl 0 rfl 1 rfl ?_
  refine ww_get h inG6 rfl 0 rfl rfl 1 (by decide) w_480 rfl dX6_readTable_1 4 rfl ?_
  obtain ⟨C_1, hu2, hf⟩ := ob1 hf
  refine ww_cVv h (c_X1_clear l D ev cy (aE 1) aC C _ hu2) ⟨w_505, w_502, w_503, w_504, w_104, ok_X1_clear⟩ ⟨by decide, by decide⟩ ⟨by decide, by decide⟩ ⟨rfl, rfl⟩ [2] rfl 0 rfl rfl rfl rfl (Nat.le_of_ble_eq_true rfl) dX6_readTable_4 7 rfl (Gs' := [gX1 cy (aE 1) aC C_1, gX6 cy oE aE E, gX0 cy (aE 0) aB B]) rfl ?_
  clear hu2
  refine ww_aload_n h dX6_readTable_7 rfl 0 rfl 8 rfl ?_
  obtain ⟨E_3, hu4, hf⟩ := ob1 hf
  refine ww_cVv h (c_X6_next l D ev cy oE aE E aB B _ hu4) ⟨w_512, w_509, w_511, w_0, w_112, ok_X6_next⟩ ⟨by decide, by decide⟩ ⟨by decide, by decide⟩ ⟨rfl, rfl⟩ [1, 1] rfl 0 rfl rfl rfl rfl (Nat.le_of_ble_eq_true rfl) dX6_readTable_8 11 rfl (Gs' := [gX6 cy oE aE E_3, gX0 cy (aE 0) aB B, gX1 cy (aE 1) aC C_1]) rfl ?_
  clear hu4
  refine ww_iconst (v := 0) h dX6_readTable_11 (by decide) 12 rfl ?_
  refine ww_ist_n h dX6_readTable_12 rfl (by decide) (fun v1_5 => [(1, .int v1_5), (0, .ref oE)]) (fun _ => rfl) 13 rfl (fun v1_5 e => ?_)
  replace hf := bnd_at e hf
  clear e
  refine ww_lo [1, 0] (lo' := [(0, .ref oE), (1, .int v1_5)]) rfl ?_
  obtain ⟨E_22, C_23, h6, hf⟩ := ob2 hf
  refine lp_walk (un3 (fun v1_7 E_8 C_9 => ww X D A 2 Q 0 0 13 [(0, .ref oE), (1, .int v1_7)] [] [gX6 cy oE aE E_8, gX0 cy (aE 0) aB B, gX1 cy (aE 1) aC C_9])) (un2 (fun E_22 C_23 => ww X D A 2 Q 0 0 66 [(0, .ref oE)] [] [gX6 cy oE aE E_22, gX0 cy (aE 0) aB B, gX1 cy (aE 1) aC C_23])) ?_ _ _ _ h6 ?_
  · clear h6 hf
    intro s6 o6 hf hI6 hE6
    obtain ⟨v1_7, E_8, C_9⟩ := s6
    unfold s_X6_readTable_13_6 at hf
    replace hf := un3_e hf
    show ww X D A 2 Q 0 0 13 [(0, .ref oE), (1, .int v1_7)] [] [gX6 cy oE aE E_8, gX0 cy (aE 0) aB B, gX1 cy (aE 1) aC C_9]
    refine ww_iload_n h dX6_readTable_13 rfl 1 rfl 14 rfl ?_
    refine ww_aload_n h dX6_readTable_14 rfl 0 rfl 15 rfl ?_
    refine ww_get h inG6 rfl 0 rfl rfl 0 (by decide) w_479 rfl dX6_readTable_15 18 rfl ?_
    refine ww_get h inG0 rfl 1 rfl rfl 1 (by decide) w_142 rfl dX6_readTable_18 21 rfl ?_
    refine ww_icmp_gt h dX6_readTable_21 66 (by decide) 24 rfl (fun c => ?_) (fun c => ?_)
    · replace hf := ite_t c hf
      refine ww_lo [0] (lo' := [(0, .ref oE)]) rfl ?_
      exact hE6 (E_8, C_9) (Option.some.inj hf).symm
    · replace hf := ite_f c hf
      refine ww_aload_n h dX6_readTable_24 rfl 0 rfl 25 rfl ?_
      refine ww_get h inG6 rfl 0 rfl rfl 5 (by decide) w_484 rfl dX6_readTable_25 28 rfl ?_
      refine ww_iconst (v := (-1)) h dX6_readTable_28 (by decide) 29 rfl ?_
      refine ww_icmp_ne h dX6_readTable_29 66 (by decide) 32 rfl (fun c => ?_) (fun c => ?_)
      · replace hf := ite_f c hf
        refine ww_lo [0] (lo' := [(0, .ref oE)]) rfl ?_
        exact hE6 (E_8, C_9) (Option.some.inj hf).symm
      · replace hf := ite_t c hf
        refine ww_aload_n h dX6_readTable_32 rfl 0 rfl 33 rfl ?_
        refine ww_get h inG6 rfl 0 rfl rfl 2 (by decide) w_481 rfl dX6_readTable_33 36 rfl ?_
        refine ww_iconst (v := 5) h dX6_readTable_36 (by decide) 37 rfl ?_
        refine ww_icmp_eq h dX6_readTable_37 66 (by decide) 40 rfl (fun c => ?_) (fun c => ?_)
        · replace hf := ite_t c hf
          refine ww_lo [0] (lo' := [(0, .ref oE)]) rfl ?_
          exact hE6 (E_8, C_9) (Option.some.inj hf).symm
        · replace hf := ite_f c hf
          refine ww_aload_n h dX6_readTable_40 rfl 0 rfl 41 rfl ?_
          refine ww_ldcS h 0 rfl dX6_readTable_41 43 rfl ?_
          obtain ⟨r_10, hu11, hf⟩ := ob1 hf
          refine ww_cVi h (c_X6_isText l D ev cy oE aE E_8 aB B 0 _ hu11) ⟨w_527, w_524, w_526, w_2, w_112, ok_X6_isText⟩ ⟨by decide, by decide⟩ ⟨by decide, by decide⟩ ⟨rfl, rfl⟩ [0, 0] rfl 0 rfl rfl rfl rfl (Nat.le_of_ble_eq_true rfl) dX6_readTable_43 46 rfl (Gs' := [gX6 cy oE aE E_8, gX0 cy (aE 0) aB B, gX1 cy (aE 1) aC C_9]) rfl ?_
          clear hu11
          have hJ60_14 : ∀ (E_12 : OV) (C_13 : OV), j_X6_readTable_60_14 v1_7 E_12 C_13 = some o6 → ww X D A 2 Q 0 0 60 [(0, .ref oE), (1, .int v1_7)] [] [gX6 cy oE aE E_12, gX0 cy (aE 0) aB B, gX1 cy (aE 1) aC C_13] := by
            intro E_12 C_13 hf
            unfold j_X6_readTable_60_14 at hf
            refine ww_inc (c := 1) h dX6_readTable_60 1 rfl (by decide) (by decide) (fun v1_15 => [(1, .int v1_15), (0, .ref oE)]) (fun _ => rfl) 63 rfl (fun v1_15 e => ?_)
            replace hf := bnd_at e hf
            clear e
            refine ww_goto h dX6_readTable_63 13 (by decide) ?_
            refine ww_lo [1, 0] (lo' := [(0, .ref oE), (1, .int v1_15)]) rfl ?_
            exact hI6 (v1_15, E_12, C_13) (Option.some.inj hf).symm
          refine ww_if_eq h dX6_readTable_46 56 (by decide) 49 rfl (fun c => ?_) (fun c => ?_)
          · replace hf := ite_t c hf
            refine ww_aload_n h dX6_readTable_56 rfl 0 rfl 57 rfl ?_
            obtain ⟨E_16, C_17, hu18, hf⟩ := ob2 hf
            refine ww_cVv h (c_X6_readPair l D ev cy oE aE E_8 aB B aC C_9 _ hu18) ⟨w_628, w_625, w_627, w_12, w_112, ok_X6_readPair⟩ ⟨by decide, by decide⟩ ⟨by decide, by decide⟩ ⟨rfl, rfl⟩ [0, 0, 0] rfl 0 rfl rfl rfl rfl (Nat.le_of_ble_eq_true rfl) dX6_readTable_57 60 rfl (Gs' := [gX6 cy oE aE E_16, gX0 cy (aE 0) aB B, gX1 cy (aE 1) aC C_17]) rfl ?_
            clear hu18
            exact hJ60_14 E_16 C_17 hf
          · replace hf := ite_f c hf
            refine ww_aload_n h dX6_readTable_49 rfl 0 rfl 50 rfl ?_
            obtain ⟨E_19, C_20, hu21, hf⟩ := ob2 hf
            refine ww_cVv h (c_X6_readClass l D ev cy oE aE E_8 aB B aC C_9 _ hu21) ⟨w_579, w_576, w_578, w_3, w_112, ok_X6_readClass⟩ ⟨by decide, by decide⟩ ⟨by decide, by decide⟩ ⟨rfl, rfl⟩ [0, 0, 0] rfl 0 rfl rfl rfl rfl (Nat.le_of_ble_eq_true rfl) dX6_readTable_50 53 rfl (Gs' := [gX6 cy oE aE E_19, gX0 cy (aE 0) aB B, gX1 cy (aE 1) aC C_20]) rfl ?_
            clear hu21
            refine ww_goto h dX6_readTable_53 60 (by decide) ?_
            exact hJ60_14 E_19 C_20 hf
  · clear h6
    show ww X D A 2 Q 0 0 66 [(0, .ref oE)] [] [gX6 cy oE aE E_22, gX0 cy (aE 0) aB B, gX1 cy (aE 1) aC C_23]
    refine ww_aload_n h dX6_readTable_66 rfl 0 rfl 67 rfl ?_
    refine ww_get h inG6 rfl 0 rfl rfl 5 (by decide) w_484 rfl dX6_readTable_67 70 rfl ?_
    obtain rfl := Option.some.inj hf
    exact ww_iret h dX6_readTable_70 hQ ⟨rfl, rfl⟩
