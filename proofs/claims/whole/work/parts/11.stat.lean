theorem dX9_bitOf_0 : decode cX9_bitOf 0 = .ok (.iload_n 0, 1) := by decide +kernel
theorem dX9_bitOf_1 : decode cX9_bitOf 1 = .ok (.iload_n 1, 1) := by decide +kernel
theorem dX9_bitOf_2 : decode cX9_bitOf 2 = .ok (.ishr, 1) := by decide +kernel
theorem dX9_bitOf_3 : decode cX9_bitOf 3 = .ok (.iconst 1, 1) := by decide +kernel
theorem dX9_bitOf_4 : decode cX9_bitOf 4 = .ok (.iand, 1) := by decide +kernel
theorem dX9_bitOf_5 : decode cX9_bitOf 5 = .ok (.ireturn, 1) := by decide +kernel
theorem ok_X9_bitOf : okY RX9 yX9_bitOf 2 := ⟨rfl, by decide, by decide, by decide +kernel⟩
def f_X9_bitOf (p0 : Int32) (p1 : Int32) : Option (Int32) := some ((p0 >>> (p1 &&& 31)) &&& (1 : Int32))
def r_X9_bitOf : Room := { frames := 0, cells := 0, slots := 0, locals := 0 }
set_option maxHeartbeats 4000000 in
set_option maxRecDepth 100000 in
theorem c_X9_bitOf (l : Launch) (D : va_G) (ev : EvT) (cy : Nat → ClassId) (p0 : Int32) (p1 : Int32) (o : Int32) (hf : f_X9_bitOf p0 p1 = some o) : Fn l yX9_bitOf cX9_bitOf 2 (some .int) r_X9_bitOf D ev cy [.int p0, .int p1] [] (fun v G => v = some (.int o) ∧ G = []) := by
  refine Fn_of (by decide) (Nat.le_of_ble_eq_true rfl) (fun X A Q h hQ _ => ?_)
  unfold f_X9_bitOf at hf
  show ww X D A 2 Q 0 0 0 [(0, .int p0), (1, .int p1)] [] []
  refine ww_iload_n h dX9_bitOf_0 rfl 0 rfl 1 rfl ?_
  refine ww_iload_n h dX9_bitOf_1 rfl 1 rfl 2 rfl ?_
  refine ww_ishr h dX9_bitOf_2 3 rfl ?_
  refine ww_iconst (v := 1) h dX9_bitOf_3 (by decide) 4 rfl ?_
  refine ww_iand h dX9_bitOf_4 5 rfl ?_
  obtain rfl := Option.some.inj hf
  exact ww_iret h dX9_bitOf_5 hQ ⟨rfl, rfl⟩
theorem dX9_isKind_0 : decode cX9_isKind 0 = .ok (.iload_n 0, 1) := by decide +kernel
theorem dX9_isKind_1 : decode cX9_isKind 1 = .ok (.ifCond .lt 12, 3) := by decide +kernel
theorem dX9_isKind_4 : decode cX9_isKind 4 = .ok (.iload_n 0, 1) := by decide +kernel
theorem dX9_isKind_5 : decode cX9_isKind 5 = .ok (.iconst 4, 1) := by decide +kernel
theorem dX9_isKind_6 : decode cX9_isKind 6 = .ok (.if_icmp .ge 7, 3) := by decide +kernel
theorem dX9_isKind_9 : decode cX9_isKind 9 = .ok (.iconst 1, 1) := by decide +kernel
theorem dX9_isKind_10 : decode cX9_isKind 10 = .ok (.goto 4, 3) := by decide +kernel
theorem dX9_isKind_13 : decode cX9_isKind 13 = .ok (.iconst 0, 1) := by decide +kernel
theorem dX9_isKind_14 : decode cX9_isKind 14 = .ok (.ireturn, 1) := by decide +kernel
theorem ok_X9_isKind : okY RX9 yX9_isKind 1 := ⟨rfl, by decide, by decide, by decide +kernel⟩
def j_X9_isKind_13_1 : Option (Int32) := some (0 : Int32)
def f_X9_isKind (p0 : Int32) : Option (Int32) := (if p0 < 0 then j_X9_isKind_13_1 else (if (4 : Int32) ≤ p0 then j_X9_isKind_13_1 else some (1 : Int32)))
def r_X9_isKind : Room := { frames := 0, cells := 0, slots := 0, locals := 0 }
set_option maxHeartbeats 4000000 in
set_option maxRecDepth 100000 in
theorem c_X9_isKind (l : Launch) (D : va_G) (ev : EvT) (cy : Nat → ClassId) (p0 : Int32) (o : Int32) (hf : f_X9_isKind p0 = some o) : Fn l yX9_isKind cX9_isKind 1 (some .boolean) r_X9_isKind D ev cy [.int p0] [] (fun v G => v = some (.int o) ∧ G = []) := by
  refine Fn_of (by decide) (Nat.le_of_ble_eq_true rfl) (fun X A Q h hQ _ => ?_)
  unfold f_X9_isKind at hf
  show ww X D A 1 Q 0 0 0 [(0, .int p0)] [] []
  refine ww_iload_n h dX9_isKind_0 rfl 0 rfl 1 rfl ?_
  have hJ13_1 : ∀ (_ : Unit), j_X9_isKind_13_1 = some o → ww X D A 1 Q 0 0 13 [] [] [] := by
    intro _ hf
    unfold j_X9_isKind_13_1 at hf
    refine ww_iconst (v := 0) h dX9_isKind_13 (by decide) 14 rfl ?_
    obtain rfl := Option.some.inj hf
    exact ww_zret h (Or.inl rfl) dX9_isKind_14 hQ ⟨rfl, rfl⟩
  refine ww_if_lt h dX9_isKind_1 13 (by decide) 4 rfl (fun c => ?_) (fun c => ?_)
  · replace hf := ite_t c hf
    refine ww_lo [] (lo' := []) rfl ?_
    exact hJ13_1 () hf
  · replace hf := ite_f c hf
    refine ww_iload_n h dX9_isKind_4 rfl 0 rfl 5 rfl ?_
    refine ww_iconst (v := 4) h dX9_isKind_5 (by decide) 6 rfl ?_
    refine ww_icmp_ge h dX9_isKind_6 13 (by decide) 9 rfl (fun c => ?_) (fun c => ?_)
    · replace hf := ite_t c hf
      refine ww_lo [] (lo' := []) rfl ?_
      exact hJ13_1 () hf
    · replace hf := ite_f c hf
      refine ww_iconst (v := 1) h dX9_isKind_9 (by decide) 10 rfl ?_
      refine ww_goto h dX9_isKind_10 14 (by decide) ?_
      obtain rfl := Option.some.inj hf
      exact ww_zret h (Or.inr rfl) dX9_isKind_14 hQ ⟨rfl, rfl⟩
theorem dX9_isMark_0 : decode cX9_isMark 0 = .ok (.iload_n 0, 1) := by decide +kernel
theorem dX9_isMark_1 : decode cX9_isMark 1 = .ok (.ifCond .lt 12, 3) := by decide +kernel
theorem dX9_isMark_4 : decode cX9_isMark 4 = .ok (.iload_n 0, 1) := by decide +kernel
theorem dX9_isMark_5 : decode cX9_isMark 5 = .ok (.iconst 2, 1) := by decide +kernel
theorem dX9_isMark_6 : decode cX9_isMark 6 = .ok (.if_icmp .gt 7, 3) := by decide +kernel
theorem dX9_isMark_9 : decode cX9_isMark 9 = .ok (.iconst 1, 1) := by decide +kernel
theorem dX9_isMark_10 : decode cX9_isMark 10 = .ok (.goto 4, 3) := by decide +kernel
theorem dX9_isMark_13 : decode cX9_isMark 13 = .ok (.iconst 0, 1) := by decide +kernel
theorem dX9_isMark_14 : decode cX9_isMark 14 = .ok (.ireturn, 1) := by decide +kernel
theorem ok_X9_isMark : okY RX9 yX9_isMark 1 := ⟨rfl, by decide, by decide, by decide +kernel⟩
def j_X9_isMark_13_1 : Option (Int32) := some (0 : Int32)
def f_X9_isMark (p0 : Int32) : Option (Int32) := (if p0 < 0 then j_X9_isMark_13_1 else (if (2 : Int32) < p0 then j_X9_isMark_13_1 else some (1 : Int32)))
def r_X9_isMark : Room := { frames := 0, cells := 0, slots := 0, locals := 0 }
set_option maxHeartbeats 4000000 in
set_option maxRecDepth 100000 in
theorem c_X9_isMark (l : Launch) (D : va_G) (ev : EvT) (cy : Nat → ClassId) (p0 : Int32) (o : Int32) (hf : f_X9_isMark p0 = some o) : Fn l yX9_isMark cX9_isMark 1 (some .boolean) r_X9_isMark D ev cy [.int p0] [] (fun v G => v = some (.int o) ∧ G = []) := by
  refine Fn_of (by decide) (Nat.le_of_ble_eq_true rfl) (fun X A Q h hQ _ => ?_)
  unfold f_X9_isMark at hf
  show ww X D A 1 Q 0 0 0 [(0, .int p0)] [] []
  refine ww_iload_n h dX9_isMark_0 rfl 0 rfl 1 rfl ?_
  have hJ13_1 : ∀ (_ : Unit), j_X9_isMark_13_1 = some o → ww X D A 1 Q 0 0 13 [] [] [] := by
    intro _ hf
    unfold j_X9_isMark_13_1 at hf
    refine ww_iconst (v := 0) h dX9_isMark_13 (by decide) 14 rfl ?_
    obtain rfl := Option.some.inj hf
    exact ww_zret h (Or.inl rfl) dX9_isMark_14 hQ ⟨rfl, rfl⟩
  refine ww_if_lt h dX9_isMark_1 13 (by decide) 4 rfl (fun c => ?_) (fun c => ?_)
  · replace hf := ite_t c hf
    refine ww_lo [] (lo' := []) rfl ?_
    exact hJ13_1 () hf
  · replace hf := ite_f c hf
    refine ww_iload_n h dX9_isMark_4 rfl 0 rfl 5 rfl ?_
    refine ww_iconst (v := 2) h dX9_isMark_5 (by decide) 6 rfl ?_
    refine ww_icmp_gt h dX9_isMark_6 13 (by decide) 9 rfl (fun c => ?_) (fun c => ?_)
    · replace hf := ite_t c hf
      refine ww_lo [] (lo' := []) rfl ?_
      exact hJ13_1 () hf
    · replace hf := ite_f c hf
      refine ww_iconst (v := 1) h dX9_isMark_9 (by decide) 10 rfl ?_
      refine ww_goto h dX9_isMark_10 14 (by decide) ?_
      obtain rfl := Option.some.inj hf
      exact ww_zret h (Or.inr rfl) dX9_isMark_14 hQ ⟨rfl, rfl⟩
theorem dX9_isWidth_0 : decode cX9_isWidth 0 = .ok (.iload_n 0, 1) := by decide +kernel
theorem dX9_isWidth_1 : decode cX9_isWidth 1 = .ok (.iconst 4, 1) := by decide +kernel
theorem dX9_isWidth_2 : decode cX9_isWidth 2 = .ok (.if_icmp .lt 13, 3) := by decide +kernel
theorem dX9_isWidth_5 : decode cX9_isWidth 5 = .ok (.iload_n 0, 1) := by decide +kernel
theorem dX9_isWidth_6 : decode cX9_isWidth 6 = .ok (.bipush 80, 2) := by decide +kernel
theorem dX9_isWidth_8 : decode cX9_isWidth 8 = .ok (.if_icmp .gt 7, 3) := by decide +kernel
theorem dX9_isWidth_11 : decode cX9_isWidth 11 = .ok (.iconst 1, 1) := by decide +kernel
theorem dX9_isWidth_12 : decode cX9_isWidth 12 = .ok (.goto 4, 3) := by decide +kernel
theorem dX9_isWidth_15 : decode cX9_isWidth 15 = .ok (.iconst 0, 1) := by decide +kernel
theorem dX9_isWidth_16 : decode cX9_isWidth 16 = .ok (.ireturn, 1) := by decide +kernel
theorem ok_X9_isWidth : okY RX9 yX9_isWidth 1 := ⟨rfl, by decide, by decide, by decide +kernel⟩
def j_X9_isWidth_15_1 : Option (Int32) := some (0 : Int32)
def f_X9_isWidth (p0 : Int32) : Option (Int32) := (if p0 < (4 : Int32) then j_X9_isWidth_15_1 else (if (80 : Int32) < p0 then j_X9_isWidth_15_1 else some (1 : Int32)))
def r_X9_isWidth : Room := { frames := 0, cells := 0, slots := 0, locals := 0 }
set_option maxHeartbeats 4000000 in
set_option maxRecDepth 100000 in
theorem c_X9_isWidth (l : Launch) (D : va_G) (ev : EvT) (cy : Nat → ClassId) (p0 : Int32) (o : Int32) (hf : f_X9_isWidth p0 = some o) : Fn l yX9_isWidth cX9_isWidth 1 (some .boolean) r_X9_isWidth D ev cy [.int p0] [] (fun v G => v = some (.int o) ∧ G = []) := by
  refine Fn_of (by decide) (Nat.le_of_ble_eq_true rfl) (fun X A Q h hQ _ => ?_)
  unfold f_X9_isWidth at hf
  show ww X D A 1 Q 0 0 0 [(0, .int p0)] [] []
  refine ww_iload_n h dX9_isWidth_0 rfl 0 rfl 1 rfl ?_
  refine ww_iconst (v := 4) h dX9_isWidth_1 (by decide) 2 rfl ?_
  have hJ15_1 : ∀ (_ : Unit), j_X9_isWidth_15_1 = some o → ww X D A 1 Q 0 0 15 [] [] [] := by
    intro _ hf
    unfold j_X9_isWidth_15_1 at hf
    refine ww_iconst (v := 0) h dX9_isWidth_15 (by decide) 16 rfl ?_
    obtain rfl := Option.some.inj hf
    exact ww_zret h (Or.inl rfl) dX9_isWidth_16 hQ ⟨rfl, rfl⟩
  refine ww_icmp_lt h dX9_isWidth_2 15 (by decide) 5 rfl (fun c => ?_) (fun c => ?_)
  · replace hf := ite_t c hf
    refine ww_lo [] (lo' := []) rfl ?_
    exact hJ15_1 () hf
  · replace hf := ite_f c hf
    refine ww_iload_n h dX9_isWidth_5 rfl 0 rfl 6 rfl ?_
    refine ww_bipush (v := 80) h dX9_isWidth_6 (by decide) 8 rfl ?_
    refine ww_icmp_gt h dX9_isWidth_8 15 (by decide) 11 rfl (fun c => ?_) (fun c => ?_)
    · replace hf := ite_t c hf
      refine ww_lo [] (lo' := []) rfl ?_
      exact hJ15_1 () hf
    · replace hf := ite_f c hf
      refine ww_iconst (v := 1) h dX9_isWidth_11 (by decide) 12 rfl ?_
      refine ww_goto h dX9_isWidth_12 16 (by decide) ?_
      obtain rfl := Option.some.inj hf
      exact ww_zret h (Or.inr rfl) dX9_isWidth_16 hQ ⟨rfl, rfl⟩
