theorem L_layout {o : Nat → Nat} {a : Nat → Nat → Nat} {L P R N C Y : OV} {tb : Tb} {p : Pg} {kd : Nat} (hkd : kd < 4) (hL : nv L 10 = o 10) (hR0 : R0 R) (hr : iv L 12 = 0 ∨ RR (o 10) (a 0 2) R tb p) (hC : RC C tb) (hP : RP P p) (hs : PgS p) (hT : TbS tb) (hpt : PgT tb p) (hY : YC Y tb p kd) : ∃ L' R' N' Y', f_X9_layoutOf (a 0) L P R N (o 10) C (a 0 (900 + kd)) Y (nI kd) = some (L', R', N', Y') ∧ (∀ k, nv L' k = nv L k) ∧ R0 R' ∧ (iv L' 12 = 0 ∨ RR (o 10) (a 0 2) R' tb p) ∧ YR Y' tb p kd := by
  have x4 : ix (nI kd) 4 = true := ix_nI hkd (by decide)
  have ck := nI_clamp (show kd < 2 ^ 31 by omega)
  unfold f_X9_layoutOf
  simp only [gd_t x4, ck, decide_true, gd_T]
  by_cases c : iv Y 7 = 0
  · rw [if_pos c]
    obtain ⟨L1, R1, e1, hR1, hL1⟩ := L_ruler (a := a) hL hR0 hr hC hP hs hT hpt
    rw [e1]
    simp only [Option.bind_some, un2]
    have fin : ∀ N2 R2, RR (o 10) (a 0 2) R2 tb p → NP N2 tb p kd → ∃ L' R' N' Y', j_X9_layoutOf_80_7 (o 10) (a 0) P C Y L1 R2 N2 = some (L', R', N', Y') ∧ (∀ k, nv L' k = nv L k) ∧ R0 R' ∧ (iv L' 12 = 0 ∨ RR (o 10) (a 0 2) R' tb p) ∧ YR Y' tb p kd := by
      intro N2 R2 hR2 hN2
      obtain ⟨Y3, R3, e3, hR3, hY3⟩ := Y_fill (Y := Y) hR2 hC hP hs hT hpt hN2
      exact ⟨L1, R3, N2, Y3, by simp only [j_X9_layoutOf_80_7, e3, Option.bind_some, un2], hL1, RR_0 hR3, Or.inr hR3, hY3⟩
    have hEn : ∀ a', a' < pn p → kd ≠ 0 → kd ≠ 2 → EK tb p kd a' = eN (best (lmK tb p kd) tb p a') a' := fun a' h u0 u2 => by rw [EK, if_neg (by omega), if_neg u0, if_neg u2]
    have hE : ∀ a', a' ≤ EK tb p kd a' := fun a' => (EK_in hs kd a').1
    have hn : ∀ a', a' < pn p → EK tb p kd a' < pn p := fun a' => (EK_in hs kd a').2
    obtain ⟨L1', L2', L3'⟩ := LN_spec hE hn
    have hk4 : kd = 0 ∨ kd = 1 ∨ kd = 2 ∨ kd = 3 := by omega
    rcases hk4 with rfl | rfl | rfl | rfl
    · rw [if_neg (show ¬ nI 0 = (1 : Int32) by decide), if_neg (show ¬ nI 0 = (3 : Int32) by decide), if_neg (show ¬ nI 0 = (2 : Int32) by decide)]
      obtain ⟨N2, R2, e2, hR2, hN2⟩ := N_planFull (N := N) hR1 hP hs hT hpt false
      simp only [j_X9_layoutOf_77_12]
      rw [show (0 : Int32) = bo false from rfl, e2]
      exact fin N2 R2 hR2 hN2
    · rw [if_pos (show nI 1 = (1 : Int32) by decide)]
      obtain ⟨N2, R2, e2, hR2, -, hN2⟩ := N_planBest (N := N) hR1 hP hs hT hpt (lm := 1000000000) (Nat.le_refl _)
      rw [show (1000000000 : Int32) = nI 1000000000 from rfl, e2]
      exact fin N2 R2 hR2 (fun k hk => by rw [hN2 _ (L2' k hk), hEn _ (L2' k hk) (by decide) (by decide)]; rfl)
    · rw [if_neg (show ¬ nI 2 = (1 : Int32) by decide), if_neg (show ¬ nI 2 = (3 : Int32) by decide), if_pos (show nI 2 = (2 : Int32) by decide)]
      obtain ⟨N2, R2, e2, hR2, hN2⟩ := N_planFull (N := N) hR1 hP hs hT hpt true
      simp only [j_X9_layoutOf_77_12]
      rw [show (1 : Int32) = bo true from rfl, e2]
      exact fin N2 R2 hR2 hN2
    · rw [if_neg (show ¬ nI 3 = (1 : Int32) by decide), if_pos (show nI 3 = (3 : Int32) by decide)]
      obtain ⟨N1, R2, e2, hR2⟩ := N_leastPeak (N := N) hR1 hP hs hT hpt
      obtain ⟨N3, R3, e3, hR3, -, hN3⟩ := N_planBest (N := N1) hR2 hP hs hT hpt (lm := pk tb p 0) (pk_lej hs 0)
      simp only [e2, Option.bind_some, un3, e3, un2]
      exact fin N3 R3 hR3 (fun k hk => by rw [hN3 _ (L2' k hk), hEn _ (L2' k hk) (by decide) (by decide)]; rfl)
  · rw [if_neg c]
    rcases hY with h | h
    · exact absurd h c
    · exact ⟨L, R, N, Y, rfl, fun _ => rfl, hR0, hr, h⟩
/-- a layout that stands is taken as it is -/
theorem L_layout2 {a : Nat → Nat → Nat} {L P R N C Y : OV} {tb : Tb} {p : Pg} {kd oC : Nat} (hkd : kd < 4) (hY : YR Y tb p kd) : f_X9_layoutOf (a 0) L P R N oC C (a 0 (900 + kd)) Y (nI kd) = some (L, R, N, Y) := by
  have x4 : ix (nI kd) 4 = true := ix_nI hkd (by decide)
  have ck := nI_clamp (show kd < 2 ^ 31 by omega)
  unfold f_X9_layoutOf
  simp only [gd_t x4, ck, decide_true, gd_T, hY.2.1, if_neg (show ¬ (1 : Int32) = 0 by decide)]
def QP (o : Nat → Nat) (a : Nat → Nat → Nat) (Z : Nat → OV) (tb : Tb) (p : Pg) (kd : Nat) (L' R' Y' M' : OV) : Prop := (∀ k, nv L' k = nv (Z 0) k) ∧ R0 R' ∧ (iv L' 12 = 0 ∨ RR (o 10) (a 0 2) R' tb p) ∧ YC Y' tb p kd ∧ KM (Z 28) M'
theorem INV_q2 {o : Nat → Nat} {a aK : Nat → Nat → Nat} {Z B : Nat → OV} {tb : Tb} {p : Pg} {len : Nat} {v : Nat → Nat} {cnt nx : Nat} {q : Nat → Pg} (hI : INVc o a (Z 0) (Z 1) (Z 3) (Z 5) (Z 6) (Z 7) (Z 9) (Z 10) (Z 24) (Z 25) (Z 26) (Z 27) (Z 28) B tb p len v cnt nx q) {kd : Nat} (hkd : kd < 4) {L' R' N' Y' M' : OV} (h : QP o a Z tb p kd L' R' Y' M') : INV o a aK (va_up (va_up (va_up (va_up (va_up Z 0 L') 6 R') 8 N') (24 + kd) Y') 28 M') B := by
  obtain ⟨i1, ⟨i2, i2'⟩, i3, i4, i5, i6, i7, i8, ⟨y0, y1, y2, y3⟩, i10, i11, i12⟩ := hI
  obtain ⟨hL, hR0, hR, hY, hM⟩ := h
  have hk4 : kd = 0 ∨ kd = 1 ∨ kd = 2 ∨ kd = 3 := by omega
  rcases hk4 with rfl | rfl | rfl | rfl
  · exact ⟨tb, p, len, v, cnt, nx, q, i1, ⟨(hL 10).trans i2, (hL 11).trans i2'⟩, i3, i4, i5, i6, ⟨hR0, i7.2⟩, hR, ⟨hY, y1, y2, y3⟩, i10, KM_MOD hM i11, i12⟩
  · exact ⟨tb, p, len, v, cnt, nx, q, i1, ⟨(hL 10).trans i2, (hL 11).trans i2'⟩, i3, i4, i5, i6, ⟨hR0, i7.2⟩, hR, ⟨y0, hY, y2, y3⟩, i10, KM_MOD hM i11, i12⟩
  · exact ⟨tb, p, len, v, cnt, nx, q, i1, ⟨(hL 10).trans i2, (hL 11).trans i2'⟩, i3, i4, i5, i6, ⟨hR0, i7.2⟩, hR, ⟨y0, y1, hY, y3⟩, i10, KM_MOD hM i11, i12⟩
  · exact ⟨tb, p, len, v, cnt, nx, q, i1, ⟨(hL 10).trans i2, (hL 11).trans i2'⟩, i3, i4, i5, i6, ⟨hR0, i7.2⟩, hR, ⟨y0, y1, y2, hY⟩, i10, KM_MOD hM i11, i12⟩
theorem ok4 {o : Nat → Nat} {a aK : Nat → Nat → Nat} {Z B : Nat → OV} {tb : Tb} {p : Pg} {len : Nat} {v : Nat → Nat} {cnt nx : Nat} {q : Nat → Pg} (hI : INVc o a (Z 0) (Z 1) (Z 3) (Z 5) (Z 6) (Z 7) (Z 9) (Z 10) (Z 24) (Z 25) (Z 26) (Z 27) (Z 28) B tb p len v cnt nx q) (F9 : Nat → OV → Int32 → Option (Int32 × OV × OV × OV × OV)) (F10 : Int32 → Option (Int32 × OV)) (q0 : Int32) (hbad : f_X9_isKind q0 = some 0 → f_X10_isKind q0 = some 0 → ∃ r, F9 (a 0 (900 + 0)) (Z (24 + 0)) q0 = some (r, Z 0, Z 6, Z 8, Z (24 + 0)) ∧ F10 q0 = some (r, Z 28)) (hgood : ∀ kd, kd < 4 → f_X9_isKind (nI kd) = some 1 → f_X10_isKind (nI kd) = some 1 → YC (Z (24 + kd)) tb p kd → ∃ r L' R' N' Y' M', F9 (a 0 (900 + kd)) (Z (24 + kd)) (nI kd) = some (r, L', R', N', Y') ∧ F10 (nI kd) = some (r, M') ∧ QP o a Z tb p kd L' R' Y' M') : (∃ (u : Int32 × OV × OV × OV × OV) (w : Int32 × OV), F9 (a 0 (900 + 0)) (Z (24 + 0)) q0 = some u ∧ F10 q0 = some w ∧ w.1 = u.1 ∧ INV o a aK (va_up (va_up (va_up (va_up (va_up Z 0 u.2.1) 6 u.2.2.1) 8 u.2.2.2.1) (24 + 0) u.2.2.2.2) 28 w.2) B) ∨ (∃ (u : Int32 × OV × OV × OV × OV) (w : Int32 × OV), F9 (a 0 (900 + 1)) (Z (24 + 1)) q0 = some u ∧ F10 q0 = some w ∧ w.1 = u.1 ∧ INV o a aK (va_up (va_up (va_up (va_up (va_up Z 0 u.2.1) 6 u.2.2.1) 8 u.2.2.2.1) (24 + 1) u.2.2.2.2) 28 w.2) B) ∨ (∃ (u : Int32 × OV × OV × OV × OV) (w : Int32 × OV), F9 (a 0 (900 + 2)) (Z (24 + 2)) q0 = some u ∧ F10 q0 = some w ∧ w.1 = u.1 ∧ INV o a aK (va_up (va_up (va_up (va_up (va_up Z 0 u.2.1) 6 u.2.2.1) 8 u.2.2.2.1) (24 + 2) u.2.2.2.2) 28 w.2) B) ∨ (∃ (u : Int32 × OV × OV × OV × OV) (w : Int32 × OV), F9 (a 0 (900 + 3)) (Z (24 + 3)) q0 = some u ∧ F10 q0 = some w ∧ w.1 = u.1 ∧ INV o a aK (va_up (va_up (va_up (va_up (va_up Z 0 u.2.1) 6 u.2.2.1) 8 u.2.2.2.1) (24 + 3) u.2.2.2.2) 28 w.2) B) := by
  have hy := hI.2.2.2.2.2.2.2.2.1
  have g : ∀ kd, kd < 4 → f_X9_isKind (nI kd) = some 1 → f_X10_isKind (nI kd) = some 1 → YC (Z (24 + kd)) tb p kd → ∃ (u : Int32 × OV × OV × OV × OV) (w : Int32 × OV), F9 (a 0 (900 + kd)) (Z (24 + kd)) (nI kd) = some u ∧ F10 (nI kd) = some w ∧ w.1 = u.1 ∧ INV o a aK (va_up (va_up (va_up (va_up (va_up Z 0 u.2.1) 6 u.2.2.1) 8 u.2.2.2.1) (24 + kd) u.2.2.2.2) 28 w.2) B := by
    intro kd hkd e1 e2 hyc
    obtain ⟨r, L', R', N', Y', M', e3, e4, hq⟩ := hgood kd hkd e1 e2 hyc
    exact ⟨_, _, e3, e4, rfl, INV_q2 hI hkd hq⟩
  rcases kind_or q0 with ⟨e1, e2⟩ | ⟨kd, hkd, rfl, e1, e2⟩
  · left
    obtain ⟨r, e3, e4⟩ := hbad e1 e2
    refine ⟨_, _, e3, e4, rfl, ?_⟩
    simp only [up_same]
    exact ⟨tb, p, len, v, cnt, nx, q, hI⟩
  · have hk4 : kd = 0 ∨ kd = 1 ∨ kd = 2 ∨ kd = 3 := by omega
    rcases hk4 with rfl | rfl | rfl | rfl
    · exact Or.inl (g 0 hkd e1 e2 hy.1)
    · exact Or.inr (Or.inl (g 1 hkd e1 e2 hy.2.1))
    · exact Or.inr (Or.inr (Or.inl (g 2 hkd e1 e2 hy.2.2.1)))
    · exact Or.inr (Or.inr (Or.inr (g 3 hkd e1 e2 hy.2.2.2)))
-- in which line a sign is
def lnW (E : Nat → Nat) (i : Nat) : Nat := scn (fun k => decide (E (stt E k) < i)) 50 0
theorem lnW_spec {E : Nat → Nat} {n i : Nat} (hE : ∀ a, a ≤ E a) (hn : ∀ a, a < n → E a < n) (hn40 : n ≤ 40) (hi : i < n) : lnW E i < LN E n ∧ stt E (lnW E i) ≤ i ∧ i ≤ E (stt E (lnW E i)) ∧ ∀ j, j < lnW E i → E (stt E j) < i := by
  obtain ⟨L1, L2, L3⟩ := LN_spec hE hn
  have L0 := LN_pos hE hn (by omega)
  obtain ⟨m, hm⟩ : ∃ m, LN E n = m + 1 := ⟨LN E n - 1, by omega⟩
  have hc : (fun k => decide (E (stt E k) < i)) m = false := by
    refine decide_eq_false ?_
    rw [hm, stt] at L3
    omega
  obtain ⟨a1, a2, a3, a4⟩ := scn_spec (c := fun k => decide (E (stt E k) < i)) hc 50 0 (Nat.zero_le _) (by omega)
  have b3 : ∀ j, j < lnW E i → E (stt E j) < i := fun j hj => of_decide_eq_true (a3 j (Nat.zero_le _) hj)
  have b4 : ¬ E (stt E (lnW E i)) < i := of_decide_eq_false a4
  refine ⟨by unfold lnW; omega, ?_, by omega, b3⟩
  cases hl : lnW E i with
  | zero => exact Nat.zero_le _
  | succ j =>
    have := b3 j (by omega)
    rw [stt]
    omega
theorem stt_ln {E : Nat → Nat} {n : Nat} (hE : ∀ a, a ≤ E a) (hn : ∀ a, a < n → E a < n) {k : Nat} (hk : k < LN E n) : stt E k ≤ E (stt E k) ∧ E (stt E k) < n := ⟨hE _, hn _ ((LN_spec hE hn).2.1 k hk)⟩
theorem Y_lineWith {Y : OV} {tb : Tb} {p : Pg} {kd i : Nat} (hY : YR Y tb p kd) (hs : PgS p) (hi : i < pn p) : f_X3_lineWith Y (nI i) = some (nI (lnW (EK tb p kd) i)) := by
  have h40 := hs.1
  have hE : ∀ a, a ≤ EK tb p kd a := fun a => (EK_in hs kd a).1
  have hn : ∀ a, a < pn p → EK tb p kd a < pn p := fun a => (EK_in hs kd a).2
  obtain ⟨L1, L2, L3⟩ := LN_spec hE hn
  obtain ⟨w1, w2, w3, w4⟩ := lnW_spec hE hn h40 hi
  have c1 : (1 : Int32).toNatClampNeg = 1 := by decide
  have x1 : ix (1 : Int32) 11 = true := by decide
  have hstep : ∀ k, 0 ≤ k → k < lnW (EK tb p kd) i → s_X3_lineWith_2_2 Y (nI i) ((fun k => nI k) k) = some (.inl ((fun k => nI k) (k + 1))) := by
    intro k _ hk
    have hg := (hY.2.2 k (by omega)).1.2.1
    have hb := (stt_ln hE hn (show k < LN (EK tb p kd) (pn p) by omega)).2
    have hlt := w4 k hk
    simp only [s_X3_lineWith_2_2, un1, hY.1, nIle (show LN (EK tb p kd) (pn p) < 2 ^ 31 by omega) (show k < 2 ^ 31 by omega), if_neg (show ¬ LN (EK tb p kd) (pn p) ≤ k by omega), gd_t x1, c1, gd_t (ix_nI (show k < 40 by omega) (by decide)), nI_clamp (show k < 2 ^ 31 by omega), hg, nIlt (show EK tb p kd (stt (EK tb p kd) k) < 2 ^ 31 by omega) (show i < 2 ^ 31 by omega), if_pos hlt, bnd, nI_1]
  have hend : s_X3_lineWith_2_2 Y (nI i) ((fun k => nI k) (lnW (EK tb p kd) i)) = some (.inr (.inr (nI (lnW (EK tb p kd) i)))) := by
    have hg := (hY.2.2 _ w1).1.2.1
    have hb := (stt_ln hE hn w1).2
    simp only [s_X3_lineWith_2_2, un1, hY.1, nIle (show LN (EK tb p kd) (pn p) < 2 ^ 31 by omega) (show lnW (EK tb p kd) i < 2 ^ 31 by omega), if_neg (show ¬ LN (EK tb p kd) (pn p) ≤ lnW (EK tb p kd) i by omega), gd_t x1, c1, gd_t (ix_nI (show lnW (EK tb p kd) i < 40 by omega) (by decide)), nI_clamp (show lnW (EK tb p kd) i < 2 ^ 31 by omega), hg, nIlt (show EK tb p kd (stt (EK tb p kd) (lnW (EK tb p kd) i)) < 2 ^ 31 by omega) (show i < 2 ^ 31 by omega), if_neg (show ¬ EK tb p kd (stt (EK tb p kd) (lnW (EK tb p kd) i)) < i by omega)]
  have h := lp_for (step := s_X3_lineWith_2_2 Y (nI i)) (fun k => nI k) 0 (lnW (EK tb p kd) i) (Nat.zero_le _) hstep hend 5000 (by omega)
  unfold f_X3_lineWith
  simp only [bnd]
  rw [show (0 : Int32) = nI 0 from rfl, h]
  rfl
theorem M_lineWith {M : OV} {tb : Tb} {p : Pg} {kd i : Nat} (hY : ML M tb p kd) (hs : PgS p) (hi : i < pn p) : f_X10_lineWith M (nI i) = some (nI (lnW (EK tb p kd) i)) := by
  have h40 := hs.1
  have hE : ∀ a, a ≤ EK tb p kd a := fun a => (EK_in hs kd a).1
  have hn : ∀ a, a < pn p → EK tb p kd a < pn p := fun a => (EK_in hs kd a).2
  obtain ⟨L1, L2, L3⟩ := LN_spec hE hn
  obtain ⟨w1, w2, w3, w4⟩ := lnW_spec hE hn h40 hi
  have hstep : ∀ k, 0 ≤ k → k < lnW (EK tb p kd) i → s_X10_lineWith_2_2 M (nI i) ((fun k => nI k) k) = some (.inl ((fun k => nI k) (k + 1))) := by
    intro k _ hk
    have hg := hY.2 k (by omega)
    have hb := (stt_ln hE hn (show k < LN (EK tb p kd) (pn p) by omega)).2
    have hlt := w4 k hk
    simp only [s_X10_lineWith_2_2, un1, gd_t (ix_nI (show k < 41 by omega) (by decide)), nI_clamp (show k < 2 ^ 31 by omega), hg, nIle (show i < 2 ^ 31 by omega) (show EK tb p kd (stt (EK tb p kd) k) < 2 ^ 31 by omega), if_neg (show ¬ i ≤ EK tb p kd (stt (EK tb p kd) k) by omega), bnd, nI_1]
  have hend : s_X10_lineWith_2_2 M (nI i) ((fun k => nI k) (lnW (EK tb p kd) i)) = some (.inr (nI (lnW (EK tb p kd) i))) := by
    have hg := hY.2 _ w1
    have hb := (stt_ln hE hn w1).2
    simp only [s_X10_lineWith_2_2, un1, gd_t (ix_nI (show lnW (EK tb p kd) i < 41 by omega) (by decide)), nI_clamp (show lnW (EK tb p kd) i < 2 ^ 31 by omega), hg, nIle (show i < 2 ^ 31 by omega) (show EK tb p kd (stt (EK tb p kd) (lnW (EK tb p kd) i)) < 2 ^ 31 by omega), if_pos w3]
  have h := lp_for (step := s_X10_lineWith_2_2 M (nI i)) (fun k => nI k) 0 (lnW (EK tb p kd) i) (Nat.zero_le _) hstep hend 5000 (by omega)
  unfold f_X10_lineWith
  simp only [bnd]
  rw [show (0 : Int32) = nI 0 from rfl, h]
  rfl
theorem M_first {M : OV} {tb : Tb} {p : Pg} {kd k : Nat} (hY : ML M tb p kd) (hs : PgS p) (hk : k < LN (EK tb p kd) (pn p)) : f_X10_firstOf M (nI k) = some (nI (stt (EK tb p kd) k)) := by
  have h40 := hs.1
  have hE : ∀ a, a ≤ EK tb p kd a := fun a => (EK_in hs kd a).1
  have hn : ∀ a, a < pn p → EK tb p kd a < pn p := fun a => (EK_in hs kd a).2
  obtain ⟨L1, L2, L3⟩ := LN_spec hE hn
  unfold f_X10_firstOf
  cases k with
  | zero => rw [if_pos (show nI 0 = (0 : Int32) from rfl)]; rfl
  | succ k =>
    rw [if_neg (nI_ne0 (by omega) (by omega)), nI_pred, gd_t (ix_nI (show k < 41 by omega) (by decide)), nI_clamp (by omega), hY.2 k (by omega), nI_1]
    rfl
theorem ML_KL {M M' : OV} {tb : Tb} {p : Pg} {kd : Nat} (h : ML M tb p kd) (k : KL M M') : ML M' tb p kd := ⟨by rw [KL_iv k (by omega)]; exact h.1, by rw [KL_ar k]; exact h.2⟩
