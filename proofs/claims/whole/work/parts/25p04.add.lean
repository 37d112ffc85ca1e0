theorem nvG (x : OV) (k i j q : Nat) (v : Int32) : nv (sG x k i j v) q = nv x q := rfl
theorem arG (x : OV) (k i j q : Nat) (v : Int32) : ar (sG x k i j v) q = ar x q := rfl
theorem ivG (x : OV) (k i j q : Nat) (v : Int32) : iv (sG x k i j v) q = iv x q := rfl
theorem grG (x : OV) (k i j k' i' : Nat) (v : Int32) : gr (sG x k i j v) k' i' = if k' = k then (if i' = i then upd (gr x k i) j v else gr x k i') else gr x k' i' := grH _ _ _ _ _ _
theorem nvA (x : OV) (k j q : Nat) (v : Int32) : nv (sA x k j v) q = nv x q := rfl
theorem ivA (x : OV) (k j q : Nat) (v : Int32) : iv (sA x k j v) q = iv x q := rfl
theorem grA (x : OV) (k j q r : Nat) (v : Int32) : gr (sA x k j v) q r = gr x q r := rfl
theorem arA (x : OV) (k j q : Nat) (v : Int32) : ar (sA x k j v) q = if q = k then upd (ar x k) j v else ar x q := arW _ _ _ _
theorem updE (f : Nat → Int32) (j i : Nat) (v : Int32) : upd f j v i = if i = j then v else f i := rfl
/-- what addToSums leaves: rows 2, 3 at i + 1, rows 4, 5 at i + 1 for the ranks 1 to r -/
def ASr (R R' : OV) (tb : Tb) (p : Pg) (i r : Nat) : Prop := (∀ q, nv R' q = nv R q) ∧ (∀ q, q ≠ 2 → q ≠ 3 → ar R' q = ar R q) ∧ (∀ q, ar R' 2 q = if q = i + 1 then ar R 2 i + nI (fx tb p 0 i) else ar R 2 q) ∧ (∀ q, ar R' 3 q = if q = i + 1 then ar R 3 i + nI (fx tb p 0 i) - nI (fx tb p 5 i) else ar R 3 q) ∧ (∀ s, 1 ≤ s → s ≤ 3 → ∀ q, gr R' 4 s q = if q = i + 1 ∧ s ≤ r then gr R 4 s i + nI (fQ tb p s i) else gr R 4 s q) ∧ (∀ s, 1 ≤ s → s ≤ 3 → ∀ q, gr R' 5 s q = if q = i + 1 ∧ s ≤ r then gr R 5 s i + nI (fO tb p s i) else gr R 5 s q)
theorem R_add {R C P : OV} {oC oP : Nat} {tb : Tb} {p : Pg} (h0 : nv R 0 = oC) (h1 : nv R 1 = oP) (hC : RC C tb) (hP : RP P p) (hs : PgS p) (hT : TbS tb) {i : Nat} (hi : i < pn p) (h8 : ar R 8 i = nI (fx tb p 6 i)) : ∃ R', f_X7_addToSums R oC C oP P (nI i) = some R' ∧ ASr R R' tb p i 3 := by
  have h40 := hs.1
  have l0 := (hs.2.1 i hi).1
  have tt := hT _ l0
  have x41 : ix (nI i) 41 = true := ix_nI (by omega) (by decide)
  have x40 : ix (nI i) 40 = true := ix_nI (by omega) (by decide)
  have x1 : ix (nI (i + 1)) 41 = true := ix_nI (by omega) (by decide)
  have ci := nI_clamp (show i < 2 ^ 31 by omega)
  have ci1 := nI_clamp (show i + 1 < 2 ^ 31 by omega)
  have e0 : f_X7_factOf R oC C oP P (0 : Int32) (nI i) = some (nI (fx tb p 0 i)) := R_fact (k := 0) h0 h1 hC hP hs (by decide) hi
  have e5 : f_X7_factOf R oC C oP P (5 : Int32) (nI i) = some (nI (fx tb p 5 i)) := R_fact (k := 5) h0 h1 hC hP hs (by decide) hi
  have e7 : f_X7_factOf R oC C oP P (7 : Int32) (nI i) = some (nI (fx tb p 7 i)) := R_fact (k := 7) h0 h1 hC hP hs (by decide) hi
  have e8 : f_X7_factOf R oC C oP P (8 : Int32) (nI i) = some (nI (fx tb p 8 i)) := R_fact (k := 8) h0 h1 hC hP hs (by decide) hi
  unfold f_X7_addToSums
  simp only [e0, e5, e7, e8, Option.bind_some, un1, bnd, nI_1, gd_t x41, gd_t x1, ci, ci1]
  generalize hR1 : sA (sA R 2 (i + 1) (ar R 2 i + nI (fx tb p 0 i))) 3 (i + 1) (ar (sA R 2 (i + 1) (ar R 2 i + nI (fx tb p 0 i))) 3 i + nI (fx tb p 0 i) - nI (fx tb p 5 i)) = R1
  have b0 : ASr R R1 tb p i 0 := by
    subst hR1
    refine ⟨fun q => rfl, fun q h2 h3 => by simp [arA, h2, h3], fun q => by simp [arA, updE], fun q => by simp [arA, updE], fun s a b q => ?_, fun s a b q => ?_⟩
    · rw [if_neg (by omega)]; rfl
    · rw [if_neg (by omega)]; rfl
  obtain ⟨R', e, hR'⟩ := lp_rule (step := s_X7_addToSums_69_16 (nI i) (nI (fx tb p 5 i)) (nI (fx tb p 7 i)) (nI (fx tb p 8 i))) (fun s => ∃ r, r ≤ 3 ∧ s.1 = nI (r + 1) ∧ ASr R s.2 tb p i r) (fun s => 4 - s.1.toNatClampNeg) (fun R' => ASr R R' tb p i 3) (by
    rintro ⟨v, S⟩ ⟨r, hr, rfl, hA⟩
    obtain ⟨a1, a2, a3, a4, a5, a6⟩ := hA
    have cr := nI_clamp (show r + 1 < 2 ^ 31 by omega)
    rcases Nat.lt_or_ge r 3 with h3 | h3
    · left
      have g : ¬ (3 : Int32) < nI (r + 1) := nI_nlt (show r + 1 ≤ 3 by omega) (by decide)
      have x4 : ix (nI (r + 1)) 4 = true := ix_nI (by omega) (by decide)
      have e8 : ar S 8 i = nI (fx tb p 6 i) := by rw [a2 8 (by decide) (by decide), h8]
      have eq1 : (nI (fx tb p 6 i) = nI (r + 1)) = (fx tb p 6 i = r + 1) := nIe (by unfold fx; omega) (by omega)
      have eq2 : (nI (fx tb p 8 i) = nI (r + 1)) = (fx tb p 8 i = r + 1) := nIe (by unfold fx; omega) (by omega)
      refine ⟨(nI (r + 1 + 1), sG (sG S 4 (r + 1) (i + 1) (gr S 4 (r + 1) i + nI (fQ tb p (r + 1) i))) 5 (r + 1) (i + 1) (gr S 5 (r + 1) i + nI (fO tb p (r + 1) i))), ?_, ⟨r + 1, h3, rfl, ?_⟩, ?_⟩
      · simp only [s_X7_addToSums_69_16, un2, if_neg g, gd_t x4, gd_t x41, gd_t x40, gd_t x1, ci, ci1, cr, e8, eq1, j_X7_addToSums_110_22, j_X7_addToSums_144_27, nI_1, bnd, eq2, fQ, fO, show (0 : Int32) = nI 0 from rfl]
        by_cases c1 : fx tb p 6 i = r + 1 <;> by_cases c2 : fx tb p 8 i = r + 1 <;> simp [c1, c2, grG]
      · refine ⟨fun q => by rw [nvG, nvG]; exact a1 q, fun q h2 h3 => by rw [arG, arG]; exact a2 q h2 h3, fun q => by rw [arG, arG]; exact a3 q, fun q => by rw [arG, arG]; exact a4 q, fun s a b q => ?_, fun s a b q => ?_⟩
        · simp only [grG]
          by_cases c1 : s = r + 1
          · subst c1
            have t1 := a5 (r + 1) a b
            by_cases c2 : q = i + 1
            · subst c2; simp [updE, t1, show ¬ r + 1 ≤ r by omega]
            · simp [updE, c2, t1]
          · have t1 := a5 s a b q
            simp only [if_neg c1, t1, show (4 : Nat) ≠ 5 by decide, if_false, if_true]
            by_cases c2 : s ≤ r
            · simp [c2, show s ≤ r + 1 by omega]
            · simp [c2, show ¬ s ≤ r + 1 by omega]
        · simp only [grG]
          by_cases c1 : s = r + 1
          · subst c1
            have t1 := a6 (r + 1) a b
            by_cases c2 : q = i + 1
            · subst c2; simp [updE, t1, show ¬ r + 1 ≤ r by omega]
            · simp [updE, c2, t1]
          · have t1 := a6 s a b q
            by_cases c2 : s ≤ r
            · simp [c1, t1, c2, show s ≤ r + 1 by omega]
            · simp [c1, t1, c2, show ¬ s ≤ r + 1 by omega]
      · simp only [cr, nI_clamp (show r + 1 + 1 < 2 ^ 31 by omega)]
        omega
    · right
      have e3 : r = 3 := by omega
      subst e3
      exact ⟨S, by simp [s_X7_addToSums_69_16, un2, show (3 : Int32) < nI (3 + 1) by decide], a1, a2, a3, a4, a5, a6⟩) 5000 (nI 1, R1) ⟨0, by omega, rfl, b0⟩ (by simp only [nI_clamp (show 1 < 2 ^ 31 by decide)]; omega)
  exact ⟨R', by rw [show (1 : Int32) = nI 1 from rfl, e]; rfl, hR'⟩
