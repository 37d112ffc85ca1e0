-- table
theorem C_clear (C : OV) : ∃ C', f_X1_clear C = some C' ∧ (∀ k, k < 9 → ∀ l, l < 26 → gr C' 0 k l = nI (if k = 6 ∨ k = 8 then 1 else 0)) ∧ (∀ l, l < 26 → ar C' 1 l = 0) ∧ iv C' 2 = 0 ∧ iv C' 3 = 0 ∧ iv C' 4 = 0 ∧ iv C' 5 = 0 := by
  obtain ⟨C1, e, h1⟩ := lp_inv (step := s_X1_clear_2_2) (fun i s => ∃ C', s = (nI i, C') ∧ ∀ k, k < i → ∀ l, l < 26 → gr C' 0 k l = 0) (fun r => ∀ k, k < 9 → ∀ l, l < 26 → gr r 0 k l = 0) 0 9 (by decide) (by
    rintro i s - hi ⟨C', rfl, h⟩
    have xi : ix (nI i) 9 = true := ix_nI hi (by decide)
    have ci := nI_clamp (show i < 2 ^ 31 by omega)
    refine ⟨(nI (i + 1), sH C' 0 i (fillF 26 0 (gr C' 0 i))), ?_, _, rfl, fun k hk l hl => ?_⟩
    · simp only [s_X1_clear_2_2, un2, show ((9 : Int32) ≤ nI i) = (9 ≤ i) from nIle (a := 9) (by decide) (by omega), if_neg (show ¬ 9 ≤ i by omega), gd_t xi, ci, bnd_e, nI_1]
    · rw [grH, if_pos rfl]
      by_cases c : k = i
      · rw [if_pos c]; unfold fillF; rw [if_pos hl]
      · rw [if_neg c]; exact h k (by omega) l hl) (by
    rintro s ⟨C', rfl, h⟩
    exact ⟨C', by simp only [s_X1_clear_2_2, un2, if_pos (show (9 : Int32) ≤ nI 9 by decide)], h⟩) 5000 (by decide) (0, C) ⟨C, rfl, fun k hk => absurd hk (Nat.not_lt_zero k)⟩
  obtain ⟨C2, h2⟩ : ∃ C2, C2 = sH C1 0 6 (fillF 26 1 (gr C1 0 6)) := ⟨_, rfl⟩
  obtain ⟨C3, h3⟩ : ∃ C3, C3 = sH C2 0 8 (fillF 26 1 (gr C2 0 8)) := ⟨_, rfl⟩
  obtain ⟨C4, h4⟩ : ∃ C4, C4 = sW C3 1 (fillF 26 0 (ar C3 1)) := ⟨_, rfl⟩
  refine ⟨sI (sI (sI (sI C4 2 0) 3 0) 4 0) 5 0, ?_, fun k hk l hl => ?_, fun l hl => ?_, ?_, ?_, ?_, ?_⟩
  · unfold f_X1_clear
    simp only [bnd_e]
    rw [e, Option.bind_some]
    simp only [un1]
    rw [gd_t (by decide), show (6 : Int32).toNatClampNeg = 6 from rfl, ← h2, gd_t (by decide), show (8 : Int32).toNatClampNeg = 8 from rfl, ← h3, ← h4]
  · show gr C4 0 k l = _
    rw [h4, grW, h3, grH, if_pos rfl]
    by_cases c : k = 8
    · rw [if_pos c, if_pos (Or.inr c)]; unfold fillF; rw [if_pos hl]; rfl
    · rw [if_neg c, h2, grH, if_pos rfl]
      by_cases d : k = 6
      · rw [if_pos d, if_pos (Or.inl d)]; unfold fillF; rw [if_pos hl]; rfl
      · rw [if_neg d, if_neg (fun g => g.elim d c)]; exact h1 k hk l hl
  · show ar C4 1 l = 0
    rw [h4, arW, if_pos rfl]; unfold fillF; rw [if_pos hl]
  · rw [ivn _ _ (by decide), ivn _ _ (by decide), ivn _ _ (by decide), ivs]
  · rw [ivn _ _ (by decide), ivn _ _ (by decide), ivs]
  · rw [ivn _ _ (by decide), ivs]
  · rw [ivs]
def tbN : Tb := fun k _ => if k = 6 ∨ k = 8 then 1 else 0
theorem PP_0 : PP (fun _ => 0) 0 := by
  refine ⟨fun a _ k h1 h2 => ?_, by decide +kernel, by decide⟩
  have : ∀ k, k < 32 → bt 0 k = false := by decide +kernel
  exact this k h2
theorem RD_0 {C M : OV} (h1 : ∀ k, k < 9 → ∀ l, l < 26 → gr C 0 k l = nI (if k = 6 ∨ k = 8 then 1 else 0)) (h2 : ∀ l, l < 26 → ar C 1 l = 0) (i2 : iv C 2 = 0) (i3 : iv C 3 = 0) (i4 : iv C 4 = 0) (i5 : iv C 5 = 0) (m43 : ∀ l, l < 26 → ar M 43 l = 0 ∧ ar M 50 l = 0) (m0 : ar M 51 0 = 0) (m1 : ar M 51 1 = 0) (m52 : iv M 52 = 0) (m53 : iv M 53 = 0) : RD C M tbN (fun _ => 0) 0 := by
  have c0 : cls tbN = 0 := by decide +kernel
  refine ⟨fun k hk l hl => h1 k hk l hl, fun l hl => ⟨(m43 l hl).1, fun g => absurd g (by show ¬ 0 < (if (0 : Nat) = 6 ∨ (0 : Nat) = 8 then 1 else 0); decide)⟩, fun l hl => ?_, fun l hl _ j _ hj => ?_, ⟨fun a ha => ⟨h2 a ha, (m43 a ha).2⟩, i4, m53⟩, ⟨i2.trans m0.symm, i3.trans m1.symm⟩, ?_, ?_, ?_⟩
  · show (if (0 : Nat) = 6 ∨ (0 : Nat) = 8 then 1 else 0) ≤ 9 ∧ (if (3 : Nat) = 6 ∨ (3 : Nat) = 8 then 1 else 0) ≤ 1 ∧ (if (4 : Nat) = 6 ∨ (4 : Nat) = 8 then 1 else 0) ≤ 8 ∧ (if (5 : Nat) = 6 ∨ (5 : Nat) = 8 then 1 else 0) ≤ 8 ∧ (if (6 : Nat) = 6 ∨ (6 : Nat) = 8 then 1 else 0) ≤ 3 ∧ (if (7 : Nat) = 6 ∨ (7 : Nat) = 8 then 1 else 0) ≤ 9 ∧ (if (8 : Nat) = 6 ∨ (8 : Nat) = 8 then 1 else 0) ≤ 3 ∧ (0 < (if (0 : Nat) = 6 ∨ (0 : Nat) = 8 then 1 else 0) → _)
    refine ⟨by decide, by decide, by decide, by decide, by decide, by decide, by decide, fun g => absurd g (by decide)⟩
  · unfold tbN Dd
    by_cases c : j = 3 ∨ j = 5
    · rw [if_pos c, if_pos (by omega)]
    · rw [if_neg c, if_neg (by omega)]
  · rw [c0]; exact i5
  · rw [c0]; exact m52
  · rw [c0]; decide
theorem M_init (M : OV) : ∃ M', lp s_X10_table_2_2 5000 (0, M) = some M' ∧ (∀ l, l < 26 → ar M' 43 l = 0 ∧ ar M' 50 l = 0) ∧ (∀ k, k ≠ 43 → k ≠ 50 → ar M' k = ar M k) ∧ ∀ k, iv M' k = iv M k := by
  obtain ⟨r, e, hr⟩ := lp_inv (step := s_X10_table_2_2) (fun i s => ∃ M', s = (nI i, M') ∧ (∀ l, l < i → ar M' 43 l = 0 ∧ ar M' 50 l = 0) ∧ (∀ k, k ≠ 43 → k ≠ 50 → ar M' k = ar M k) ∧ ∀ k, iv M' k = iv M k) (fun M' => (∀ l, l < 26 → ar M' 43 l = 0 ∧ ar M' 50 l = 0) ∧ (∀ k, k ≠ 43 → k ≠ 50 → ar M' k = ar M k) ∧ ∀ k, iv M' k = iv M k) 0 26 (by decide) (by
    rintro i s - hi ⟨M', rfl, h1, h2, h3⟩
    have xi : ix (nI i) 26 = true := ix_nI hi (by decide)
    have ci := nI_clamp (show i < 2 ^ 31 by omega)
    refine ⟨(nI (i + 1), sA (sA M' 43 i 0) 50 i 0), ?_, _, rfl, fun l hl => ?_, fun k a b => ?_, fun k => ?_⟩
    · simp only [s_X10_table_2_2, un2, show ((26 : Int32) ≤ nI i) = (26 ≤ i) from nIle (a := 26) (by decide) (by omega), if_neg (show ¬ 26 ≤ i by omega), gd_t xi, ci, bnd_e, nI_1]
    · have f43 : ar (sA (sA M' 43 i 0) 50 i 0) 43 = upd (ar M' 43) i 0 := by rw [arA, if_neg (by decide), arA, if_pos rfl]
      have f50 : ar (sA (sA M' 43 i 0) 50 i 0) 50 = upd (ar M' 50) i 0 := by rw [arA, if_pos rfl, arA, if_neg (by decide)]
      rw [f43, f50, updE, updE]
      by_cases c : l = i
      · rw [if_pos c, if_pos c]; exact ⟨rfl, rfl⟩
      · rw [if_neg c, if_neg c]; exact h1 l (by omega)
    · rw [arA, if_neg b, arA, if_neg a]; exact h2 k a b
    · rw [ivA, ivA]; exact h3 k) (by
    rintro s ⟨M', rfl, h⟩
    exact ⟨M', by simp only [s_X10_table_2_2, un2, if_pos (show (26 : Int32) ≤ nI 26 by decide)], h⟩) 5000 (by decide) (0, M) ⟨M, rfl, fun k hk => absurd hk (Nat.not_lt_zero k), fun _ _ _ => rfl, fun _ => rfl⟩
  exact ⟨r, e, hr⟩
theorem M_copy (M : OV) : ∃ M', lp s_X10_table_142_32 5000 (0, M) = some M' ∧ (∀ l, l < 26 → ar M' 1 l = ar M 43 l ∧ ar M' 2 l = vp_nar .boolean (ar M 44 l) ∧ ar M' 3 l = ar M 45 l ∧ ar M' 4 l = ar M 46 l ∧ ar M' 5 l = ar M 47 l ∧ ar M' 6 l = ar M 48 l ∧ ar M' 7 l = ar M 49 l ∧ ar M' 8 (87 + l) = ar M 50 l) ∧ (∀ j, j < 87 → ar M' 8 j = ar M 8 j) ∧ (∀ k, 9 ≤ k → ar M' k = ar M k) ∧ ∀ k, iv M' k = iv M k := by
  obtain ⟨r, e, hr⟩ := lp_inv (step := s_X10_table_142_32) (fun i s => ∃ M', s = (nI i, M') ∧ (∀ l, l < i → ar M' 1 l = ar M 43 l ∧ ar M' 2 l = vp_nar .boolean (ar M 44 l) ∧ ar M' 3 l = ar M 45 l ∧ ar M' 4 l = ar M 46 l ∧ ar M' 5 l = ar M 47 l ∧ ar M' 6 l = ar M 48 l ∧ ar M' 7 l = ar M 49 l ∧ ar M' 8 (87 + l) = ar M 50 l) ∧ (∀ j, j < 87 → ar M' 8 j = ar M 8 j) ∧ (∀ k, 9 ≤ k → ar M' k = ar M k) ∧ ∀ k, iv M' k = iv M k) (fun M' => (∀ l, l < 26 → ar M' 1 l = ar M 43 l ∧ ar M' 2 l = vp_nar .boolean (ar M 44 l) ∧ ar M' 3 l = ar M 45 l ∧ ar M' 4 l = ar M 46 l ∧ ar M' 5 l = ar M 47 l ∧ ar M' 6 l = ar M 48 l ∧ ar M' 7 l = ar M 49 l ∧ ar M' 8 (87 + l) = ar M 50 l) ∧ (∀ j, j < 87 → ar M' 8 j = ar M 8 j) ∧ (∀ k, 9 ≤ k → ar M' k = ar M k) ∧ ∀ k, iv M' k = iv M k) 0 26 (by decide) (by
    rintro i s - hi ⟨M', rfl, h1, h2, h3, h4⟩
    have xi : ix (nI i) 26 = true := ix_nI hi (by decide)
    have ci := nI_clamp (show i < 2 ^ 31 by omega)
    have a87 : (87 : Int32) + nI i = nI (87 + i) := nI_add 87 i
    have x87 : ix (nI (87 + i)) 113 = true := ix_nI (by omega) (by decide)
    have c87 := nI_clamp (show 87 + i < 2 ^ 31 by omega)
    obtain ⟨M1, e1⟩ : ∃ X, X = sA M' 1 i (ar M' 43 i) := ⟨_, rfl⟩
    obtain ⟨M2, e2⟩ : ∃ X, X = sA M1 2 i (vp_nar .boolean (ar M1 44 i)) := ⟨_, rfl⟩
    obtain ⟨M3, e3⟩ : ∃ X, X = sA M2 3 i (ar M2 45 i) := ⟨_, rfl⟩
    obtain ⟨M4, e4⟩ : ∃ X, X = sA M3 4 i (ar M3 46 i) := ⟨_, rfl⟩
    obtain ⟨M5, e5⟩ : ∃ X, X = sA M4 5 i (ar M4 47 i) := ⟨_, rfl⟩
    obtain ⟨M6, e6⟩ : ∃ X, X = sA M5 6 i (ar M5 48 i) := ⟨_, rfl⟩
    obtain ⟨M7, e7⟩ : ∃ X, X = sA M6 7 i (ar M6 49 i) := ⟨_, rfl⟩
    obtain ⟨M8, e8⟩ : ∃ X, X = sA M7 8 (87 + i) (ar M7 50 i) := ⟨_, rfl⟩
    refine ⟨(nI (i + 1), M8), ?_, M8, rfl, fun l hl => ?_, fun j hj => ?_, fun k hk => ?_, fun k => ?_⟩
    · simp only [s_X10_table_142_32, un2, show ((26 : Int32) ≤ nI i) = (26 ≤ i) from nIle (a := 26) (by decide) (by omega), if_neg (show ¬ 26 ≤ i by omega), gd_t xi, ci, bnd_e, nI_1, a87, gd_t x87, c87, ← e1, ← e2, ← e3, ← e4, ← e5, ← e6, ← e7, ← e8]
    · have g43 := h3 43 (by decide)
      have g44 := h3 44 (by decide)
      have g45 := h3 45 (by decide)
      have g46 := h3 46 (by decide)
      have g47 := h3 47 (by decide)
      have g48 := h3 48 (by decide)
      have g49 := h3 49 (by decide)
      have g50 := h3 50 (by decide)
      subst e8 e7 e6 e5 e4 e3 e2 e1
      simp only [arA, updE, Nat.reduceEqDiff, if_true, if_false, g43, g44, g45, g46, g47, g48, g49, g50]
      by_cases c : l = i
      · subst c; simp
      · have := h1 l (by omega)
        simp [c, show ¬ 87 + l = 87 + i by omega, this]
    · subst e8 e7 e6 e5 e4 e3 e2 e1
      simp only [arA, updE, Nat.reduceEqDiff, if_true, if_false]
      rw [if_neg (by omega)]
      exact h2 j hj
    · subst e8 e7 e6 e5 e4 e3 e2 e1
      rw [arA, if_neg (by omega), arA, if_neg (by omega), arA, if_neg (by omega), arA, if_neg (by omega), arA, if_neg (by omega), arA, if_neg (by omega), arA, if_neg (by omega), arA, if_neg (by omega)]
      exact h3 k hk
    · subst e8 e7 e6 e5 e4 e3 e2 e1
      exact h4 k) (by
    rintro s ⟨M', rfl, h⟩
    exact ⟨M', by simp only [s_X10_table_142_32, un2, if_pos (show (26 : Int32) ≤ nI 26 by decide)], h⟩) 5000 (by decide) (0, M) ⟨M, rfl, fun k hk => absurd hk (Nat.not_lt_zero k), fun _ _ => rfl, fun _ _ => rfl, fun _ => rfl⟩
  exact ⟨r, e, hr⟩
