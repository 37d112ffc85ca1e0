/-- the letters of a tape, its blanks left out: how many, and which -/
def cz (v : Nat → Nat) : Nat → Nat × (Nat → Nat)
  | 0 => (0, fun _ => 0)
  | i + 1 => if v i = 32 then cz v i else ((cz v i).1 + 1, fun k => if k = (cz v i).1 then v i - 97 else (cz v i).2 k)
theorem cz_b {v : Nat → Nat} {i : Nat} (h : v i = 32) : cz v (i + 1) = cz v i := by rw [cz, if_pos h]
theorem cz_l {v : Nat → Nat} {i : Nat} (h : v i ≠ 32) : cz v (i + 1) = ((cz v i).1 + 1, fun k => if k = (cz v i).1 then v i - 97 else (cz v i).2 k) := by rw [cz, if_neg h]
theorem cz_le (v : Nat → Nat) : ∀ i, (cz v i).1 ≤ i
  | 0 => Nat.le_refl _
  | i + 1 => by
    have := cz_le v i
    by_cases h : v i = 32
    · rw [cz_b h]; omega
    · rw [cz_l h]; show _ + 1 ≤ _; omega
def gdL (x : Nat) : Bool := decide (x = 32 ∨ 97 ≤ x ∧ x ≤ 122)
def gdA (v : Nat → Nat) : Nat → Bool
  | 0 => true
  | i + 1 => gdA v i && gdL (v i)
theorem gdA_t {v : Nat → Nat} : ∀ i j, gdA v i = true → j < i → gdL (v j) = true
  | 0, _, _, h => by omega
  | i + 1, j, h, hj => by
    simp only [gdA, Bool.and_eq_true] at h
    by_cases c : j = i
    · rw [c]; exact h.2
    · exact gdA_t i j h.1 (by omega)
theorem gdA_f {v : Nat → Nat} : ∀ i, gdA v i = false → ∃ m, m < i ∧ gdL (v m) = false ∧ gdA v m = true
  | 0, h => by cases h
  | i + 1, h => by
    cases c : gdA v i
    · obtain ⟨m, h1, h2⟩ := gdA_f i c
      exact ⟨m, by omega, h2⟩
    · rw [gdA, c, Bool.true_and] at h
      exact ⟨i, by omega, h, c⟩
theorem gdA_m {v : Nat → Nat} : ∀ i j, j ≤ i → gdA v i = true → gdA v j = true
  | 0, j, h, h2 => by rw [show j = 0 by omega]; rfl
  | i + 1, j, h, h2 => by
    rcases Nat.lt_or_ge i j with h3 | h3
    · rw [show j = i + 1 by omega]; exact h2
    · simp only [gdA, Bool.and_eq_true] at h2
      exact gdA_m i j h3 h2.1
theorem T_drop {T : OV} {aB : Nat → Nat} {len : Nat} {v : Nat → Nat} (hN : aB 98 = 500) (hT : TPc T len v) (h5 : len ≤ 500) (hv : ∀ i, i < len → v i < 256) : ∃ T', f_X0_dropBlanks aB T = some (bo (gdA v len), T') ∧ (gdA v len = true → TPc T' (cz v len).1 (cz v len).2) := by
  have hst : ∀ i c B', i < len → c ≤ i → iv B' 1 = nI len → ar B' 0 i = nI (v i) → s_X0_dropBlanks_4_3 aB (nI c, nI i, B') = (if gdL (v i) = true then (if v i = 32 then some (.inl (nI c, nI (i + 1), B')) else some (.inl (nI (c + 1), nI (i + 1), sA B' 0 c (nI (v i - 97))))) else some (.inr (.inr (0, B')))) := by
    intro i c B' hi hc h1 h0
    have b := hv i hi
    have xi : ix (nI i) (aB 98) = true := by rw [hN]; exact ix_nI (by omega) (by decide)
    have xc : ix (nI c) (aB 98) = true := by rw [hN]; exact ix_nI (by omega) (by decide)
    have ci := nI_clamp (show i < 2 ^ 31 by omega)
    have cc := nI_clamp (show c < 2 ^ 31 by omega)
    have z1 : (nI (v i) < (97 : Int32)) = (v i < 97) := nIlt (by omega) (by decide)
    have z2 : ((122 : Int32) < nI (v i)) = (122 < v i) := nIlt (a := 122) (by decide) (by omega)
    have z3 : (nI (v i) = (32 : Int32)) = (v i = 32) := nIe (by omega) (by decide)
    simp only [s_X0_dropBlanks_4_3, un3, h1, nIle (show len < 2 ^ 31 by omega) (show i < 2 ^ 31 by omega), if_neg (show ¬ len ≤ i by omega), gd_t xi, ci, h0, bnd, z1, z2, j_X0_dropBlanks_47_12, z3, j_X0_dropBlanks_55_10, nI_1, gd_t xc, cc, gdL, decide_eq_true_eq]
    by_cases d1 : v i = 32
    · rw [if_pos (by omega), if_pos d1, if_pos (Or.inl d1), if_pos d1]
    · by_cases d2 : v i < 97
      · rw [if_pos d2, if_neg d1, if_neg (by omega)]
      · by_cases d3 : 122 < v i
        · rw [if_neg d2, if_pos d3, if_neg d1, if_neg (by omega)]
        · rw [if_neg d2, if_neg d3, if_pos (Or.inr ⟨by omega, by omega⟩), if_neg d1]
          rw [show nI (v i) - (97 : Int32) = nI (v i - 97) from pk_sub (a := v i) (b := 97) (by omega)]
  have stp1 : ∀ i s, i < len → gdL (v i) = true → (∃ B', s = (nI (cz v i).1, nI i, B') ∧ iv B' 1 = nI len ∧ (∀ j, i ≤ j → j < len → ar B' 0 j = nI (v j)) ∧ ∀ k, k < (cz v i).1 → ar B' 0 k = nI ((cz v i).2 k)) → ∃ s', s_X0_dropBlanks_4_3 aB s = some (.inl s') ∧ ∃ B', s' = (nI (cz v (i + 1)).1, nI (i + 1), B') ∧ iv B' 1 = nI len ∧ (∀ j, i + 1 ≤ j → j < len → ar B' 0 j = nI (v j)) ∧ ∀ k, k < (cz v (i + 1)).1 → ar B' 0 k = nI ((cz v (i + 1)).2 k) := by
    rintro i s hi hg ⟨B', rfl, h1, h2, h3⟩
    have hle := cz_le v i
    have := hst i (cz v i).1 B' hi hle h1 (h2 i (Nat.le_refl _) hi)
    rw [if_pos hg] at this
    by_cases d : v i = 32
    · rw [if_pos d] at this
      rw [cz_b d]
      exact ⟨_, this, B', rfl, h1, fun j a b => h2 j (by omega) b, h3⟩
    · rw [if_neg d] at this
      rw [cz_l d]
      refine ⟨_, this, _, rfl, h1, fun j a b => ?_, fun k hk => ?_⟩
      · rw [arA, if_pos rfl, updE, if_neg (by omega)]
        exact h2 j (by omega) b
      · rw [arA, if_pos rfl, updE]
        show _ = nI (if k = (cz v i).1 then v i - 97 else (cz v i).2 k)
        by_cases c : k = (cz v i).1
        · rw [if_pos c, if_pos c]
        · rw [if_neg c, if_neg c]
          exact h3 k (by have hk' : k < (cz v i).1 + 1 := hk; omega)
  have init : ∃ B', ((0, 0, T) : Int32 × Int32 × OV) = (nI (cz v 0).1, nI 0, B') ∧ iv B' 1 = nI len ∧ (∀ j, 0 ≤ j → j < len → ar B' 0 j = nI (v j)) ∧ ∀ k, k < (cz v 0).1 → ar B' 0 k = nI ((cz v 0).2 k) := ⟨T, rfl, hT.1, fun j _ b => hT.2 j b, fun k hk => absurd hk (Nat.not_lt_zero k)⟩
  unfold f_X0_dropBlanks
  simp only [bnd]
  cases hg : gdA v len
  · obtain ⟨m, h1, h2, h3⟩ := gdA_f len hg
    obtain ⟨r, e, T', rfl⟩ := lp_inv (step := s_X0_dropBlanks_4_3 aB) (fun i s => ∃ B', s = (nI (cz v i).1, nI i, B') ∧ iv B' 1 = nI len ∧ (∀ j, i ≤ j → j < len → ar B' 0 j = nI (v j)) ∧ ∀ k, k < (cz v i).1 → ar B' 0 k = nI ((cz v i).2 k)) (fun r => ∃ T', r = .inr (0, T')) 0 m (Nat.zero_le _) (fun i s _ hi hs => stp1 i s (by omega) (gdA_t m i h3 hi) hs) (by
      rintro s ⟨B', rfl, g1, g2, g3⟩
      have := hst m (cz v m).1 B' h1 (cz_le v m) g1 (g2 m (Nat.le_refl _) h1)
      rw [if_neg (by rw [h2]; simp)] at this
      exact ⟨_, this, B', rfl⟩) 5000 (by omega) (0, 0, T) init
    rw [e, Option.bind_some, Sum.elim_inr]
    exact ⟨T', rfl, fun h => by cases h⟩
  · obtain ⟨r, e, T', rfl, g3⟩ := lp_inv (step := s_X0_dropBlanks_4_3 aB) (fun i s => ∃ B', s = (nI (cz v i).1, nI i, B') ∧ iv B' 1 = nI len ∧ (∀ j, i ≤ j → j < len → ar B' 0 j = nI (v j)) ∧ ∀ k, k < (cz v i).1 → ar B' 0 k = nI ((cz v i).2 k)) (fun r => ∃ T', r = .inl (nI (cz v len).1, T') ∧ ∀ k, k < (cz v len).1 → ar T' 0 k = nI ((cz v len).2 k)) 0 len (Nat.zero_le _) (fun i s _ hi hs => stp1 i s hi (gdA_t len i hg hi) hs) (by
      rintro s ⟨B', rfl, g1, g2, g3⟩
      exact ⟨_, by simp only [s_X0_dropBlanks_4_3, un3, g1, if_pos (Int32.le_refl _)], B', rfl, g3⟩) 5000 (by omega) (0, 0, T) init
    rw [e, Option.bind_some, Sum.elim_inl]
    simp only [un2]
    exact ⟨_, rfl, fun _ => ⟨by rw [ivI, if_pos rfl], g3⟩⟩
theorem M_drop {M : OV} {len : Nat} {v : Nat → Nat} (h36 : iv M 36 = nI len) (h35 : ∀ i, i < len → ar M 35 i = nI (v i)) (h5 : len ≤ 500) (hv : ∀ i, i < len → v i < 256) : ∃ M', lp s_X10_find_17_6 5000 (0, 1, 0, M) = some (nI (cz v len).1, bo (gdA v len), M') ∧ KM M M' ∧ (gdA v len = true → ∀ k, k < (cz v len).1 → ar M' 54 k = nI ((cz v len).2 k)) := by
  obtain ⟨r, e, M', rfl, hk, hw⟩ := lp_inv (step := s_X10_find_17_6) (fun i s => ∃ M', s = (nI (cz v i).1, bo (gdA v i), nI i, M') ∧ KM M M' ∧ (gdA v i = true → ∀ k, k < (cz v i).1 → ar M' 54 k = nI ((cz v i).2 k))) (fun r => ∃ M', r = (nI (cz v len).1, bo (gdA v len), M') ∧ KM M M' ∧ (gdA v len = true → ∀ k, k < (cz v len).1 → ar M' 54 k = nI ((cz v len).2 k))) 0 len (Nat.zero_le _) (by
    rintro i s - hi ⟨M', rfl, hk, hw⟩
    have hle := cz_le v i
    have b := hv i hi
    have xi : ix (nI i) 500 = true := ix_nI (by omega) (by decide)
    have xc : ix (nI (cz v i).1) 500 = true := ix_nI (by omega) (by decide)
    have ci := nI_clamp (show i < 2 ^ 31 by omega)
    have cc := nI_clamp (show (cz v i).1 < 2 ^ 31 by omega)
    have k36 : iv M' 36 = nI len := by rw [(hk 36 (by omega)).2]; exact h36
    have k35 : ar M' 35 i = nI (v i) := by rw [(hk 35 (by omega)).1]; exact h35 i hi
    have z3 : (nI (v i) = (32 : Int32)) = (v i = 32) := nIe (by omega) (by decide)
    have z1 : (nI (v i) < (97 : Int32)) = (v i < 97) := nIlt (by omega) (by decide)
    have z2 : ((122 : Int32) < nI (v i)) = (122 < v i) := nIlt (a := 122) (by decide) (by omega)
    have hin : v i ≠ 32 → f_X10_in (nI (v i)) 97 122 = some (bo (gdL (v i))) := by
      intro d
      simp only [f_X10_in, z1, z2, j_X10_in_14_1]
      unfold gdL
      by_cases d1 : v i < 97
      · rw [if_pos d1, decide_eq_false (by omega)]; rfl
      · by_cases d2 : 122 < v i
        · rw [if_neg d1, if_pos d2, decide_eq_false (by omega)]; rfl
        · rw [if_neg d1, if_neg d2, decide_eq_true (by omega)]; rfl
    by_cases d : v i = 32
    · have g : gdA v (i + 1) = gdA v i := by rw [gdA, show gdL (v i) = true from decide_eq_true (Or.inl d), Bool.and_true]
      rw [cz_b d, g]
      refine ⟨(nI (cz v i).1, bo (gdA v i), nI (i + 1), M'), ?_, M', rfl, hk, hw⟩
      simp only [s_X10_find_17_6, un4, k36, nIle (show len < 2 ^ 31 by omega) (show i < 2 ^ 31 by omega), if_neg (show ¬ len ≤ i by omega), gd_t xi, ci, k35, z3, if_pos d, j_X10_find_87_14, bnd, nI_1]
    · rw [cz_l d]
      refine ⟨(nI ((cz v i).1 + 1), bo (gdA v (i + 1)), nI (i + 1), sA M' 54 (cz v i).1 (nI (v i) - 97)), ?_, _, rfl, KM_tr hk (KM_A _ _ _ _ (by omega)), fun hg k hk2 => ?_⟩
      · simp only [s_X10_find_17_6, un4, k36, nIle (show len < 2 ^ 31 by omega) (show i < 2 ^ 31 by omega), if_neg (show ¬ len ≤ i by omega), gd_t xi, ci, k35, z3, if_neg d, bo_0, hin d, Option.bind_some, un1, j_X10_find_66_21, j_X10_find_67_17, bnd, gd_t xc, cc, nI_1, j_X10_find_87_14]
        rw [gdA]
        cases gdA v i <;> cases gdL (v i) <;> rfl
      · simp only [gdA, Bool.and_eq_true] at hg
        have h97 : 97 ≤ v i := by
          have := of_decide_eq_true hg.2
          omega
        rw [arA, if_pos rfl, updE]
        show _ = nI (if k = (cz v i).1 then v i - 97 else (cz v i).2 k)
        by_cases c : k = (cz v i).1
        · rw [if_pos c, if_pos c]
          exact pk_sub (a := v i) (b := 97) h97
        · rw [if_neg c, if_neg c]
          exact hw hg.1 k (by have hk' : k < (cz v i).1 + 1 := hk2; omega)) (by
    rintro s ⟨M', rfl, hk, hw⟩
    have k36 : iv M' 36 = nI len := by rw [(hk 36 (by omega)).2]; exact h36
    exact ⟨_, by simp only [s_X10_find_17_6, un4, k36, if_pos (Int32.le_refl _)], M', rfl, hk, hw⟩) 5000 (by omega) (0, 1, 0, M) ⟨M, rfl, KM_rf M, fun _ k hk => absurd hk (Nat.not_lt_zero k)⟩
  exact ⟨M', e, hk, hw⟩
/-- the page bears the letters at a place -/
def brs (p : Pg) (w : Nat → Nat) (at' : Nat) : Nat → Bool
  | 0 => true
  | i + 1 => brs p w at' i && decide (ps p (at' + i) = w i)
theorem brs_t {p : Pg} {w : Nat → Nat} {x : Nat} : ∀ i j, brs p w x i = true → j < i → ps p (x + j) = w j
  | 0, _, _, h => by omega
  | i + 1, j, h, hj => by
    simp only [brs, Bool.and_eq_true] at h
    by_cases c : j = i
    · rw [c]; exact of_decide_eq_true h.2
    · exact brs_t i j h.1 (by omega)
theorem brs_f {p : Pg} {w : Nat → Nat} {x : Nat} : ∀ i, brs p w x i = false → ∃ m, m < i ∧ ps p (x + m) ≠ w m ∧ brs p w x m = true
  | 0, h => by cases h
  | i + 1, h => by
    cases c : brs p w x i
    · obtain ⟨m, h1, h2⟩ := brs_f i c
      exact ⟨m, by omega, h2⟩
    · rw [brs, c, Bool.true_and] at h
      exact ⟨i, by omega, of_decide_eq_false h, c⟩
theorem cz_lt {v : Nat → Nat} : ∀ i, (∀ j, j < i → v j < 256) → ∀ k, (cz v i).2 k < 256
  | 0, _, _ => by show 0 < 256; decide
  | i + 1, h, k => by
    have ih := cz_lt i (fun j hj => h j (by omega)) k
    have hi := h i (by omega)
    by_cases d : v i = 32
    · rw [cz_b d]; exact ih
    · rw [cz_l d]
      show (if k = (cz v i).1 then v i - 97 else (cz v i).2 k) < 256
      split
      · omega
      · exact ih
theorem P_has {P : OV} {p : Pg} (hP : RP P p) (hs : PgS p) {i : Nat} (hi : i < pn p) : f_X4_has P (nI i) = some 1 := by
  have h40 := hs.1
  unfold f_X4_has
  rw [if_neg (nI_pos (by omega)), hP.1, if_neg (by rw [nIle (by omega) (by omega)]; omega)]
theorem P_bears {P T : OV} {aB : Nat → Nat} {p : Pg} {c : Nat} {w : Nat → Nat} (hN : aB 98 = 500) (hP : RP P p) (hs : PgS p) (h5 : c ≤ 500) (hw : ∀ k, k < c → ar T 0 k = nI (w k)) (hw2 : ∀ k, w k < 256) {x : Nat} (hx : x + c ≤ pn p) : f_X4_bears P aB T (nI c) (nI x) = some (bo (brs p w x c)) := by
  have h40 := hs.1
  have hst : ∀ i, i < c → s_X4_bears_3_2 aB P T (nI c) (nI x) (nI i) = (if ps p (x + i) = w i then some (.inl (nI (i + 1))) else some (.inr (.inr 0))) := by
    intro i hi
    have xi : ix (nI i) (aB 98) = true := by rw [hN]; exact ix_nI (by omega) (by decide)
    have x2 : ix (nI (x + i)) 40 = true := ix_nI (by omega) (by decide)
    have ci := nI_clamp (show i < 2 ^ 31 by omega)
    have cx := nI_clamp (show x + i < 2 ^ 31 by omega)
    have b1 := (hs.2.1 (x + i) (by omega)).1
    have b2 := hw2 i
    simp only [s_X4_bears_3_2, un1, nIle (show c < 2 ^ 31 by omega) (show i < 2 ^ 31 by omega), if_neg (show ¬ c ≤ i by omega), nI_add, P_has hP hs (show x + i < pn p by omega), Option.bind_some, if_neg (show ¬ (1 : Int32) = 0 by decide), gd_t xi, gd_t x2, ci, cx, hP.2.1 (x + i) (by omega), hw i hi, nIe (show ps p (x + i) < 2 ^ 31 by omega) (show w i < 2 ^ 31 by omega), bnd, nI_1]
  unfold f_X4_bears
  simp only [bnd]
  cases hb : brs p w x c
  · obtain ⟨m, h1, h2, h3⟩ := brs_f c hb
    obtain ⟨r, e, rfl⟩ := lp_inv (step := s_X4_bears_3_2 aB P T (nI c) (nI x)) (fun i s => s = nI i) (fun r => r = .inr 0) 0 m (Nat.zero_le _) (by
      rintro i s - hi rfl
      exact ⟨_, by rw [hst i (by omega), if_pos (brs_t m i h3 hi)], rfl⟩) (by
      rintro s rfl
      exact ⟨_, by rw [hst m h1, if_neg h2], rfl⟩) 5000 (by omega) 0 rfl
    rw [e, Option.bind_some, Sum.elim_inr]
    rfl
  · obtain ⟨r, e, rfl⟩ := lp_inv (step := s_X4_bears_3_2 aB P T (nI c) (nI x)) (fun i s => s = nI i) (fun r => r = .inl ()) 0 c (Nat.zero_le _) (by
      rintro i s - hi rfl
      exact ⟨_, by rw [hst i (by omega), if_pos (brs_t c i hb hi)], rfl⟩) (by
      rintro s rfl
      exact ⟨_, by simp only [s_X4_bears_3_2, un1, if_pos (Int32.le_refl _)], rfl⟩) 5000 (by omega) 0 rfl
    rw [e, Option.bind_some, Sum.elim_inl]
    rfl
theorem M_bears {M : OV} {p : Pg} {c : Nat} {w : Nat → Nat} (hM : RM (ar M 8) p) (hs : PgS p) (h5 : c ≤ 500) (hw : ∀ k, k < c → ar M 54 k = nI (w k)) (hw2 : ∀ k, w k < 256) {x : Nat} (hx : x + c ≤ pn p) : lp (s_X10_find_129_35 M (nI c) (nI x)) 5000 (1, 0) = some (bo (brs p w x c)) := by
  have h40 := hs.1
  obtain ⟨r, e, rfl⟩ := lp_inv' (step := s_X10_find_129_35 M (nI c) (nI x)) (fun i s => s = (bo (brs p w x i), nI i)) (fun r => r = bo (brs p w x c)) 0 c (Nat.zero_le _) (by
    rintro i s - hi rfl
    have xi : ix (nI i) 500 = true := ix_nI (by omega) (by decide)
    have ci := nI_clamp (show i < 2 ^ 31 by omega)
    have b1 := (hs.2.1 (x + i) (by omega)).1
    have b2 := hw2 i
    have hst : s_X10_find_129_35 M (nI c) (nI x) (bo (brs p w x i), nI i) = (if brs p w x i = false then some (.inr (bo (brs p w x i))) else if ps p (x + i) = w i then some (.inl (1, nI (i + 1))) else some (.inl (0, nI (i + 1)))) := by
      simp only [s_X10_find_129_35, un2, nIle (show c < 2 ^ 31 by omega) (show i < 2 ^ 31 by omega), if_neg (show ¬ c ≤ i by omega), bo_0, nI_add, M_class hM hs (show x + i < pn p by omega), Option.bind_some, un1, gd_t xi, ci, hw i hi, nIe (show ps p (x + i) < 2 ^ 31 by omega) (show w i < 2 ^ 31 by omega), j_X10_find_164_41, bnd, nI_1]
    cases hb : brs p w x i
    · right
      rw [hb, if_pos rfl] at hst
      refine ⟨_, hst, ?_⟩
      cases hc : brs p w x c
      · rfl
      · exfalso
        have : ∀ k, brs p w x (i + k) = false := by
          intro k
          induction k with
          | zero => exact hb
          | succ k ih => show (brs p w x (i + k) && _) = false; rw [ih]; rfl
        have := this (c - i)
        rw [show i + (c - i) = c by omega, hc] at this
        cases this
    · left
      rw [hb, if_neg (by simp)] at hst
      by_cases d : ps p (x + i) = w i
      · rw [if_pos d] at hst
        exact ⟨_, hst, by rw [brs, hb, decide_eq_true d]; rfl⟩
      · rw [if_neg d] at hst
        exact ⟨_, hst, by rw [brs, hb, decide_eq_false d]; rfl⟩) (by
    rintro s rfl
    exact ⟨_, by simp only [s_X10_find_129_35, un2, if_pos (Int32.le_refl _)], rfl⟩) 5000 (by omega) (1, 0) rfl
  exact e
theorem find_both {P T M : OV} {aB : Nat → Nat} {p : Pg} {c : Nat} {w : Nat → Nat} (hN : aB 98 = 500) (hP : RP P p) (hM : RM (ar M 8) p) (hs : PgS p) (h5 : c ≤ 500) (hw : ∀ k, k < c → ar T 0 k = nI (w k)) (hwM : ∀ k, k < c → ar M 54 k = nI (w k)) (hw2 : ∀ k, w k < 256) : ∀ m x n, pn p - x ≤ m → x ≤ pn p → 0 < c → m + 1 < n → (lp (s_X9_find_51_10 aB P T (nI c)) n (nI x) = some (.inl ()) ∧ lp (s_X10_find_112_29 M (nI c)) n (nI x) = some (.inl ())) ∨ ∃ r, lp (s_X9_find_51_10 aB P T (nI c)) n (nI x) = some (.inr (r, T)) ∧ lp (s_X10_find_112_29 M (nI c)) n (nI x) = some (.inr (r, M))
  | _, _, 0, _, _, _, h => by omega
  | m, x, n + 1, h1, h2, h3, h4 => by
    have h40 := hs.1
    have z1 : (nI (pn p) - nI c < nI x) = (pn p < x + c) := by
      rw [Int32.lt_iff_toInt_lt, pk_sub_toInt (by omega) (by omega), nI_toInt (by omega)]
      exact propext ⟨fun h => by omega, fun h => by omega⟩
    have z2 : (nI (pn p) < nI (x + c)) = (pn p < x + c) := nIlt (by omega) (by omega)
    by_cases d : pn p < x + c
    · left
      constructor
      · exact lp_r (by simp only [s_X9_find_51_10, un1, hP.1, z1, if_pos d])
      · exact lp_r (by simp only [s_X10_find_112_29, un1, M_many hM, Option.bind_some, nI_add, z2, if_pos d])
    · have b1 := P_bears hN hP hs h5 hw hw2 (show x + c ≤ pn p by omega)
      have b2 := M_bears hM hs h5 hwM hw2 (show x + c ≤ pn p by omega)
      have s1 : s_X9_find_51_10 aB P T (nI c) (nI x) = (if brs p w x c = false then some (.inl (nI (x + 1))) else some (.inr (.inr (nI x, T)))) := by
        simp only [s_X9_find_51_10, un1, hP.1, z1, if_neg d, b1, Option.bind_some, bo_0, bnd, nI_1]
      have s2 : s_X10_find_112_29 M (nI c) (nI x) = (if brs p w x c = false then some (.inl (nI (x + 1))) else some (.inr (.inr (nI x, M)))) := by
        simp only [s_X10_find_112_29, un1, M_many hM, Option.bind_some, nI_add, z2, if_neg d, b2, bnd, bo_0, nI_1]
      cases hb : brs p w x c
      · rw [hb, if_pos rfl] at s1 s2
        rw [lp_l s1, lp_l s2]
        exact find_both hN hP hM hs h5 hw hwM hw2 (m - 1) (x + 1) n (by omega) (by omega) h3 (by omega)
      · rw [hb, if_neg (by simp)] at s1 s2
        exact Or.inr ⟨_, lp_r s1, lp_r s2⟩
theorem F9_find {aB : Nat → Nat} {T P T' : OV} {x : Int32} {g : Bool} (e1 : f_X4_has P x = some 1) (t1 : f_X0_dropBlanks aB T = some (bo g, T')) : f_X9_find aB T P x = (if g = false then some (-2, sI T' 1 0) else if iv T' 1 = 0 then some (-2, sI T' 1 0) else (lp (s_X9_find_51_10 aB P (sI T' 1 0) (iv T' 1)) 5000 x).bind (Sum.elim (un1 (fun (_u : Unit) => some ((-2 : Int32), sI T' 1 0))) (fun r => some r))) := by
  unfold f_X9_find
  rw [e1, Option.bind_some]
  simp only [un1]
  rw [if_neg (by decide), t1, Option.bind_some]
  simp only [un2, bnd, bo_0]
theorem bnd_e {α β : Type} (x : α) (f : α → Option β) : bnd x f = f x := Eq.trans rfl rfl
def FX (L : (Int32 × Int32 × Int32 × OV) → Option (Int32 × Int32 × OV)) (S : OV → Int32 → Int32 → Option (Unit ⊕ (Int32 × OV))) (M : OV) (p0 : Int32) : Option (Int32 × OV) := (f_X10_isSign M p0).bind (un1 (fun r_1 => (if r_1 = 0 then some ((-1 : Int32), M) else bnd (0 : Int32) (fun v2_3 => bnd (1 : Int32) (fun v3_4 => bnd (0 : Int32) (fun v4_5 => ((L (v2_3, v3_4, v4_5, M)).bind (un3 (fun v2_24 v3_25 M_26 => bnd (sI M_26 36 (0 : Int32)) (fun M_27 => (if v3_25 = 0 then some ((-2 : Int32), M_27) else (if v2_24 = 0 then some ((-2 : Int32), M_27) else bnd p0 (fun v4_28 => ((S M_27 v2_24 v4_28).bind (Sum.elim (un1 (fun (_u : Unit) => some ((-2 : Int32), M_27))) (fun r => some r))))))))))))))))
theorem FX_eq (M : OV) (x : Int32) : f_X10_find M x = FX (lp s_X10_find_17_6 5000) (fun M_27 v2_24 => lp (s_X10_find_112_29 M_27 v2_24) 5000) M x := rfl
theorem FX_at {L : (Int32 × Int32 × Int32 × OV) → Option (Int32 × Int32 × OV)} {S : OV → Int32 → Int32 → Option (Unit ⊕ (Int32 × OV))} {M M' : OV} {x c : Int32} {g : Bool} (e2 : f_X10_isSign M x = some 1) (m1 : L (0, 1, 0, M) = some (c, bo g, M')) : FX L S M x = (if g = false then some (-2, sI M' 36 0) else if c = 0 then some (-2, sI M' 36 0) else (S (sI M' 36 0) c x).bind (Sum.elim (un1 (fun (_u : Unit) => some ((-2 : Int32), sI M' 36 0))) (fun r => some r))) := by
  unfold FX
  rw [e2, Option.bind_some]
  simp only [un1]
  rw [if_neg (by decide)]
  simp only [bnd, m1, Option.bind_some, un3, bo_0]
theorem F10_find {M M' : OV} {x c : Int32} {g : Bool} (e2 : f_X10_isSign M x = some 1) (m1 : lp s_X10_find_17_6 5000 (0, 1, 0, M) = some (c, bo g, M')) : f_X10_find M x = (if g = false then some (-2, sI M' 36 0) else if c = 0 then some (-2, sI M' 36 0) else (lp (s_X10_find_112_29 (sI M' 36 0) c) 5000 x).bind (Sum.elim (un1 (fun (_u : Unit) => some ((-2 : Int32), sI M' 36 0))) (fun r => some r))) := (FX_eq M x).trans (FX_at e2 m1)
theorem ok_find : Ok_find INV := by
  intro o a aK Z B hI q0
  have hI2 := hI
  obtain ⟨tb, p, len, v, cnt, nx, q, hc⟩ := hI2
  have hc' := hc
  obtain ⟨⟨hN, -⟩, -, hTp, hPG, -, -, -, -, -, -, ⟨hRT, hM, h36, h35, -⟩, ⟨hT, -, hG, h500, hv, -⟩⟩ := hc'
  have hs := hG.1
  have hP := hPG.1
  have h40 := hs.1
  rcases has_or hP hM hs q0 with ⟨e1, e2⟩ | ⟨x, hx, rfl, e1, e2⟩
  · refine ⟨(-1, Z 1), (-1, Z 28), ?_, ?_, rfl, ?_⟩
    · unfold f_X9_find; rw [e1, Option.bind_some]; simp only [un1]; rw [if_pos trivial]
    · unfold f_X10_find; rw [e2, Option.bind_some]; simp only [un1]; rw [if_pos trivial]
    · show INV o a aK (va_up (va_up Z 1 (Z 1)) 28 (Z 28)) B
      rw [up_same, up_same]
      exact hI
  · obtain ⟨T', t1, t2⟩ := T_drop hN hTp h500 hv
    obtain ⟨M', m1, m2, m3⟩ := M_drop h36 h35 h500 hv
    have hle := cz_le v len
    have fin : ∀ r, f_X9_find (a 1) (Z 1) (Z 3) (nI x) = some (r, sI T' 1 0) → f_X10_find (Z 28) (nI x) = some (r, sI M' 36 0) → (∃ (u : Int32 × OV) (w : Int32 × OV), f_X9_find (a 1) (Z 1) (Z 3) (nI x) = some u ∧ f_X10_find (Z 28) (nI x) = some w ∧ w.1 = u.1 ∧ INV o a aK (va_up (va_up Z 1 u.2) 28 w.2) B) := by
      intro r f1 f2
      refine ⟨_, _, f1, f2, rfl, INV_tape hc (T' := sI T' 1 0) (M' := sI M' 36 0) (len' := 0) (v' := v) ⟨by rw [ivI, if_pos rfl]; rfl, fun i hi => absurd hi (Nat.not_lt_zero i)⟩ (Nat.zero_le _) (fun i hi => absurd hi (Nat.not_lt_zero i)) (fun k hk => ?_) ?_ ?_ (fun i hi => absurd hi (Nat.not_lt_zero i))⟩
      · show ar M' k = _
        exact (m2 k (by omega)).1
      · rw [ivI, if_neg (by decide)]
        exact (m2 11 (by omega)).2
      · rw [ivI, if_pos rfl]; rfl
    have F9 := F9_find e1 t1
    have F10 := F10_find e2 m1
    cases hg : gdA v len
    · rw [hg, if_pos rfl] at F9 F10
      exact fin _ F9 F10
    · obtain ⟨t3, t4⟩ := t2 hg
      rw [hg, if_neg (by simp)] at F9 F10
      rw [t3] at F9
      by_cases d : (cz v len).1 = 0
      · rw [d, if_pos (show nI 0 = 0 from rfl)] at F9 F10
        exact fin _ F9 F10
      · have dd : ¬ nI (cz v len).1 = 0 := by
          have e0 : (nI (cz v len).1 = (0 : Int32)) = ((cz v len).1 = 0) := nIe (by omega) (by decide)
          rw [e0]; exact d
        rw [if_neg dd] at F9 F10
        have rm' : RM (ar M' 8) p := KM_RM m2 hM
        rcases find_both (T := sI T' 1 0) (M := sI M' 36 0) hN hP (show RM (ar (sI M' 36 0) 8) p from rm') hs (by omega) t4 (m3 hg) (cz_lt len hv) _ x 5000 (Nat.le_refl _) (by omega) (by omega) (by omega) with ⟨b1, b2⟩ | ⟨r, b1, b2⟩
        · rw [b1, Option.bind_some, Sum.elim_inl] at F9
          rw [b2, Option.bind_some, Sum.elim_inl] at F10
          exact fin _ F9 F10
        · rw [b1, Option.bind_some, Sum.elim_inr] at F9
          rw [b2, Option.bind_some, Sum.elim_inr] at F10
          exact fin _ F9 F10
