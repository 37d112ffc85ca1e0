-- a page is copied
theorem P_copy {K P : OV} {p : Pg} (h : PGc P p) (hs : PgS p) : ∃ K', f_X4_copyFrom K P = some K' ∧ PGc K' p := by
  have h40 := hs.1
  obtain ⟨⟨h4, h0, h1, h2, h3, h5, h6, h7⟩, h8⟩ := h
  have c40 : (40 : Int32).toNatClampNeg = 40 := by decide
  have c26 : (26 : Int32).toNatClampNeg = 26 := by decide
  have c3 : (3 : Int32).toNatClampNeg = 3 := by decide
  have c0 : (0 : Int32).toNatClampNeg = 0 := by decide
  refine ⟨_, rfl, ⟨?_, fun i hi => ?_, fun i hi => ?_, fun l hl => ?_, fun k hk => ?_, ?_, ?_, ?_⟩, ?_⟩
  · simp [ivI, h4]
  · simp [arI, arW, va_cpy, c40, c0, show i < 40 by omega, h0 i hi]
  · simp [arI, arW, va_cpy, c40, c0, show i < 40 by omega, h1 i hi]
  · simp [arI, arW, va_cpy, c26, c0, hl, h2 l hl]
  · simp [arI, arW, va_cpy, c3, c0, hk, h3 k hk]
  · simp [ivI, h5]
  · simp [ivI, h6]
  · simp [ivI, h7]
  · simp [ivI, h8]
def cn1 (cnt : Nat) : Nat := if cnt < 12 then cnt + 1 else 12
def nx1 (nx : Nat) : Nat := if nx + 1 < 12 then nx + 1 else 0
def qu1 (p : Pg) (q : Nat → Pg) (j : Nat) : Pg := if j = 0 then p else q (j - 1)
theorem A_begin {L P H W Y0 Y1 Y2 Y3 : OV} {a : Nat → Nat → Nat} {B : Nat → OV} {p : Pg} {cnt nx : Nat} {q : Nat → Pg} (hP : PGc P p) (hs : PgS p) (hH : HSc H B cnt nx q) : ∃ H' K', f_X9_beginAct L P (a 5) H W (a 5 (100 + nx)) (B nx) Y0 Y1 Y2 Y3 = some (sI L 12 0, H', sI W 3 0, K', sI Y0 7 0, sI Y1 7 0, sI Y2 7 0, sI Y3 7 0) ∧ HSc H' (va_up B nx K') (cn1 cnt) (nx1 nx) (qu1 p q) := by
  obtain ⟨h1, h2, hnx, hcnt, hB⟩ := hH
  obtain ⟨K', e, hK'⟩ := P_copy (K := B nx) hP hs
  have xn : ix (nI nx) 12 = true := ix_nI hnx (by decide)
  have cnx := nI_clamp (show nx < 2 ^ 31 by omega)
  have e12 : ((12 : Int32) ≤ nI (nx + 1)) = (12 ≤ nx + 1) := nIle (by decide) (by omega)
  have ec : (if (12 : Int32) < nI (cnt + 1) then (12 : Int32) else nI (cnt + 1)) = nI (cn1 cnt) := by
    have : ((12 : Int32) < nI (cnt + 1)) = (12 < cnt + 1) := nIlt (by decide) (by omega)
    simp only [this]
    unfold cn1
    by_cases c : cnt < 12
    · rw [if_neg (by omega), if_pos c]
    · rw [if_pos (by omega), if_neg c]; rfl
  have hk : ∀ t, t = nI (nx1 nx) → j_X2_keep_35_5 H K' t = some (sI (sI H 1 (nI (nx1 nx))) 2 (nI (cn1 cnt)), K') := by
    intro t ht
    subst ht
    simp only [j_X2_keep_35_5, bnd, ivI, show ¬ (2 : Nat) = 1 by decide, if_false, h2, nI_1, ec]
  have hkeep : f_X2_keep (a 5) H P (a 5 (100 + nx)) (B nx) = some (sI (sI H 1 (nI (nx1 nx))) 2 (nI (cn1 cnt)), K') := by
    unfold f_X2_keep
    rw [h1, gd_t xn, cnx, gd_t (decide_eq_true rfl), e, nI_1]
    simp only [Option.bind_some, un1, e12]
    by_cases c : 12 ≤ nx + 1
    · rw [if_pos c]
      exact hk _ (by unfold nx1; rw [if_neg (by omega)]; rfl)
    · rw [if_neg c]
      exact hk _ (by unfold nx1; rw [if_pos (by omega)])
  refine ⟨sI (sI H 1 (nI (nx1 nx))) 2 (nI (cn1 cnt)), K', ?_, ?_, ?_, ?_, ?_, ?_⟩
  · unfold f_X9_beginAct
    rw [hkeep]
    simp only [Option.bind_some, un2, f_X9_forget, bnd, gd_t (show ix (0 : Int32) 4 = true by decide), gd_t (show ix (1 : Int32) 4 = true by decide), gd_t (show ix (2 : Int32) 4 = true by decide), gd_t (show ix (3 : Int32) 4 = true by decide), un6]
  · rw [ivI, ivI]; simp
  · rw [ivI]; simp
  · unfold nx1; split <;> omega
  · unfold cn1; split <;> omega
  · intro j hj
    have hc2 : cn1 cnt ≤ cnt + 1 ∧ cn1 cnt ≤ 12 := by unfold cn1; split <;> omega
    have hn1 : nx1 nx = nx + 1 ∧ nx + 1 < 12 ∨ nx1 nx = 0 ∧ nx = 11 := by unfold nx1; split <;> omega
    unfold qu1
    by_cases c : j = 0
    · subst c
      rw [if_pos rfl, show (nx1 nx + 11 - 0) % 12 = nx by omega, va_up_self]
      exact hK'
    · rw [if_neg c, va_up_ne _ _ (show (nx1 nx + 11 - j) % 12 ≠ nx by omega)]
      have := hB (j - 1) (by omega)
      rw [show (nx + 11 - (j - 1)) % 12 = (nx1 nx + 11 - j) % 12 by omega] at this
      exact this
/-- the model keeps its row -/
theorem M_keeps {M : OV} {p : Pg} {cnt : Nat} {q : Nat → Pg} (hcnt : cnt ≤ 12) (h11 : iv M 11 = nI cnt) (hM : RM (ar M 8) p) (hs : PgS p) (hsq : ∀ j, j < cnt → PgS (q j)) (hq : ∀ j, j < cnt → RM (fun i => ar M 10 (113 * (cnt - 1 - j) + i)) (q j)) : ∃ M', f_X10_keeps M = some M' ∧ (∀ k, k ≠ 10 → ar M' k = ar M k) ∧ (∀ k, k ≠ 11 → iv M' k = iv M k) ∧ iv M' 11 = nI (cn1 cnt) ∧ ∀ j, j < cn1 cnt → RM (fun i => ar M' 10 (113 * (cn1 cnt - 1 - j) + i)) (qu1 p q j) := by
  have h40 := hs.1
  -- the last part: now goes behind the c rows that stand
  have hlast : ∀ (M1 : OV) (c : Nat), c ≤ 11 → iv M1 11 = nI c → ar M1 8 = ar M 8 → ∃ M', j_X10_keeps_50_2 M1 = some M' ∧ (∀ k, k ≠ 10 → ar M' k = ar M1 k) ∧ (∀ k, k ≠ 11 → iv M' k = iv M1 k) ∧ iv M' 11 = nI (c + 1) ∧ (∀ i, i < 113 → ar M' 10 (113 * c + i) = ar M 8 i) ∧ ∀ i, i < 113 * c → ar M' 10 i = ar M1 10 i := by
    intro M1 c hc h1 h8
    obtain ⟨r, e, f, rfl, hf1, hf2⟩ := lp_inv (step := s_X10_keeps_52_4) (fun k s => ∃ f, s = (nI k, sW M1 10 f) ∧ (∀ i, i < k → f (113 * c + i) = ar M 8 i) ∧ ∀ i, i < 113 * c → f i = ar M1 10 i) (fun r => ∃ f, r = sW M1 10 f ∧ (∀ i, i < 113 → f (113 * c + i) = ar M 8 i) ∧ ∀ i, i < 113 * c → f i = ar M1 10 i) 0 113 (by decide) (by
      rintro k s - hk ⟨f, rfl, hf1, hf2⟩
      refine ⟨(nI (k + 1), sW M1 10 (upd f (113 * c + k) (ar M 8 k))), ?_, _, rfl, fun i hi => ?_, fun i hi => ?_⟩
      · simp only [s_X10_keeps_52_4, un2, nIle (show 113 < 2 ^ 31 by decide) (show k < 2 ^ 31 by omega), if_neg (show ¬ 113 ≤ k by omega), gd_t (ix_nI hk (show 113 < 2 ^ 31 by decide)), ivW, h1, show (113 : Int32) = nI 113 from rfl, pk_mul, nI_add, gd_t (ix_nI (show 113 * c + k < 1356 by omega) (show 1356 < 2 ^ 31 by decide)), nI_clamp (show 113 * c + k < 2 ^ 31 by omega), nI_clamp (show k < 2 ^ 31 by omega), sA_W, arW, show ¬ (8 : Nat) = 10 by decide, if_false, h8, bnd, nI_1]
      · rw [updE]
        by_cases c0 : i = k
        · subst c0; rw [if_pos rfl]
        · rw [if_neg (by omega)]; exact hf1 i (by omega)
      · rw [updE, if_neg (by omega)]; exact hf2 i hi) (by
      rintro s ⟨f, rfl, hf1, hf2⟩
      exact ⟨_, by simp only [s_X10_keeps_52_4, un2, if_pos (show (113 : Int32) ≤ nI 113 by decide)], f, rfl, hf1, hf2⟩) 5000 (by omega) (nI 0, M1) ⟨ar M1 10, by rw [sW_self], fun i hi => by omega, fun i _ => rfl⟩
    refine ⟨sI (sW M1 10 f) 11 (nI (c + 1)), ?_, fun k hk => ?_, fun k hk => ?_, by rw [ivI, if_pos rfl], fun i hi => ?_, fun i hi => ?_⟩
    · unfold j_X10_keeps_50_2
      simp only [bnd]
      rw [show lp (s_X10_keeps_52_4) 5000 (0, M1) = some (sW M1 10 f) from e]
      simp only [Option.bind_some, un1, ivW, h1, nI_1]
    · rw [arI, arW, if_neg hk]
    · rw [ivI, if_neg hk, ivW]
    · rw [arI, arW, if_pos rfl]; exact hf1 i hi
    · rw [arI, arW, if_pos rfl]; exact hf2 i hi
  have rm_ext : ∀ {f g : Nat → Int32} {r : Pg}, PgS r → (∀ i, i < 113 → f i = g i) → RM g r → RM f r := by
    intro f g r hr hfg h
    have h40 := hr.1
    obtain ⟨h0, h1, h2, h3, h4, h5, h6, h7⟩ := h
    refine ⟨?_, fun i hi => ?_, fun i hi => ?_, fun l hl => ?_, fun k hk => ?_, ?_, ?_, ?_⟩
    · rw [hfg 0 (by omega)]; exact h0
    · rw [hfg _ (by omega)]; exact h1 i hi
    · rw [hfg _ (by omega)]; exact h2 i hi
    · rw [hfg _ (by omega)]; exact h3 l hl
    · rw [hfg _ (by omega)]; exact h4 k hk
    · rw [hfg 81 (by omega)]; exact h5
    · rw [hfg 82 (by omega)]; exact h6
    · rw [hfg 83 (by omega)]; exact h7
  unfold f_X10_keeps
  have e12 : (nI cnt = (12 : Int32)) = (cnt = 12) := nIe (by omega) (by decide)
  simp only [h11, e12]
  by_cases c12 : cnt = 12
  · subst c12
    rw [if_pos rfl]
    obtain ⟨r, e, f, rfl, hf1, hf2⟩ := lp_inv (step := s_X10_keeps_12_12) (fun k s => ∃ f, s = (nI k, sW M 10 f) ∧ (∀ i, i + 113 < k → f i = ar M 10 (i + 113)) ∧ ∀ i, k ≤ i + 113 → f i = ar M 10 i) (fun r => ∃ f, r = sW M 10 f ∧ (∀ i, i + 113 < 1356 → f i = ar M 10 (i + 113)) ∧ True) 113 1356 (by decide) (by
      rintro k s h1 hk ⟨f, rfl, hf1, hf2⟩
      refine ⟨(nI (k + 1), sW M 10 (upd f (k - 113) (ar M 10 k))), ?_, _, rfl, fun i hi => ?_, fun i hi => ?_⟩
      · simp only [s_X10_keeps_12_12, un2, show ((1356 : Int32) ≤ nI k) = (1356 ≤ k) from nIle (by decide) (by omega), if_neg (show ¬ 1356 ≤ k by omega), gd_t (ix_nI hk (show 1356 < 2 ^ 31 by decide)), show (113 : Int32) = nI 113 from rfl, nI_sub h1, gd_t (ix_nI (show k - 113 < 1356 by omega) (show 1356 < 2 ^ 31 by decide)), nI_clamp (show k - 113 < 2 ^ 31 by omega), nI_clamp (show k < 2 ^ 31 by omega), sA_W, arW, if_true, hf2 k (by omega), bnd, nI_1]
      · rw [updE]
        by_cases c0 : i = k - 113
        · rw [if_pos c0, show i + 113 = k by omega]
        · rw [if_neg c0]; exact hf1 i (by omega)
      · rw [updE, if_neg (by omega)]; exact hf2 i (by omega)) (by
      rintro s ⟨f, rfl, hf1, hf2⟩
      exact ⟨_, by simp only [s_X10_keeps_12_12, un2, if_pos (show (1356 : Int32) ≤ nI 1356 by decide)], f, rfl, hf1, trivial⟩) 5000 (by omega) (nI 113, M) ⟨ar M 10, by rw [sW_self], fun i hi => by omega, fun i _ => rfl⟩
    obtain ⟨M', e2, u1, u2, u3, u4, u5⟩ := hlast (sI (sW M 10 f) 11 (nI 11)) 11 (by omega) (by rw [ivI, if_pos rfl]) (by rw [arI, arW, if_neg (by decide)])
    refine ⟨M', ?_, fun k hk => ?_, fun k hk => ?_, ?_, fun j hj => ?_⟩
    · simp only [bnd]
      rw [show lp (s_X10_keeps_12_12) 5000 (113, M) = some (sW M 10 f) from e]
      simp only [Option.bind_some, un1, ivW, h11]
      rw [show nI 12 - 1 = nI 11 from nI_pred 11, e2]
    · rw [u1 k hk, arI, arW, if_neg hk]
    · rw [u2 k hk, ivI, if_neg hk, ivW]
    · rw [u3]; rfl
    · have hj' : j < 12 := hj
      show RM (fun i => ar M' 10 (113 * (12 - 1 - j) + i)) (qu1 p q j)
      unfold qu1
      by_cases c : j = 0
      · subst c
        rw [if_pos rfl]
        exact rm_ext hs (fun i hi => u4 i hi) hM
      · rw [if_neg c]
        refine rm_ext (hsq (j - 1) (by omega)) (fun i hi => ?_) (hq (j - 1) (by omega))
        show ar M' 10 (113 * (12 - 1 - j) + i) = ar M 10 (113 * (12 - 1 - (j - 1)) + i)
        rw [u5 _ (by omega), arI, arW, if_pos rfl, hf1 _ (by omega), show 113 * (12 - 1 - j) + i + 113 = 113 * (12 - 1 - (j - 1)) + i by omega]
  · rw [if_neg c12]
    obtain ⟨M', e2, u1, u2, u3, u4, u5⟩ := hlast M cnt (by omega) h11 rfl
    have hc1 : cn1 cnt = cnt + 1 := by unfold cn1; rw [if_pos (by omega)]
    refine ⟨M', e2, u1, u2, by rw [hc1]; exact u3, fun j hj => ?_⟩
    rw [hc1] at hj ⊢
    unfold qu1
    by_cases c : j = 0
    · subst c
      rw [if_pos rfl]
      exact rm_ext hs (fun i hi => u4 i hi) hM
    · rw [if_neg c]
      refine rm_ext (hsq (j - 1) (by omega)) (fun i hi => ?_) (hq (j - 1) (by omega))
      show ar M' 10 (113 * (cnt + 1 - 1 - j) + i) = ar M 10 (113 * (cnt - 1 - (j - 1)) + i)
      rw [show cnt - 1 - (j - 1) = cnt + 1 - 1 - j by omega]
      exact u5 _ (by
        have : 113 * (cnt + 1 - 1 - j) + 113 ≤ 113 * cnt := by omega
        omega)
