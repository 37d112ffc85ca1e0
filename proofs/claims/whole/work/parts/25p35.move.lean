theorem RM_ext {f g : Nat → Int32} {r : Pg} (hr : PgS r) (hfg : ∀ i, i < 113 → f i = g i) (h : RM g r) : RM f r := by
  have h40 := hr.1
  obtain ⟨h0, h1, h2, h3, h4, h5, h6, h7⟩ := h
  refine ⟨?_, fun i hi => ?_, fun i hi => ?_, fun l hl => ?_, fun k hk => ?_, ?_, ?_, ?_⟩
  · rw [hfg 0 (by omega)]; exact h0
  · rw [hfg _ (by omega)]; exact h1 i hi
  · rw [hfg _ (by omega)]; exact h2 i hi
  · rw [hfg _ (by omega)]; exact h3 l hl
  · rw [hfg _ (by omega)]; exact h4 k hk
  · rw [hfg 81 (by omega)]; exact h5
  · rw [hfg 82 (by omega)]; exact h6
  · rw [hfg 83 (by omega)]; exact h7
theorem ok_undo : Ok_undo INV := by
  rintro o a aK Z B hI -
  have hI2 := hI
  obtain ⟨tb, p, len, v, cnt, nx, q, hc⟩ := hI2
  have hc' := hc
  obtain ⟨i1, i2, i3, i4, ⟨h1, h2, hnx, hcnt, hB⟩, i6, i7, i8, i9, i10, ⟨m1, m2, m3, m4, m5, m6, m7⟩, ⟨u1, u2, u3, u4, u5, u6⟩⟩ := hc'
  obtain ⟨n1, hn1⟩ : ∃ n1, n1 = if nx = 0 then 11 else nx - 1 := ⟨_, rfl⟩
  have hn12 : n1 < 12 := by rw [hn1]; split <;> omega
  refine ⟨n1, hn12, ?_⟩
  have e0 : (nI cnt = (0 : Int32)) = (cnt = 0) := nIe (by omega) (by decide)
  by_cases c : cnt = 0
  · refine ⟨(-1, Z 0, Z 3, Z 5, Z 9, Z (24 + 0), Z (24 + 1), Z (24 + 2), Z (24 + 3)), (-1, Z 28), by simp only [f_X9_undo, h2, e0, if_pos c], by simp only [f_X10_undo, m5, e0, if_pos c], rfl, ?_⟩
    simp only [up_same]
    exact hI
  · have hr0 : (nx + 11 - 0) % 12 = n1 := by rw [hn1]; split <;> omega
    have hq0 := hB 0 (by omega)
    rw [hr0] at hq0
    have hg0 := u6 0 (by omega)
    obtain ⟨P', e1, hP'⟩ := P_copy (K := Z 3) hq0 hg0.1
    have xn : ix (nI n1) 12 = true := ix_nI hn12 (by decide)
    have cn := nI_clamp (show n1 < 2 ^ 31 by omega)
    have hj : ∀ t, t = nI n1 → j_X2_bringBack_26_2 (a 5 (100 + n1)) (a 5) (Z 5) (Z 3) (B n1) t = some (sI (sI (Z 5) 1 (nI n1)) 2 (nI (cnt - 1)), P') := by
      intro t ht
      subst ht
      simp only [j_X2_bringBack_26_2, bnd, ivI, if_true, gd_t xn, cn, decide_true, gd_T, e1, Option.bind_some, un1, show ¬ (2 : Nat) = 1 by decide, if_false, h2, nI_m1 (show 0 < cnt by omega)]
    have hbb : f_X2_bringBack (a 5) (Z 5) (Z 3) (a 5 (100 + n1)) (B n1) = some (sI (sI (Z 5) 1 (nI n1)) 2 (nI (cnt - 1)), P') := by
      have e2 : (nI cnt ≤ (0 : Int32)) = (cnt ≤ 0) := nIle (by omega) (by decide)
      have e3 : (nI nx ≤ (0 : Int32)) = (nx ≤ 0) := nIle (by omega) (by decide)
      simp only [f_X2_bringBack, h2, e2, if_neg (show ¬ cnt ≤ 0 by omega), h1, e3]
      by_cases c1 : nx ≤ 0
      · rw [if_pos c1]
        exact hj _ (by rw [hn1, if_pos (by omega)]; rfl)
      · rw [if_neg c1]
        exact hj _ (by rw [hn1, if_neg (by omega), nI_m1 (by omega)])
    -- the model
    obtain ⟨r, e4, f, rfl, hf⟩ := lp_inv (step := s_X10_undo_21_3) (fun k s => ∃ f, s = (nI k, sW (sI (Z 28) 11 (nI (cnt - 1))) 8 f) ∧ ∀ i, i < k → f i = ar (Z 28) 10 (113 * (cnt - 1) + i)) (fun r => ∃ f, r = sW (sI (Z 28) 11 (nI (cnt - 1))) 8 f ∧ ∀ i, i < 113 → f i = ar (Z 28) 10 (113 * (cnt - 1) + i)) 0 113 (by decide) (by
      rintro k s - hk ⟨f, rfl, hf⟩
      refine ⟨(nI (k + 1), sW (sI (Z 28) 11 (nI (cnt - 1))) 8 (upd f k (ar (Z 28) 10 (113 * (cnt - 1) + k)))), ?_, _, rfl, fun i hi => ?_⟩
      · simp only [s_X10_undo_21_3, un2, show (113 : Int32) = nI 113 from rfl, nIle (show 113 < 2 ^ 31 by decide) (show k < 2 ^ 31 by omega), if_neg (show ¬ 113 ≤ k by omega), ivW, ivI, if_true, pk_mul, nI_add, gd_t (ix_nI (show 113 * (cnt - 1) + k < 1356 by omega) (show 1356 < 2 ^ 31 by decide)), gd_t (ix_nI hk (show 113 < 2 ^ 31 by decide)), nI_clamp (show 113 * (cnt - 1) + k < 2 ^ 31 by omega), nI_clamp (show k < 2 ^ 31 by omega), sA_W, arW, arI, show ¬ (10 : Nat) = 8 by decide, if_false, bnd, nI_1]
      · rw [updE]
        by_cases c0 : i = k
        · rw [if_pos c0, c0]
        · rw [if_neg c0]; exact hf i (by omega)) (by
      rintro s ⟨f, rfl, hf⟩
      exact ⟨_, by simp only [s_X10_undo_21_3, un2, if_pos (show (113 : Int32) ≤ nI 113 by decide)], f, rfl, hf⟩) 5000 (by omega) (nI 0, sI (Z 28) 11 (nI (cnt - 1))) ⟨ar (sI (Z 28) 11 (nI (cnt - 1))) 8, by rw [sW_self], fun i hi => by omega⟩
    refine ⟨(nI (cnt - 1), sI (Z 0) 12 0, P', sI (sI (Z 5) 1 (nI n1)) 2 (nI (cnt - 1)), sI (Z 9) 3 0, sI (Z (24 + 0)) 7 0, sI (Z (24 + 1)) 7 0, sI (Z (24 + 2)) 7 0, sI (Z (24 + 3)) 7 0), (nI (cnt - 1), sW (sI (Z 28) 11 (nI (cnt - 1))) 8 f), ?_, ?_, rfl, ?_⟩
    · simp only [f_X9_undo, h2, e0, if_neg c, hbb, Option.bind_some, un2, f_X9_forget, bnd, gd_t (show ix (0 : Int32) 4 = true by decide), gd_t (show ix (1 : Int32) 4 = true by decide), gd_t (show ix (2 : Int32) 4 = true by decide), gd_t (show ix (3 : Int32) 4 = true by decide), un6, ivI, if_true]
    · simp only [f_X10_undo, m5, e0, if_neg c, bnd, nI_m1 (show 0 < cnt by omega)]
      rw [show lp (s_X10_undo_21_3) 5000 (0, sI (Z 28) 11 (nI (cnt - 1))) = _ from e4]
      simp only [Option.bind_some, un1, ivW, ivI, if_true]
    · refine ⟨tb, q 0, len, v, cnt - 1, n1, fun j => q (j + 1), i1, i2, i3, hP', ⟨?_, ?_, hn12, by omega, fun j hj => ?_⟩, i6, i7, Or.inl ?_, ⟨Or.inl ?_, Or.inl ?_, Or.inl ?_, Or.inl ?_⟩, Or.inl ?_, ⟨?_, ?_, ?_, ?_, ?_, fun j hj => ?_, ?_⟩, ⟨u1, u2, hg0, u4, u5, fun j hj => u6 (j + 1) (by omega)⟩⟩
      · show iv (sI (sI (Z 5) 1 (nI n1)) 2 (nI (cnt - 1))) 1 = nI n1
        rw [ivI, if_neg (by decide), ivI, if_pos rfl]
      · show iv (sI (sI (Z 5) 1 (nI n1)) 2 (nI (cnt - 1))) 2 = nI (cnt - 1)
        rw [ivI, if_pos rfl]
      · have := hB (j + 1) (by omega)
        rw [show (nx + 11 - (j + 1)) % 12 = (n1 + 11 - j) % 12 by rw [hn1]; split <;> omega] at this
        exact this
      · show iv (sI (Z 0) 12 0) 12 = 0
        rw [ivI, if_pos rfl]
      · show iv (sI (Z 24) 7 0) 7 = 0
        rw [ivI, if_pos rfl]
      · show iv (sI (Z 25) 7 0) 7 = 0
        rw [ivI, if_pos rfl]
      · show iv (sI (Z 26) 7 0) 7 = 0
        rw [ivI, if_pos rfl]
      · show iv (sI (Z 27) 7 0) 7 = 0
        rw [ivI, if_pos rfl]
      · show iv (sI (Z 9) 3 0) 3 = 0
        rw [ivI, if_pos rfl]
      · exact m1
      · show RM (ar (sW (sI (Z 28) 11 (nI (cnt - 1))) 8 f) 8) (q 0)
        rw [arW, if_pos rfl]
        refine RM_ext hg0.1 (fun i hi => hf i hi) ?_
        have := m6 0 (by omega)
        rw [Nat.sub_zero] at this
        exact this
      · exact m3
      · exact m4
      · show iv (sW (sI (Z 28) 11 (nI (cnt - 1))) 8 f) 11 = nI (cnt - 1)
        rw [ivW, ivI, if_pos rfl]
      · have := m6 (j + 1) (by omega)
        rw [show cnt - 1 - (j + 1) = cnt - 1 - 1 - j by omega] at this
        exact this
      · exact m7
-- signs of the model's row move
theorem M_copies (M : OV) (f : Nat → Int32) {a b : Nat} (ha : a < 40) (hb : b < 40) : f_X10_copies (sW M 8 f) (nI a) (nI b) = some (sW M 8 (upd (upd f (1 + b) (f (1 + a))) (41 + b) (f (41 + a)))) := by
  unfold f_X10_copies
  simp only [nI_1l, show (41 : Int32) + nI a = nI (41 + a) from nI_add 41 a, show (41 : Int32) + nI b = nI (41 + b) from nI_add 41 b, gd_t (ix_nI (show 1 + a < 113 by omega) (show 113 < 2 ^ 31 by decide)), gd_t (ix_nI (show 1 + b < 113 by omega) (show 113 < 2 ^ 31 by decide)), gd_t (ix_nI (show 41 + a < 113 by omega) (show 113 < 2 ^ 31 by decide)), gd_t (ix_nI (show 41 + b < 113 by omega) (show 113 < 2 ^ 31 by decide)), nI_clamp (show 1 + a < 2 ^ 31 by omega), nI_clamp (show 1 + b < 2 ^ 31 by omega), nI_clamp (show 41 + a < 2 ^ 31 by omega), nI_clamp (show 41 + b < 2 ^ 31 by omega), bnd, sA_W, arW, if_true]
  rw [show upd f (1 + b) (f (1 + a)) (41 + a) = f (41 + a) by rw [updE, if_neg (by omega)]]
/-- signs from i on go on by d -/
theorem M_up (M : OV) (f0 : Nat → Int32) {n i d : Nat} (h0 : f0 0 = nI n) (hi : i ≤ n) (hd : 1 ≤ d) (hnd : n + d ≤ 40) : ∃ f, f_X10_moves (sW M 8 f0) (nI i) (nI d) = some (sW M 8 f) ∧ f 0 = nI (n + d) ∧ (∀ j, j < i → f (1 + j) = f0 (1 + j) ∧ f (41 + j) = f0 (41 + j)) ∧ (∀ j, i ≤ j → j < n → f (1 + (j + d)) = f0 (1 + j) ∧ f (41 + (j + d)) = f0 (41 + j)) ∧ ∀ j, 81 ≤ j → f j = f0 j := by
  obtain ⟨r, e, f, rfl, g0, g1, g2, g3⟩ := lp_inv (step := s_X10_moves_11_17 (nI i) (nI d)) (fun k s => ∃ f, s = (nI (n - k) - 1, sW M 8 f) ∧ f 0 = f0 0 ∧ (∀ j, j < n - k → f (1 + j) = f0 (1 + j) ∧ f (41 + j) = f0 (41 + j)) ∧ (∀ j, n - k ≤ j → j < n → f (1 + (j + d)) = f0 (1 + j) ∧ f (41 + (j + d)) = f0 (41 + j)) ∧ ∀ j, 81 ≤ j → f j = f0 j) (fun r => ∃ f, r = sW M 8 f ∧ f 0 = f0 0 ∧ (∀ j, j < i → f (1 + j) = f0 (1 + j) ∧ f (41 + j) = f0 (41 + j)) ∧ (∀ j, i ≤ j → j < n → f (1 + (j + d)) = f0 (1 + j) ∧ f (41 + (j + d)) = f0 (41 + j)) ∧ ∀ j, 81 ≤ j → f j = f0 j) 0 (n - i) (Nat.zero_le _) (by
    rintro k s - hk ⟨f, rfl, g0, g1, g2, g3⟩
    obtain ⟨m, hm⟩ : ∃ m, m = n - k - 1 := ⟨_, rfl⟩
    refine ⟨(nI (n - (k + 1)) - 1, sW M 8 (upd (upd f (1 + (m + d)) (f (1 + m))) (41 + (m + d)) (f (41 + m)))), ?_, _, rfl, ?_, fun j hj => ⟨?_, ?_⟩, fun j h1 h2 => ⟨?_, ?_⟩, fun j hj => ?_⟩
    · rw [nI_sm1 (show k < n by omega), ← hm]
      simp only [s_X10_moves_11_17, un2, nIlt (show m < 2 ^ 31 by omega) (show i < 2 ^ 31 by omega), if_neg (show ¬ m < i by omega), nI_add, M_copies M f (show m < 40 by omega) (show m + d < 40 by omega), Option.bind_some, un1, bnd, add_m1]
      rw [show n - (k + 1) = m by omega]
    · rw [updE, if_neg (by omega), updE, if_neg (by omega)]; exact g0
    · rw [updE, if_neg (by omega), updE, if_neg (by omega)]; exact (g1 j (by omega)).1
    · rw [updE, if_neg (by omega), updE, if_neg (by omega)]; exact (g1 j (by omega)).2
    · rw [updE, if_neg (by omega), updE]
      by_cases c : j = m
      · rw [if_pos (by omega), c]; exact (g1 m (by omega)).1
      · rw [if_neg (by omega)]; exact (g2 j (by omega) h2).1
    · rw [updE]
      by_cases c : j = m
      · rw [if_pos (by omega), c]; exact (g1 m (by omega)).2
      · rw [if_neg (by omega), updE, if_neg (by omega)]; exact (g2 j (by omega) h2).2
    · rw [updE, if_neg (by omega), updE, if_neg (by omega)]; exact g3 j hj) (by
    rintro s ⟨f, rfl, g0, g1, g2, g3⟩
    refine ⟨sW M 8 f, ?_, f, rfl, g0, fun j hj => g1 j (by omega), fun j h1 h2 => g2 j (by omega) h2, g3⟩
    have hlt : nI (n - (n - i)) - 1 < nI i := by
      rw [show n - (n - i) = i by omega]
      cases i with
      | zero => decide
      | succ i => rw [nI_pred]; exact nI_lt (by omega) (by omega)
    simp only [s_X10_moves_11_17, un2, if_pos hlt]) 5000 (by omega) (nI (n - 0) - 1, sW M 8 f0) ⟨f0, rfl, rfl, fun j _ => ⟨rfl, rfl⟩, fun j h1 h2 => by omega, fun _ _ => rfl⟩
  refine ⟨upd f 0 (nI (n + d)), ?_, by rw [updE, if_pos rfl], fun j hj => ⟨?_, ?_⟩, fun j h1 h2 => ⟨?_, ?_⟩, fun j hj => ?_⟩
  · unfold f_X10_moves
    have e1 : (nI d ≤ (0 : Int32)) = (d ≤ 0) := nIle (by omega) (by decide)
    have hmany : f_X10_many (sW M 8 f0) = some (nI n) := by
      unfold f_X10_many
      rw [gd_t (by decide), arW, if_pos rfl]
      exact congrArg some h0
    simp only [e1, if_neg (show ¬ d ≤ 0 by omega), hmany, Option.bind_some, un1, bnd]
    rw [Nat.sub_zero] at e
    rw [e]
    simp only [Option.bind_some, j_X10_moves_57_2, gd_t (show ix (0 : Int32) 113 = true by decide), bnd, sA_W, arW, if_true, show (0 : Int32).toNatClampNeg = 0 by decide, g0, h0, nI_add]
  · rw [updE, if_neg (by omega)]; exact (g1 j hj).1
  · rw [updE, if_neg (by omega)]; exact (g1 j hj).2
  · rw [updE, if_neg (by omega)]; exact (g2 j h1 h2).1
  · rw [updE, if_neg (by omega)]; exact (g2 j h1 h2).2
  · rw [updE, if_neg (by omega)]; exact g3 j hj
/-- d signs from i on go out -/
theorem M_down (M : OV) (f0 : Nat → Int32) {n i d : Nat} (h0 : f0 0 = nI n) (hd : 1 ≤ d) (hid : i + d ≤ n) (hn : n ≤ 40) : ∃ f, f_X10_drops (sW M 8 f0) (nI i) (nI d) = some (sW M 8 f) ∧ f 0 = nI (n - d) ∧ (∀ j, j < i → f (1 + j) = f0 (1 + j) ∧ f (41 + j) = f0 (41 + j)) ∧ (∀ j, i ≤ j → j < n - d → f (1 + j) = f0 (1 + (j + d)) ∧ f (41 + j) = f0 (41 + (j + d))) ∧ ∀ j, 81 ≤ j → f j = f0 j := by
  have hneg : ∀ k, d ≤ k → nI k + -(nI d) = nI (k - d) := fun k hk => by rw [← Int32.sub_eq_add_neg, nI_sub hk]
  obtain ⟨r, e, f, rfl, g0, g1, g2, g3⟩ := lp_inv (step := s_X10_moves_35_5 (-(nI d))) (fun k s => ∃ f, s = (nI k, sW M 8 f) ∧ f 0 = f0 0 ∧ (∀ j, j < i ∨ (k - d ≤ j ∧ j < n) → f (1 + j) = f0 (1 + j) ∧ f (41 + j) = f0 (41 + j)) ∧ (∀ j, i ≤ j → j < k - d → f (1 + j) = f0 (1 + (j + d)) ∧ f (41 + j) = f0 (41 + (j + d))) ∧ ∀ j, 81 ≤ j → f j = f0 j) (fun r => ∃ f, r = sW M 8 f ∧ f 0 = f0 0 ∧ (∀ j, j < i → f (1 + j) = f0 (1 + j) ∧ f (41 + j) = f0 (41 + j)) ∧ (∀ j, i ≤ j → j < n - d → f (1 + j) = f0 (1 + (j + d)) ∧ f (41 + j) = f0 (41 + (j + d))) ∧ ∀ j, 81 ≤ j → f j = f0 j) (i + d) n hid (by
    rintro k s hk1 hk ⟨f, rfl, g0, g1, g2, g3⟩
    have hmany : f_X10_many (sW M 8 f) = some (nI n) := by
      unfold f_X10_many
      rw [gd_t (by decide), arW, if_pos rfl]
      exact congrArg some (g0.trans h0)
    refine ⟨(nI (k + 1), sW M 8 (upd (upd f (1 + (k - d)) (f (1 + k))) (41 + (k - d)) (f (41 + k)))), ?_, _, rfl, ?_, fun j hj => ⟨?_, ?_⟩, fun j h1 h2 => ⟨?_, ?_⟩, fun j hj => ?_⟩
    · simp only [s_X10_moves_35_5, un2, hmany, Option.bind_some, un1, nIle (show n < 2 ^ 31 by omega) (show k < 2 ^ 31 by omega), if_neg (show ¬ n ≤ k by omega), hneg k (by omega), M_copies M f (show k < 40 by omega) (show k - d < 40 by omega), bnd, nI_1]
    · rw [updE, if_neg (by omega), updE, if_neg (by omega)]; exact g0
    · rw [updE, if_neg (by omega), updE, if_neg (by omega)]; exact (g1 j (by omega)).1
    · rw [updE, if_neg (by omega), updE, if_neg (by omega)]; exact (g1 j (by omega)).2
    · rw [updE, if_neg (by omega), updE]
      by_cases c : j = k - d
      · rw [if_pos (by omega), show j + d = k by omega]; exact (g1 k (by omega)).1
      · rw [if_neg (by omega)]; exact (g2 j h1 (by omega)).1
    · rw [updE]
      by_cases c : j = k - d
      · rw [if_pos (by omega), show j + d = k by omega]; exact (g1 k (by omega)).2
      · rw [if_neg (by omega), updE, if_neg (by omega)]; exact (g2 j h1 (by omega)).2
    · rw [updE, if_neg (by omega), updE, if_neg (by omega)]; exact g3 j hj) (by
    rintro s ⟨f, rfl, g0, g1, g2, g3⟩
    have hmany : f_X10_many (sW M 8 f) = some (nI n) := by
      unfold f_X10_many
      rw [gd_t (by decide), arW, if_pos rfl]
      exact congrArg some (g0.trans h0)
    exact ⟨sW M 8 f, by simp only [s_X10_moves_35_5, un2, hmany, Option.bind_some, un1, if_pos (Int32.le_refl _)], f, rfl, g0, fun j hj => g1 j (Or.inl hj), g2, g3⟩) 5000 (by omega) (nI (i + d), sW M 8 f0) ⟨f0, rfl, rfl, fun j _ => ⟨rfl, rfl⟩, fun j h1 h2 => by omega, fun _ _ => rfl⟩
  refine ⟨upd f 0 (nI (n - d)), ?_, by rw [updE, if_pos rfl], fun j hj => ⟨?_, ?_⟩, fun j h1 h2 => ⟨?_, ?_⟩, fun j hj => ?_⟩
  · unfold f_X10_drops f_X10_moves
    have hle : -(nI d) ≤ (0 : Int32) := by
      rw [Int32.le_iff_toInt_le, sb_negT (by omega)]
      show -(d : Int) ≤ 0
      omega
    simp only [if_pos hle, bnd, nI_add]
    rw [e]
    simp only [Option.bind_some, un1, j_X10_moves_57_2, gd_t (show ix (0 : Int32) 113 = true by decide), bnd, sA_W, arW, if_true, show (0 : Int32).toNatClampNeg = 0 by decide, g0, h0, hneg n (by omega)]
  · rw [updE, if_neg (by omega)]; exact (g1 j hj).1
  · rw [updE, if_neg (by omega)]; exact (g1 j hj).2
  · rw [updE, if_neg (by omega)]; exact (g2 j h1 h2).1
  · rw [updE, if_neg (by omega)]; exact (g2 j h1 h2).2
  · rw [updE, if_neg (by omega)]; exact g3 j hj
