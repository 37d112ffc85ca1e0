theorem nI_gm1 {x : Nat} (h : x < 2 ^ 31) : (-1 : Int32) < nI x := by
  rw [Int32.lt_iff_toInt_lt, nI_toInt h]
  have : (-1 : Int32).toInt = -1 := by decide
  omega
-- the dearest line
def drs (c : Nat → Nat) : Nat → Option Nat
  | 0 => none
  | m + 1 => match drs c m with
    | none => some m
    | some k => if c k < c m then some m else some k
def enD : Option Nat → Int32
  | none => -2
  | some k => nI k
def enM (c : Nat → Nat) : Option Nat → Int32
  | none => -1
  | some k => nI (c k)
theorem ok_dearest : Ok_dearest INV := by
  rintro o a aK Z B ⟨tb, p, len, v, cnt, nx, q, hc⟩ q0
  have hc' := hc
  obtain ⟨-, ⟨i2, -⟩, -, ⟨hP, -⟩, -, ⟨hC, -⟩, ⟨hR0, -⟩, hr, -, -, ⟨hRT, hM, -⟩, ⟨hT, -, ⟨hs, hpt, -⟩, -⟩⟩ := hc'
  have h40 := hs.1
  refine ok4 hc (fun oY Y k => f_X9_dearest (a 0) (Z 0) (Z 3) (Z 6) (Z 8) (o 10) (Z 10) oY Y k) (fun k => f_X10_dearest (Z 28) k) q0 ?_ ?_
  · intro e1 e2
    exact ⟨-1, by simp only [f_X9_dearest, e1, Option.bind_some, un1, if_true], by simp only [f_X10_dearest, e2, Option.bind_some, un1, if_true]⟩
  · intro kd hkd e1 e2 hy
    have hE : ∀ a, a ≤ EK tb p kd a := fun a => (EK_in hs kd a).1
    have hn : ∀ a, a < pn p → EK tb p kd a < pn p := fun a => (EK_in hs kd a).2
    obtain ⟨L1, L2, L3⟩ := LN_spec hE hn
    obtain ⟨L', R', N', Y', e5, hL', hR0', hr', hY'⟩ := L_layout (N := Z 8) hkd i2 hR0 hr hC hP hs hT hpt hy
    obtain ⟨M1, e6, k6, m6⟩ := M_laysLines hM hs hRT hT hpt hkd
    have km6 := KO_KM k6
    obtain ⟨c, hcd⟩ : ∃ c : Nat → Nat, c = fun k => mcost tb p (stt (EK tb p kd) k) (EK tb p kd (stt (EK tb p kd) k)) := ⟨_, rfl⟩
    have bc : ∀ k, k < LN (EK tb p kd) (pn p) → c k ≤ 30000 := fun k hk => by rw [hcd]; exact mcost_le hs hT (stt_ln hE hn hk).2
    have din : ∀ m k, drs c m = some k → k < m := by
      intro m
      induction m with
      | zero => intro k h; cases h
      | succ m ih =>
        intro k h
        simp only [drs] at h
        cases hd : drs c m with
        | none => rw [hd] at h; cases h; omega
        | some j =>
          rw [hd] at h
          simp only at h
          have := ih j hd
          split at h <;> cases h <;> omega
    obtain ⟨n, hnL⟩ : ∃ n, n = LN (EK tb p kd) (pn p) := ⟨_, rfl⟩
    have h9s : ∀ k, 0 ≤ k → k < n → s_X9_dearest_24_11 Y' ((fun k => (enD (drs c k), enM c (drs c k), nI k)) k) = some (.inl ((fun k => (enD (drs c k), enM c (drs c k), nI k)) (k + 1))) := by
      intro k _ hk
      have hg : gr Y' 0 2 k = nI (c k) := by rw [hcd]; exact (hY'.2.2 k (by omega)).1.2.2.1
      have bk := bc k (by omega)
      have xk : ix (nI k) 40 = true := ix_nI (by omega) (by decide)
      have ck := nI_clamp (show k < 2 ^ 31 by omega)
      show s_X9_dearest_24_11 Y' (enD (drs c k), enM c (drs c k), nI k) = some (.inl (enD (drs c (k + 1)), enM c (drs c (k + 1)), nI (k + 1)))
      simp only [drs]
      cases hd : drs c k with
      | none =>
        simp only [s_X9_dearest_24_11, un3, hY'.1, ← hnL, nIle (show n < 2 ^ 31 by omega) (show k < 2 ^ 31 by omega), if_neg (show ¬ n ≤ k by omega), gd_t (show ix (2 : Int32) 11 = true by decide), show (2 : Int32).toNatClampNeg = 2 by decide, gd_t xk, ck, hg, enM, enD, if_neg (Int32.not_le.mpr (nI_gm1 (show c k < 2 ^ 31 by omega))), bnd, j_X9_dearest_61_18, nI_1]
      | some j =>
        have bj := bc j (by have := din k j hd; omega)
        simp only [s_X9_dearest_24_11, un3, hY'.1, ← hnL, nIle (show n < 2 ^ 31 by omega) (show k < 2 ^ 31 by omega), if_neg (show ¬ n ≤ k by omega), gd_t (show ix (2 : Int32) 11 = true by decide), show (2 : Int32).toNatClampNeg = 2 by decide, gd_t xk, ck, hg, enM, enD, nIle (show c k < 2 ^ 31 by omega) (show c j < 2 ^ 31 by omega), bnd, j_X9_dearest_61_18, nI_1]
        by_cases c1 : c k ≤ c j
        · rw [if_pos c1, if_neg (by omega)]
        · rw [if_neg c1, if_pos (by omega)]
    have h9e : s_X9_dearest_24_11 Y' ((fun k => (enD (drs c k), enM c (drs c k), nI k)) n) = some (.inr (enD (drs c n))) := by
      simp only [s_X9_dearest_24_11, un3, hY'.1, ← hnL, if_pos (Int32.le_refl _)]
    have h9 := lp_for (step := s_X9_dearest_24_11 Y') (fun k => (enD (drs c k), enM c (drs c k), nI k)) 0 n (Nat.zero_le _) h9s h9e 5000 (by omega)
    obtain ⟨r, e7, M2, rfl, l2⟩ := lp_inv (step := s_X10_dearest_22_8) (fun k s => ∃ M', s = (enD (drs c k), enM c (drs c k), nI k, M') ∧ KL M1 M') (fun r => ∃ M', r = (enD (drs c n), M') ∧ KL M1 M') 0 n (Nat.zero_le _) (by
      rintro k s - hk ⟨M', rfl, l'⟩
      have hM' := KL_RM l' (KM_RM km6 hM)
      have ml' := ML_KL m6 l'
      have bk := bc k (by omega)
      have i18 : iv (LKD M' tb p (stt (EK tb p kd) k) (EK tb p kd (stt (EK tb p kd) k))) 18 = nI (c k) := by rw [hcd]; rfl
      refine ⟨(enD (drs c (k + 1)), enM c (drs c (k + 1)), nI (k + 1), LKD M' tb p (stt (EK tb p kd) k) (EK tb p kd (stt (EK tb p kd) k))), ?_, _, rfl, KL_tr l' (KL_lk _ _ _ _ _ _ _ _)⟩
      have ml1 := ml'.1
      rw [← hnL] at ml1
      simp only [drs]
      cases hd : drs c k with
      | none =>
        simp only [s_X10_dearest_22_8, un4, ml1, nIle (show n < 2 ^ 31 by omega) (show k < 2 ^ 31 by omega), if_neg (show ¬ n ≤ k by omega), M_first ml' hs (show k < LN (EK tb p kd) (pn p) by omega), Option.bind_some, un1, gd_t (ix_nI (show k < 41 by omega) (by decide)), nI_clamp (show k < 2 ^ 31 by omega), M_lookK hM' hs (KL_RT l' (KM_RT km6 hRT)) hT hpt ml' (show k < LN (EK tb p kd) (pn p) by omega), i18, enM, enD, if_pos (nI_gm1 (show c k < 2 ^ 31 by omega)), bnd, j_X10_dearest_67_19, nI_1]
      | some j =>
        have bj := bc j (by have := din k j hd; omega)
        simp only [s_X10_dearest_22_8, un4, ml1, nIle (show n < 2 ^ 31 by omega) (show k < 2 ^ 31 by omega), if_neg (show ¬ n ≤ k by omega), M_first ml' hs (show k < LN (EK tb p kd) (pn p) by omega), Option.bind_some, un1, gd_t (ix_nI (show k < 41 by omega) (by decide)), nI_clamp (show k < 2 ^ 31 by omega), M_lookK hM' hs (KL_RT l' (KM_RT km6 hRT)) hT hpt ml' (show k < LN (EK tb p kd) (pn p) by omega), i18, enM, enD, nIlt (show c j < 2 ^ 31 by omega) (show c k < 2 ^ 31 by omega), bnd, j_X10_dearest_67_19, nI_1]
        by_cases c1 : c j < c k
        · rw [if_pos c1, if_pos c1]
        · rw [if_neg c1, if_neg c1]) (by
      rintro s ⟨M', rfl, l'⟩
      exact ⟨_, by simp only [s_X10_dearest_22_8, un4, (ML_KL m6 l').1, ← hnL, if_pos (Int32.le_refl _)], M', rfl, l'⟩) 5000 (by omega) (enD (drs c 0), enM c (drs c 0), nI 0, M1) ⟨M1, rfl, KL_rf M1⟩
    refine ⟨enD (drs c n), L', R', N', Y', M2, ?_, ?_, hL', hR0', hr', Or.inr hY', KM_tr km6 (KL_KM l2)⟩
    · simp only [f_X9_dearest, e1, Option.bind_some, un1, if_neg (show ¬ (1 : Int32) = 0 by decide), e5, un4, bnd]
      rw [show lp (s_X9_dearest_24_11 Y') 5000 (-2, -1, 0) = some (enD (drs c n)) from h9]
      rfl
    · simp only [f_X10_dearest, e2, Option.bind_some, un1, if_neg (show ¬ (1 : Int32) = 0 by decide), e6, bnd]
      rw [show lp (s_X10_dearest_22_8) 5000 (-2, -1, 0, M1) = some (enD (drs c n), M2) from e7]
      rfl
theorem ok_atEnds : Ok_atEnds INV := by
  rintro o a aK Z B ⟨tb, p, len, v, cnt, nx, q, hc⟩ q0 q1 q2
  have hc' := hc
  obtain ⟨-, ⟨i2, -⟩, -, ⟨hP, -⟩, -, ⟨hC, -⟩, ⟨hR0, -⟩, hr, -, -, ⟨hRT, hM, -⟩, ⟨hT, -, ⟨hs, hpt, -⟩, -⟩⟩ := hc'
  have h40 := hs.1
  refine ok4 hc (fun oY Y k => f_X9_atEnds (a 0) (Z 0) (Z 3) (Z 6) (Z 8) (o 10) (Z 10) oY Y k q1 q2) (fun k => f_X10_atEnds (Z 28) k q1 q2) q0 ?_ ?_
  · intro e1 e2
    exact ⟨-1, by simp only [f_X9_atEnds, e1, Option.bind_some, un1, if_true], by simp only [f_X10_atEnds, e2, Option.bind_some, un1, if_true]⟩
  · intro kd hkd e1 e2 hy
    rcases told_or hC hRT hT q1 with ⟨e3, e4⟩ | ⟨l, hl, rfl, hl0, e3, e4⟩
    · exact ⟨-1, _, _, Z 8, _, _, by simp only [f_X9_atEnds, e1, e3, Option.bind_some, un1, if_true, if_neg (show ¬ (1 : Int32) = 0 by decide), gd_t (decide_eq_true i2)], by simp only [f_X10_atEnds, e2, e4, Option.bind_some, un1, if_true, if_neg (show ¬ (1 : Int32) = 0 by decide)], QP_same hc hy (KM_rf _)⟩
    · have hE : ∀ a, a ≤ EK tb p kd a := fun a => (EK_in hs kd a).1
      have hn : ∀ a, a < pn p → EK tb p kd a < pn p := fun a => (EK_in hs kd a).2
      obtain ⟨L1, L2, L3⟩ := LN_spec hE hn
      obtain ⟨L', R', N', Y', e5, hL', hR0', hr', hY'⟩ := L_layout (N := Z 8) hkd i2 hR0 hr hC hP hs hT hpt hy
      obtain ⟨M1, e6, k6, m6⟩ := M_laysLines hM hs hRT hT hpt hkd
      have km6 := KO_KM k6
      have hM1 := KM_RM km6 hM
      obtain ⟨n, hnL⟩ : ∃ n, n = LN (EK tb p kd) (pn p) := ⟨_, rfl⟩
      -- where it is asked
      have key : ∀ (t : Nat) (ps' : Nat → Nat), t < 11 → (∀ k, k < n → ps' k < pn p ∧ gr Y' 0 t k = nI (ps' k)) → j_X9_atEnds_41_11 (Z 3) L' R' N' Y' (nI l) (nI t) = some (nI (sg (fun k => if ps p (ps' k) = l then 1 else 0) 0 n), L', R', N', Y') := by
        intro t ps' ht hps
        have h1 : ∀ k, 0 ≤ k → k < n → ∀ x, s_X9_atEnds_50_15 (Z 3) Y' (nI l) (nI t) (nI x, nI k) = some (.inl (nI (x + (fun k => if ps p (ps' k) = l then 1 else 0) k), nI (k + 1))) := by
          intro k _ hk x
          obtain ⟨u1, u2⟩ := hps k hk
          have l0 := (hs.2.1 _ u1).1
          simp only [s_X9_atEnds_50_15, un2, hY'.1, ← hnL, nIle (show n < 2 ^ 31 by omega) (show k < 2 ^ 31 by omega), if_neg (show ¬ n ≤ k by omega), gd_t (ix_nI (show k < 40 by omega) (by decide)), nI_clamp (show k < 2 ^ 31 by omega), nI_clamp (show t < 2 ^ 31 by omega), u2, gd_t (ix_nI (show ps' k < 40 by omega) (by decide)), nI_clamp (show ps' k < 2 ^ 31 by omega), hP.2.1 _ u1, nIe (show ps p (ps' k) < 2 ^ 31 by omega) (show l < 2 ^ 31 by omega), j_X9_atEnds_80_19, bnd, nI_1]
          by_cases c : ps p (ps' k) = l <;> simp [c]
        have h2 : ∀ x, s_X9_atEnds_50_15 (Z 3) Y' (nI l) (nI t) (nI x, nI n) = some (.inr (nI x)) := by
          intro x
          simp only [s_X9_atEnds_50_15, un2, hY'.1, ← hnL, if_pos (Int32.le_refl _)]
        have := lp_sum (step := s_X9_atEnds_50_15 (Z 3) Y' (nI l) (nI t)) (fun k => if ps p (ps' k) = l then 1 else 0) 0 n (Nat.zero_le _) h1 h2 5000 (by omega)
        unfold j_X9_atEnds_41_11
        simp only [gd_t (ix_nI ht (show 11 < 2 ^ 31 by decide)), bnd]
        rw [show (0 : Int32) = nI 0 from rfl, this]
        rfl
      have key2 : ∀ (ps' : Nat → Nat), (∀ k, k < n → ps' k < pn p ∧ ((q2 = 0 ∧ ps' k = stt (EK tb p kd) k) ∨ (q2 ≠ 0 ∧ ps' k = EK tb p kd (stt (EK tb p kd) k)))) → f_X10_atEnds (Z 28) (nI kd) (nI l) q2 = some (nI (sg (fun k => if ps p (ps' k) = l then 1 else 0) 0 n), M1) := by
        intro ps' hps
        have h1 : ∀ k, 0 ≤ k → k < n → ∀ x, s_X10_atEnds_28_9 M1 (nI l) q2 (nI x, nI k) = some (.inl (nI (x + (fun k => if ps p (ps' k) = l then 1 else 0) k), nI (k + 1))) := by
          intro k _ hk x
          obtain ⟨u1, u2⟩ := hps k hk
          have l0 := (hs.2.1 _ u1).1
          have hj : j_X10_atEnds_58_13 M1 (nI l) (nI x) (nI k) (nI (ps' k)) = some (.inl (nI (x + (fun k => if ps p (ps' k) = l then 1 else 0) k), nI (k + 1))) := by
            simp only [j_X10_atEnds_58_13, M_class hM1 hs u1, Option.bind_some, un1, nIe (show ps p (ps' k) < 2 ^ 31 by omega) (show l < 2 ^ 31 by omega), j_X10_atEnds_68_17, bnd, nI_1]
            by_cases c : ps p (ps' k) = l <;> simp [c]
          simp only [s_X10_atEnds_28_9, un2, m6.1, ← hnL, nIle (show n < 2 ^ 31 by omega) (show k < 2 ^ 31 by omega), if_neg (show ¬ n ≤ k by omega)]
          rcases u2 with ⟨z, u2⟩ | ⟨z, u2⟩
          · rw [if_pos z, M_first m6 hs (by omega), ← u2]
            exact hj
          · rw [if_neg z, gd_t (ix_nI (show k < 41 by omega) (by decide)), nI_clamp (by omega), m6.2 k (by omega), ← u2]
            exact hj
        have h2 : ∀ x, s_X10_atEnds_28_9 M1 (nI l) q2 (nI x, nI n) = some (.inr (nI x)) := by
          intro x
          simp only [s_X10_atEnds_28_9, un2, m6.1, ← hnL, if_pos (Int32.le_refl _)]
        have := lp_sum (step := s_X10_atEnds_28_9 M1 (nI l) q2) (fun k => if ps p (ps' k) = l then 1 else 0) 0 n (Nat.zero_le _) h1 h2 5000 (by omega)
        simp only [f_X10_atEnds, e2, e4, Option.bind_some, un1, if_neg (show ¬ (1 : Int32) = 0 by decide), e6, bnd]
        rw [show (0 : Int32) = nI 0 from rfl, this]
        rfl
      have qp : QP o a Z tb p kd L' R' Y' M1 := ⟨hL', hR0', hr', Or.inr hY', km6⟩
      by_cases z : q2 = 0
      · have k1 := key 0 (stt (EK tb p kd)) (by decide) (fun k hk => ⟨L2 k (by omega), (hY'.2.2 k (by omega)).1.1⟩)
        have k2 := key2 (stt (EK tb p kd)) (fun k hk => ⟨L2 k (by omega), Or.inl ⟨z, rfl⟩⟩)
        refine ⟨nI (sg (fun k => if ps p (stt (EK tb p kd) k) = l then 1 else 0) 0 n), L', R', N', Y', M1, ?_, k2, qp⟩
        show f_X9_atEnds (a 0) (Z 0) (Z 3) (Z 6) (Z 8) (o 10) (Z 10) (a 0 (900 + kd)) (Z (24 + kd)) (nI kd) (nI l) q2 = _
        unfold f_X9_atEnds
        rw [e1, Option.bind_some]
        simp only [un1]
        rw [if_neg (show ¬ (1 : Int32) = 0 by decide), gd_t (decide_eq_true i2), e3, Option.bind_some, if_neg (show ¬ (1 : Int32) = 0 by decide), e5, Option.bind_some]
        simp only [un4]
        rw [if_pos z]
        exact k1
      · obtain ⟨ee, hee⟩ : ∃ ee : Nat → Nat, ∀ k, ee k = EK tb p kd (stt (EK tb p kd) k) := ⟨fun k => EK tb p kd (stt (EK tb p kd) k), fun k => rfl⟩
        have k1 := key 1 ee (by decide) (fun k hk => by rw [hee k]; exact ⟨(stt_ln hE hn (show k < LN (EK tb p kd) (pn p) by omega)).2, (hY'.2.2 k (by omega)).1.2.1⟩)
        have k2 := key2 ee (fun k hk => by rw [hee k]; exact ⟨(stt_ln hE hn (show k < LN (EK tb p kd) (pn p) by omega)).2, Or.inr ⟨z, rfl⟩⟩)
        refine ⟨nI (sg (fun k => if ps p (ee k) = l then 1 else 0) 0 n), L', R', N', Y', M1, ?_, k2, qp⟩
        show f_X9_atEnds (a 0) (Z 0) (Z 3) (Z 6) (Z 8) (o 10) (Z 10) (a 0 (900 + kd)) (Z (24 + kd)) (nI kd) (nI l) q2 = _
        unfold f_X9_atEnds
        rw [e1, Option.bind_some]
        simp only [un1]
        rw [if_neg (show ¬ (1 : Int32) = 0 by decide), gd_t (decide_eq_true i2), e3, Option.bind_some, if_neg (show ¬ (1 : Int32) = 0 by decide), e5, Option.bind_some]
        simp only [un4]
        rw [if_neg z]
        exact k1
