theorem nI_1l (k : Nat) : (1 : Int32) + nI k = nI (1 + k) := nI_add 1 k
/-- the model's costs of lines are laid -/
def LC (M : OV) (tb : Tb) (p : Pg) : Prop := ∀ a b, a < pn p → a ≤ b → b ≤ lim p a → ar M 19 (40 * a + b) = enc (mc tb p a b)
theorem KM_arA {M M' : OV} {k j : Nat} {v : Int32} (h : KM M M') (hk : 12 ≤ k ∧ (k < 35 ∨ 37 < k)) : KM M (sA M' k j v) := KM_tr h (KM_A _ _ _ _ hk)
theorem M_laysCosts {M : OV} {tb : Tb} {p : Pg} (h : RM (ar M 8) p) (hs : PgS p) (hR : RT M tb) (hT : TbS tb) (hpt : PgT tb p) : ∃ M', f_X10_laysCosts M = some M' ∧ KN M M' ∧ LC M' tb p := by
  have h40 := hs.1
  obtain ⟨r, e, hr⟩ := lp_inv (step := s_X10_laysCosts_2_2) (fun k s => ∃ M', s = (nI k, M') ∧ KN M M' ∧ ∀ a b, a < k → a < pn p → a ≤ b → b ≤ lim p a → ar M' 19 (40 * a + b) = enc (mc tb p a b)) (fun r => KN M r ∧ LC r tb p) 0 (pn p) (Nat.zero_le _) (by
    rintro a s - ha ⟨M1, rfl, k1, c1⟩
    have hM1 := KN_RM k1 h
    have hls := lim_spec ha
    obtain ⟨M2, e2, k2, c2, c3⟩ := lp_inv (step := s_X10_laysCosts_18_11 (nI a) (nI (lim p a))) (fun b s => ∃ M', s = (nI b, M') ∧ KN M M' ∧ (∀ b', a ≤ b' → b' < b → ar M' 19 (40 * a + b') = enc (mc tb p a b')) ∧ ∀ q, q < 40 * a → ar M' 19 q = ar M1 19 q) (fun r => KN M r ∧ (∀ b', a ≤ b' → b' ≤ lim p a → ar r 19 (40 * a + b') = enc (mc tb p a b')) ∧ ∀ q, q < 40 * a → ar r 19 q = ar M1 19 q) a (lim p a + 1) (by omega) (by
      rintro b s h1 h2 ⟨M', rfl, k', c', f'⟩
      have hbn : b < pn p := by omega
      have hlk := M_looks (KN_RM k' h) hs (KN_RT k' hR) hT hpt h1 hbn
      have hk2 : KN M (LKD M' tb p a b) := KN_tr k' (KN_lk _ _ _ _ _ _ _ _)
      have i14 : iv (LKD M' tb p a b) 14 = bo (mlong tb p a b) := Eq.trans rfl rfl
      have i18 : iv (LKD M' tb p a b) 18 = nI (mcost tb p a b) := Eq.trans rfl rfl
      have x : ix (nI (40 * a + b)) 1640 = true := ix_nI (by omega) (by decide)
      have cl := nI_clamp (show 40 * a + b < 2 ^ 31 by omega)
      have st : s_X10_laysCosts_18_11 (nI a) (nI (lim p a)) (nI b, M') = some (.inl (nI (b + 1), sA (LKD M' tb p a b) 19 (40 * a + b) (enc (mc tb p a b)))) := by
        simp only [s_X10_laysCosts_18_11, un2, nIlt (show lim p a < 2 ^ 31 by omega) (show b < 2 ^ 31 by omega), if_neg (show ¬ lim p a < b by omega), hlk, Option.bind_some, un1, i14, bo_0, nIle (show b < 2 ^ 31 by omega) (show a < 2 ^ 31 by omega), j_X10_laysCosts_55_20, j_X10_laysCosts_59_17, i18, show (40 : Int32) = nI 40 from rfl, pk_mul, nI_add, gd_t x, cl, bnd, nI_1]
        cases hl : mlong tb p a b
        · rw [mc_some (by rw [hl]; simp)]
          simp [enc]
        · by_cases c : b ≤ a
          · rw [mc_some (by omega)]
            simp [enc, c]
          · rw [mc_none hl (by omega)]
            simp [enc, c]
      refine ⟨_, st, _, rfl, KN_arA hk2 (by omega), fun b' u1 u2 => ?_, fun q hq => ?_⟩
      · simp only [arA, updE, if_true]
        by_cases c : b' = b
        · subst c; simp
        · rw [if_neg (by omega)]
          exact c' b' u1 (by omega)
      · simp only [arA, updE, if_true]
        rw [if_neg (by omega)]
        exact f' q hq) (by
      rintro s ⟨M', rfl, k', c', f'⟩
      exact ⟨_, by simp only [s_X10_laysCosts_18_11, un2, nIlt (show lim p a < 2 ^ 31 by omega) (show lim p a + 1 < 2 ^ 31 by omega), if_pos (show lim p a < lim p a + 1 by omega)], k', fun b' u1 u2 => c' b' u1 (by omega), f'⟩) 5000 (by omega) (nI a, M1) ⟨M1, rfl, k1, fun b' u1 u2 => by omega, fun q _ => rfl⟩
    refine ⟨(nI (a + 1), M2), ?_, M2, rfl, k2, fun a' b u1 u2 u3 u4 => ?_⟩
    · simp only [s_X10_laysCosts_2_2, un2, M_many hM1, Option.bind_some, un1, nIle (show pn p < 2 ^ 31 by omega) (show a < 2 ^ 31 by omega), if_neg (show ¬ pn p ≤ a by omega), M_limit hM1 hs ha, bnd, e2, nI_1]
    · by_cases c : a' = a
      · subst c
        exact c2 b u3 u4
      · have hl := (lim_spec u2).2.1
        rw [c3 _ (by omega)]
        exact c1 a' b (by omega) u2 u3 u4) (by
    rintro s ⟨M1, rfl, k1, c1⟩
    exact ⟨M1, by simp only [s_X10_laysCosts_2_2, un2, M_many (KN_RM k1 h), Option.bind_some, un1, nIle (show pn p < 2 ^ 31 by omega) (show pn p < 2 ^ 31 by omega), if_pos (Nat.le_refl (pn p))], k1, fun a b u1 u2 u3 => c1 a b u1 u1 u2 u3⟩) 5000 (by omega) (nI 0, M) ⟨M, rfl, KN_rf M, fun a b u => by omega⟩
  refine ⟨r, ?_, hr.1, hr.2⟩
  unfold f_X10_laysCosts
  simp only [bnd]
  rw [show (0 : Int32) = nI 0 from rfl, e]
  rfl
def MB (M : OV) (x : BT) (j : Nat) : Prop := (x = none → ar M 20 j = -1) ∧ ∀ t, x = some t → ar M 20 j = nI t.1 ∧ ar M 21 j = nI t.2.1
def ME (M : OV) (x : BT) (j : Nat) : Prop := ∀ t, x = some t → ar M 22 j = nI t.2.2
theorem M_bestStep {M : OV} {tb : Tb} {p : Pg} (hs : PgS p) (hT : TbS tb) (hc : LC M tb p) {lm a b : Nat} (hlm : lm ≤ 1000000000) (hab : a ≤ b) (hb : b ≤ lim p a) (ha : a < pn p) (h0 : MB M (bin lm tb p (best lm tb p) a b) a) (h2 : ME M (bin lm tb p (best lm tb p) a b) a) (h1 : MB M (best lm tb p (b + 1)) (b + 1)) : ∃ M', s_X10_laysBest_47_18 (nI lm) (nI a) (nI (lim p a)) (nI b, M) = some (.inl (nI (b + 1), M')) ∧ MB M' (bin lm tb p (best lm tb p) a (b + 1)) a ∧ ME M' (bin lm tb p (best lm tb p) a (b + 1)) a ∧ KN M M' ∧ ar M' 19 = ar M 19 ∧ ∀ j, j ≠ a → ar M' 20 j = ar M 20 j ∧ ar M' 21 j = ar M 21 j ∧ ar M' 22 j = ar M 22 j := by
  have h40 := hs.1
  have hl := lim_spec ha
  have hbn : b < pn p := by omega
  have x : ix (nI (40 * a + b)) 1640 = true := ix_nI (by omega) (by decide)
  have cl := nI_clamp (show 40 * a + b < 2 ^ 31 by omega)
  have x1 : ix (nI (b + 1)) 41 = true := ix_nI (by omega) (by decide)
  have cb := nI_clamp (show b + 1 < 2 ^ 31 by omega)
  have xa : ix (nI a) 41 = true := ix_nI (by omega) (by decide)
  have ca := nI_clamp (show a < 2 ^ 31 by omega)
  have e19 := hc a b ha hab hb
  rw [bin_s hab]
  have skip : bcand lm tb p (best lm tb p) a b = none → ∃ M', j_X10_laysBest_204_23 (nI b) M = some (.inl (nI (b + 1), M')) ∧ MB M' (bbet (bin lm tb p (best lm tb p) a b) (bcand lm tb p (best lm tb p) a b)) a ∧ ME M' (bbet (bin lm tb p (best lm tb p) a b) (bcand lm tb p (best lm tb p) a b)) a ∧ KN M M' ∧ ar M' 19 = ar M 19 ∧ ∀ j, j ≠ a → ar M' 20 j = ar M 20 j ∧ ar M' 21 j = ar M 21 j ∧ ar M' 22 j = ar M 22 j := by
    intro e
    rw [e]
    exact ⟨M, by simp only [j_X10_laysBest_204_23, bnd, nI_1], h0, h2, KN_rf M, rfl, fun _ _ => ⟨rfl, rfl, rfl⟩⟩
  simp only [s_X10_laysBest_47_18, un2, nIlt (show lim p a < 2 ^ 31 by omega) (show b < 2 ^ 31 by omega), if_neg (show ¬ lim p a < b by omega), show (40 : Int32) = nI 40 from rfl, pk_mul, nI_add, gd_t x, cl, bnd, e19, nI_1, gd_t x1, cb, gd_t xa, ca]
  cases hm : mc tb p a b with
  | none =>
    simp only [enc_n, if_true]
    exact skip (by unfold bcand; rw [hm])
  | some c =>
    have bc := mc_le hs hT hbn hm
    simp only [enc_s, if_neg (nI_ne1 (show c < 2 ^ 31 by omega)), nIlt (show lm < 2 ^ 31 by omega) (show c < 2 ^ 31 by omega)]
    cases ht : best lm tb p (b + 1) with
    | none =>
      have e : bcand lm tb p (best lm tb p) a b = none := by unfold bcand; rw [hm, ht]
      by_cases c2 : lm < c
      · rw [if_pos c2]
        exact skip e
      · rw [if_neg c2]
        simp only [h1.1 ht, if_true]
        exact skip e
    | some t =>
      have bt := best_bd' hs hT ht
      have h1t := h1.2 t ht
      by_cases c2 : lm < c
      · rw [if_pos c2]
        exact skip (by unfold bcand; rw [hm, ht]; exact if_neg (by omega))
      · rw [if_neg c2]
        have ec : bcand lm tb p (best lm tb p) a b = some (c + t.1, t.2.1 + 1, b) := by unfold bcand; rw [hm, ht]; exact if_pos (by omega)
        simp only [h1t.1, h1t.2, if_neg (nI_ne1 (show t.1 < 2 ^ 31 by omega)), nI_add, nI_1l]
        rw [ec]
        have hset : ∃ M', j_X10_laysBest_169_33 M (nI a) (nI b) (nI (c + t.1)) (nI (1 + t.2.1)) = some (.inl (nI (b + 1), M')) ∧ MB M' (some (c + t.1, t.2.1 + 1, b)) a ∧ ME M' (some (c + t.1, t.2.1 + 1, b)) a ∧ KN M M' ∧ ar M' 19 = ar M 19 ∧ ∀ j, j ≠ a → ar M' 20 j = ar M 20 j ∧ ar M' 21 j = ar M 21 j ∧ ar M' 22 j = ar M 22 j := by
          refine ⟨sA (sA (sA M 20 a (nI (c + t.1))) 21 a (nI (t.2.1 + 1))) 22 a (nI b), ?_, ⟨(fun e => by cases e), fun q e => ?_⟩, fun q e => ?_, ?_, ?_, fun j hj => ?_⟩
          · simp only [j_X10_laysBest_169_33, j_X10_laysBest_170_28, j_X10_laysBest_204_23, bnd, if_true, gd_t xa, ca, nI_1, Nat.add_comm 1 t.2.1]
          · cases e
            simp [arA, updE]
          · cases e
            simp [arA, updE]
          · exact KN_arA (KN_arA (KN_arA (KN_rf M) (by omega)) (by omega)) (by omega)
          · simp [arA]
          · simp [arA, updE, hj]
        have hkeep : ∃ M', j_X10_laysBest_165_34 M (nI a) (nI b) (nI (c + t.1)) (nI (1 + t.2.1)) = some (.inl (nI (b + 1), M')) ∧ MB M' (bin lm tb p (best lm tb p) a b) a ∧ ME M' (bin lm tb p (best lm tb p) a b) a ∧ KN M M' ∧ ar M' 19 = ar M 19 ∧ ∀ j, j ≠ a → ar M' 20 j = ar M 20 j ∧ ar M' 21 j = ar M 21 j ∧ ar M' 22 j = ar M 22 j := by
          refine ⟨M, ?_, h0, h2, KN_rf M, rfl, fun _ _ => ⟨rfl, rfl, rfl⟩⟩
          simp only [j_X10_laysBest_165_34, j_X10_laysBest_170_28, j_X10_laysBest_204_23, bnd, if_neg (show ¬ (1 : Int32) = 0 by decide), nI_1]
        cases hx : bin lm tb p (best lm tb p) a b with
        | none =>
          simp only [h0.1 hx, if_true]
          exact hset
        | some y =>
          have by1 := bin_bd hs hT (by omega) hx
          have h0y := h0.2 y hx
          rw [hx] at hkeep
          simp only [h0y.1, h0y.2, if_neg (nI_ne1 (show y.1 < 2 ^ 31 by omega)), nIlt (show y.1 < 2 ^ 31 by omega) (show c + t.1 < 2 ^ 31 by omega), nIe (show c + t.1 < 2 ^ 31 by omega) (show y.1 < 2 ^ 31 by omega), nIle (show 1 + t.2.1 < 2 ^ 31 by omega) (show y.2.1 < 2 ^ 31 by omega), bbet]
          by_cases c3 : y.1 < c + t.1
          · rw [if_pos c3, if_neg (by omega)]
            exact hkeep
          · rw [if_neg c3]
            by_cases c4 : c + t.1 = y.1
            · rw [if_pos c4]
              by_cases c5 : 1 + t.2.1 ≤ y.2.1
              · rw [if_pos c5, if_pos (by omega)]
                exact hset
              · rw [if_neg c5, if_neg (by omega)]
                exact hkeep
            · rw [if_neg c4, if_pos (by omega)]
              exact hset
theorem LC_e {M M' : OV} {tb : Tb} {p : Pg} (h : LC M tb p) (e : ar M' 19 = ar M 19) : LC M' tb p := by unfold LC; rw [e]; exact h
theorem M_laysBest {M : OV} {tb : Tb} {p : Pg} (h : RM (ar M 8) p) (hs : PgS p) (hT : TbS tb) (hc : LC M tb p) {lm : Nat} (hlm : lm ≤ 1000000000) : ∃ M', f_X10_laysBest M (nI lm) = some M' ∧ KN M M' ∧ (∀ j, j ≤ pn p → MB M' (best lm tb p j) j) ∧ (∀ j, j < pn p → ME M' (best lm tb p j) j) := by
  have h40 := hs.1
  have xn : ix (nI (pn p)) 41 = true := ix_nI (by omega) (by decide)
  have cn := nI_clamp (show pn p < 2 ^ 31 by omega)
  obtain ⟨r, e, hr⟩ := lp_inv (step := s_X10_laysBest_27_10 (nI lm)) (fun k s => ∃ M', s = (nI (pn p - k) - 1, M') ∧ KN M M' ∧ LC M' tb p ∧ ∀ j, pn p - k ≤ j → j ≤ pn p → MB M' (best lm tb p j) j ∧ (j < pn p → ME M' (best lm tb p j) j)) (fun r => KN M r ∧ ∀ j, j ≤ pn p → MB r (best lm tb p j) j ∧ (j < pn p → ME r (best lm tb p j) j)) 0 (pn p) (Nat.zero_le _) (by
    rintro k s - hk ⟨M1, rfl, k1, c1, hM1⟩
    obtain ⟨a, ha⟩ : ∃ a, a = pn p - k - 1 := ⟨_, rfl⟩
    have han : a < pn p := by omega
    have xa : ix (nI a) 41 = true := ix_nI (by omega) (by decide)
    have ca := nI_clamp (show a < 2 ^ 31 by omega)
    have hls := lim_spec han
    obtain ⟨M3, e2, k3, c3, hb3, he3, hfr3⟩ := lp_inv (step := s_X10_laysBest_47_18 (nI lm) (nI a) (nI (lim p a))) (fun b s => ∃ M', s = (nI b, M') ∧ KN M M' ∧ LC M' tb p ∧ MB M' (bin lm tb p (best lm tb p) a b) a ∧ ME M' (bin lm tb p (best lm tb p) a b) a ∧ ∀ j, j ≠ a → ar M' 20 j = ar M1 20 j ∧ ar M' 21 j = ar M1 21 j ∧ ar M' 22 j = ar M1 22 j) (fun r => KN M r ∧ LC r tb p ∧ MB r (best lm tb p a) a ∧ ME r (best lm tb p a) a ∧ ∀ j, j ≠ a → ar r 20 j = ar M1 20 j ∧ ar r 21 j = ar M1 21 j ∧ ar r 22 j = ar M1 22 j) a (lim p a + 1) (by omega) (by
      rintro b s h1 h2 ⟨M', rfl, k', c', hb', he', hfr⟩
      have hb1 := (hM1 (b + 1) (by omega) (by omega)).1
      have hfb := hfr (b + 1) (by omega)
      obtain ⟨M'', e, u1, u2, u3, u4, u5⟩ := M_bestStep hs hT c' hlm h1 (by omega) han hb' he' (show MB M' (best lm tb p (b + 1)) (b + 1) by unfold MB; rw [hfb.1, hfb.2.1]; exact hb1)
      exact ⟨_, e, M'', rfl, KN_tr k' u3, LC_e c' u4, u1, u2, fun j hj => ⟨(u5 j hj).1.trans (hfr j hj).1, (u5 j hj).2.1.trans (hfr j hj).2.1, (u5 j hj).2.2.trans (hfr j hj).2.2⟩⟩) (by
      rintro s ⟨M', rfl, k', c', hb', he', hfr⟩
      rw [← best_eq hs han] at hb' he'
      exact ⟨M', by simp only [s_X10_laysBest_47_18, un2, nIlt (show lim p a < 2 ^ 31 by omega) (show lim p a + 1 < 2 ^ 31 by omega), if_pos (show lim p a < lim p a + 1 by omega)], k', c', hb', he', hfr⟩) 5000 (by omega) (nI a, sA M1 20 a (-1)) ⟨_, rfl, KN_arA k1 (by omega), LC_e c1 (by simp [arA]), (by rw [bin_n a (Nat.le_refl _)]; exact ⟨(fun _ => by simp [arA, updE]), (fun t e => by cases e)⟩), (by rw [bin_n a (Nat.le_refl _)]; exact (fun t e => by cases e)), fun j hj => by simp [arA, updE, hj]⟩
    refine ⟨(nI (pn p - (k + 1)) - 1, M3), ?_, M3, rfl, k3, c3, fun j h1 h2 => ?_⟩
    · rw [nI_sm1 hk, ← ha]
      simp only [s_X10_laysBest_27_10, un2, if_neg (nI_pos (show a < 2 ^ 31 by omega)), gd_t xa, bnd, ca, M_limit (KN_RM (KN_arA k1 (show 12 ≤ 20 ∧ 20 < 24 by omega)) h) hs han, Option.bind_some, un1, e2, add_m1]
      rw [show pn p - (k + 1) = a by omega]
    · by_cases c : j = a
      · subst c
        exact ⟨hb3, fun _ => he3⟩
      · have hf := hfr3 j c
        have hj := hM1 j (by omega) h2
        unfold MB ME
        rw [hf.1, hf.2.1, hf.2.2]
        exact hj) (by
    rintro s ⟨M1, rfl, k1, c1, hM1⟩
    exact ⟨_, by simp only [s_X10_laysBest_27_10, un2, Nat.sub_self, if_pos (show nI 0 - 1 < (0 : Int32) by decide)], k1, fun j h => hM1 j (by omega) h⟩) 5000 (by omega) (nI (pn p - 0) - 1, sA (sA M 20 (pn p) 0) 21 (pn p) 0) ⟨_, rfl, KN_arA (KN_arA (KN_rf M) (by omega)) (by omega), LC_e hc (by simp [arA]), fun j h1 h2 => by
      have : j = pn p := by omega
      subst this
      rw [best_n (Nat.le_refl _)]
      refine ⟨⟨(fun e => by cases e), fun t e => ?_⟩, fun h => by omega⟩
      cases e
      simp [arA, updE, nI_0]⟩
  refine ⟨r, ?_, hr.1, fun j h => (hr.2 j h).1, fun j h => (hr.2 j (by omega)).2 h⟩
  unfold f_X10_laysBest
  have m1 := M_many (M := sA M 20 (pn p) 0) (KN_RM (KN_arA (KN_rf M) (show 12 ≤ 20 ∧ 20 < 24 by omega)) h)
  have m2 := M_many (M := sA (sA M 20 (pn p) 0) 21 (pn p) 0) (KN_RM (KN_arA (KN_arA (KN_rf M) (show 12 ≤ 20 ∧ 20 < 24 by omega)) (show 12 ≤ 21 ∧ 21 < 24 by omega)) h)
  simp only [M_many h, Option.bind_some, un1, gd_t xn, cn, bnd, m1, m2]
  rw [Nat.sub_zero] at e
  rw [e]
  rfl
