theorem lN_toI {n : Nat} (h : n < 2 ^ 62) : (lN n).toInt = (n : Int) := lg_ofNat_toInt (by omega)
theorem lNlt {a b : Nat} (ha : a < 2 ^ 62) (hb : b < 2 ^ 62) : (lg_cmp (lN a) (lN b) < 0) = (a < b) := by
  rw [propext (lg_cmp_lt _ _), Int64.lt_iff_toInt_lt, lN_toI ha, lN_toI hb]
  exact propext ⟨fun h => by omega, fun h => by omega⟩
theorem lNle {a b : Nat} (ha : a < 2 ^ 62) (hb : b < 2 ^ 62) : (lg_cmp (lN a) (lN b) ≤ 0) = (a ≤ b) := by
  rw [propext (lg_cmp_le _ _), Int64.le_iff_toInt_le, lN_toI ha, lN_toI hb]
  exact propext ⟨fun h => by omega, fun h => by omega⟩
theorem lNge {a b : Nat} (ha : a < 2 ^ 62) (hb : b < 2 ^ 62) : (0 ≤ lg_cmp (lN a) (lN b)) = (b ≤ a) := by
  rw [propext (lg_cmp_ge _ _), Int64.le_iff_toInt_le, lN_toI ha, lN_toI hb]
  exact propext ⟨fun h => by omega, fun h => by omega⟩
theorem lNe {a b : Nat} (ha : a < 2 ^ 62) (hb : b < 2 ^ 62) : (lg_cmp (lN a) (lN b) = 0) = (a = b) := by
  rw [propext (lg_cmp_eq _ _), ← Int64.toInt_inj, lN_toI ha, lN_toI hb]
  exact propext ⟨fun h => by omega, fun h => by omega⟩
theorem alA (x : OV) (k j q : Nat) (v : Int32) : al (sA x k j v) q = al x q := rfl
theorem arLg (x : OV) (k j q : Nat) (v : Int64) : ar (sL x k j v) q = ar x q := rfl
-- the math of ways
theorem wfin_congr {tb : Tb} {p : Pg} {T T' : Nat → Nat × Nat} {a : Nat} (h : ∀ b, a ≤ b → T (b + 1) = T' (b + 1)) : ∀ m, wfin tb p T a m = wfin tb p T' a m
  | 0 => rfl
  | m + 1 => by
    simp only [wfin]
    by_cases c : a ≤ m
    · rw [if_pos c, if_pos c, wfin_congr h m, h m c]
    · rw [if_neg c, if_neg c]
theorem wfs_stab {tb : Tb} {p : Pg} : ∀ f f' j, pn p - j < f → pn p - j < f' → wfs tb p f j = wfs tb p f' j
  | 0, _, _, h, _ => by omega
  | _ + 1, 0, _, _, h => by omega
  | f + 1, g + 1, j, h1, h2 => by
    simp only [wfs]
    by_cases c : pn p ≤ j
    · rw [if_pos c, if_pos c]
    · rw [if_neg c, if_neg c]
      exact wfin_congr (fun b hb => wfs_stab f g (b + 1) (by omega) (by omega)) _
theorem wf_n {tb : Tb} {p : Pg} {j : Nat} (h : pn p ≤ j) : wf tb p j = (1, 0) := by
  unfold wf
  rw [wfs, if_pos h]
theorem wf_eq {tb : Tb} {p : Pg} (hs : PgS p) {j : Nat} (h : j < pn p) : wf tb p j = wfin tb p (wf tb p) j (lim p j + 1) := by
  have h40 := hs.1
  unfold wf
  rw [wfs, if_neg (by omega)]
  exact wfin_congr (fun b hb => wfs_stab 40 41 (b + 1) (by omega) (by omega)) _
theorem wfin_s {tb : Tb} {p : Pg} {T : Nat → Nat × Nat} {a b : Nat} (h : a ≤ b) : wfin tb p T a (b + 1) = (if stp tb p a b = true ∧ 0 < (T (b + 1)).1 then ((wfin tb p T a b).1 + (T (b + 1)).1, min (wfin tb p T a b).2 ((T (b + 1)).2 + 1)) else wfin tb p T a b) := by
  rw [wfin, if_pos h]
theorem wfin_n {tb : Tb} {p : Pg} {T : Nat → Nat × Nat} {a : Nat} : ∀ b, b ≤ a → wfin tb p T a b = (0, 40)
  | 0, _ => rfl
  | b + 1, h => by rw [wfin, if_neg (by omega)]
theorem wfin_far {tb : Tb} {p : Pg} {T : Nat → Nat × Nat} {a b : Nat} (hab : a ≤ b) : ∀ c, b ≤ c → (∀ k, b ≤ k → k < c → stp tb p a k = false) → wfin tb p T a c = wfin tb p T a b
  | 0, h, _ => by rw [show b = 0 by omega]
  | c + 1, h, h2 => by
    rcases Nat.lt_or_ge c b with h3 | h3
    · rw [show b = c + 1 by omega]
    · rw [wfin_s (by omega), h2 c h3 (by omega), if_neg (by simp)]
      exact wfin_far hab c h3 (fun k a b => h2 k a (by omega))
theorem wfin_rch {tb : Tb} {p : Pg} (hs : PgS p) (hT : TbS tb) (hpt : PgT tb p) (T : Nat → Nat × Nat) {a : Nat} (ha : a < pn p) : wfin tb p T a (lim p a + 1) = wfin tb p T a (rch tb p a + 1) := by
  have hr := rch_spec (tb := tb) ha
  have := rch_lim (tb := tb) ha
  refine wfin_far (by omega) _ (by omega) (fun k h1 h2 => ?_)
  unfold stp
  rw [far_long hs hT hpt ha (show rch tb p a < k by omega) (by omega)]
  simp
/-- how many there are at most, and how short -/
theorem wf_bd {tb : Tb} {p : Pg} (hs : PgS p) : ∀ m j, pn p - j ≤ m → (wf tb p j).1 ≤ 2 ^ (pn p - j) ∧ (wf tb p j).2 ≤ 40 ∧ (0 < (wf tb p j).1 → (wf tb p j).2 ≤ pn p - j)
  | 0, j, h => by
    rw [wf_n (by omega)]
    exact ⟨Nat.one_le_two_pow, Nat.zero_le _, fun _ => Nat.zero_le _⟩
  | m + 1, j, h => by
    rcases Nat.lt_or_ge j (pn p) with h1 | h1
    · have h40 := hs.1
      rw [wf_eq hs h1]
      have hl := lim_spec h1
      have key : ∀ b, j ≤ b → b ≤ lim p j + 1 → (wfin tb p (wf tb p) j b).1 + 2 ^ (pn p - b) ≤ 2 ^ (pn p - j) ∧ (wfin tb p (wf tb p) j b).2 ≤ 40 ∧ (0 < (wfin tb p (wf tb p) j b).1 → (wfin tb p (wf tb p) j b).2 ≤ pn p - j) := by
        intro b
        induction b with
        | zero =>
          intro h2 h3
          rw [wfin_n 0 (by omega)]
          have : j = 0 := by omega
          subst this
          exact ⟨by simp, Nat.le_refl _, fun h => absurd h (by simp)⟩
        | succ b ih =>
          intro h2 h3
          rcases Nat.lt_or_ge b j with h4 | h4
          · have : j = b + 1 := by omega
            rw [wfin_n (b + 1) (by omega), this]
            exact ⟨by simp, Nat.le_refl _, fun h => absurd h (by simp)⟩
          · obtain ⟨u1, u2, u3⟩ := ih h4 (by omega)
            obtain ⟨w1, w2, w3⟩ := wf_bd (tb := tb) hs m (b + 1) (by omega)
            have hp : 2 ^ (pn p - b) = 2 ^ (pn p - (b + 1)) + 2 ^ (pn p - (b + 1)) := by
              rw [show pn p - b = (pn p - (b + 1)) + 1 by omega, Nat.pow_succ]
              omega
            rw [wfin_s h4]
            split
            · rename_i c
              refine ⟨?_, ?_, fun _ => ?_⟩
              · show (wfin tb p (wf tb p) j b).1 + (wf tb p (b + 1)).1 + 2 ^ (pn p - (b + 1)) ≤ _
                omega
              · show min _ _ ≤ 40
                omega
              · show min _ _ ≤ _
                have := w3 c.2
                omega
            · exact ⟨by omega, u2, u3⟩
      obtain ⟨u1, u2, u3⟩ := key (lim p j + 1) (by omega) (Nat.le_refl _)
      exact ⟨Nat.le_trans (Nat.le_add_right _ _) u1, u2, u3⟩
    · rw [wf_n h1]
      exact ⟨Nat.one_le_two_pow, Nat.zero_le _, fun _ => Nat.zero_le _⟩
theorem wf_b62 {tb : Tb} {p : Pg} (hs : PgS p) (j : Nat) : (wf tb p j).1 ≤ 2 ^ 40 := by
  have h40 := hs.1
  have := (wf_bd (tb := tb) hs _ j (Nat.le_refl _)).1
  exact Nat.le_trans this (Nat.pow_le_pow_right (by decide) (by omega))
theorem wfin_b {tb : Tb} {p : Pg} (hs : PgS p) {a : Nat} : ∀ b, (wfin tb p (wf tb p) a b).1 ≤ 2 ^ 40 * b ∧ (wfin tb p (wf tb p) a b).2 ≤ 40
  | 0 => ⟨Nat.le_refl _, Nat.le_refl _⟩
  | b + 1 => by
    obtain ⟨h1, h2⟩ := wfin_b (tb := tb) hs (a := a) b
    have h3 := wf_b62 (tb := tb) hs (b + 1)
    rw [wfin]
    split
    · split
      · exact ⟨by show _ + _ ≤ _; rw [Nat.mul_succ]; omega, by show min _ _ ≤ 40; omega⟩
      · exact ⟨by rw [Nat.mul_succ]; omega, h2⟩
    · exact ⟨Nat.zero_le _, Nat.le_refl _⟩
theorem wfin_pos {tb : Tb} {p : Pg} {T : Nat → Nat × Nat} {a : Nat} : ∀ b, (wfin tb p T a b).1 = 0 → (wfin tb p T a b).2 = 40
  | 0, _ => rfl
  | b + 1, h => by
    rw [wfin] at h ⊢
    split
    · rename_i c
      rw [if_pos c] at h
      split
      · rename_i d
        rw [if_pos d] at h
        simp only at h
        omega
      · rename_i d
        rw [if_neg d] at h
        exact wfin_pos b h
    · rfl
-- the class
theorem R_isStep {R P : OV} {oC oP : Nat} {tb : Tb} {p : Pg} (hR : RR oC oP R tb p) (hP : RP P p) (hs : PgS p) (hT : TbS tb) (hpt : PgT tb p) {a b : Nat} (hab : a ≤ b) (hb : b < pn p) : ∃ R', f_X8_isStep R oP P (nI a) (nI b) = some (bo (stp tb p a b), R') ∧ RR oC oP R' tb p := by
  have hl := R_legal hR hs hb
  have hm := R_measure hR.2.1 hR.2.2 hP hs hT hpt hab hb
  have i12 : iv (RLD R tb p a b) 12 = bo (mlong tb p a b) := Eq.trans rfl rfl
  unfold f_X8_isStep stp
  rw [hl, Option.bind_some]
  simp only [un1, bo_0, hm, Option.bind_some, i12]
  cases lgl p b
  · exact ⟨R, rfl, hR⟩
  · refine ⟨RLD R tb p a b, ?_, RR_ld hR a b⟩
    cases mlong tb p a b <;> rfl
theorem W_reckon {W R P : OV} {oC oP : Nat} {tb : Tb} {p : Pg} (hR : RR oC oP R tb p) (hP : RP P p) (hs : PgS p) (hT : TbS tb) (hpt : PgT tb p) : ∃ W' R', f_X8_reckon W R oP P = some (W', R') ∧ RR oC oP R' tb p ∧ iv W' 3 = 1 ∧ WR W' tb p := by
  have h40 := hs.1
  have xn : ix (nI (pn p)) 41 = true := ix_nI (by omega) (by decide)
  have cn := nI_clamp (show pn p < 2 ^ 31 by omega)
  have hj : ∀ t, t = bo (decide (pn p = 0)) → ∃ W' R', j_X8_reckon_15_5 oP W R P (nI (pn p)) t = some (W', R') ∧ RR oC oP R' tb p ∧ iv W' 3 = 1 ∧ WR W' tb p := by
    intro t ht
    obtain ⟨W1, hW1⟩ : ∃ W1, W1 = sA (sL (sI W 2 t) 0 (pn p) 1) 1 (pn p) 0 := ⟨_, rfl⟩
    obtain ⟨r, e, W2, R2, rfl, hR2, hv2, hW2⟩ := lp_inv (step := s_X8_reckon_36_10 oP P) (fun k s => ∃ W' R', s = (nI (pn p - k) - 1, W', R') ∧ RR oC oP R' tb p ∧ iv W' 2 = t ∧ ∀ j, pn p - k ≤ j → j ≤ pn p → al W' 0 j = lN (wf tb p j).1 ∧ ar W' 1 j = nI (wf tb p j).2) (fun r => ∃ W' R', r = (W', R') ∧ RR oC oP R' tb p ∧ iv W' 2 = t ∧ ∀ j, j ≤ pn p → al W' 0 j = lN (wf tb p j).1 ∧ ar W' 1 j = nI (wf tb p j).2) 0 (pn p) (Nat.zero_le _) (by
      rintro k s - hk ⟨Wa, Ra, rfl, hRa, hva, hWa⟩
      obtain ⟨a, ha⟩ : ∃ a, a = pn p - k - 1 := ⟨_, rfl⟩
      have han : a < pn p := by omega
      have xa : ix (nI a) 41 = true := ix_nI (by omega) (by decide)
      have ca := nI_clamp (show a < 2 ^ 31 by omega)
      have hrs := rch_spec (tb := tb) han
      obtain ⟨r2, e2, Wc, Rc, rfl, hRc, hvc, hc0, hc1, hfr⟩ := lp_inv (step := s_X8_reckon_65_20 oP P (nI a) (nI (rch tb p a))) (fun b s => ∃ W' R', s = (nI b, W', R') ∧ RR oC oP R' tb p ∧ iv W' 2 = t ∧ al W' 0 a = lN (wfin tb p (wf tb p) a b).1 ∧ ar W' 1 a = nI (wfin tb p (wf tb p) a b).2 ∧ ∀ j, j ≠ a → al W' 0 j = al Wa 0 j ∧ ar W' 1 j = ar Wa 1 j) (fun r => ∃ W' R', r = (W', R') ∧ RR oC oP R' tb p ∧ iv W' 2 = t ∧ al W' 0 a = lN (wf tb p a).1 ∧ ar W' 1 a = nI (wf tb p a).2 ∧ ∀ j, j ≠ a → al W' 0 j = al Wa 0 j ∧ ar W' 1 j = ar Wa 1 j) a (rch tb p a + 1) (by omega) (by
        rintro b s h1 h2 ⟨W', R', rfl, hR', hv', g0, g1, g2⟩
        have hbn : b < pn p := by omega
        have x1 : ix (nI (b + 1)) 41 = true := ix_nI (by omega) (by decide)
        have cb := nI_clamp (show b + 1 < 2 ^ 31 by omega)
        obtain ⟨w0, w1⟩ := hWa (b + 1) (by omega) (by omega)
        obtain ⟨f0, f1⟩ := g2 (b + 1) (by omega)
        rw [w0] at f0
        rw [w1] at f1
        have bT := wf_b62 (tb := tb) hs (b + 1)
        have bT2 := (wf_bd (tb := tb) hs _ (b + 1) (Nat.le_refl _)).2.1
        have bI := wfin_b (tb := tb) hs (a := a) b
        obtain ⟨R'', e3, hR''⟩ := R_isStep hR' hP hs hT hpt h1 hbn
        have hs0 : s_X8_reckon_65_20 oP P (nI a) (nI (rch tb p a)) (nI b, W', R') = (if (wf tb p (b + 1)).1 ≤ 0 then some (.inl (nI (b + 1), W', R')) else if stp tb p a b = false then some (.inl (nI (b + 1), W', R'')) else some (.inl (nI (b + 1), sA (sL W' 0 a (lN ((wfin tb p (wf tb p) a b).1 + (wf tb p (b + 1)).1))) 1 a (nI (min (wfin tb p (wf tb p) a b).2 ((wf tb p (b + 1)).2 + 1))), R''))) := by
          simp only [s_X8_reckon_65_20, un3, nIlt (show rch tb p a < 2 ^ 31 by omega) (show b < 2 ^ 31 by omega), if_neg (show ¬ rch tb p a < b by omega), nI_1, gd_t x1, cb, f0, show (0 : Int64) = lN 0 from rfl, lNle (show (wf tb p (b + 1)).1 < 2 ^ 62 by omega) (show 0 < 2 ^ 62 by decide), j_X8_reckon_140_26, bnd, e3, Option.bind_some, un2, bo_0, gd_t xa, ca, g0, lN_add, arLg, f1, g1, mn_nI (show (wf tb p (b + 1)).2 + 1 < 2 ^ 31 by omega) (show (wfin tb p (wf tb p) a b).2 < 2 ^ 31 by omega)]
        rw [wfin_s h1]
        by_cases c1 : (wf tb p (b + 1)).1 ≤ 0
        · rw [if_pos c1] at hs0
          rw [if_neg (by omega)]
          exact ⟨_, hs0, W', R', rfl, hR', hv', g0, g1, g2⟩
        · rw [if_neg c1] at hs0
          cases hst : stp tb p a b
          · rw [hst, if_pos rfl] at hs0
            rw [if_neg (by simp)]
            exact ⟨_, hs0, W', R'', rfl, hR'', hv', g0, g1, g2⟩
          · rw [hst, if_neg (by simp)] at hs0
            rw [if_pos ⟨rfl, by omega⟩]
            refine ⟨_, hs0, _, R'', rfl, hR'', hv', ?_, ?_, fun j hj => ⟨?_, ?_⟩⟩
            · rw [alA, alL, if_pos rfl, vp_updL, if_pos rfl]
            · rw [arA, if_pos rfl, updE, if_pos rfl]
            · rw [alA, alL, if_pos rfl]
              simp only [vp_updL, if_neg hj]
              exact (g2 j hj).1
            · rw [arA, if_pos rfl, updE, if_neg hj, arLg]
              exact (g2 j hj).2) (by
        rintro s ⟨W', R', rfl, hR', hv', g0, g1, g2⟩
        rw [← wfin_rch hs hT hpt _ han, ← wf_eq hs han] at g0 g1
        exact ⟨_, by simp only [s_X8_reckon_65_20, un3, nIlt (show rch tb p a < 2 ^ 31 by omega) (show rch tb p a + 1 < 2 ^ 31 by omega), if_pos (show rch tb p a < rch tb p a + 1 by omega)], W', R', rfl, hR', hv', g0, g1, g2⟩) 5000 (by omega) (nI a, sA (sL Wa 0 a 0) 1 a 40, Ra) ⟨_, Ra, rfl, hRa, hva, by rw [wfin_n a (Nat.le_refl _), alA, alL, if_pos rfl, vp_updL, if_pos rfl]; rfl, by rw [wfin_n a (Nat.le_refl _), arA, if_pos rfl, updE, if_pos rfl]; rfl, fun j hj => ⟨by rw [alA, alL, if_pos rfl]; simp only [vp_updL, if_neg hj], by rw [arA, if_pos rfl, updE, if_neg hj, arLg]⟩⟩
      refine ⟨(nI (pn p - (k + 1)) - 1, Wc, Rc), ?_, Wc, Rc, rfl, hRc, hvc, fun j h1 h2 => ?_⟩
      · rw [nI_sm1 hk, ← ha]
        simp only [s_X8_reckon_36_10, un3, if_neg (nI_pos (show a < 2 ^ 31 by omega)), gd_t xa, bnd, ca, R_reach hRa.2.1 hRa.2.2 hP hs hT han, Option.bind_some, un1, e2, un2, add_m1]
        rw [show pn p - (k + 1) = a by omega]
      · by_cases c : j = a
        · subst c; exact ⟨hc0, hc1⟩
        · rw [(hfr j c).1, (hfr j c).2]; exact hWa j (by omega) h2) (by
      rintro s ⟨Wa, Ra, rfl, hRa, hva, hWa⟩
      exact ⟨_, by simp only [s_X8_reckon_36_10, un3, Nat.sub_self, if_pos (show nI 0 - 1 < (0 : Int32) by decide)], Wa, Ra, rfl, hRa, hva, fun j h => hWa j (by omega) h⟩) 5000 (by omega) (nI (pn p - 0) - 1, W1, R) ⟨W1, R, rfl, hR, by rw [hW1]; show iv (sI W 2 t) 2 = t; rw [ivI, if_pos rfl], fun j h1 h2 => by
        have : j = pn p := by omega
        subst this
        rw [wf_n (Nat.le_refl _), hW1]
        exact ⟨by rw [alA, alL, if_pos rfl, vp_updL, if_pos rfl]; rfl, by rw [arA, if_pos rfl, updE, if_pos rfl]; rfl⟩⟩
    rw [Nat.sub_zero] at e
    refine ⟨sI W2 3 1, R2, ?_, hR2, by rw [ivI, if_pos rfl], by rw [ivI, if_neg (by decide), hv2, ht], hW2⟩
    unfold j_X8_reckon_15_5
    rw [gd_t (by rw [ht]; exact b01_bo _)]
    simp only [bnd, gd_t xn, cn, ← hW1, e, Option.bind_some, un2]
  unfold f_X8_reckon
  have e0 : (nI (pn p) = (0 : Int32)) = (pn p = 0) := nIe (by omega) (by decide)
  simp only [N_signs hR hP, Option.bind_some, un1, bnd, e0]
  by_cases c : pn p = 0
  · rw [if_pos c]
    exact hj 1 (by rw [decide_eq_true c]; rfl)
  · rw [if_neg c]
    exact hj 0 (by rw [decide_eq_false c]; rfl)
