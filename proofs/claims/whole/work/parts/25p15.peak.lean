theorem N_leastPeak {N R P : OV} {oC oP : Nat} {tb : Tb} {p : Pg} (hR : RR oC oP R tb p) (hP : RP P p) (hs : PgS p) (hT : TbS tb) (hpt : PgT tb p) : ∃ N' R', f_X5_leastPeak N R oP P = some (nI (pk tb p 0), N', R') ∧ RR oC oP R' tb p := by
  have h40 := hs.1
  have xn : ix (nI (pn p)) 41 = true := ix_nI (by omega) (by decide)
  have cn := nI_clamp (show pn p < 2 ^ 31 by omega)
  obtain ⟨r, e, hr⟩ := lp_inv (step := s_X5_leastPeak_16_6 oP P) (fun k s => ∃ N' R', s = (nI (pn p - k) - 1, N', R') ∧ RR oC oP R' tb p ∧ ∀ j, pn p - k ≤ j → j ≤ pn p → ar N' 0 j = nI (pk tb p j)) (fun r => ∃ N' R', r = (N', R') ∧ RR oC oP R' tb p ∧ ∀ j, j ≤ pn p → ar N' 0 j = nI (pk tb p j)) 0 (pn p) (Nat.zero_le _) (by
    rintro k s - hk ⟨N1, R1, rfl, hR1, hN1⟩
    obtain ⟨a, ha⟩ : ∃ a, a = pn p - k - 1 := ⟨_, rfl⟩
    have han : a < pn p := by omega
    have xa : ix (nI a) 41 = true := ix_nI (by omega) (by decide)
    have ca := nI_clamp (show a < 2 ^ 31 by omega)
    have hrs := rch_spec (tb := tb) han
    obtain ⟨r2, e2, N3, R3, rfl, hR3, hN3, hfr3⟩ := lp_inv (step := s_X5_leastPeak_38_15 oP P (nI a) (nI (rch tb p a))) (fun b s => ∃ N' R', s = (nI b, N', R') ∧ RR oC oP R' tb p ∧ ar N' 0 a = nI (pkin tb p (pk tb p) a b) ∧ ∀ j, j ≠ a → ar N' 0 j = ar N1 0 j) (fun r => ∃ N' R', r = (N', R') ∧ RR oC oP R' tb p ∧ ar N' 0 a = nI (pk tb p a) ∧ ∀ j, j ≠ a → ar N' 0 j = ar N1 0 j) a (rch tb p a + 1) (by omega) (by
      rintro b s h1 h2 ⟨N', R', rfl, hR', hN', hfr⟩
      have hbn : b < pn p := by omega
      have hb1 := hN1 (b + 1) (by omega) (by omega)
      rw [← hfr (b + 1) (by omega)] at hb1
      have hm := R_measure hR'.2.1 hR'.2.2 hP hs hT hpt h1 hbn
      have bm := mcost_le (a := a) hs hT hbn
      have bp := pk_lej (tb := tb) hs (b + 1)
      have bo1 := pkin_le (tb := tb) (p := p) (T := pk tb p) (a := a) b
      have x1 : ix (nI (b + 1)) 41 = true := ix_nI (by omega) (by decide)
      have cb := nI_clamp (show b + 1 < 2 ^ 31 by omega)
      have i13 : iv (RLD R' tb p a b) 13 = bo (!mlong tb p a b || decide (a = b)) := Eq.trans rfl rfl
      have i17 : iv (RLD R' tb p a b) 17 = nI (mcost tb p a b) := Eq.trans rfl rfl
      have hfin : ∃ N'', s_X5_leastPeak_38_15 oP P (nI a) (nI (rch tb p a)) (nI b, N', R') = some (.inl (nI (b + 1), N'', RLD R' tb p a b)) ∧ ar N'' 0 a = nI (pkin tb p (pk tb p) a (b + 1)) ∧ ∀ j, j ≠ a → ar N'' 0 j = ar N1 0 j := by
        rw [pkin_s h1]
        simp only [s_X5_leastPeak_38_15, un3, nIlt (show rch tb p a < 2 ^ 31 by omega) (show b < 2 ^ 31 by omega), if_neg (show ¬ rch tb p a < b by omega), hm, Option.bind_some, un1, i13, i17, bo_0, nI_1, gd_t x1, gd_t xa, ca, cb, hb1, hN', j_X5_leastPeak_94_22, bnd, mx_nI (show mcost tb p a b < 2 ^ 31 by omega) (show pk tb p (b + 1) < 2 ^ 31 by omega), mn_nI (show max (pk tb p (b + 1)) (mcost tb p a b) < 2 ^ 31 by omega) (show pkin tb p (pk tb p) a b < 2 ^ 31 by omega)]
        by_cases c1 : mlong tb p a b = true ∧ a < b
        · have e1 : (!mlong tb p a b || decide (a = b)) = false := by rw [c1.1, decide_eq_false (by omega)]; rfl
          rw [if_pos e1]
          refine ⟨N', rfl, ?_, hfr⟩
          unfold pkc
          rw [mc_none c1.1 c1.2]
          exact hN'
        · have e1 : ¬ (!mlong tb p a b || decide (a = b)) = false := by
            cases hl : mlong tb p a b
            · simp
            · have : a = b := by
                rw [hl] at c1
                have : ¬ a < b := fun q => c1 ⟨rfl, q⟩
                omega
              simp [this]
          rw [if_neg e1]
          refine ⟨_, rfl, ?_, fun j hj => ?_⟩
          · unfold pkc
            rw [mc_some c1, Nat.max_comm]
            simp [arA, updE]
          · simp only [arA, updE, if_true, if_neg hj]
            exact hfr j hj
      obtain ⟨N'', e, hN'', hfr2⟩ := hfin
      exact ⟨_, e, N'', _, rfl, RR_ld hR' a b, hN'', hfr2⟩) (by
      rintro s ⟨N', R', rfl, hR', hN', hfr⟩
      refine ⟨_, by simp only [s_X5_leastPeak_38_15, un3, nIlt (show rch tb p a < 2 ^ 31 by omega) (show rch tb p a + 1 < 2 ^ 31 by omega), if_pos (show rch tb p a < rch tb p a + 1 by omega)], N', R', rfl, hR', ?_, hfr⟩
      rw [pk_eqj hs han, pkin_rch hs hT hpt _ han]
      exact hN') 5000 (by omega) (nI a, sA N1 0 a 1000000000, R1) ⟨_, R1, rfl, hR1, by rw [pkin_n a (Nat.le_refl _)]; simp [arA, updE]; rfl, fun j hj => by simp [arA, updE, hj]⟩
    refine ⟨(nI (pn p - (k + 1)) - 1, N3, R3), ?_, N3, R3, rfl, hR3, fun j h1 h2 => ?_⟩
    · rw [nI_sm1 hk, ← ha]
      simp only [s_X5_leastPeak_16_6, un3, if_neg (nI_pos (show a < 2 ^ 31 by omega)), gd_t xa, bnd, ca, R_reach hR1.2.1 hR1.2.2 hP hs hT han, Option.bind_some, un1, e2]
      simp only [un2, add_m1]
      rw [show pn p - (k + 1) = a by omega]
    · by_cases c : j = a
      · subst c
        exact hN3
      · rw [hfr3 j c]
        exact hN1 j (by omega) h2) (by
    rintro s ⟨N1, R1, rfl, hR1, hN1⟩
    exact ⟨_, by simp only [s_X5_leastPeak_16_6, un3, Nat.sub_self, if_pos (show nI 0 - 1 < (0 : Int32) by decide)], N1, R1, rfl, hR1, fun j h => hN1 j (by omega) h⟩) 5000 (by omega) (nI (pn p - 0) - 1, sA N 0 (pn p) 0, R) ⟨_, R, rfl, hR, fun j h1 h2 => by
      have : j = pn p := by omega
      subst this
      rw [pk_n (Nat.le_refl _)]
      simp [arA, updE, nI_0]⟩
  obtain ⟨N', R', rfl, hR', hN'⟩ := hr
  refine ⟨N', R', ?_, hR'⟩
  unfold f_X5_leastPeak
  simp only [N_signs hR hP, Option.bind_some, un1, bnd, gd_t xn, cn]
  rw [Nat.sub_zero] at e
  rw [e]
  simp only [Option.bind_some, un2, gd_t (show ix (0 : Int32) 41 = true by decide)]
  rw [show (0 : Int32).toNatClampNeg = 0 from rfl, hN' 0 (Nat.zero_le _)]
-- within the least greatest cost there are lines
theorem bin_ex {lm : Nat} {tb : Tb} {p : Pg} {T : Nat → BT} {a b c : Nat} {t : Nat × Nat × Nat} (hab : a ≤ b) (hm : mc tb p a b = some c) (hc : c ≤ lm) (ht : T (b + 1) = some t) : ∀ m, b < m → bin lm tb p T a m ≠ none
  | 0, h => by omega
  | m + 1, h => by
    intro e
    rw [bin_s (by omega)] at e
    obtain ⟨e1, e2⟩ := bbet_none e
    by_cases c1 : b = m
    · subst c1
      unfold bcand at e2
      rw [hm, ht] at e2
      simp only [if_pos hc] at e2
      cases e2
    · exact bin_ex hab hm hc ht m (by omega) e1
theorem pkin_at {tb : Tb} {p : Pg} {T : Nat → Nat} {a : Nat} : ∀ m, pkin tb p T a m < 1000000000 → ∃ b c, a ≤ b ∧ b < m ∧ mc tb p a b = some c ∧ pkin tb p T a m = max c (T (b + 1))
  | 0, h => by simp [pkin] at h
  | m + 1, h => by
    rcases Nat.lt_or_ge m a with h1 | h1
    · rw [pkin_n _ (by omega)] at h; omega
    · rw [pkin_s h1] at h ⊢
      unfold pkc at h ⊢
      cases hm : mc tb p a m with
      | none =>
        rw [hm] at h
        simp only at h ⊢
        obtain ⟨b, c, u1, u2, u3⟩ := pkin_at m h
        exact ⟨b, c, u1, by omega, u3⟩
      | some c =>
        rw [hm] at h
        simp only at h ⊢
        rcases Nat.lt_or_ge (max c (T (m + 1))) (pkin tb p T a m) with h2 | h2
        · exact ⟨m, c, h1, by omega, hm, by omega⟩
        · obtain ⟨b, c', u1, u2, u3, u4⟩ := pkin_at (tb := tb) (p := p) (T := T) (a := a) m (by omega)
          exact ⟨b, c', u1, by omega, u3, by omega⟩
theorem pkin_up {tb : Tb} {p : Pg} {T : Nat → Nat} {a b c : Nat} (hab : a ≤ b) (hm : mc tb p a b = some c) : ∀ m, b < m → pkin tb p T a m ≤ max c (T (b + 1))
  | 0, h => by omega
  | m + 1, h => by
    rw [pkin_s (by omega)]
    unfold pkc
    by_cases c1 : b = m
    · subst c1
      rw [hm]
      exact Nat.min_le_right _ _
    · have := pkin_up (T := T) hab hm m (by omega)
      split <;> omega
theorem pk_small {tb : Tb} {p : Pg} (hs : PgS p) (hT : TbS tb) : ∀ m j, pn p - j ≤ m → pk tb p j ≤ 30000
  | 0, j, h => by rw [pk_n (by omega)]; omega
  | m + 1, j, h => by
    rcases Nat.lt_or_ge j (pn p) with h1 | h1
    · have := pkin_up (T := pk tb p) (Nat.le_refl j) (mc_some (tb := tb) (p := p) (a := j) (b := j) (by omega)) (lim p j + 1) (by have := lim_spec h1; omega)
      rw [← pk_eqj hs h1] at this
      have h2 := pk_small hs hT m (j + 1) (by omega)
      have h3 := mcost_le (a := j) hs hT h1
      omega
    · rw [pk_n h1]; omega
theorem best_ex {lm : Nat} {tb : Tb} {p : Pg} (hs : PgS p) (hT : TbS tb) : ∀ m j, pn p - j ≤ m → pk tb p j ≤ lm → ∃ x, best lm tb p j = some x
  | 0, j, h, _ => ⟨_, best_n (by omega)⟩
  | m + 1, j, h, hp => by
    rcases Nat.lt_or_ge j (pn p) with h1 | h1
    · have hsm := pk_small hs hT _ j (Nat.le_refl _)
      rw [pk_eqj hs h1] at hp hsm
      obtain ⟨b, c, u1, u2, u3, u4⟩ := pkin_at _ (show pkin tb p (pk tb p) j (lim p j + 1) < 1000000000 by omega)
      obtain ⟨t, ht⟩ := best_ex (lm := lm) hs hT m (b + 1) (by omega) (by omega)
      have := bin_ex (lm := lm) (T := best lm tb p) u1 u3 (by omega) ht (lim p j + 1) u2
      rw [← best_eq hs h1] at this
      exact Option.ne_none_iff_exists'.mp this
    · exact ⟨_, best_n h1⟩
