theorem add_m1 (x : Int32) : x + (-1) = x - 1 := (Int32.sub_eq_add_neg x 1).symm
theorem mc_none {tb : Tb} {p : Pg} {a b : Nat} (h : mlong tb p a b = true) (hab : a < b) : mc tb p a b = none := by unfold mc; rw [if_pos ⟨h, hab⟩]
theorem mc_some {tb : Tb} {p : Pg} {a b : Nat} (h : ¬ (mlong tb p a b = true ∧ a < b)) : mc tb p a b = some (mcost tb p a b) := by unfold mc; rw [if_neg h]
/-- one end more -/
theorem N_bestStep {N R P : OV} {oC oP : Nat} {tb : Tb} {p : Pg} (hR : RR oC oP R tb p) (hP : RP P p) (hs : PgS p) (hT : TbS tb) (hpt : PgT tb p) {lm a b : Nat} (hlm : lm ≤ 1000000000) (hab : a ≤ b) (hb : b ≤ rch tb p a) (ha : a < pn p) (h0 : NB N (bin lm tb p (best lm tb p) a b) a) (h1 : ar N 0 (b + 1) = cE (best lm tb p (b + 1)) ∧ ar N 1 (b + 1) = lE (best lm tb p (b + 1))) : ∃ N', s_X5_planBest_67_18 oP P (nI lm) (nI a) (nI (rch tb p a)) (nI b, N, R) = some (.inl (nI (b + 1), N', RLD R tb p a b)) ∧ NB N' (bin lm tb p (best lm tb p) a (b + 1)) a ∧ ∀ q j, j ≠ a → ar N' q j = ar N q j := by
  have h40 := hs.1
  have hr := rch_spec (tb := tb) ha
  have hbn : b < pn p := by omega
  have hm := R_measure hR.2.1 hR.2.2 hP hs hT hpt hab hbn
  have bm := mcost_le (a := a) hs hT hbn
  have x1 : ix (nI (b + 1)) 41 = true := ix_nI (by omega) (by decide)
  have cb := nI_clamp (show b + 1 < 2 ^ 31 by omega)
  have i13 : iv (RLD R tb p a b) 13 = bo (!mlong tb p a b || decide (a = b)) := Eq.trans rfl rfl
  have i17 : iv (RLD R tb p a b) 17 = nI (mcost tb p a b) := Eq.trans rfl rfl
  rw [bin_s hab]
  simp only [s_X5_planBest_67_18, un3, nIlt (show rch tb p a < 2 ^ 31 by omega) (show b < 2 ^ 31 by omega), if_neg (show ¬ rch tb p a < b by omega), hm, Option.bind_some, un1, i13, i17, bo_0, nIlt (show lm < 2 ^ 31 by omega) (show mcost tb p a b < 2 ^ 31 by omega), nI_1, gd_t x1, cb, h1.1, j_X5_planBest_123_25, bnd]
  by_cases c1 : mlong tb p a b = true ∧ a < b
  · have e1 : (!mlong tb p a b || decide (a = b)) = false := by rw [c1.1, decide_eq_false (by omega)]; rfl
    rw [if_pos e1, show bcand lm tb p (best lm tb p) a b = none by unfold bcand; rw [mc_none c1.1 c1.2]]
    exact ⟨N, rfl, h0, fun _ _ _ => rfl⟩
  · have e1 : ¬ (!mlong tb p a b || decide (a = b)) = false := by
      cases hl : mlong tb p a b
      · simp
      · have : a = b := by
          rw [hl] at c1
          have : ¬ a < b := fun q => c1 ⟨rfl, q⟩
          omega
        simp [this]
    have hmc := mc_some c1
    rw [if_neg e1]
    by_cases c2 : lm < mcost tb p a b
    · rw [if_pos c2, show bcand lm tb p (best lm tb p) a b = none by
        unfold bcand
        rw [hmc]
        split
        · rfl
        · rename_i t ht
          split
          · rfl
          · cases ht; rw [if_neg (by omega)]]
      exact ⟨N, rfl, h0, fun _ _ _ => rfl⟩
    · rw [if_neg c2]
      cases ht : best lm tb p (b + 1) with
      | none =>
        simp only [cE_n, Int32.le_refl, if_true]
        rw [show bcand lm tb p (best lm tb p) a b = none by unfold bcand; rw [hmc, ht]]
        exact ⟨N, rfl, h0, fun _ _ _ => rfl⟩
      | some t =>
        have bt := best_bd' hs hT ht
        rw [ht] at h1
        have g : ¬ (1000000000 : Int32) ≤ nI t.1 := nI_ge (show t.1 < 1000000000 by omega) (by decide)
        obtain ⟨N', e, hN', hfr⟩ := N_offer (N := N) (x := bin lm tb p (best lm tb p) a b) (t := t) (a := a) (b := b) (c := mcost tb p a b) (by omega) (by omega) h0 h1.1 h1.2 bm bt (fun y hy => bin_bd hs hT (by omega) hy)
        simp only [cE_s, if_neg g, e, Option.bind_some, un1]
        refine ⟨N', rfl, ?_, hfr⟩
        rw [show bcand lm tb p (best lm tb p) a b = some (mcost tb p a b + t.1, t.2.1 + 1, b) by unfold bcand; rw [hmc, ht]; exact if_pos (by omega)]
        exact hN'
theorem N_signs {R P : OV} {oC oP : Nat} {tb : Tb} {p : Pg} (hR : RR oC oP R tb p) (hP : RP P p) : f_X7_signs R oP P = some (nI (pn p)) := by
  unfold f_X7_signs
  rw [gd_t (decide_eq_true hR.2.1), hP.1]
theorem nI_sm1 {n k : Nat} (h : k < n) : nI (n - k) - 1 = nI (n - k - 1) := nI_m1 (by omega)
theorem N_planBest {N R P : OV} {oC oP : Nat} {tb : Tb} {p : Pg} (hR : RR oC oP R tb p) (hP : RP P p) (hs : PgS p) (hT : TbS tb) (hpt : PgT tb p) {lm : Nat} (hlm : lm ≤ 1000000000) : ∃ N' R', f_X5_planBest N R oP P (nI lm) = some (N', R') ∧ RR oC oP R' tb p ∧ (∀ j, j ≤ pn p → ar N' 0 j = cE (best lm tb p j) ∧ ar N' 1 j = lE (best lm tb p j)) ∧ ∀ j, j < pn p → ar N' 2 j = nI (eN (best lm tb p j) j) := by
  have h40 := hs.1
  have xn : ix (nI (pn p)) 41 = true := ix_nI (by omega) (by decide)
  have cn := nI_clamp (show pn p < 2 ^ 31 by omega)
  obtain ⟨r, e, hr⟩ := lp_inv (step := s_X5_planBest_24_7 oP P (nI lm)) (fun k s => ∃ N' R', s = (nI (pn p - k) - 1, N', R') ∧ RR oC oP R' tb p ∧ ∀ j, pn p - k ≤ j → j ≤ pn p → ar N' 0 j = cE (best lm tb p j) ∧ ar N' 1 j = lE (best lm tb p j) ∧ (j < pn p → ar N' 2 j = nI (eN (best lm tb p j) j))) (fun r => ∃ N' R', r = (N', R') ∧ RR oC oP R' tb p ∧ ∀ j, j ≤ pn p → ar N' 0 j = cE (best lm tb p j) ∧ ar N' 1 j = lE (best lm tb p j) ∧ (j < pn p → ar N' 2 j = nI (eN (best lm tb p j) j))) 0 (pn p) (Nat.zero_le _) (by
    rintro k s - hk ⟨N1, R1, rfl, hR1, hN1⟩
    obtain ⟨a, ha⟩ : ∃ a, a = pn p - k - 1 := ⟨_, rfl⟩
    have han : a < pn p := by omega
    have xa : ix (nI a) 41 = true := ix_nI (by omega) (by decide)
    have ca := nI_clamp (show a < 2 ^ 31 by omega)
    have hrs := rch_spec (tb := tb) han
    obtain ⟨N2, hN2⟩ : ∃ N2, N2 = sA (sA (sA N1 0 a 1000000000) 1 a 0) 2 a (nI a) := ⟨_, rfl⟩
    have n2a : NB N2 none a := by
      subst hN2
      refine ⟨?_, ?_, ?_⟩ <;> simp [arA, updE, cE, lE, eN]
    have n2o : ∀ q j, j ≠ a → ar N2 q j = ar N1 q j := by
      intro q j hj
      subst hN2
      simp only [arA, updE]
      by_cases c2 : q = 2
      · subst c2; simp [hj, updE, arA]
      · by_cases c1 : q = 1
        · subst c1; simp [hj, updE, arA]
        · by_cases c0 : q = 0
          · subst c0; simp [hj, updE]
          · simp [c0, c1, c2]
    obtain ⟨r2, e2, N3, R3, rfl, hR3, hN3, hfr3⟩ := lp_inv (step := s_X5_planBest_67_18 oP P (nI lm) (nI a) (nI (rch tb p a))) (fun b s => ∃ N' R', s = (nI b, N', R') ∧ RR oC oP R' tb p ∧ NB N' (bin lm tb p (best lm tb p) a b) a ∧ ∀ q j, j ≠ a → ar N' q j = ar N1 q j) (fun r => ∃ N' R', r = (N', R') ∧ RR oC oP R' tb p ∧ NB N' (best lm tb p a) a ∧ ∀ q j, j ≠ a → ar N' q j = ar N1 q j) a (rch tb p a + 1) (by omega) (by
      rintro b s h1 h2 ⟨N', R', rfl, hR', hN', hfr⟩
      have hb1 := hN1 (b + 1) (by omega) (by omega)
      obtain ⟨N'', e, hN'', hfr2⟩ := N_bestStep (N := N') hR' hP hs hT hpt hlm h1 (by omega) han hN' ⟨by rw [hfr 0 (b + 1) (by omega)]; exact hb1.1, by rw [hfr 1 (b + 1) (by omega)]; exact hb1.2.1⟩
      exact ⟨_, e, N'', _, rfl, RR_ld hR' a b, hN'', fun q j hj => (hfr2 q j hj).trans (hfr q j hj)⟩) (by
      rintro s ⟨N', R', rfl, hR', hN', hfr⟩
      refine ⟨_, by simp only [s_X5_planBest_67_18, un3, nIlt (show rch tb p a < 2 ^ 31 by omega) (show rch tb p a + 1 < 2 ^ 31 by omega), if_pos (show rch tb p a < rch tb p a + 1 by omega)], N', R', rfl, hR', ?_, hfr⟩
      rw [best_eq hs han, bin_rch hs hT hpt _ han]
      exact hN') 5000 (by omega) (nI a, N2, R1) ⟨N2, R1, rfl, hR1, by rw [bin_n a (Nat.le_refl _)]; exact n2a, n2o⟩
    refine ⟨(nI (pn p - (k + 1)) - 1, N3, R3), ?_, N3, R3, rfl, hR3, fun j h1 h2 => ?_⟩
    · rw [nI_sm1 hk, ← ha]
      simp only [s_X5_planBest_24_7, un3, if_neg (nI_pos (show a < 2 ^ 31 by omega)), gd_t xa, bnd, ca, R_reach hR1.2.1 hR1.2.2 hP hs hT han, Option.bind_some, un1]
      rw [← hN2, e2]
      simp only [Option.bind_some, un2, add_m1]
      rw [show pn p - (k + 1) = a by omega]
    · by_cases c : j = a
      · subst c
        exact ⟨hN3.1, hN3.2.1, fun _ => hN3.2.2⟩
      · rw [hfr3 0 j c, hfr3 1 j c, hfr3 2 j c]
        exact hN1 j (by omega) h2) (by
    rintro s ⟨N1, R1, rfl, hR1, hN1⟩
    refine ⟨_, by simp only [s_X5_planBest_24_7, un3, Nat.sub_self, if_pos (show nI 0 - 1 < (0 : Int32) by decide)], N1, R1, rfl, hR1, fun j h => hN1 j (by omega) h⟩) 5000 (by omega) (nI (pn p - 0) - 1, sA (sA N 0 (pn p) 0) 1 (pn p) 0, R) ⟨_, R, rfl, hR, fun j h1 h2 => by
      have : j = pn p := by omega
      subst this
      rw [best_n (Nat.le_refl _)]
      refine ⟨?_, ?_, fun h => by omega⟩
      · simp [arA, updE, cE, nI_0]
      · simp [arA, updE, lE, nI_0]⟩
  obtain ⟨N', R', rfl, hR', hN'⟩ := hr
  refine ⟨N', R', ?_, hR', fun j h => ⟨(hN' j h).1, (hN' j h).2.1⟩, fun j h => (hN' j (by omega)).2.2 h⟩
  unfold f_X5_planBest
  simp only [N_signs hR hP, Option.bind_some, un1, bnd, gd_t xn, cn]
  rw [Nat.sub_zero] at e
  rw [e]
  rfl
-- the least greatest cost
def pkc (tb : Tb) (p : Pg) (T : Nat → Nat) (a b o : Nat) : Nat :=
  match mc tb p a b with
  | none => o
  | some c => min o (max c (T (b + 1)))
def pkin (tb : Tb) (p : Pg) (T : Nat → Nat) (a : Nat) : Nat → Nat
  | 0 => 1000000000
  | b + 1 => if a ≤ b then pkc tb p T a b (pkin tb p T a b) else 1000000000
def pks (tb : Tb) (p : Pg) : Nat → Nat → Nat
  | 0, _ => 0
  | f + 1, j => if pn p ≤ j then 0 else pkin tb p (pks tb p f) j (lim p j + 1)
def pk (tb : Tb) (p : Pg) (j : Nat) : Nat := pks tb p 41 j
theorem pkin_congr {tb : Tb} {p : Pg} {T T' : Nat → Nat} {a : Nat} (h : ∀ b, a ≤ b → T (b + 1) = T' (b + 1)) : ∀ m, pkin tb p T a m = pkin tb p T' a m
  | 0 => rfl
  | m + 1 => by
    simp only [pkin]
    by_cases c : a ≤ m
    · rw [if_pos c, if_pos c, pkin_congr h m]
      unfold pkc
      rw [h m c]
    · rw [if_neg c, if_neg c]
theorem pks_stab {tb : Tb} {p : Pg} : ∀ f f' j, pn p - j < f → pn p - j < f' → pks tb p f j = pks tb p f' j
  | 0, _, _, h, _ => by omega
  | _ + 1, 0, _, _, h => by omega
  | f + 1, g + 1, j, h1, h2 => by
    simp only [pks]
    by_cases c : pn p ≤ j
    · rw [if_pos c, if_pos c]
    · rw [if_neg c, if_neg c]
      exact pkin_congr (fun b hb => pks_stab f g (b + 1) (by omega) (by omega)) _
theorem pk_n {tb : Tb} {p : Pg} {j : Nat} (h : pn p ≤ j) : pk tb p j = 0 := by
  unfold pk
  rw [pks, if_pos h]
theorem pk_eqj {tb : Tb} {p : Pg} (hs : PgS p) {j : Nat} (h : j < pn p) : pk tb p j = pkin tb p (pk tb p) j (lim p j + 1) := by
  have h40 := hs.1
  unfold pk
  rw [pks, if_neg (by omega)]
  exact pkin_congr (fun b hb => pks_stab 40 41 (b + 1) (by omega) (by omega)) _
theorem pkin_s {tb : Tb} {p : Pg} {T : Nat → Nat} {a b : Nat} (h : a ≤ b) : pkin tb p T a (b + 1) = pkc tb p T a b (pkin tb p T a b) := by
  rw [pkin, if_pos h]
theorem pkin_n {tb : Tb} {p : Pg} {T : Nat → Nat} {a : Nat} : ∀ b, b ≤ a → pkin tb p T a b = 1000000000
  | 0, _ => rfl
  | b + 1, h => by rw [pkin, if_neg (by omega)]
theorem pkin_far {tb : Tb} {p : Pg} {T : Nat → Nat} {a b : Nat} (hab : a ≤ b) : ∀ c, b ≤ c → (∀ k, b ≤ k → k < c → mc tb p a k = none) → pkin tb p T a c = pkin tb p T a b
  | 0, h, _ => by rw [show b = 0 by omega]
  | c + 1, h, h2 => by
    rcases Nat.lt_or_ge c b with h3 | h3
    · rw [show b = c + 1 by omega]
    · rw [pkin_s (by omega)]
      unfold pkc
      rw [h2 c h3 (by omega)]
      exact pkin_far hab c h3 (fun k a b => h2 k a (by omega))
theorem pkin_rch {tb : Tb} {p : Pg} (hs : PgS p) (hT : TbS tb) (hpt : PgT tb p) (T : Nat → Nat) {a : Nat} (ha : a < pn p) : pkin tb p T a (lim p a + 1) = pkin tb p T a (rch tb p a + 1) := by
  have hr := rch_spec (tb := tb) ha
  have := rch_lim (tb := tb) ha
  refine pkin_far (by omega) _ (by omega) (fun k h1 h2 => ?_)
  exact mc_none (far_long hs hT hpt ha (show rch tb p a < k by omega) (by omega)) (by omega)
theorem pkin_le {tb : Tb} {p : Pg} {T : Nat → Nat} {a : Nat} : ∀ b, pkin tb p T a b ≤ 1000000000
  | 0 => Nat.le_refl _
  | b + 1 => by
    rw [pkin]
    split
    · unfold pkc
      have := pkin_le (tb := tb) (p := p) (T := T) (a := a) b
      split <;> omega
    · exact Nat.le_refl _
theorem pk_lej {tb : Tb} {p : Pg} (hs : PgS p) (j : Nat) : pk tb p j ≤ 1000000000 := by
  rcases Nat.lt_or_ge j (pn p) with h | h
  · rw [pk_eqj hs h]; exact pkin_le _
  · rw [pk_n h]; omega
