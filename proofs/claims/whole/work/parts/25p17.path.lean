theorem M_leastGreatest {M : OV} {tb : Tb} {p : Pg} (h : RM (ar M 8) p) (hs : PgS p) (hT : TbS tb) (hc : LC M tb p) : ∃ M', f_X10_leastGreatest M = some (nI (pk tb p 0), M') ∧ KN M M' ∧ LC M' tb p := by
  have h40 := hs.1
  have xn : ix (nI (pn p)) 41 = true := ix_nI (by omega) (by decide)
  have cn := nI_clamp (show pn p < 2 ^ 31 by omega)
  obtain ⟨r, e, hr⟩ := lp_inv (step := s_X10_leastGreatest_17_7) (fun k s => ∃ M', s = (nI (pn p - k) - 1, M') ∧ KN M M' ∧ LC M' tb p ∧ ∀ j, pn p - k ≤ j → j ≤ pn p → ar M' 23 j = nI (pk tb p j)) (fun r => KN M r ∧ LC r tb p ∧ ∀ j, j ≤ pn p → ar r 23 j = nI (pk tb p j)) 0 (pn p) (Nat.zero_le _) (by
    rintro k s - hk ⟨M1, rfl, k1, c1, hM1⟩
    obtain ⟨a, ha⟩ : ∃ a, a = pn p - k - 1 := ⟨_, rfl⟩
    have han : a < pn p := by omega
    have xa : ix (nI a) 41 = true := ix_nI (by omega) (by decide)
    have ca := nI_clamp (show a < 2 ^ 31 by omega)
    have hls := lim_spec han
    obtain ⟨M3, e2, k3, c3, hb3, hfr3⟩ := lp_inv (step := s_X10_leastGreatest_37_15 (nI a) (nI (lim p a))) (fun b s => ∃ M', s = (nI b, M') ∧ KN M M' ∧ LC M' tb p ∧ ar M' 23 a = nI (pkin tb p (pk tb p) a b) ∧ ∀ j, j ≠ a → ar M' 23 j = ar M1 23 j) (fun r => KN M r ∧ LC r tb p ∧ ar r 23 a = nI (pk tb p a) ∧ ∀ j, j ≠ a → ar r 23 j = ar M1 23 j) a (lim p a + 1) (by omega) (by
      rintro b s h1 h2 ⟨M', rfl, k', c', hb', hfr⟩
      have hbn : b < pn p := by omega
      have hb1 := hM1 (b + 1) (by omega) (by omega)
      rw [← hfr (b + 1) (by omega)] at hb1
      have x : ix (nI (40 * a + b)) 1640 = true := ix_nI (by omega) (by decide)
      have cl := nI_clamp (show 40 * a + b < 2 ^ 31 by omega)
      have x1 : ix (nI (b + 1)) 41 = true := ix_nI (by omega) (by decide)
      have cb := nI_clamp (show b + 1 < 2 ^ 31 by omega)
      have e19 := c' a b han h1 (by omega)
      have bp := pk_lej (tb := tb) hs (b + 1)
      have bo1 := pkin_le (tb := tb) (p := p) (T := pk tb p) (a := a) b
      have hfin : ∃ M'', s_X10_leastGreatest_37_15 (nI a) (nI (lim p a)) (nI b, M') = some (.inl (nI (b + 1), M'')) ∧ KN M M'' ∧ LC M'' tb p ∧ ar M'' 23 a = nI (pkin tb p (pk tb p) a (b + 1)) ∧ ∀ j, j ≠ a → ar M'' 23 j = ar M1 23 j := by
        rw [pkin_s h1]
        unfold pkc
        simp only [s_X10_leastGreatest_37_15, un2, nIlt (show lim p a < 2 ^ 31 by omega) (show b < 2 ^ 31 by omega), if_neg (show ¬ lim p a < b by omega), show (40 : Int32) = nI 40 from rfl, pk_mul, nI_add, gd_t x, cl, bnd, e19, nI_1, gd_t x1, cb, hb1]
        cases hm : mc tb p a b with
        | none =>
          simp only [enc_n, if_true]
          exact ⟨M', by simp only [j_X10_leastGreatest_111_20, bnd, nI_1], k', c', hb', hfr⟩
        | some c =>
          have bc := mc_le hs hT hbn hm
          simp only [enc_s, if_neg (nI_ne1 (show c < 2 ^ 31 by omega)), nIle (show c < 2 ^ 31 by omega) (show pk tb p (b + 1) < 2 ^ 31 by omega)]
          have hj : ∀ v, v = max c (pk tb p (b + 1)) → ∃ M'', j_X10_leastGreatest_90_23 M' (nI a) (nI b) (nI v) = some (.inl (nI (b + 1), M'')) ∧ KN M M'' ∧ LC M'' tb p ∧ ar M'' 23 a = nI (min (pkin tb p (pk tb p) a b) (max c (pk tb p (b + 1)))) ∧ ∀ j, j ≠ a → ar M'' 23 j = ar M1 23 j := by
            intro v hv
            subst hv
            simp only [j_X10_leastGreatest_90_23, bnd, gd_t xa, ca, hb', nIle (show pkin tb p (pk tb p) a b < 2 ^ 31 by omega) (show max c (pk tb p (b + 1)) < 2 ^ 31 by omega), j_X10_leastGreatest_111_20, nI_1]
            by_cases c5 : pkin tb p (pk tb p) a b ≤ max c (pk tb p (b + 1))
            · rw [if_pos c5, Nat.min_eq_left c5]
              exact ⟨M', rfl, k', c', hb', hfr⟩
            · rw [if_neg c5, Nat.min_eq_right (by omega)]
              refine ⟨_, rfl, KN_arA k' (by omega), LC_e c' (by simp [arA]), by simp [arA, updE], fun j hj => ?_⟩
              simp only [arA, updE, if_true, if_neg hj]
              exact hfr j hj
          by_cases c4 : c ≤ pk tb p (b + 1)
          · rw [if_pos c4]
            exact hj _ (by omega)
          · rw [if_neg c4]
            exact hj _ (by omega)
      obtain ⟨M'', e, u⟩ := hfin
      exact ⟨_, e, M'', rfl, u⟩) (by
      rintro s ⟨M', rfl, k', c', hb', hfr⟩
      rw [← pk_eqj hs han] at hb'
      exact ⟨M', by simp only [s_X10_leastGreatest_37_15, un2, nIlt (show lim p a < 2 ^ 31 by omega) (show lim p a + 1 < 2 ^ 31 by omega), if_pos (show lim p a < lim p a + 1 by omega)], k', c', hb', hfr⟩) 5000 (by omega) (nI a, sA M1 23 a 1000000000) ⟨_, rfl, KN_arA k1 (by omega), LC_e c1 (by simp [arA]), (by rw [pkin_n a (Nat.le_refl _)]; simp [arA, updE]; rfl), fun j hj => by simp [arA, updE, hj]⟩
    refine ⟨(nI (pn p - (k + 1)) - 1, M3), ?_, M3, rfl, k3, c3, fun j h1 h2 => ?_⟩
    · rw [nI_sm1 hk, ← ha]
      simp only [s_X10_leastGreatest_17_7, un2, if_neg (nI_pos (show a < 2 ^ 31 by omega)), gd_t xa, bnd, ca, M_limit (KN_RM (KN_arA k1 (show 12 ≤ 23 ∧ 23 < 24 by omega)) h) hs han, Option.bind_some, un1, e2, add_m1]
      rw [show pn p - (k + 1) = a by omega]
    · by_cases c : j = a
      · subst c
        exact hb3
      · rw [hfr3 j c]
        exact hM1 j (by omega) h2) (by
    rintro s ⟨M1, rfl, k1, c1, hM1⟩
    exact ⟨_, by simp only [s_X10_leastGreatest_17_7, un2, Nat.sub_self, if_pos (show nI 0 - 1 < (0 : Int32) by decide)], k1, c1, fun j h => hM1 j (by omega) h⟩) 5000 (by omega) (nI (pn p - 0) - 1, sA M 23 (pn p) 0) ⟨_, rfl, KN_arA (KN_rf M) (by omega), LC_e hc (by simp [arA]), fun j h1 h2 => by
      have : j = pn p := by omega
      subst this
      rw [pk_n (Nat.le_refl _)]
      simp [arA, updE, nI_0]⟩
  refine ⟨r, ?_, hr.1, hr.2.1⟩
  unfold f_X10_leastGreatest
  have m1 := M_many (M := sA M 23 (pn p) 0) (KN_RM (KN_arA (KN_rf M) (show 12 ≤ 23 ∧ 23 < 24 by omega)) h)
  simp only [M_many h, Option.bind_some, un1, gd_t xn, cn, bnd, m1]
  rw [Nat.sub_zero] at e
  rw [e]
  simp only [Option.bind_some, gd_t (show ix (0 : Int32) 41 = true by decide)]
  rw [show (0 : Int32).toNatClampNeg = 0 from rfl, hr.2.2 0 (Nat.zero_le _)]
/-- the cost of the best lines of all signs -/
theorem best_all {tb : Tb} {p : Pg} (hs : PgS p) (hT : TbS tb) : ∃ x, best 1000000000 tb p 0 = some x := best_ex hs hT _ 0 (Nat.le_refl _) (pk_lej hs 0)
theorem M_bestAsIs {M : OV} {tb : Tb} {p : Pg} (h : RM (ar M 8) p) (hs : PgS p) (hR : RT M tb) (hT : TbS tb) (hpt : PgT tb p) {x : Nat × Nat × Nat} (hx : best 1000000000 tb p 0 = some x) : ∃ M', f_X10_bestAsIs M = some (nI x.1, M') ∧ KN M M' ∧ ar M' 21 0 = nI x.2.1 := by
  obtain ⟨M1, e1, k1, c1⟩ := M_laysCosts h hs hR hT hpt
  obtain ⟨M2, e2, k2, c2, -⟩ := M_laysBest (KN_RM k1 h) hs hT c1 (lm := 1000000000) (Nat.le_refl _)
  have := (c2 0 (Nat.zero_le _)).2 x hx
  refine ⟨M2, ?_, KN_tr k1 k2, this.2⟩
  unfold f_X10_bestAsIs
  rw [show (1000000000 : Int32) = nI 1000000000 from rfl]
  simp only [e1, e2, Option.bind_some, un1, gd_t (show ix (0 : Int32) 41 = true by decide)]
  rw [show (0 : Int32).toNatClampNeg = 0 from rfl, this.1]
-- where lines of a kind end
def lmK (tb : Tb) (p : Pg) (kd : Nat) : Nat := if kd = 1 then 1000000000 else pk tb p 0
def EK (tb : Tb) (p : Pg) (kd a : Nat) : Nat := if pn p ≤ a then a else if kd = 0 then fe tb p false a else if kd = 2 then fe tb p true a else eN (best (lmK tb p kd) tb p a) a
theorem EK_in {tb : Tb} {p : Pg} (hs : PgS p) (kd a : Nat) : a ≤ EK tb p kd a ∧ (a < pn p → EK tb p kd a < pn p) := by
  unfold EK
  split
  · omega
  · rename_i h
    have ha : a < pn p := by omega
    split
    · have := fe_in (tb := tb) false ha; omega
    · split
      · have := fe_in (tb := tb) true ha; omega
      · cases hb : best (lmK tb p kd) tb p a with
        | none => simp only [eN]; omega
        | some t =>
          rw [best_eq hs ha] at hb
          obtain ⟨b, c, t', h2, h3, h4, h5, h6, rfl⟩ := bin_some _ hb
          have := lim_spec ha
          simp only [eN]
          omega
/-- where the k-th line begins -/
def stt (E : Nat → Nat) : Nat → Nat
  | 0 => 0
  | k + 1 => E (stt E k) + 1
def LN (E : Nat → Nat) (n : Nat) : Nat := scn (fun k => decide (stt E k < n)) n 0
theorem stt_ge {E : Nat → Nat} (hE : ∀ a, a ≤ E a) : ∀ k, k ≤ stt E k
  | 0 => Nat.le_refl _
  | k + 1 => by
    have := stt_ge hE k
    have := hE (stt E k)
    simp only [stt]
    omega
theorem stt_lt {E : Nat → Nat} (hE : ∀ a, a ≤ E a) {i k : Nat} (h : i < k) : E (stt E i) < stt E k := by
  induction k with
  | zero => omega
  | succ k ih =>
    simp only [stt]
    by_cases c : i = k
    · subst c; omega
    · have := ih (by omega)
      have := hE (stt E k)
      omega
theorem LN_spec {E : Nat → Nat} {n : Nat} (hE : ∀ a, a ≤ E a) (hn : ∀ a, a < n → E a < n) : LN E n ≤ n ∧ (∀ k, k < LN E n → stt E k < n) ∧ stt E (LN E n) = n := by
  have hm : (fun k => decide (stt E k < n)) n = false := decide_eq_false (by have := stt_ge hE n; omega)
  obtain ⟨a1, a2, a3, a4⟩ := scn_spec (c := fun k => decide (stt E k < n)) hm n 0 (Nat.zero_le _) (by omega)
  have h3 : ∀ k, k < LN E n → stt E k < n := fun k hk => of_decide_eq_true (a3 k (Nat.zero_le _) hk)
  have h4 : ¬ stt E (LN E n) < n := of_decide_eq_false a4
  refine ⟨a2, h3, ?_⟩
  cases hL : LN E n with
  | zero =>
    rw [hL] at h4
    simp only [stt] at h4 ⊢
    omega
  | succ k =>
    rw [hL] at h4
    have := hn _ (h3 k (by omega))
    simp only [stt] at h4 ⊢
    omega
theorem LN_pos {E : Nat → Nat} {n : Nat} (hE : ∀ a, a ≤ E a) (hn : ∀ a, a < n → E a < n) (h : 0 < n) : 0 < LN E n := by
  have := (LN_spec hE hn).2.2
  cases hL : LN E n with
  | zero => rw [hL] at this; simp only [stt] at this; omega
  | succ k => omega
/-- the class's plan -/
def NP (N : OV) (tb : Tb) (p : Pg) (kd : Nat) : Prop := ∀ k, k < LN (EK tb p kd) (pn p) → ar N 2 (stt (EK tb p kd) k) = nI (EK tb p kd (stt (EK tb p kd) k))
theorem N_planFull {N R P : OV} {oC oP : Nat} {tb : Tb} {p : Pg} (hR : RR oC oP R tb p) (hP : RP P p) (hs : PgS p) (hT : TbS tb) (hpt : PgT tb p) (pl : Bool) : ∃ N' R', f_X5_planFull N R oP P (bo pl) = some (N', R') ∧ RR oC oP R' tb p ∧ NP N' tb p (if pl = true then 2 else 0) := by
  have h40 := hs.1
  generalize hkd : (if pl = true then 2 else 0) = kd
  have hE : ∀ a, a ≤ EK tb p kd a := fun a => (EK_in hs kd a).1
  have hn : ∀ a, a < pn p → EK tb p kd a < pn p := fun a => (EK_in hs kd a).2
  have hEf : ∀ a, a < pn p → EK tb p kd a = fe tb p pl a := by
    intro a ha
    unfold EK
    rw [if_neg (by omega), ← hkd]
    cases pl <;> simp
  obtain ⟨L1, L2, L3⟩ := LN_spec hE hn
  obtain ⟨r, e, hr⟩ := lp_inv (step := s_X5_planFull_11_6 oP P (bo pl) (nI (pn p))) (fun k s => ∃ N' R', s = (nI (stt (EK tb p kd) k), nI k, N', R') ∧ RR oC oP R' tb p ∧ ∀ i, i < k → ar N' 2 (stt (EK tb p kd) i) = nI (EK tb p kd (stt (EK tb p kd) i))) (fun r => ∃ N' R', r = (N', R') ∧ RR oC oP R' tb p ∧ NP N' tb p kd) 0 (LN (EK tb p kd) (pn p)) (Nat.zero_le _) (by
    rintro k s - hk ⟨N1, R1, rfl, hR1, hN1⟩
    have h1 := L2 k hk
    have h2 := stt_ge hE k
    obtain ⟨R2, e2, hR2⟩ := N_fullEnd hR1 hP hs hT hpt h1 pl
    have hfe := fe_in (tb := tb) pl h1
    have xa : ix (nI (stt (EK tb p kd) k)) 41 = true := ix_nI (by omega) (by decide)
    have ca := nI_clamp (show stt (EK tb p kd) k < 2 ^ 31 by omega)
    refine ⟨(nI (stt (EK tb p kd) (k + 1)), nI (k + 1), sA N1 2 (stt (EK tb p kd) k) (nI (fe tb p pl (stt (EK tb p kd) k))), R2), ?_, _, R2, rfl, hR2, fun i hi => ?_⟩
    · simp only [s_X5_planFull_11_6, un4, nIle (show pn p < 2 ^ 31 by omega) (show k < 2 ^ 31 by omega), if_neg (show ¬ pn p ≤ k by omega), nIle (show pn p < 2 ^ 31 by omega) (show stt (EK tb p kd) k < 2 ^ 31 by omega), if_neg (show ¬ pn p ≤ stt (EK tb p kd) k by omega), e2, Option.bind_some, un2, gd_t xa, ca, bnd, nI_1]
      simp only [arA, updE, if_true, nI_1, stt, hEf _ h1]
    · simp only [arA, updE, if_true]
      by_cases c : i = k
      · subst c
        rw [if_pos rfl, hEf _ h1]
      · have := stt_lt hE (show i < k by omega)
        have := hE (stt (EK tb p kd) i)
        rw [if_neg (by omega)]
        exact hN1 i (by omega)) (by
    rintro s ⟨N1, R1, rfl, hR1, hN1⟩
    refine ⟨(N1, R1), ?_, N1, R1, rfl, hR1, hN1⟩
    simp only [s_X5_planFull_11_6, un4, L3, if_pos (Int32.le_refl _), ite_self]) 5000 (by omega) (nI (stt (EK tb p kd) 0), nI 0, N, R) ⟨N, R, rfl, hR, fun i h => by omega⟩
  obtain ⟨N', R', rfl, hR', hN'⟩ := hr
  refine ⟨N', R', ?_, hR', hN'⟩
  unfold f_X5_planFull
  simp only [N_signs hR hP, Option.bind_some, un1, bnd]
  rw [show (0 : Int32) = nI 0 from rfl, show lp (s_X5_planFull_11_6 oP P (bo pl) (nI (pn p))) 5000 (nI 0, nI 0, N, R) = some (N', R') from e]
  rfl
/-- the model's lines -/
def ML (M : OV) (tb : Tb) (p : Pg) (kd : Nat) : Prop := iv M 25 = nI (LN (EK tb p kd) (pn p)) ∧ ∀ k, k < LN (EK tb p kd) (pn p) → ar M 24 k = nI (EK tb p kd (stt (EK tb p kd) k))
