-- loops with a relation at their head
theorem lp_inv {σ ρ : Type} {step : σ → Option (σ ⊕ ρ)} (J : Nat → σ → Prop) (R : ρ → Prop) (a b : Nat) (hab : a ≤ b) (hs : ∀ k s, a ≤ k → k < b → J k s → ∃ s', step s = some (.inl s') ∧ J (k + 1) s') (he : ∀ s, J b s → ∃ r, step s = some (.inr r) ∧ R r) : ∀ n, b - a < n → ∀ s, J a s → ∃ r, lp step n s = some r ∧ R r := by
  intro n
  induction n generalizing a with
  | zero => intro h; omega
  | succ n ih =>
    intro hn s hJ
    unfold lp
    rcases Nat.lt_or_ge a b with h | h
    · obtain ⟨s', e, h1⟩ := hs a s (Nat.le_refl _) h hJ
      rw [e]
      exact ih (a + 1) (by omega) (fun k s h1 h2 => hs k s (by omega) h2) (by omega) s' h1
    · have : a = b := by omega
      subst this
      obtain ⟨r, e, h1⟩ := he s hJ
      rw [e]
      exact ⟨r, rfl, h1⟩
theorem lp_inv' {σ ρ : Type} {step : σ → Option (σ ⊕ ρ)} (J : Nat → σ → Prop) (R : ρ → Prop) (a b : Nat) (hab : a ≤ b) (hs : ∀ k s, a ≤ k → k < b → J k s → (∃ s', step s = some (.inl s') ∧ J (k + 1) s') ∨ (∃ r, step s = some (.inr r) ∧ R r)) (he : ∀ s, J b s → ∃ r, step s = some (.inr r) ∧ R r) : ∀ n, b - a < n → ∀ s, J a s → ∃ r, lp step n s = some r ∧ R r := by
  intro n
  induction n generalizing a with
  | zero => intro h; omega
  | succ n ih =>
    intro hn s hJ
    unfold lp
    rcases Nat.lt_or_ge a b with h | h
    · rcases hs a s (Nat.le_refl _) h hJ with ⟨s', e, h1⟩ | ⟨r, e, h1⟩
      · rw [e]
        exact ih (a + 1) (by omega) (fun k s h1 h2 => hs k s (by omega) h2) (by omega) s' h1
      · rw [e]
        exact ⟨r, rfl, h1⟩
    · have : a = b := by omega
      subst this
      obtain ⟨r, e, h1⟩ := he s hJ
      rw [e]
      exact ⟨r, rfl, h1⟩
/-- what the model's inner reckoning leaves alone -/
def KM (M M' : OV) : Prop := ∀ k, k ≤ 11 ∨ (35 ≤ k ∧ k ≤ 37) → ar M' k = ar M k ∧ iv M' k = iv M k
theorem KM_rf (M : OV) : KM M M := fun _ _ => ⟨rfl, rfl⟩
theorem KM_tr {M M' M'' : OV} (h : KM M M') (h2 : KM M' M'') : KM M M'' := fun k hk => ⟨(h2 k hk).1.trans (h k hk).1, (h2 k hk).2.trans (h k hk).2⟩
theorem KM_lk (M : OV) (a b c d e f g : Int32) : KM M (lkS M a b c d e f g) := fun k hk => ⟨rfl, lk_iv M a b c d e f g k (by omega)⟩
theorem KM_A (M : OV) (k j : Nat) (v : Int32) (hk : 12 ≤ k ∧ (k < 35 ∨ 37 < k)) : KM M (sA M k j v) := fun q hq => ⟨by rw [arA, if_neg (by omega)], rfl⟩
theorem KM_I (M : OV) (k : Nat) (v : Int32) (hk : 12 ≤ k ∧ (k < 35 ∨ 37 < k)) : KM M (sI M k v) := fun q hq => ⟨rfl, by rw [ivI, if_neg (by omega)]⟩
theorem KM_RM {M M' : OV} {p : Pg} (h : KM M M') (hr : RM (ar M 8) p) : RM (ar M' 8) p := by rw [(h 8 (by omega)).1]; exact hr
theorem KM_RT {M M' : OV} {tb : Tb} (h : KM M M') (hr : RT M tb) : RT M' tb := by
  unfold RT
  rw [(h 1 (by omega)).1, (h 2 (by omega)).1, (h 3 (by omega)).1, (h 4 (by omega)).1, (h 5 (by omega)).1, (h 6 (by omega)).1, (h 7 (by omega)).1]
  exact hr
/-- what the model's reckoning of costs leaves alone -/
def KN (M M' : OV) : Prop := (∀ k, k ≤ 11 ∨ 24 ≤ k → ar M' k = ar M k ∧ iv M' k = iv M k) ∧ ∀ k, al M' k = al M k
theorem KN_rf (M : OV) : KN M M := ⟨fun _ _ => ⟨rfl, rfl⟩, fun _ => rfl⟩
theorem KN_tr {M M' M'' : OV} (h : KN M M') (h2 : KN M' M'') : KN M M'' := ⟨fun k hk => ⟨(h2.1 k hk).1.trans (h.1 k hk).1, (h2.1 k hk).2.trans (h.1 k hk).2⟩, fun k => (h2.2 k).trans (h.2 k)⟩
theorem KN_lk (M : OV) (a b c d e f g : Int32) : KN M (lkS M a b c d e f g) := ⟨fun k hk => ⟨rfl, lk_iv M a b c d e f g k (by omega)⟩, fun _ => rfl⟩
theorem KN_A (M : OV) (k j : Nat) (v : Int32) (hk : 12 ≤ k ∧ k < 24) : KN M (sA M k j v) := ⟨fun q hq => ⟨by rw [arA, if_neg (by omega)], rfl⟩, fun _ => rfl⟩
theorem KN_arA {M M' : OV} {k j : Nat} {v : Int32} (h : KN M M') (hk : 12 ≤ k ∧ k < 24) : KN M (sA M' k j v) := KN_tr h (KN_A _ _ _ _ hk)
theorem KN_KM {M M' : OV} (h : KN M M') : KM M M' := fun k hk => h.1 k (by omega)
theorem KN_RM {M M' : OV} {p : Pg} (h : KN M M') (hr : RM (ar M 8) p) : RM (ar M' 8) p := KM_RM (KN_KM h) hr
theorem KN_RT {M M' : OV} {tb : Tb} (h : KN M M') (hr : RT M tb) : RT M' tb := KM_RT (KN_KM h) hr
/-- nothing but a looked line's fields -/
def KL (M M' : OV) : Prop := ∃ a b c d e f g, M' = lkS M a b c d e f g
theorem KL_rf (M : OV) : KL M M := ⟨_, _, _, _, _, _, _, lk_eta M⟩
theorem KL_tr {M M' M'' : OV} (h : KL M M') (h2 : KL M' M'') : KL M M'' := by
  obtain ⟨a, b, c, d, e, f, g, rfl⟩ := h
  obtain ⟨a', b', c', d', e', f', g', rfl⟩ := h2
  exact ⟨_, _, _, _, _, _, _, lk_lk _ _ _ _ _ _ _ _ _ _ _ _ _ _ _⟩
theorem KL_lk (M : OV) (a b c d e f g : Int32) : KL M (lkS M a b c d e f g) := ⟨_, _, _, _, _, _, _, rfl⟩
theorem KL_ar {M M' : OV} (h : KL M M') (k : Nat) : ar M' k = ar M k := by
  obtain ⟨a, b, c, d, e, f, g, rfl⟩ := h
  rfl
theorem KL_al {M M' : OV} (h : KL M M') (k : Nat) : al M' k = al M k := by
  obtain ⟨a, b, c, d, e, f, g, rfl⟩ := h
  rfl
theorem KL_iv {M M' : OV} (h : KL M M') {k : Nat} (hk : k < 12 ∨ 18 < k) : iv M' k = iv M k := by
  obtain ⟨a, b, c, d, e, f, g, rfl⟩ := h
  exact lk_iv _ _ _ _ _ _ _ _ _ hk
theorem KL_KM {M M' : OV} (h : KL M M') : KM M M' := fun k hk => ⟨KL_ar h k, KL_iv h (by omega)⟩
theorem KL_RM {M M' : OV} {p : Pg} (h : KL M M') (hr : RM (ar M 8) p) : RM (ar M' 8) p := KM_RM (KL_KM h) hr
theorem KL_RT {M M' : OV} {tb : Tb} (h : KL M M') (hr : RT M tb) : RT M' tb := KM_RT (KL_KM h) hr
/-- a ruler that has read the page -/
def RR (oC oP : Nat) (R : OV) (tb : Tb) (p : Pg) : Prop := nv R 0 = oC ∧ nv R 1 = oP ∧ RRk R tb p (pn p)
theorem RR_ld {oC oP : Nat} {R : OV} {tb : Tb} {p : Pg} (h : RR oC oP R tb p) (a b : Nat) : RR oC oP (RLD R tb p a b) tb p := h
def enc : Option Nat → Int32
  | none => -1
  | some k => nI k
theorem enc_n : enc none = -1 := Eq.trans rfl rfl
theorem enc_s (k : Nat) : enc (some k) = nI k := Eq.trans rfl rfl
theorem nI_ne1 {k : Nat} (h : k < 2 ^ 31) : ¬ nI k = (-1 : Int32) := by
  intro e
  have := congrArg Int32.toInt e
  rw [nI_toInt h] at this
  have h2 : (-1 : Int32).toInt = -1 := by decide
  omega
/-- the last one from a on, ahead of b -/
def lst (P : Nat → Bool) (a : Nat) : Nat → Option Nat
  | 0 => none
  | b + 1 => if a ≤ b ∧ P b = true then some b else lst P a b
theorem lst_s {P : Nat → Bool} {a b : Nat} (h : a ≤ b) : lst P a (b + 1) = if P b = true then some b else lst P a b := by
  simp only [lst, h, true_and]
theorem lst_n {P : Nat → Bool} {a : Nat} : ∀ b, b ≤ a → lst P a b = none
  | 0, _ => rfl
  | b + 1, h => by rw [lst, if_neg (by omega)]; exact lst_n b (by omega)
theorem lst_far {P : Nat → Bool} {a b : Nat} : ∀ c, b ≤ c → (∀ k, b ≤ k → k < c → P k = false) → lst P a c = lst P a b
  | 0, h, _ => by rw [show b = 0 by omega]
  | c + 1, h, h2 => by
    rcases Nat.lt_or_ge c b with h3 | h3
    · rw [show b = c + 1 by omega]
    · rw [lst, h2 c h3 (by omega), if_neg (by simp)]
      exact lst_far c h3 (fun k a b => h2 k a (by omega))
theorem lst_in {P : Nat → Bool} {a k : Nat} : ∀ b, lst P a b = some k → a ≤ k ∧ k < b ∧ P k = true
  | 0, h => by cases h
  | b + 1, h => by
    rw [lst] at h
    split at h
    · cases h
      rename_i q
      exact ⟨q.1, by omega, q.2⟩
    · obtain ⟨h1, h2, h3⟩ := lst_in b h
      exact ⟨h1, by omega, h3⟩
def fP (tb : Tb) (p : Pg) (L Q : Bool) (a k : Nat) : Bool := !mlong tb p a k && (!L || lgl p k) && (!Q || decide (mtake tb p a k ≤ 0))
theorem fP_e (tb : Tb) (p : Pg) (L Q : Bool) (a k : Nat) : fP tb p L Q a k = (!mlong tb p a k && (!L || lgl p k) && (!Q || decide (mtake tb p a k ≤ 0))) := Eq.trans rfl rfl
theorem fP_far {tb : Tb} {p : Pg} (hs : PgS p) (hT : TbS tb) (hpt : PgT tb p) (L Q : Bool) {a : Nat} (ha : a < pn p) : lst (fP tb p L Q a) a (lim p a + 1) = lst (fP tb p L Q a) a (rch tb p a + 1) := by
  refine lst_far _ (by have := rch_lim (tb := tb) ha; omega) (fun k h1 h2 => ?_)
  have := far_long hs hT hpt ha (show rch tb p a < k by omega) (by omega)
  simp [fP, this]
theorem mtake_le {tb : Tb} {p : Pg} (hs : PgS p) (hT : TbS tb) {a b : Nat} (hb : b < pn p) : mtake tb p a b ≤ 400 := by
  have := msA_le (a := a) hs hT hb
  unfold mtake msM
  split <;> omega
theorem M_lastEnd {M : OV} {tb : Tb} {p : Pg} (h : RM (ar M 8) p) (hs : PgS p) (hR : RT M tb) (hT : TbS tb) (hpt : PgT tb p) {a : Nat} (ha : a < pn p) (L Q : Bool) : ∃ M', f_X10_lastEnd M (nI a) (bo L) (bo Q) = some (enc (lst (fP tb p L Q a) a (rch tb p a + 1)), M') ∧ KL M M' := by
  have h40 := hs.1
  obtain ⟨a1, a2, a3, a4⟩ := lim_spec ha
  obtain ⟨r, e, hr⟩ := lp_inv (step := s_X10_lastEnd_13_6 (nI a) (bo L) (bo Q) (nI (lim p a))) (fun k s => ∃ M', s = (enc (lst (fP tb p L Q a) a k), nI k, M') ∧ KL M M') (fun r => ∃ M', r = (enc (lst (fP tb p L Q a) a (lim p a + 1)), M') ∧ KL M M') a (lim p a + 1) (by omega) (by
    rintro k s h1 h2 ⟨M', rfl, hk⟩
    have hkn : k < pn p := by omega
    have hM := KL_RM hk h
    have hRT := KL_RT hk hR
    have bt := mtake_le (a := a) hs hT hkn
    have et : (nI (mtake tb p a k) ≤ (0 : Int32)) = (mtake tb p a k ≤ 0) := nIle (by omega) (by decide)
    have hl := M_legal hM hs hkn
    have hlk := M_looks hM hs hRT hT hpt h1 hkn
    have hk2 : KL M (LKD M' tb p a k) := KL_tr hk (KL_lk _ _ _ _ _ _ _ _)
    have st : s_X10_lastEnd_13_6 (nI a) (bo L) (bo Q) (nI (lim p a)) (enc (lst (fP tb p L Q a) a k), nI k, M') = some (.inl (enc (lst (fP tb p L Q a) a (k + 1)), nI (k + 1), if L = true ∧ lgl p k = false then M' else LKD M' tb p a k)) := by
      simp only [s_X10_lastEnd_13_6, un3, nIlt (show lim p a < 2 ^ 31 by omega) (show k < 2 ^ 31 by omega), if_neg (show ¬ lim p a < k by omega), bo_0, hl, Option.bind_some, un1, j_X10_lastEnd_36_14, hlk, LKD, lk_i14, lk_i15, et, j_X10_lastEnd_64_17, j_X10_lastEnd_68_12, bnd, nI_1, lst_s h1, fP_e]
      cases L <;> cases lgl p k <;> cases mlong tb p a k <;> cases Q <;> by_cases ct : mtake tb p a k ≤ 0 <;> simp [ct, enc_s]
    refine ⟨_, st, _, rfl, ?_⟩
    split
    · exact hk
    · exact hk2) (by
    rintro s ⟨M', rfl, hk⟩
    exact ⟨_, by simp only [s_X10_lastEnd_13_6, un3, nIlt (show lim p a < 2 ^ 31 by omega) (show lim p a + 1 < 2 ^ 31 by omega), if_pos (show lim p a < lim p a + 1 by omega)], M', rfl, hk⟩) 5000 (by omega) (-1, nI a, M) ⟨M, by rw [lst_n a (Nat.le_refl _)]; rfl, KL_rf M⟩
  obtain ⟨M', rfl, hk⟩ := hr
  refine ⟨M', ?_, hk⟩
  unfold f_X10_lastEnd
  simp only [bnd, M_limit h hs ha, Option.bind_some, un1, e, un2, fP_far hs hT hpt L Q ha]
/-- where a line that is filled ends -/
def fe (tb : Tb) (p : Pg) (pl : Bool) (a : Nat) : Nat :=
  match (if pl = true then lst (fP tb p true true a) a (rch tb p a + 1) else none) with
  | some k => k
  | none => match lst (fP tb p true false a) a (rch tb p a + 1) with
    | some k => k
    | none => match lst (fP tb p false false a) a (rch tb p a + 1) with
      | some k => k
      | none => a
theorem M_oneEnd {M : OV} {tb : Tb} {p : Pg} (h : RM (ar M 8) p) (hs : PgS p) (hR : RT M tb) (hT : TbS tb) (hpt : PgT tb p) {a : Nat} (ha : a < pn p) (pl : Bool) : ∃ M', f_X10_oneEnd M (if pl = true then 2 else 0) (nI a) = some (nI (fe tb p pl a), M') ∧ KL M M' := by
  have h40 := hs.1
  have hr := rch_spec (tb := tb) ha
  have nm : ∀ L Q k, lst (fP tb p L Q a) a (rch tb p a + 1) = some k → ¬ nI k = (-1 : Int32) := fun L Q k e => nI_ne1 (by have := lst_in _ e; omega)
  -- the last two questions
  have h2 : ∀ M1, KL M M1 → ∃ M', j_X10_oneEnd_16_3 (nI a) (-1 : Int32) M1 = some (nI (match lst (fP tb p true false a) a (rch tb p a + 1) with
    | some k => k
    | none => match lst (fP tb p false false a) a (rch tb p a + 1) with
      | some k => k
      | none => a), M') ∧ KL M M' := by
    intro M1 k1
    obtain ⟨M2, e2, k2⟩ := M_lastEnd (KL_RM k1 h) hs (KL_RT k1 hR) hT hpt ha true false
    rw [bo_t, bo_f] at e2
    simp only [j_X10_oneEnd_16_3, bnd, if_true, e2, Option.bind_some, un2, j_X10_oneEnd_30_7]
    cases c2 : lst (fP tb p true false a) a (rch tb p a + 1) with
    | some k => exact ⟨M2, by simp only [enc_s, if_neg (nm _ _ _ c2), j_X10_oneEnd_43_10], KL_tr k1 k2⟩
    | none =>
      obtain ⟨M3, e3, k3⟩ := M_lastEnd (KL_RM (KL_tr k1 k2) h) hs (KL_RT (KL_tr k1 k2) hR) hT hpt ha false false
      rw [bo_f] at e3
      simp only [enc_n, if_true, e3, Option.bind_some, un2, j_X10_oneEnd_43_10]
      cases c3 : lst (fP tb p false false a) a (rch tb p a + 1) with
      | some k => exact ⟨M3, by simp only [enc_s, if_neg (nm _ _ _ c3)], KL_tr (KL_tr k1 k2) k3⟩
      | none => exact ⟨M3, by simp only [enc_n, if_true], KL_tr (KL_tr k1 k2) k3⟩
  unfold f_X10_oneEnd
  cases pl
  · simp only [Bool.false_eq_true, if_false, if_neg (show ¬ (0 : Int32) = 2 by decide)]
    obtain ⟨M', e, k⟩ := h2 M (KL_rf M)
    exact ⟨M', by rw [e]; rfl, k⟩
  · obtain ⟨M1, e1, k1⟩ := M_lastEnd h hs hR hT hpt ha true true
    rw [bo_t] at e1
    simp only [if_true, e1, Option.bind_some, un2]
    cases c1 : lst (fP tb p true true a) a (rch tb p a + 1) with
    | some k => exact ⟨M1, by simp only [enc_s, j_X10_oneEnd_16_3, bnd, if_neg (nm _ _ _ c1), j_X10_oneEnd_30_7, j_X10_oneEnd_43_10, fe, if_true, c1], k1⟩
    | none =>
      obtain ⟨M', e, k⟩ := h2 M1 k1
      exact ⟨M', by rw [enc_n, e]; simp only [fe, if_true, c1], k⟩
theorem fe_in {tb : Tb} {p : Pg} (pl : Bool) {a : Nat} (ha : a < pn p) : a ≤ fe tb p pl a ∧ fe tb p pl a < pn p := by
  have hr := rch_spec (tb := tb) ha
  unfold fe
  split
  · rename_i k e
    cases pl
    · simp at e
    · simp only [if_true] at e
      have := lst_in _ e
      omega
  · split
    · rename_i k e
      have := lst_in _ e
      omega
    · split
      · rename_i k e
        have := lst_in _ e
        omega
      · omega
theorem N_fullEnd {R P : OV} {oC oP : Nat} {tb : Tb} {p : Pg} (hR : RR oC oP R tb p) (hP : RP P p) (hs : PgS p) (hT : TbS tb) (hpt : PgT tb p) {a : Nat} (ha : a < pn p) (pl : Bool) : ∃ R', f_X5_fullEnd R oP P (nI a) (bo pl) = some (nI (fe tb p pl a), R') ∧ RR oC oP R' tb p := by
  have h40 := hs.1
  have hr := rch_spec (tb := tb) ha
  obtain ⟨r, e, hr2⟩ := lp_inv (step := s_X5_fullEnd_19_8 oP P (nI a) (nI (rch tb p a))) (fun k s => ∃ R', s = (enc (lst (fP tb p true true a) a k), enc (lst (fP tb p true false a) a k), nI ((lst (fP tb p false false a) a k).getD a), nI k, R') ∧ RR oC oP R' tb p) (fun r => ∃ R', r = (enc (lst (fP tb p true true a) a (rch tb p a + 1)), enc (lst (fP tb p true false a) a (rch tb p a + 1)), nI ((lst (fP tb p false false a) a (rch tb p a + 1)).getD a), R') ∧ RR oC oP R' tb p) a (rch tb p a + 1) (by omega) (by
    rintro k s h1 h2 ⟨R', rfl, hk⟩
    have hkn : k < pn p := by omega
    have bt := mtake_le (a := a) hs hT hkn
    have et : (nI (mtake tb p a k) = (0 : Int32)) = (mtake tb p a k ≤ 0) := by
      rw [show (0 : Int32) = nI 0 from rfl, nIe (by omega) (by decide)]
      exact propext ⟨fun h => by omega, fun h => by omega⟩
    have hm := R_measure hk.2.1 hk.2.2 hP hs hT hpt h1 hkn
    have hk2 := RR_ld hk a k
    have hl : f_X7_isLegal (RLD R' tb p a k) (nI k) = some (bo (lgl p k)) := by
      unfold f_X7_isLegal
      rw [gd_t (ix_nI (show k < 40 by omega) (by decide)), nI_clamp (by omega)]
      rw [hk2.2.2.2.2.2.2.2.2.2.2 k hkn, gd_t (b01_bo _)]
    have st : s_X5_fullEnd_19_8 oP P (nI a) (nI (rch tb p a)) (enc (lst (fP tb p true true a) a k), enc (lst (fP tb p true false a) a k), nI ((lst (fP tb p false false a) a k).getD a), nI k, R') = some (.inl (enc (lst (fP tb p true true a) a (k + 1)), enc (lst (fP tb p true false a) a (k + 1)), nI ((lst (fP tb p false false a) a (k + 1)).getD a), nI (k + 1), RLD R' tb p a k)) := by
      simp only [s_X5_fullEnd_19_8, un5, nIlt (show rch tb p a < 2 ^ 31 by omega) (show k < 2 ^ 31 by omega), if_neg (show ¬ rch tb p a < k by omega), hm, Option.bind_some, un1, hl, bnd, bo_0]
      simp only [show iv (RLD R' tb p a k) 12 = bo (mlong tb p a k) from Eq.trans rfl rfl, show iv (RLD R' tb p a k) 14 = nI (mtake tb p a k) from Eq.trans rfl rfl, bo_0, et, j_X5_fullEnd_73_19, j_X5_fullEnd_71_26, bnd, nI_1, lst_s h1, fP_e]
      cases lgl p k <;> cases mlong tb p a k <;> by_cases ct : mtake tb p a k ≤ 0 <;> simp [ct, enc_s]
    exact ⟨_, st, _, rfl, hk2⟩) (by
    rintro s ⟨R', rfl, hk⟩
    exact ⟨_, by simp only [s_X5_fullEnd_19_8, un5, nIlt (show rch tb p a < 2 ^ 31 by omega) (show rch tb p a + 1 < 2 ^ 31 by omega), if_pos (show rch tb p a < rch tb p a + 1 by omega)], R', rfl, hk⟩) 5000 (by omega) (-1, -1, nI a, nI a, R) ⟨R, by rw [lst_n a (Nat.le_refl _), lst_n a (Nat.le_refl _), lst_n a (Nat.le_refl _)]; rfl, hR⟩
  obtain ⟨R', rfl, hk⟩ := hr2
  have nm : ∀ L Q k, lst (fP tb p L Q a) a (rch tb p a + 1) = some k → ¬ nI k = (-1 : Int32) := fun L Q k e => nI_ne1 (by have := lst_in _ e; omega)
  refine ⟨R', ?_, hk⟩
  unfold f_X5_fullEnd
  simp only [bnd, R_reach hR.2.1 hR.2.2 hP hs hT ha, Option.bind_some, un1, e, un4, bo_0, j_X5_fullEnd_92_32]
  unfold fe
  cases pl
  · simp only [if_true, Bool.false_eq_true, if_false]
    cases c2 : lst (fP tb p true false a) a (rch tb p a + 1) with
    | some k => simp only [enc_s, if_neg (nm _ _ _ c2)]
    | none =>
      cases c3 : lst (fP tb p false false a) a (rch tb p a + 1) <;> simp [enc_n]
  · simp only [if_true, Bool.true_eq_false, if_false]
    cases c1 : lst (fP tb p true true a) a (rch tb p a + 1) with
    | some k => simp only [enc_s, if_neg (nm _ _ _ c1)]
    | none =>
      cases c2 : lst (fP tb p true false a) a (rch tb p a + 1) with
      | some k => simp only [enc_n, if_true, enc_s, if_neg (nm _ _ _ c2)]
      | none =>
        cases c3 : lst (fP tb p false false a) a (rch tb p a + 1) <;> simp [enc_n]
