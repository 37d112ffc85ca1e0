/-- the first place from i on where c doesn't hold -/
def scn (c : Nat → Bool) : Nat → Nat → Nat
  | 0, i => i
  | f + 1, i => if c i = true then scn c f (i + 1) else i
theorem scn_spec {c : Nat → Bool} {m : Nat} (hm : c m = false) : ∀ f i, i ≤ m → m ≤ i + f → i ≤ scn c f i ∧ scn c f i ≤ m ∧ (∀ k, i ≤ k → k < scn c f i → c k = true) ∧ c (scn c f i) = false
  | 0, i, h1, h2 => by
    have : i = m := by omega
    subst this
    exact ⟨Nat.le_refl _, Nat.le_refl _, fun k a b => absurd b (by simp only [scn]; omega), hm⟩
  | f + 1, i, h1, h2 => by
    simp only [scn]
    cases hc : c i
    · simp only [Bool.false_eq_true, if_false]
      exact ⟨Nat.le_refl _, h1, fun k a b => absurd b (by omega), hc⟩
    · simp only [if_true]
      have hne : i ≠ m := fun e => by rw [e, hm] at hc; cases hc
      obtain ⟨a1, a2, a3, a4⟩ := scn_spec hm f (i + 1) (by omega) (by omega)
      refine ⟨by omega, a2, fun k b1 b2 => ?_, a4⟩
      rcases Nat.lt_or_ge i k with h | h
      · exact a3 k h b2
      · rw [show k = i by omega]; exact hc
def lmC (p : Pg) (i : Nat) : Bool := decide (i + 1 < pn p ∧ pm p i ≠ 1)
def lim (p : Pg) (a : Nat) : Nat := scn (lmC p) (pn p) a
def rcC (tb : Tb) (p : Pg) (a i : Nat) : Bool := decide (i + 1 < pn p ∧ pm p i ≠ 1 ∧ sg (fT tb p) a (i + 1) ≤ pd p)
def rch (tb : Tb) (p : Pg) (a : Nat) : Nat := scn (rcC tb p a) (pn p) a
theorem lim_spec {p : Pg} {a : Nat} (ha : a < pn p) : a ≤ lim p a ∧ lim p a < pn p ∧ (∀ k, a ≤ k → k < lim p a → k + 1 < pn p ∧ pm p k ≠ 1) ∧ ¬ (lim p a + 1 < pn p ∧ pm p (lim p a) ≠ 1) := by
  have hm : lmC p (pn p - 1) = false := decide_eq_false (by omega)
  obtain ⟨a1, a2, a3, a4⟩ := scn_spec hm (pn p) a (by omega) (by omega)
  exact ⟨a1, by unfold lim; omega, fun k b1 b2 => of_decide_eq_true (a3 k b1 b2), of_decide_eq_false a4⟩
theorem rch_spec {tb : Tb} {p : Pg} {a : Nat} (ha : a < pn p) : a ≤ rch tb p a ∧ rch tb p a < pn p ∧ (∀ k, a ≤ k → k < rch tb p a → k + 1 < pn p ∧ pm p k ≠ 1 ∧ sg (fT tb p) a (k + 1) ≤ pd p) ∧ ¬ (rch tb p a + 1 < pn p ∧ pm p (rch tb p a) ≠ 1 ∧ sg (fT tb p) a (rch tb p a + 1) ≤ pd p) := by
  have hm : rcC tb p a (pn p - 1) = false := decide_eq_false (by omega)
  obtain ⟨a1, a2, a3, a4⟩ := scn_spec hm (pn p) a (by omega) (by omega)
  exact ⟨a1, by unfold rch; omega, fun k b1 b2 => of_decide_eq_true (a3 k b1 b2), of_decide_eq_false a4⟩
theorem rch_lim {tb : Tb} {p : Pg} {a : Nat} (ha : a < pn p) : rch tb p a ≤ lim p a := by
  obtain ⟨a1, a2, a3, a4⟩ := lim_spec ha
  obtain ⟨b1, b2, b3, b4⟩ := rch_spec (tb := tb) ha
  rcases Nat.lt_or_ge (lim p a) (rch tb p a) with h | h
  · have := b3 _ a1 h
    exact absurd ⟨this.1, this.2.1⟩ a4
  · exact h
theorem M_limit {M : OV} {p : Pg} (h : RM (ar M 8) p) (hs : PgS p) {a : Nat} (ha : a < pn p) : f_X10_limitOf M (nI a) = some (nI (lim p a)) := by
  have h40 := hs.1
  obtain ⟨a1, a2, a3, a4⟩ := lim_spec ha
  have em : ∀ k, k < pn p → (nI (pm p k) = (1 : Int32)) = (pm p k = 1) := fun k hk => nIe (by have := (hs.2.1 k hk).2; omega) (by decide)
  have h1 : ∀ k, a ≤ k → k < lim p a → s_X10_limitOf_2_2 M (nI k) = some (.inl (nI (k + 1))) := by
    intro k b1 b2
    have b3 := a3 k b1 b2
    simp only [s_X10_limitOf_2_2, un1, M_many h, Option.bind_some, nI_m1 (show 0 < pn p by omega), nIle (show pn p - 1 < 2 ^ 31 by omega) (show k < 2 ^ 31 by omega), if_neg (show ¬ pn p - 1 ≤ k by omega), M_mark h hs (show k < pn p by omega), em k (by omega), if_neg b3.2, bnd, nI_1]
  have h2 : s_X10_limitOf_2_2 M (nI (lim p a)) = some (.inr (nI (lim p a))) := by
    simp only [s_X10_limitOf_2_2, un1, M_many h, Option.bind_some, nI_m1 (show 0 < pn p by omega), nIle (show pn p - 1 < 2 ^ 31 by omega) (show lim p a < 2 ^ 31 by omega), M_mark h hs a2, em _ a2, bnd]
    by_cases c : pn p - 1 ≤ lim p a
    · rw [if_pos c]
    · rw [if_neg c, if_pos (Decidable.byContradiction fun q => a4 ⟨by omega, q⟩)]
  have := lp_for (step := s_X10_limitOf_2_2 M) (fun k => nI k) a (lim p a) a1 h1 h2 5000 (by omega)
  unfold f_X10_limitOf
  simp only [bnd, this, Option.bind_some, un1]
theorem R_reach {R P : OV} {oP : Nat} {tb : Tb} {p : Pg} (h1 : nv R 1 = oP) (hY : RRk R tb p (pn p)) (hP : RP P p) (hs : PgS p) (hT : TbS tb) {a : Nat} (ha : a < pn p) : f_X7_reach R oP P (nI a) = some (nI (rch tb p a)) := by
  have h40 := hs.1
  have hd := hs.2.2.2.1
  obtain ⟨a1, a2, a3, a4⟩ := rch_spec (tb := tb) ha
  have em : ∀ k, k < pn p → (nI (pm p k) = (1 : Int32)) = (pm p k = 1) := fun k hk => nIe (by have := (hs.2.1 k hk).2; omega) (by decide)
  have xa : ix (nI a) 41 = true := ix_nI (by omega) (by decide)
  have ca := nI_clamp (show a < 2 ^ 31 by omega)
  have bT : ∀ k, k ≤ pn p → sg (fT tb p) a k ≤ 400 := by
    intro k hk
    have : sg (fT tb p) a k ≤ 9 * (k - a) := sg_le k (fun i _ h2 => by
      have := (hT _ (hs.2.1 i (by omega)).1).1
      unfold fT fx
      omega)
    omega
  have hd1 : ∀ k, a ≤ k → k < pn p → nI (sm (fT tb p) (k + 1)) - nI (sm (fT tb p) a) = nI (sg (fT tb p) a (k + 1)) := fun k b1 b2 => nI_sub (sm_mono (by omega))
  have hstep : ∀ k, a ≤ k → k < rch tb p a → s_X7_reach_2_2 oP R P (nI a) (nI k) = some (.inl (nI (k + 1))) := by
    intro k b1 b2
    have b3 := a3 k b1 b2
    have b4 := bT (k + 1) (by omega)
    simp only [s_X7_reach_2_2, un1, h1, decide_true, gd_T, hP.1, nI_m1 (show 0 < pn p by omega), nIle (show pn p - 1 < 2 ^ 31 by omega) (show k < 2 ^ 31 by omega), if_neg (show ¬ pn p - 1 ≤ k by omega), gd_t (ix_nI (show k < 40 by omega) (by decide)), nI_clamp (show k < 2 ^ 31 by omega), hP.2.2.1 k (by omega), em k (by omega), if_neg b3.2.1, nI_1, gd_t (ix_nI (show k + 1 < 41 by omega) (by decide)), gd_t xa, nI_clamp (show k + 1 < 2 ^ 31 by omega), ca, hY.2.1 (k + 1) (by omega), hY.2.1 a (by omega), hd1 k b1 (by omega), hP.2.2.2.2.2.1, nIlt (show pd p < 2 ^ 31 by omega) (show sg (fT tb p) a (k + 1) < 2 ^ 31 by omega), if_neg (show ¬ pd p < sg (fT tb p) a (k + 1) by omega), bnd]
  have hend : s_X7_reach_2_2 oP R P (nI a) (nI (rch tb p a)) = some (.inr (nI (rch tb p a))) := by
    have b4 := bT (rch tb p a + 1) (by omega)
    simp only [s_X7_reach_2_2, un1, h1, decide_true, gd_T, hP.1, nI_m1 (show 0 < pn p by omega), nIle (show pn p - 1 < 2 ^ 31 by omega) (show rch tb p a < 2 ^ 31 by omega), gd_t (ix_nI (show rch tb p a < 40 by omega) (by decide)), nI_clamp (show rch tb p a < 2 ^ 31 by omega), hP.2.2.1 _ a2, em _ a2, nI_1, gd_t (ix_nI (show rch tb p a + 1 < 41 by omega) (by decide)), gd_t xa, nI_clamp (show rch tb p a + 1 < 2 ^ 31 by omega), ca, hY.2.1 (rch tb p a + 1) (by omega), hY.2.1 a (by omega), hd1 _ a1 a2, hP.2.2.2.2.2.1, nIlt (show pd p < 2 ^ 31 by omega) (show sg (fT tb p) a (rch tb p a + 1) < 2 ^ 31 by omega), bnd]
    by_cases c : pn p - 1 ≤ rch tb p a
    · rw [if_pos c]
    · rw [if_neg c]
      by_cases c2 : pm p (rch tb p a) = 1
      · rw [if_pos c2]
      · rw [if_neg c2, if_pos (Nat.not_le.mp fun q => a4 ⟨by omega, c2, q⟩)]
  have := lp_for (step := s_X7_reach_2_2 oP R P (nI a)) (fun k => nI k) a (rch tb p a) a1 hstep hend 5000 (by omega)
  unfold f_X7_reach
  simp only [bnd, this, Option.bind_some, un1]
-- ends behind reach are too long
theorem sg_add (f g : Nat → Nat) (a : Nat) : ∀ b, sg (fun i => f i + g i) a b = sg f a b + sg g a b
  | 0 => by rw [sg_0 (Nat.zero_le _), sg_0 (Nat.zero_le _), sg_0 (Nat.zero_le _)]
  | b + 1 => by
    rcases Nat.lt_or_ge b a with h1 | h1
    · rw [sg_0 (by omega), sg_0 (by omega), sg_0 (by omega)]
    · rw [sg_succ h1, sg_succ h1, sg_succ h1, sg_add f g a b]
      omega
theorem sg_mono {f : Nat → Nat} {a b c : Nat} (h : b ≤ c) : sg f a b ≤ sg f a c := by
  have := sm_mono (f := f) h
  unfold sg
  omega
theorem dlR_3 (q : Nat → Nat) (x : Nat) : dlR q x 3 = x - (q 1 + q 2 + q 3) := by
  simp only [dlR_s, dlR, Nat.zero_add, Nat.reduceAdd]
  omega
/-- what a line may give in all -/
theorem qH_all {tb : Tb} {p : Pg} (hs : PgS p) (hT : TbS tb) (hpt : PgT tb p) {a b : Nat} (hab : a ≤ b) (hb : b < pn p) (hg : Bool) : qH tb p a b hg 1 + qH tb p a b hg 2 + qH tb p a b hg 3 = sg (fx tb p 5) a b + (if hg = true then 0 else fx tb p 5 b - fx tb p 4 b) := by
  have h1 : sg (fQ tb p 1) a b + sg (fQ tb p 2) a b + sg (fQ tb p 3) a b = sg (fx tb p 5) a b := by
    rw [← sg_add, ← sg_add]
    refine sg_congr b (fun i _ h2 => ?_)
    have l0 := (hs.2.1 i (by omega)).1
    have t := hT _ l0
    have t2 := t.2.2.2.2.2.2.2 (hpt i (by omega))
    have c : fx tb p 6 i = 1 ∨ fx tb p 6 i = 2 ∨ fx tb p 6 i = 3 := by unfold fx; omega
    unfold fQ
    rcases c with c | c | c <;> rw [c] <;> simp
  have l0 := (hs.2.1 b hb).1
  have t := hT _ l0
  have t2 := t.2.2.2.2.2.2.2 (hpt b hb)
  have c : fx tb p 6 b = 1 ∨ fx tb p 6 b = 2 ∨ fx tb p 6 b = 3 := by unfold fx; omega
  unfold qH
  rw [← h1]
  cases hg <;> rcases c with c | c | c <;> rw [c] <;> simp <;> omega
theorem far_long {tb : Tb} {p : Pg} (hs : PgS p) (hT : TbS tb) (hpt : PgT tb p) {a b : Nat} (ha : a < pn p) (h1 : rch tb p a < b) (h2 : b ≤ lim p a) : mlong tb p a b = true := by
  obtain ⟨a1, a2, a3, a4⟩ := lim_spec ha
  obtain ⟨b1, b2, b3, b4⟩ := rch_spec (tb := tb) ha
  have c1 := a3 _ b1 (by omega)
  have c2 : pd p < sg (fT tb p) a (rch tb p a + 1) := Nat.not_le.mp fun q => b4 ⟨c1.1, c1.2, q⟩
  have c3 := sg_mono (f := fT tb p) (a := a) (show rch tb p a + 1 ≤ b by omega)
  have hab : a ≤ b := by omega
  have hb : b < pn p := by omega
  have e1 : sg (fT tb p) a b + sg (fx tb p 5) a b = sg (fx tb p 0) a b := by
    rw [← sg_add]
    refine sg_congr b (fun i _ h2 => ?_)
    have := ((hT _ (hs.2.1 i (by omega)).1).2.2.2.2.2.2.2 (hpt i (by omega))).2.1
    unfold fT fx
    omega
  have tr := msN_trim hs hT hpt hab hb
  have ts := ((hT _ (hs.2.1 b hb).1).2.2.2.2.2.2.2 (hpt b hb)).2.1
  have e2 := sg_succ (f := fx tb p 0) hab
  unfold mlong
  refine decide_eq_true ?_
  rw [dlR_3, msQ_q, qH_all hs hT hpt hab hb]
  unfold msM msA
  cases hH : msH tb p a b
  · simp only [Bool.false_eq_true, if_false, msN_sg]
    unfold fx at *
    omega
  · simp only [if_true]
    show 0 < sg (fx tb p 0) a b - pd p - _
    omega
