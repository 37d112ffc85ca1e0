-- the best lines: by a first sign, the cost of all lines from there on, how many, where the first ends
abbrev BT : Type := Option (Nat × Nat × Nat)
def mc (tb : Tb) (p : Pg) (a b : Nat) : Option Nat := if mlong tb p a b = true ∧ a < b then none else some (mcost tb p a b)
def bcand (lm : Nat) (tb : Tb) (p : Pg) (T : Nat → BT) (a b : Nat) : BT :=
  match mc tb p a b with
  | none => none
  | some c => match T (b + 1) with
    | none => none
    | some t => if c ≤ lm then some (c + t.1, t.2.1 + 1, b) else none
def bbet (o x : BT) : BT :=
  match x with
  | none => o
  | some x => match o with
    | none => some x
    | some o => if x.1 < o.1 ∨ (x.1 = o.1 ∧ x.2.1 ≤ o.2.1) then some x else some o
def bin (lm : Nat) (tb : Tb) (p : Pg) (T : Nat → BT) (a : Nat) : Nat → BT
  | 0 => none
  | b + 1 => if a ≤ b then bbet (bin lm tb p T a b) (bcand lm tb p T a b) else none
def bst (lm : Nat) (tb : Tb) (p : Pg) : Nat → Nat → BT
  | 0, _ => none
  | f + 1, j => if pn p ≤ j then some (0, 0, 0) else bin lm tb p (bst lm tb p f) j (lim p j + 1)
def best (lm : Nat) (tb : Tb) (p : Pg) (j : Nat) : BT := bst lm tb p 41 j
theorem bcand_congr {lm : Nat} {tb : Tb} {p : Pg} {T T' : Nat → BT} {a b : Nat} (h : T (b + 1) = T' (b + 1)) : bcand lm tb p T a b = bcand lm tb p T' a b := by
  unfold bcand
  rw [h]
theorem bin_congr {lm : Nat} {tb : Tb} {p : Pg} {T T' : Nat → BT} {a : Nat} (h : ∀ b, a ≤ b → T (b + 1) = T' (b + 1)) : ∀ m, bin lm tb p T a m = bin lm tb p T' a m
  | 0 => rfl
  | m + 1 => by
    simp only [bin]
    by_cases c : a ≤ m
    · rw [if_pos c, if_pos c, bin_congr h m, bcand_congr (h m c)]
    · rw [if_neg c, if_neg c]
theorem bst_stab {lm : Nat} {tb : Tb} {p : Pg} : ∀ f f' j, pn p - j < f → pn p - j < f' → bst lm tb p f j = bst lm tb p f' j
  | 0, _, _, h, _ => by omega
  | _ + 1, 0, _, _, h => by omega
  | f + 1, g + 1, j, h1, h2 => by
    simp only [bst]
    by_cases c : pn p ≤ j
    · rw [if_pos c, if_pos c]
    · rw [if_neg c, if_neg c]
      exact bin_congr (fun b hb => bst_stab f g (b + 1) (by omega) (by omega)) _
theorem best_n {lm : Nat} {tb : Tb} {p : Pg} {j : Nat} (h : pn p ≤ j) : best lm tb p j = some (0, 0, 0) := by
  unfold best
  rw [bst, if_pos h]
theorem best_eq {lm : Nat} {tb : Tb} {p : Pg} (hs : PgS p) {j : Nat} (h : j < pn p) : best lm tb p j = bin lm tb p (best lm tb p) j (lim p j + 1) := by
  have h40 := hs.1
  unfold best
  rw [bst, if_neg (by omega)]
  exact bin_congr (fun b hb => bst_stab 40 41 (b + 1) (by omega) (by omega)) _
theorem bin_s {lm : Nat} {tb : Tb} {p : Pg} {T : Nat → BT} {a b : Nat} (h : a ≤ b) : bin lm tb p T a (b + 1) = bbet (bin lm tb p T a b) (bcand lm tb p T a b) := by
  rw [bin, if_pos h]
theorem bin_n {lm : Nat} {tb : Tb} {p : Pg} {T : Nat → BT} {a : Nat} : ∀ b, b ≤ a → bin lm tb p T a b = none
  | 0, _ => rfl
  | b + 1, h => by rw [bin, if_neg (by omega)]
theorem bin_far {lm : Nat} {tb : Tb} {p : Pg} {T : Nat → BT} {a b : Nat} (hab : a ≤ b) : ∀ c, b ≤ c → (∀ k, b ≤ k → k < c → mc tb p a k = none) → bin lm tb p T a c = bin lm tb p T a b
  | 0, h, _ => by rw [show b = 0 by omega]
  | c + 1, h, h2 => by
    rcases Nat.lt_or_ge c b with h3 | h3
    · rw [show b = c + 1 by omega]
    · rw [bin_s (by omega), show bcand lm tb p T a c = none by unfold bcand; rw [h2 c h3 (by omega)]]
      exact bin_far hab c h3 (fun k a b => h2 k a (by omega))
theorem bin_rch {lm : Nat} {tb : Tb} {p : Pg} (hs : PgS p) (hT : TbS tb) (hpt : PgT tb p) (T : Nat → BT) {a : Nat} (ha : a < pn p) : bin lm tb p T a (lim p a + 1) = bin lm tb p T a (rch tb p a + 1) := by
  have hr := rch_spec (tb := tb) ha
  have := rch_lim (tb := tb) ha
  refine bin_far (by omega) _ (by omega) (fun k h1 h2 => ?_)
  have := far_long hs hT hpt ha (show rch tb p a < k by omega) (by omega)
  unfold mc
  rw [if_pos ⟨this, by omega⟩]
theorem bcand_some {lm : Nat} {tb : Tb} {p : Pg} {T : Nat → BT} {a b : Nat} {x : Nat × Nat × Nat} (h : bcand lm tb p T a b = some x) : ∃ c t, mc tb p a b = some c ∧ c ≤ lm ∧ T (b + 1) = some t ∧ x = (c + t.1, t.2.1 + 1, b) := by
  unfold bcand at h
  split at h
  · cases h
  · rename_i c hc
    split at h
    · cases h
    · rename_i t ht
      split at h
      · cases h
        exact ⟨c, t, hc, by assumption, ht, rfl⟩
      · cases h
theorem bbet_or (o x : BT) : bbet o x = o ∨ bbet o x = x := by
  cases x with
  | none => exact Or.inl rfl
  | some x =>
    cases o with
    | none => exact Or.inr rfl
    | some o =>
      simp only [bbet]
      split
      · exact Or.inr rfl
      · exact Or.inl rfl
theorem bbet_none {o x : BT} (h : bbet o x = none) : o = none ∧ x = none := by
  cases x with
  | none => exact ⟨h, rfl⟩
  | some x =>
    cases o with
    | none => cases h
    | some o =>
      simp only [bbet] at h
      split at h <;> cases h
theorem bin_some {lm : Nat} {tb : Tb} {p : Pg} {T : Nat → BT} {a : Nat} {x : Nat × Nat × Nat} : ∀ m, bin lm tb p T a m = some x → ∃ b c t, a ≤ b ∧ b < m ∧ mc tb p a b = some c ∧ c ≤ lm ∧ T (b + 1) = some t ∧ x = (c + t.1, t.2.1 + 1, b)
  | 0, h => by cases h
  | m + 1, h => by
    rcases Nat.lt_or_ge m a with h1 | h1
    · rw [bin_n _ (by omega)] at h; cases h
    · rw [bin_s h1] at h
      rcases bbet_or (bin lm tb p T a m) (bcand lm tb p T a m) with e | e
      · rw [e] at h
        obtain ⟨b, c, t, h2, h3, h4⟩ := bin_some m h
        exact ⟨b, c, t, h2, by omega, h4⟩
      · rw [e] at h
        obtain ⟨c, t, h4⟩ := bcand_some h
        exact ⟨m, c, t, h1, by omega, h4⟩
theorem mcost_le {tb : Tb} {p : Pg} (hs : PgS p) (hT : TbS tb) {a b : Nat} (hb : b < pn p) : mcost tb p a b ≤ 30000 := by
  have hs' := hs
  obtain ⟨h40, -, h4, h80, w0, w1, w1', w2, w2'⟩ := hs'
  have q1 : dlC (msQ tb p a b) (msM tb p a b) 3 ≤ 6 * 400 := dlC_le (fun r => bdQ hs hT hb _ r)
  have q2 : dlC (msO tb p a b) (msL tb p a b) 3 ≤ 6 * 400 := dlC_le (fun r => bdO hs hT hb r)
  have q3 : mleft tb p a b ≤ 80 := by
    have : mleft tb p a b ≤ msL tb p a b := dlR_le _ _ _
    have : msL tb p a b ≤ pd p := by unfold msL; split <;> omega
    omega
  have q4 : mleft tb p a b * pw p 1 ≤ 80 * 99 := Nat.mul_le_mul q3 w1'
  have q5 : mbad p b ≤ 9999 := by unfold mbad; split <;> omega
  unfold mcost
  split
  · omega
  · split <;> omega
theorem mc_le {tb : Tb} {p : Pg} (hs : PgS p) (hT : TbS tb) {a b c : Nat} (hb : b < pn p) (h : mc tb p a b = some c) : c ≤ 30000 := by
  unfold mc at h
  split at h
  · cases h
  · cases h
    exact mcost_le hs hT hb
theorem best_bd {lm : Nat} {tb : Tb} {p : Pg} (hs : PgS p) (hT : TbS tb) : ∀ m j, pn p - j ≤ m → ∀ x, best lm tb p j = some x → x.1 ≤ 30000 * (pn p - j) ∧ x.2.1 ≤ pn p - j
  | 0, j, h, x, e => by
    rw [best_n (by omega)] at e
    cases e
    simp
  | m + 1, j, h, x, e => by
    rcases Nat.lt_or_ge j (pn p) with h1 | h1
    · rw [best_eq hs h1] at e
      obtain ⟨b, c, t, h2, h3, h4, h5, h6, rfl⟩ := bin_some _ e
      have hl := (lim_spec h1).2.1
      obtain ⟨u1, u2⟩ := best_bd hs hT m (b + 1) (by omega) t h6
      have hc := mc_le hs hT (by omega) h4
      have h7 : 30000 * (pn p - (b + 1)) + 30000 ≤ 30000 * (pn p - j) := by
        rw [← Nat.mul_succ]
        exact Nat.mul_le_mul_left _ (by omega)
      exact ⟨by show c + t.1 ≤ _; omega, by show t.2.1 + 1 ≤ _; omega⟩
    · rw [best_n h1] at e
      cases e
      exact ⟨Nat.zero_le _, Nat.zero_le _⟩
theorem best_bd' {lm : Nat} {tb : Tb} {p : Pg} (hs : PgS p) (hT : TbS tb) {j : Nat} {x : Nat × Nat × Nat} (e : best lm tb p j = some x) : x.1 ≤ 1200000 ∧ x.2.1 ≤ 40 := by
  have h40 := hs.1
  obtain ⟨h1, h2⟩ := best_bd hs hT _ j (Nat.le_refl _) x e
  have : 30000 * (pn p - j) ≤ 30000 * 40 := Nat.mul_le_mul_left _ (by omega)
  omega
theorem bin_bd {lm : Nat} {tb : Tb} {p : Pg} (hs : PgS p) (hT : TbS tb) {a m : Nat} (hm : m ≤ pn p) {x : Nat × Nat × Nat} (e : bin lm tb p (best lm tb p) a m = some x) : x.1 ≤ 1300000 ∧ x.2.1 ≤ 41 := by
  obtain ⟨b, c, t, h2, h3, h4, h5, h6, rfl⟩ := bin_some _ e
  have := best_bd' hs hT h6
  have := mc_le hs hT (by omega) h4
  exact ⟨by show c + t.1 ≤ _; omega, by show t.2.1 + 1 ≤ _; omega⟩
-- the class's rows
def cE : BT → Int32
  | none => 1000000000
  | some t => nI t.1
def lE : BT → Int32
  | none => 0
  | some t => nI t.2.1
def eN (x : BT) (j : Nat) : Nat :=
  match x with
  | none => j
  | some t => t.2.2
def NB (N : OV) (x : BT) (j : Nat) : Prop := ar N 0 j = cE x ∧ ar N 1 j = lE x ∧ ar N 2 j = nI (eN x j)
theorem cE_n : cE none = 1000000000 := Eq.trans rfl rfl
theorem cE_s (t : Nat × Nat × Nat) : cE (some t) = nI t.1 := Eq.trans rfl rfl
theorem lE_n : lE none = 0 := Eq.trans rfl rfl
theorem lE_s (t : Nat × Nat × Nat) : lE (some t) = nI t.2.1 := Eq.trans rfl rfl
/-- offer: a line from a to b of cost c, t being what comes behind it -/
theorem N_offer {N : OV} {x : BT} {t : Nat × Nat × Nat} {a b c : Nat} (ha : a < 40) (hb : b < 40) (hx : NB N x a) (ht0 : ar N 0 (b + 1) = nI t.1) (ht1 : ar N 1 (b + 1) = nI t.2.1) (bc : c ≤ 30000) (bt : t.1 ≤ 1200000 ∧ t.2.1 ≤ 40) (bx : ∀ y, x = some y → y.1 ≤ 1300000 ∧ y.2.1 ≤ 41) : ∃ N', f_X5_offer N (nI a) (nI b) (nI c) = some N' ∧ NB N' (bbet x (some (c + t.1, t.2.1 + 1, b))) a ∧ ∀ q j, j ≠ a → ar N' q j = ar N q j := by
  have x1 : ix (nI (b + 1)) 41 = true := ix_nI (by omega) (by decide)
  have xa : ix (nI a) 41 = true := ix_nI (by omega) (by decide)
  have ca := nI_clamp (show a < 2 ^ 31 by omega)
  have cb := nI_clamp (show b + 1 < 2 ^ 31 by omega)
  obtain ⟨h0, h1, h2⟩ := hx
  have hJ : ∃ N', j_X5_offer_57_3 N (nI a) (nI b) (nI (c + t.1)) (nI (t.2.1 + 1)) = some N' ∧ NB N' (some (c + t.1, t.2.1 + 1, b)) a ∧ ∀ q j, j ≠ a → ar N' q j = ar N q j := by
    refine ⟨sA (sA (sA N 0 a (nI (c + t.1))) 1 a (nI (t.2.1 + 1))) 2 a (nI b), ?_, ⟨?_, ?_, ?_⟩, ?_⟩
    · simp only [j_X5_offer_57_3, gd_t xa, bnd, ca]
    · simp [arA, updE, cE]
    · simp [arA, updE, lE]
    · simp [arA, updE, eN]
    · intro q j hj
      simp only [arA, updE]
      by_cases c2 : q = 2
      · subst c2; simp [hj, updE, arA]
      · by_cases c1 : q = 1
        · subst c1; simp [hj, updE, arA]
        · by_cases c0 : q = 0
          · subst c0; simp [hj, updE]
          · simp [c0, c1, c2]
  unfold f_X5_offer
  simp only [nI_1, gd_t x1, gd_t xa, ca, cb, ht0, ht1, bnd, nI_add, h0, h1]
  cases x with
  | none =>
    simp only [cE_n, show (1000000000 : Int32) = nI 1000000000 from rfl, nIlt (show c + t.1 < 2 ^ 31 by omega) (show 1000000000 < 2 ^ 31 by omega), if_pos (show c + t.1 < 1000000000 by omega)]
    exact hJ
  | some y =>
    have by1 := bx y rfl
    simp only [cE_s, lE_s, nIlt (show c + t.1 < 2 ^ 31 by omega) (show y.1 < 2 ^ 31 by omega), nIe (show c + t.1 < 2 ^ 31 by omega) (show y.1 < 2 ^ 31 by omega), nIlt (show y.2.1 < 2 ^ 31 by omega) (show t.2.1 + 1 < 2 ^ 31 by omega), bbet]
    by_cases c1 : c + t.1 < y.1
    · rw [if_pos c1, if_pos (Or.inl c1)]
      exact hJ
    · rw [if_neg c1]
      by_cases c2 : c + t.1 = y.1
      · rw [if_pos c2]
        by_cases c3 : y.2.1 < t.2.1 + 1
        · rw [if_pos c3, if_neg (by omega)]
          exact ⟨N, rfl, ⟨h0, h1, h2⟩, fun _ _ _ => rfl⟩
        · rw [if_neg c3, if_pos (Or.inr ⟨c2, by omega⟩)]
          exact hJ
      · rw [if_neg c2, if_neg (by omega)]
        exact ⟨N, rfl, ⟨h0, h1, h2⟩, fun _ _ _ => rfl⟩
