-- the fields of a line that is looked at (model), that is measured (ruler)
def lkS (X : OV) (a b c d e f g : Int32) : OV := (fun k => if k = 12 then a else if k = 13 then b else if k = 14 then c else if k = 15 then d else if k = 16 then e else if k = 17 then f else if k = 18 then g else X.1 k, X.2)
theorem lk_s12 (X : OV) (a b c d e f g x : Int32) : sI (lkS X a b c d e f g) 12 x = lkS X x b c d e f g := by
  refine Prod.ext (funext fun k => ?_) rfl
  simp only [sI, lkS, updE]
  by_cases h : k = 12
  · subst h; simp
  · simp [h]
theorem lk_i12 (X : OV) (a b c d e f g : Int32) : iv (lkS X a b c d e f g) 12 = a := Eq.trans rfl rfl
theorem lk_s13 (X : OV) (a b c d e f g x : Int32) : sI (lkS X a b c d e f g) 13 x = lkS X a x c d e f g := by
  refine Prod.ext (funext fun k => ?_) rfl
  simp only [sI, lkS, updE]
  by_cases h : k = 13
  · subst h; simp
  · simp [h]
theorem lk_i13 (X : OV) (a b c d e f g : Int32) : iv (lkS X a b c d e f g) 13 = b := Eq.trans rfl rfl
theorem lk_s14 (X : OV) (a b c d e f g x : Int32) : sI (lkS X a b c d e f g) 14 x = lkS X a b x d e f g := by
  refine Prod.ext (funext fun k => ?_) rfl
  simp only [sI, lkS, updE]
  by_cases h : k = 14
  · subst h; simp
  · simp [h]
theorem lk_i14 (X : OV) (a b c d e f g : Int32) : iv (lkS X a b c d e f g) 14 = c := Eq.trans rfl rfl
theorem lk_s15 (X : OV) (a b c d e f g x : Int32) : sI (lkS X a b c d e f g) 15 x = lkS X a b c x e f g := by
  refine Prod.ext (funext fun k => ?_) rfl
  simp only [sI, lkS, updE]
  by_cases h : k = 15
  · subst h; simp
  · simp [h]
theorem lk_i15 (X : OV) (a b c d e f g : Int32) : iv (lkS X a b c d e f g) 15 = d := Eq.trans rfl rfl
theorem lk_s16 (X : OV) (a b c d e f g x : Int32) : sI (lkS X a b c d e f g) 16 x = lkS X a b c d x f g := by
  refine Prod.ext (funext fun k => ?_) rfl
  simp only [sI, lkS, updE]
  by_cases h : k = 16
  · subst h; simp
  · simp [h]
theorem lk_i16 (X : OV) (a b c d e f g : Int32) : iv (lkS X a b c d e f g) 16 = e := Eq.trans rfl rfl
theorem lk_s17 (X : OV) (a b c d e f g x : Int32) : sI (lkS X a b c d e f g) 17 x = lkS X a b c d e x g := by
  refine Prod.ext (funext fun k => ?_) rfl
  simp only [sI, lkS, updE]
  by_cases h : k = 17
  · subst h; simp
  · simp [h]
theorem lk_i17 (X : OV) (a b c d e f g : Int32) : iv (lkS X a b c d e f g) 17 = f := Eq.trans rfl rfl
theorem lk_s18 (X : OV) (a b c d e f g x : Int32) : sI (lkS X a b c d e f g) 18 x = lkS X a b c d e f x := by
  refine Prod.ext (funext fun k => ?_) rfl
  simp only [sI, lkS, updE]
  by_cases h : k = 18
  · subst h; simp
  · simp [h]
theorem lk_i18 (X : OV) (a b c d e f g : Int32) : iv (lkS X a b c d e f g) 18 = g := Eq.trans rfl rfl
theorem lk_ar (X : OV) (a b c d e f g : Int32) (k : Nat) : ar (lkS X a b c d e f g) k = ar X k := Eq.trans rfl rfl
theorem lk_gr (X : OV) (a b c d e f g : Int32) (k j : Nat) : gr (lkS X a b c d e f g) k j = gr X k j := rfl
theorem lk_nv (X : OV) (a b c d e f g : Int32) (k : Nat) : nv (lkS X a b c d e f g) k = nv X k := Eq.trans rfl rfl
theorem lk_al (X : OV) (a b c d e f g : Int32) (k : Nat) : al (lkS X a b c d e f g) k = al X k := rfl
theorem lk_iv (X : OV) (a b c d e f g : Int32) (k : Nat) (h : k < 12 ∨ 18 < k) : iv (lkS X a b c d e f g) k = iv X k := by
  simp only [iv, lkS]
  rw [if_neg (show ¬ k = 12 by omega), if_neg (show ¬ k = 13 by omega), if_neg (show ¬ k = 14 by omega), if_neg (show ¬ k = 15 by omega), if_neg (show ¬ k = 16 by omega), if_neg (show ¬ k = 17 by omega), if_neg (show ¬ k = 18 by omega)]
theorem lk_lk (X : OV) (a b c d e f g a' b' c' d' e' f' g' : Int32) : lkS (lkS X a b c d e f g) a' b' c' d' e' f' g' = lkS X a' b' c' d' e' f' g' := by
  refine Prod.ext (funext fun k => ?_) rfl
  simp only [lkS]
  by_cases h0 : k = 12
  · simp [h0]
  by_cases h1 : k = 13
  · simp [h1]
  by_cases h2 : k = 14
  · simp [h2]
  by_cases h3 : k = 15
  · simp [h3]
  by_cases h4 : k = 16
  · simp [h4]
  by_cases h5 : k = 17
  · simp [h5]
  by_cases h6 : k = 18
  · simp [h6]
  simp only [if_neg h0, if_neg h1, if_neg h2, if_neg h3, if_neg h4, if_neg h5, if_neg h6]
theorem lk_eta (X : OV) : X = lkS X (iv X 12) (iv X 13) (iv X 14) (iv X 15) (iv X 16) (iv X 17) (iv X 18) := by
  refine Prod.ext (funext fun k => ?_) rfl
  simp only [lkS, iv]
  repeat' split
  all_goals first | rfl | (rename_i h; rw [h])
def rlS (X : OV) (a b c d e f g : Int32) : OV := (fun k => if k = 11 then a else if k = 12 then b else if k = 13 then c else if k = 14 then d else if k = 15 then e else if k = 16 then f else if k = 17 then g else X.1 k, X.2)
theorem rl_s11 (X : OV) (a b c d e f g x : Int32) : sI (rlS X a b c d e f g) 11 x = rlS X x b c d e f g := by
  refine Prod.ext (funext fun k => ?_) rfl
  simp only [sI, rlS, updE]
  by_cases h : k = 11
  · subst h; simp
  · simp [h]
theorem rl_i11 (X : OV) (a b c d e f g : Int32) : iv (rlS X a b c d e f g) 11 = a := Eq.trans rfl rfl
theorem rl_s12 (X : OV) (a b c d e f g x : Int32) : sI (rlS X a b c d e f g) 12 x = rlS X a x c d e f g := by
  refine Prod.ext (funext fun k => ?_) rfl
  simp only [sI, rlS, updE]
  by_cases h : k = 12
  · subst h; simp
  · simp [h]
theorem rl_i12 (X : OV) (a b c d e f g : Int32) : iv (rlS X a b c d e f g) 12 = b := Eq.trans rfl rfl
theorem rl_s13 (X : OV) (a b c d e f g x : Int32) : sI (rlS X a b c d e f g) 13 x = rlS X a b x d e f g := by
  refine Prod.ext (funext fun k => ?_) rfl
  simp only [sI, rlS, updE]
  by_cases h : k = 13
  · subst h; simp
  · simp [h]
theorem rl_i13 (X : OV) (a b c d e f g : Int32) : iv (rlS X a b c d e f g) 13 = c := Eq.trans rfl rfl
theorem rl_s14 (X : OV) (a b c d e f g x : Int32) : sI (rlS X a b c d e f g) 14 x = rlS X a b c x e f g := by
  refine Prod.ext (funext fun k => ?_) rfl
  simp only [sI, rlS, updE]
  by_cases h : k = 14
  · subst h; simp
  · simp [h]
theorem rl_i14 (X : OV) (a b c d e f g : Int32) : iv (rlS X a b c d e f g) 14 = d := Eq.trans rfl rfl
theorem rl_s15 (X : OV) (a b c d e f g x : Int32) : sI (rlS X a b c d e f g) 15 x = rlS X a b c d x f g := by
  refine Prod.ext (funext fun k => ?_) rfl
  simp only [sI, rlS, updE]
  by_cases h : k = 15
  · subst h; simp
  · simp [h]
theorem rl_i15 (X : OV) (a b c d e f g : Int32) : iv (rlS X a b c d e f g) 15 = e := Eq.trans rfl rfl
theorem rl_s16 (X : OV) (a b c d e f g x : Int32) : sI (rlS X a b c d e f g) 16 x = rlS X a b c d e x g := by
  refine Prod.ext (funext fun k => ?_) rfl
  simp only [sI, rlS, updE]
  by_cases h : k = 16
  · subst h; simp
  · simp [h]
theorem rl_i16 (X : OV) (a b c d e f g : Int32) : iv (rlS X a b c d e f g) 16 = f := Eq.trans rfl rfl
theorem rl_s17 (X : OV) (a b c d e f g x : Int32) : sI (rlS X a b c d e f g) 17 x = rlS X a b c d e f x := by
  refine Prod.ext (funext fun k => ?_) rfl
  simp only [sI, rlS, updE]
  by_cases h : k = 17
  · subst h; simp
  · simp [h]
theorem rl_i17 (X : OV) (a b c d e f g : Int32) : iv (rlS X a b c d e f g) 17 = g := Eq.trans rfl rfl
theorem rl_ar (X : OV) (a b c d e f g : Int32) (k : Nat) : ar (rlS X a b c d e f g) k = ar X k := Eq.trans rfl rfl
theorem rl_gr (X : OV) (a b c d e f g : Int32) (k j : Nat) : gr (rlS X a b c d e f g) k j = gr X k j := rfl
theorem rl_nv (X : OV) (a b c d e f g : Int32) (k : Nat) : nv (rlS X a b c d e f g) k = nv X k := Eq.trans rfl rfl
theorem rl_al (X : OV) (a b c d e f g : Int32) (k : Nat) : al (rlS X a b c d e f g) k = al X k := rfl
theorem rl_iv (X : OV) (a b c d e f g : Int32) (k : Nat) (h : k < 11 ∨ 17 < k) : iv (rlS X a b c d e f g) k = iv X k := by
  simp only [iv, rlS]
  rw [if_neg (show ¬ k = 11 by omega), if_neg (show ¬ k = 12 by omega), if_neg (show ¬ k = 13 by omega), if_neg (show ¬ k = 14 by omega), if_neg (show ¬ k = 15 by omega), if_neg (show ¬ k = 16 by omega), if_neg (show ¬ k = 17 by omega)]
theorem rl_rl (X : OV) (a b c d e f g a' b' c' d' e' f' g' : Int32) : rlS (rlS X a b c d e f g) a' b' c' d' e' f' g' = rlS X a' b' c' d' e' f' g' := by
  refine Prod.ext (funext fun k => ?_) rfl
  simp only [rlS]
  by_cases h0 : k = 11
  · simp [h0]
  by_cases h1 : k = 12
  · simp [h1]
  by_cases h2 : k = 13
  · simp [h2]
  by_cases h3 : k = 14
  · simp [h3]
  by_cases h4 : k = 15
  · simp [h4]
  by_cases h5 : k = 16
  · simp [h5]
  by_cases h6 : k = 17
  · simp [h6]
  simp only [if_neg h0, if_neg h1, if_neg h2, if_neg h3, if_neg h4, if_neg h5, if_neg h6]
theorem rl_eta (X : OV) : X = rlS X (iv X 11) (iv X 12) (iv X 13) (iv X 14) (iv X 15) (iv X 16) (iv X 17) := by
  refine Prod.ext (funext fun k => ?_) rfl
  simp only [rlS, iv]
  repeat' split
  all_goals first | rfl | (rename_i h; rw [h])
-- differences, signs
theorem sub_le0 {a b : Nat} (ha : a < 2 ^ 30) (hb : b < 2 ^ 30) : (nI a - nI b ≤ 0) = (a ≤ b) := by
  rw [Int32.le_iff_toInt_le, pk_sub_toInt ha hb]
  refine propext ⟨fun h => ?_, fun h => ?_⟩
  · have h : (a : Int) - b ≤ 0 := h
    omega
  · show (a : Int) - b ≤ 0
    omega
theorem sub_ge0 {a b : Nat} (ha : a < 2 ^ 30) (hb : b < 2 ^ 30) : (0 ≤ nI a - nI b) = (b ≤ a) := by
  rw [Int32.le_iff_toInt_le, pk_sub_toInt ha hb]
  refine propext ⟨fun h => ?_, fun h => ?_⟩
  · have h : 0 ≤ (a : Int) - b := h
    omega
  · show 0 ≤ (a : Int) - b
    omega
theorem neg_subI {a b : Nat} (h : a ≤ b) : -(nI a - nI b) = nI (b - a) := by
  rw [Int32.neg_sub, nI_sub h]
theorem mn_nI {u v : Nat} (hu : u < 2 ^ 31) (hv : v < 2 ^ 31) : (if nI u < nI v then nI u else nI v) = nI (min v u) := by
  simp only [nIlt hu hv]
  by_cases h : u < v
  · rw [if_pos h, Nat.min_eq_right (by omega)]
  · rw [if_neg h, Nat.min_eq_left (by omega)]
theorem mx_nI {u v : Nat} (hu : u < 2 ^ 31) (hv : v < 2 ^ 31) : (if nI u < nI v then nI v else nI u) = nI (max v u) := by
  simp only [nIlt hu hv]
  by_cases h : u < v
  · rw [if_pos h, Nat.max_eq_left (by omega)]
  · rw [if_neg h, Nat.max_eq_right (by omega)]
-- sums from a on, ahead of b
def sg (f : Nat → Nat) (a b : Nat) : Nat := sm f b - sm f a
theorem sg_succ {f : Nat → Nat} {a b : Nat} (h : a ≤ b) : sg f a (b + 1) = sg f a b + f b := by
  have := sm_mono (f := f) h
  simp only [sg, sm]
  omega
theorem sg_0 {f : Nat → Nat} {a b : Nat} (h : b ≤ a) : sg f a b = 0 := by
  have := sm_mono (f := f) h
  simp only [sg]
  omega
theorem sg_congr {f g : Nat → Nat} {a : Nat} : ∀ b, (∀ i, a ≤ i → i < b → f i = g i) → sg f a b = sg g a b
  | 0, _ => by rw [sg_0 (Nat.zero_le _), sg_0 (Nat.zero_le _)]
  | b + 1, h => by
    rcases Nat.lt_or_ge b a with h1 | h1
    · rw [sg_0 (by omega), sg_0 (by omega)]
    · rw [sg_succ h1, sg_succ h1, sg_congr b (fun i a b => h i a (by omega)), h b h1 (by omega)]
theorem sg_le {f : Nat → Nat} {c a : Nat} : ∀ b, (∀ i, a ≤ i → i < b → f i ≤ c) → sg f a b ≤ c * (b - a)
  | 0, _ => by rw [sg_0 (Nat.zero_le _)]; exact Nat.zero_le _
  | b + 1, h => by
    rcases Nat.lt_or_ge b a with h1 | h1
    · rw [sg_0 (by omega)]; exact Nat.zero_le _
    · have h2 := sg_le b (fun i a b => h i a (by omega))
      have h3 := h b h1 (by omega)
      rw [sg_succ h1, show b + 1 - a = (b - a) + 1 by omega, Nat.mul_succ]
      omega
theorem lp_sum {step : Int32 × Int32 → Option ((Int32 × Int32) ⊕ Int32)} (g : Nat → Nat) (a b : Nat) (hab : a ≤ b) (hs : ∀ k, a ≤ k → k < b → ∀ x, step (nI x, nI k) = some (.inl (nI (x + g k), nI (k + 1)))) (he : ∀ x, step (nI x, nI b) = some (.inr (nI x))) (n : Nat) (hn : b - a < n) : lp step n (nI 0, nI a) = some (nI (sg g a b)) := by
  have h := lp_for (step := step) (fun k => (nI (sg g a k), nI k)) a b (r := nI (sg g a b)) hab (fun k h1 h2 => by
    show step (nI (sg g a k), nI k) = _
    rw [hs k h1 h2, sg_succ h1]) (he _) n hn
  rw [show sg g a a = 0 from sg_0 (Nat.le_refl _)] at h
  exact h
theorem M_sumW {M : OV} {tb : Tb} {p : Pg} (h : RM (ar M 8) p) (hs : PgS p) (hR : RT M tb) {a b : Nat} (hab : a ≤ b) (hb : b < pn p) : lp (s_X10_looks_5_3 M (nI b)) 5000 (nI 0, nI a) = some (nI (sg (fx tb p 0) a (b + 1))) := by
  have h40 := hs.1
  have h1 : ∀ k, a ≤ k → k < b + 1 → ∀ x, s_X10_looks_5_3 M (nI b) (nI x, nI k) = some (.inl (nI (x + fx tb p 0 k), nI (k + 1))) := by
    intro k h1 h2 x
    have hk : k < pn p := by omega
    have l0 := (hs.2.1 k hk).1
    have x26 : ix (nI (ps p k)) 26 = true := ix_nI l0 (by decide)
    have e : ar M 1 (ps p k) = nI (fx tb p 0 k) := (hR _ l0).1
    simp only [s_X10_looks_5_3, un2, nIlt (show b < 2 ^ 31 by omega) (show k < 2 ^ 31 by omega), if_neg (show ¬ b < k by omega), M_class h hs hk, Option.bind_some, un1, gd_t x26, nI_clamp (show ps p k < 2 ^ 31 by omega), e, bnd, nI_add, nI_1]
  have h2 : ∀ x, s_X10_looks_5_3 M (nI b) (nI x, nI (b + 1)) = some (.inr (nI x)) := by
    intro x
    simp only [s_X10_looks_5_3, un2, nIlt (show b < 2 ^ 31 by omega) (show b + 1 < 2 ^ 31 by omega), if_pos (show b < b + 1 by omega)]
  have := lp_sum (step := s_X10_looks_5_3 M (nI b)) (fx tb p 0) a (b + 1) (by omega) h1 h2 5000 (by omega)
  exact this
/-- what rank r may give of a line, hung or not -/
def qH (tb : Tb) (p : Pg) (a b : Nat) (hg : Bool) (r : Nat) : Nat := sg (fQ tb p r) a b + (if fx tb p 6 b = r ∧ hg = false then fx tb p 5 b - fx tb p 4 b else 0)
theorem msQ_q (tb : Tb) (p : Pg) (a b : Nat) : msQ tb p a b = qH tb p a b (msH tb p a b) := rfl
theorem M_takesIn {M : OV} {tb : Tb} {p : Pg} (h : RM (ar M 8) p) (hs : PgS p) (hR : RT M tb) (hT : TbS tb) (hpt : PgT tb p) {a b r : Nat} (hab : a ≤ b) (hb : b < pn p) (hr : r ≤ 3) (hg : Bool) (h13 : iv M 13 = bo hg) : lp (s_X10_takes_18_9 M (nI b) (nI r)) 5000 (nI 0, nI a) = some (nI (qH tb p a b hg r)) := by
  have h40 := hs.1
  let g : Nat → Nat := fun k => if fx tb p 6 k = r then (if k < b then fx tb p 5 k else if hg = true then 0 else fx tb p 5 k - fx tb p 4 k) else 0
  have h1 : ∀ k, a ≤ k → k < b + 1 → ∀ x, s_X10_takes_18_9 M (nI b) (nI r) (nI x, nI k) = some (.inl (nI (x + g k), nI (k + 1))) := by
    intro k h1 h2 x
    have hk : k < pn p := by omega
    have l0 := (hs.2.1 k hk).1
    have tt := hT _ l0
    have rr := (hR _ l0).2 (hpt k hk)
    have x26 : ix (nI (ps p k)) 26 = true := ix_nI l0 (by decide)
    have cc := nI_clamp (show ps p k < 2 ^ 31 by omega)
    have e6 : ar M 5 (ps p k) = nI (fx tb p 6 k) := rr.2.2.2.1
    have eq1 : (nI (fx tb p 6 k) = nI r) = (fx tb p 6 k = r) := nIe (by unfold fx; omega) (by omega)
    simp only [s_X10_takes_18_9, un2, nIlt (show b < 2 ^ 31 by omega) (show k < 2 ^ 31 by omega), if_neg (show ¬ b < k by omega), M_class h hs hk, Option.bind_some, un1, gd_t x26, cc, e6, eq1, h13, M_sqz h hs hR hT hpt hk hb hg, bnd, j_X10_takes_56_15, nI_1, nI_add]
    by_cases c1 : fx tb p 6 k = r
    · simp only [if_pos c1, g]
    · simp only [if_neg c1, g, Nat.add_zero]
  have h2 : ∀ x, s_X10_takes_18_9 M (nI b) (nI r) (nI x, nI (b + 1)) = some (.inr (nI x)) := by
    intro x
    simp only [s_X10_takes_18_9, un2, nIlt (show b < 2 ^ 31 by omega) (show b + 1 < 2 ^ 31 by omega), if_pos (show b < b + 1 by omega)]
  have := lp_sum (step := s_X10_takes_18_9 M (nI b) (nI r)) g a (b + 1) (by omega) h1 h2 5000 (by omega)
  rw [this, sg_succ hab, sg_congr (g := fQ tb p r) b (fun i _ h2 => by simp only [g, if_pos h2, fQ])]
  simp only [qH, g, Nat.lt_irrefl, if_false]
  congr 3
  by_cases c1 : fx tb p 6 b = r
  · cases hg <;> simp [c1]
  · simp [c1]
theorem M_givesIn {M : OV} {tb : Tb} {p : Pg} (h : RM (ar M 8) p) (hs : PgS p) (hR : RT M tb) (hT : TbS tb) (hpt : PgT tb p) {a b r : Nat} (hab : a ≤ b) (hb : b < pn p) (hr : r ≤ 3) : lp (s_X10_gives_20_8 M (nI b) (nI r)) 5000 (nI 0, nI a) = some (nI (sg (fO tb p r) a b)) := by
  have h40 := hs.1
  have h1 : ∀ k, a ≤ k → k < b → ∀ x, s_X10_gives_20_8 M (nI b) (nI r) (nI x, nI k) = some (.inl (nI (x + fO tb p r k), nI (k + 1))) := by
    intro k h1 h2 x
    have hk : k < pn p := by omega
    have l0 := (hs.2.1 k hk).1
    have tt := hT _ l0
    have rr := (hR _ l0).2 (hpt k hk)
    have x26 : ix (nI (ps p k)) 26 = true := ix_nI l0 (by decide)
    have cc := nI_clamp (show ps p k < 2 ^ 31 by omega)
    have e7 : ar M 6 (ps p k) = nI (fx tb p 7 k) := rr.2.2.2.2.1
    have e8 : ar M 7 (ps p k) = nI (fx tb p 8 k) := rr.2.2.2.2.2
    have eq1 : (nI (fx tb p 8 k) = nI r) = (fx tb p 8 k = r) := nIe (by unfold fx; omega) (by omega)
    simp only [s_X10_gives_20_8, un2, nIle (show b < 2 ^ 31 by omega) (show k < 2 ^ 31 by omega), if_neg (show ¬ b ≤ k by omega), M_class h hs hk, Option.bind_some, un1, gd_t x26, cc, e7, e8, eq1, bnd, j_X10_gives_58_14, nI_1, nI_add]
    by_cases c1 : fx tb p 8 k = r
    · simp only [if_pos c1, fO]
    · simp only [if_neg c1, fO, Nat.add_zero]
  have h2 : ∀ x, s_X10_gives_20_8 M (nI b) (nI r) (nI x, nI b) = some (.inr (nI x)) := by
    intro x
    simp only [s_X10_gives_20_8, un2, nIle (show b < 2 ^ 31 by omega) (show b < 2 ^ 31 by omega), if_pos (Nat.le_refl b)]
  have := lp_sum (step := s_X10_gives_20_8 M (nI b) (nI r)) (fO tb p r) a b hab h1 h2 5000 (by omega)
  exact this
-- bounds
theorem bdQ {tb : Tb} {p : Pg} (hs : PgS p) (hT : TbS tb) {a b : Nat} (hb : b < pn p) (hg : Bool) (r : Nat) : qH tb p a b hg r ≤ 400 := by
  have h40 := hs.1
  have h1 : sg (fQ tb p r) a b ≤ 8 * (b - a) := sg_le b (fun i _ h2 => by
    have := (hT _ (hs.2.1 i (by omega)).1).2.2.2.1
    unfold fQ fx
    split <;> omega)
  have h2 := (hT _ (hs.2.1 b hb).1).2.2.2.1
  unfold qH
  split
  · unfold fx; omega
  · omega
theorem bdO {tb : Tb} {p : Pg} (hs : PgS p) (hT : TbS tb) {a b : Nat} (hb : b < pn p) (r : Nat) : sg (fO tb p r) a b ≤ 400 := by
  have h40 := hs.1
  have h1 : sg (fO tb p r) a b ≤ 9 * (b - a) := sg_le b (fun i _ h2 => by
    have := (hT _ (hs.2.1 i (by omega)).1).2.2.2.2.2.1
    unfold fO fx
    split <;> omega)
  omega
theorem bdW {tb : Tb} {p : Pg} (hs : PgS p) (hT : TbS tb) {a b : Nat} (hb : b ≤ pn p) : sg (fx tb p 0) a b ≤ 400 := by
  have h40 := hs.1
  have h1 : sg (fx tb p 0) a b ≤ 9 * (b - a) := sg_le b (fun i _ h2 => (hT _ (hs.2.1 i (by omega)).1).1)
  omega
theorem bdS {tb : Tb} {p : Pg} (hs : PgS p) (hT : TbS tb) {b : Nat} (hb : b ≤ pn p) : sm (fx tb p 0) b ≤ 400 := by
  have := bdW (a := 0) hs hT hb
  simpa [sg, sm] using this
theorem dlC_le {q : Nat → Nat} {x c : Nat} (h : ∀ r, q r ≤ c) : dlC q x 3 ≤ 6 * c := by
  have h1 : min (q 1) (dlR q x 0) ≤ c := Nat.le_trans (Nat.min_le_left _ _) (h 1)
  have h2 : min (q 2) (dlR q x 1) ≤ c := Nat.le_trans (Nat.min_le_left _ _) (h 2)
  have h3 : min (q 3) (dlR q x 2) ≤ c := Nat.le_trans (Nat.min_le_left _ _) (h 3)
  show 0 + (0 + 1) * min (q 1) (dlR q x 0) + (1 + 1) * min (q 2) (dlR q x 1) + (2 + 1) * min (q 3) (dlR q x 2) ≤ 6 * c
  omega
theorem dlR_le' (q : Nat → Nat) (x r : Nat) : dlR q x (r + 1) ≤ dlR q x r := Nat.sub_le _ _
