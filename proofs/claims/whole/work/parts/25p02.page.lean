abbrev Pg : Type := Nat × (Nat → Nat) × (Nat → Nat) × (Nat → Int32) × (Nat → Nat) × Nat × Int32 × Int32
def pn (p : Pg) : Nat := p.1
def ps (p : Pg) (i : Nat) : Nat := p.2.1 i
def pm (p : Pg) (i : Nat) : Nat := p.2.2.1 i
def pt (p : Pg) (l : Nat) : Int32 := p.2.2.2.1 l
def pw (p : Pg) (k : Nat) : Nat := p.2.2.2.2.1 k
def pd (p : Pg) : Nat := p.2.2.2.2.2.1
def pb (p : Pg) : Int32 := p.2.2.2.2.2.2.1
def pe (p : Pg) : Int32 := p.2.2.2.2.2.2.2
/-- whether a set has a letter -/
def bt (w : Int32) (k : Nat) : Bool := decide ((w >>> (nI k &&& 31)) &&& 1 = 1)
def bo (b : Bool) : Int32 := if b = true then 1 else 0
theorem and1 (x : Int32) : x &&& 1 = 0 ∨ x &&& 1 = 1 := by
  have h : x.toBitVec &&& 1#32 = 0#32 ∨ x.toBitVec &&& 1#32 = 1#32 := by
    generalize x.toBitVec = b
    by_cases hb : b.getLsbD 0 = true
    · right
      apply BitVec.eq_of_getLsbD_eq
      intro i hi
      rw [BitVec.getLsbD_and]
      by_cases h0 : i = 0
      · subst h0; simp [hb]
      · simp [h0]
    · left
      have hb' : b.getLsbD 0 = false := Bool.eq_false_iff.mpr hb
      apply BitVec.eq_of_getLsbD_eq
      intro i hi
      rw [BitVec.getLsbD_and]
      by_cases h0 : i = 0
      · subst h0; rw [hb', Bool.false_and]; rfl
      · simp [h0]
  rcases h with h | h
  · left; exact Int32.toBitVec_inj.mp h
  · right; exact Int32.toBitVec_inj.mp h
theorem bit_bo (w : Int32) (k : Nat) : (w >>> (nI k &&& 31)) &&& 1 = bo (bt w k) := by
  unfold bo bt
  rcases and1 (w >>> (nI k &&& 31)) with h | h
  · rw [h]; simp
  · rw [h]; simp
theorem bo_0 (b : Bool) : bo b = 0 ↔ b = false := by cases b <;> decide
theorem bo_1 (b : Bool) : bo b = 1 ↔ b = true := by cases b <;> decide
def RP (P : OV) (p : Pg) : Prop := iv P 4 = nI (pn p) ∧ (∀ i, i < pn p → ar P 0 i = nI (ps p i)) ∧ (∀ i, i < pn p → ar P 1 i = nI (pm p i)) ∧ (∀ l, l < 26 → ar P 2 l = pt p l) ∧ (∀ k, k < 3 → ar P 3 k = nI (pw p k)) ∧ iv P 5 = nI (pd p) ∧ iv P 6 = pb p ∧ iv P 7 = pe p
def RM (f : Nat → Int32) (p : Pg) : Prop := f 0 = nI (pn p) ∧ (∀ i, i < pn p → f (1 + i) = nI (ps p i)) ∧ (∀ i, i < pn p → f (41 + i) = nI (pm p i)) ∧ (∀ l, l < 26 → f (87 + l) = pt p l) ∧ (∀ k, k < 3 → f (84 + k) = nI (pw p k)) ∧ f 81 = nI (pd p) ∧ f 82 = pb p ∧ f 83 = pe p
def PgS (p : Pg) : Prop := pn p ≤ 40 ∧ (∀ i, i < pn p → ps p i < 26 ∧ pm p i ≤ 2) ∧ 4 ≤ pd p ∧ pd p ≤ 80 ∧ pw p 0 ≤ 9 ∧ 1 ≤ pw p 1 ∧ pw p 1 ≤ 99 ∧ 1 ≤ pw p 2 ∧ pw p 2 ≤ 9999
def lgl (p : Pg) (i : Nat) : Bool := decide (i + 1 = pn p ∨ pm p i = 1 ∨ (pm p i ≠ 2 ∧ bt (pe p) (ps p i) = false ∧ bt (pb p) (ps p (i + 1)) = false ∧ bt (pt p (ps p i)) (ps p (i + 1)) = false))
theorem nIe {a b : Nat} (ha : a < 2 ^ 31) (hb : b < 2 ^ 31) : (nI a = nI b) = (a = b) := propext (nI_eq ha hb)
theorem nI_m1 {n : Nat} (h : 0 < n) : nI n - 1 = nI (n - 1) := by
  obtain ⟨m, rfl⟩ : ∃ m, n = m + 1 := ⟨n - 1, by omega⟩
  exact nI_pred m
theorem P_legal {P : OV} {p : Pg} (h : RP P p) (hs : PgS p) {i : Nat} (hi : i < pn p) : f_X4_isLegalEnd P (nI i) = some (bo (lgl p i)) := by
  obtain ⟨h4, h0, h1, h2, h3, h5, h6, h7⟩ := h
  obtain ⟨s1, s2, -⟩ := hs
  have hn : pn p < 2 ^ 31 := by omega
  have hi31 : i < 2 ^ 31 := by omega
  have hm := (s2 i hi).2
  have e1 : (nI i = iv P 4 - 1) = (i + 1 = pn p) := by
    rw [h4, nI_m1 (by omega), nIe hi31 (by omega)]
    exact propext ⟨fun _ => by omega, fun _ => by omega⟩
  unfold f_X4_isLegalEnd
  simp only [e1]
  by_cases c1 : i + 1 = pn p
  · simp [c1, lgl, bo]
  · have ex : ix (nI i) 40 = true := ix_nI (by omega) (by decide)
    have ex1 : ix (nI (i + 1)) 40 = true := ix_nI (by omega) (by decide)
    have em1 : (nI (pm p i) = (1 : Int32)) = (pm p i = 1) := nIe (by omega) (by decide)
    have em2 : (nI (pm p i) = (2 : Int32)) = (pm p i = 2) := nIe (by omega) (by decide)
    have l0 := (s2 i hi).1
    have l1 := (s2 (i + 1) (by omega)).1
    have ex2 : ix (nI (ps p i)) 26 = true := ix_nI l0 (by decide)
    simp only [if_neg c1, gd_t ex, gd_t ex1, nI_1, nI_clamp hi31, nI_clamp (show i + 1 < 2 ^ 31 by omega), h1 i hi, em1, em2, h0 i hi, h0 (i + 1) (by omega), bnd, f_X9_bitOf, Option.bind_some, un1, h7, h6, bit_bo, bo_0, gd_t ex2, nI_clamp (show ps p i < 2 ^ 31 by omega), h2 _ l0, j_X4_isLegalEnd_89_5]
    unfold lgl
    by_cases c2 : pm p i = 1
    · simp [c1, c2, bo]
    · by_cases c3 : pm p i = 2
      · simp [c1, c3, bo]
      · cases bt (pe p) (ps p i) <;> cases bt (pb p) (ps p (i + 1)) <;> cases bt (pt p (ps p i)) (ps p (i + 1)) <;> simp [c1, c2, c3, bo]
theorem M_many {M : OV} {p : Pg} (h : RM (ar M 8) p) : f_X10_many M = some (nI (pn p)) := by
  unfold f_X10_many
  rw [gd_t (by decide), show (0 : Int32).toNatClampNeg = 0 from rfl, h.1]
theorem M_class {M : OV} {p : Pg} (h : RM (ar M 8) p) (hs : PgS p) {i : Nat} (hi : i < pn p) : f_X10_classOf M (nI i) = some (nI (ps p i)) := by
  have h40 := hs.1
  unfold f_X10_classOf
  rw [show (1 : Int32) + nI i = nI (1 + i) from nI_add 1 i, gd_t (ix_nI (by omega) (by decide)), nI_clamp (by omega), h.2.1 i hi]
theorem M_mark {M : OV} {p : Pg} (h : RM (ar M 8) p) (hs : PgS p) {i : Nat} (hi : i < pn p) : f_X10_markOf M (nI i) = some (nI (pm p i)) := by
  have h40 := hs.1
  unfold f_X10_markOf
  rw [show (41 : Int32) + nI i = nI (41 + i) from nI_add 41 i, gd_t (ix_nI (by omega) (by decide)), nI_clamp (by omega), h.2.2.1 i hi]
theorem M_isIn (w : Int32) (k : Nat) : f_X10_isIn w (nI k) = some (bo (bt w k)) := by
  unfold f_X10_isIn
  simp only [bit_bo, bo_1]
  cases bt w k <;> simp [bo]
theorem b01_bo (b : Bool) : b01 (bo b) = true := by cases b <;> decide
theorem M_pair {M : OV} {p : Pg} (h : RM (ar M 8) p) {a : Nat} (ha : a < 26) (b : Nat) : f_X10_arePair M (nI a) (nI b) = some (bo (bt (pt p a) b)) := by
  unfold f_X10_arePair
  rw [show (87 : Int32) + nI a = nI (87 + a) from nI_add 87 a, gd_t (ix_nI (by omega) (by decide)), nI_clamp (by omega), h.2.2.2.1 a ha, M_isIn]
  simp only [Option.bind_some, un1, gd_t (b01_bo _)]
theorem M_legal {M : OV} {p : Pg} (h : RM (ar M 8) p) (hs : PgS p) {i : Nat} (hi : i < pn p) : f_X10_isLegal M (nI i) = some (bo (lgl p i)) := by
  have h40 := hs.1
  have s2 := hs.2.1
  have hi31 : i < 2 ^ 31 := by omega
  have hm := (s2 i hi).2
  have e1 : (nI i = nI (pn p) - 1) = (i + 1 = pn p) := by
    rw [nI_m1 (by omega), nIe hi31 (by omega)]
    exact propext ⟨fun _ => by omega, fun _ => by omega⟩
  unfold f_X10_isLegal
  simp only [M_many h, Option.bind_some, un1, e1]
  by_cases c1 : i + 1 = pn p
  · simp [c1, lgl, bo]
  · have em1 : (nI (pm p i) = (1 : Int32)) = (pm p i = 1) := nIe (by omega) (by decide)
    have em2 : (nI (pm p i) = (2 : Int32)) = (pm p i = 2) := nIe (by omega) (by decide)
    have l0 := (s2 i hi).1
    have e83 : ar M 8 (83 : Int32).toNatClampNeg = pe p := h.2.2.2.2.2.2.2
    have e82 : ar M 8 (82 : Int32).toNatClampNeg = pb p := h.2.2.2.2.2.2.1
    have x83 : ix (83 : Int32) 113 = true := by decide
    have x82 : ix (82 : Int32) 113 = true := by decide
    simp only [if_neg c1, M_mark h hs hi, M_class h hs hi, nI_1, M_class h hs (show i + 1 < pn p by omega), Option.bind_some, un1, bnd, em1, em2, e83, e82, gd_t x83, gd_t x82, M_isIn, M_pair h l0, bo_0, j_X10_isLegal_87_15]
    unfold lgl
    by_cases c2 : pm p i = 1
    · simp [c1, c2, bo]
    · by_cases c3 : pm p i = 2
      · simp [c1, c3, bo]
      · cases bt (pe p) (ps p i) <;> cases bt (pb p) (ps p (i + 1)) <;> cases bt (pt p (ps p i)) (ps p (i + 1)) <;> simp [c1, c2, c3, bo]
