-- the table, and what a ruler has read
abbrev Tb : Type := Nat → Nat → Nat
def RC (C : OV) (tb : Tb) : Prop := ∀ k, k < 9 → ∀ l, l < 26 → gr C 0 k l = nI (tb k l)
def RT (M : OV) (tb : Tb) : Prop := ∀ l, l < 26 → ar M 1 l = nI (tb 0 l) ∧ (0 < tb 0 l → ar M 2 l = nI (tb 3 l) ∧ ar M 3 l = nI (tb 4 l) ∧ ar M 4 l = nI (tb 5 l) ∧ ar M 5 l = nI (tb 6 l) ∧ ar M 6 l = nI (tb 7 l) ∧ ar M 7 l = nI (tb 8 l))
def TbS (tb : Tb) : Prop := ∀ l, l < 26 → tb 0 l ≤ 9 ∧ tb 3 l ≤ 1 ∧ tb 4 l ≤ 8 ∧ tb 5 l ≤ 8 ∧ tb 6 l ≤ 3 ∧ tb 7 l ≤ 9 ∧ tb 8 l ≤ 3 ∧ (0 < tb 0 l → tb 4 l < tb 0 l ∧ tb 5 l < tb 0 l ∧ 1 ≤ tb 6 l ∧ 1 ≤ tb 8 l)
/-- every sign's letter is told -/
def PgT (tb : Tb) (p : Pg) : Prop := ∀ i, i < pn p → 0 < tb 0 (ps p i)
def fx (tb : Tb) (p : Pg) (k i : Nat) : Nat := tb k (ps p i)
def sm (f : Nat → Nat) : Nat → Nat
  | 0 => 0
  | k + 1 => sm f k + f k
theorem sm_le {f : Nat → Nat} {c : Nat} : ∀ k, (∀ i, i < k → f i ≤ c) → sm f k ≤ c * k
  | 0, _ => by simp [sm]
  | k + 1, h => by
    have := sm_le (f := f) (c := c) k (fun i hi => h i (by omega))
    have := h k (by omega)
    simp only [sm, Nat.mul_succ]
    omega
theorem sm_mono {f : Nat → Nat} {a b : Nat} (h : a ≤ b) : sm f a ≤ sm f b := by
  induction b with
  | zero => simp [show a = 0 by omega]
  | succ b ih =>
    rcases Nat.lt_or_ge a (b + 1) with h1 | h1
    · have := ih (by omega); simp only [sm]; omega
    · rw [show a = b + 1 by omega]; exact Nat.le_refl _
def fT (tb : Tb) (p : Pg) (i : Nat) : Nat := fx tb p 0 i - fx tb p 5 i
def fQ (tb : Tb) (p : Pg) (r i : Nat) : Nat := if fx tb p 6 i = r then fx tb p 5 i else 0
def fO (tb : Tb) (p : Pg) (r i : Nat) : Nat := if fx tb p 8 i = r then fx tb p 7 i else 0
/-- the rows of a ruler for the first k signs -/
def RRk (R : OV) (tb : Tb) (p : Pg) (k : Nat) : Prop := (∀ j, j ≤ k → ar R 2 j = nI (sm (fx tb p 0) j)) ∧ (∀ j, j ≤ k → ar R 3 j = nI (sm (fT tb p) j)) ∧ (∀ r, 1 ≤ r → r ≤ 3 → ∀ j, j ≤ k → gr R 4 r j = nI (sm (fQ tb p r) j)) ∧ (∀ r, 1 ≤ r → r ≤ 3 → ∀ j, j ≤ k → gr R 5 r j = nI (sm (fO tb p r) j)) ∧ (∀ j, j < k → ar R 6 j = nI (fx tb p 4 j)) ∧ (∀ j, j < k → ar R 7 j = nI (fx tb p 5 j - fx tb p 4 j)) ∧ (∀ j, j < k → ar R 8 j = nI (fx tb p 6 j)) ∧ (∀ j, j < k → ar R 9 j = nI (fx tb p 3 j)) ∧ (∀ j, j < k → ar R 10 j = bo (lgl p j))
theorem R_fact {R C P : OV} {oC oP : Nat} {tb : Tb} {p : Pg} (h0 : nv R 0 = oC) (h1 : nv R 1 = oP) (hC : RC C tb) (hP : RP P p) (hs : PgS p) {k i : Nat} (hk : k < 9) (hi : i < pn p) : f_X7_factOf R oC C oP P (nI k) (nI i) = some (nI (fx tb p k i)) := by
  have h40 := hs.1
  have l0 := (hs.2.1 i hi).1
  unfold f_X7_factOf
  rw [gd_t (decide_eq_true h0), gd_t (ix_nI hk (by decide)), gd_t (decide_eq_true h1), gd_t (ix_nI (by omega) (by decide)), nI_clamp (show i < 2 ^ 31 by omega), hP.2.1 i hi, gd_t (ix_nI l0 (by decide)), nI_clamp (show k < 2 ^ 31 by omega), nI_clamp (show ps p i < 2 ^ 31 by omega), hC k hk _ l0]
  rfl
