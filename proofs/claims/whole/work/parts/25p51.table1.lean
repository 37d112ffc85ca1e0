theorem bo_1e (b : Bool) : (bo b = (1 : Int32)) = (b = true) := by cases b <;> exact propext ⟨fun h => by first | rfl | exact absurd h (by decide), fun h => by first | rfl | cases h⟩
-- the parts of a class's text
def qShyB (p : Pg) (l : Nat) : List Nat := if bt (pb p) l = true then [32, 115, 104, 121, 32, 98, 101, 103, 105, 110] else []
def qShyE (p : Pg) (l : Nat) : List Nat := if bt (pe p) l = true then [32, 115, 104, 121, 32, 101, 110, 100] else []
def qHang (tb : Tb) (l : Nat) : List Nat := if tb 3 l = 1 then [32, 104, 97, 110, 103] else []
def qTrim (tb : Tb) (l : Nat) : List Nat := if tb 4 l ≤ 0 then [] else [32, 116, 114, 105, 109, 32] ++ [48 + tb 4 l]
def qSq (tb : Tb) (l : Nat) : List Nat := if tb 5 l ≤ 0 then [] else [32, 115, 113, 117, 101, 101, 122, 101, 32] ++ [48 + tb 5 l] ++ [32, 114, 97, 110, 107, 32] ++ [48 + tb 6 l]
def qOp (tb : Tb) (l : Nat) : List Nat := if tb 7 l ≤ 0 then [] else [32, 111, 112, 101, 110, 32] ++ [48 + tb 7 l] ++ [32, 114, 97, 110, 107, 32] ++ [48 + tb 8 l]
def qHd (tb : Tb) (l : Nat) : List Nat := [99, 108, 97, 115, 115, 32] ++ [97 + l] ++ [32, 119, 105, 100, 101, 32] ++ [48 + tb 0 l]
theorem q_len (tb : Tb) (p : Pg) (l : Nat) : (qShyB p l).length ≤ 10 ∧ (qShyE p l).length ≤ 8 ∧ (qHang tb l).length ≤ 5 ∧ (qTrim tb l).length ≤ 7 ∧ (qSq tb l).length ≤ 17 ∧ (qOp tb l).length ≤ 14 ∧ (qHd tb l).length = 14 := by
  refine ⟨?_, ?_, ?_, ?_, ?_, ?_, rfl⟩
  · unfold qShyB; split <;> decide
  · unfold qShyE; split <;> decide
  · unfold qHang; split <;> decide
  · unfold qTrim; split
    · decide
    · show 7 ≤ 7; decide
  · unfold qSq; split
    · decide
    · show 17 ≤ 17; decide
  · unfold qOp; split
    · decide
    · show 14 ≤ 14; decide
theorem C_end {S : OV} {aS : Nat → Nat} {x : List Nat} (hN : aS 98 = 1000) (h : TX S x) (hl : x.length + 1 < 1000) : ∃ S', j_X9_spellClass_268_27 aS S = some S' ∧ TX S' (x ++ [59]) := by
  obtain ⟨S1, e1, h1⟩ := TX_add hN h (by omega) 59
  have e1' : f_X0_add aS S (59 : Int32) = some S1 := e1
  exact ⟨S1, by simp only [j_X9_spellClass_268_27, e1', Option.bind_some, un1], h1⟩
section
variable {S L C P : OV} {aS : Nat → Nat} {oC l : Nat} {tb : Tb} {p : Pg} {x : List Nat}
theorem C_op (hL : nv L 10 = oC) (hN : aS 98 = 1000) (hC : RC C tb) (hT : TbS tb) (hl : l < 26) (h : TX S x) (hx : x.length + 15 < 1000) : ∃ S', j_X9_spellClass_209_24 oC aS L C (nI l) S = some S' ∧ TX S' (x ++ qOp tb l ++ [59]) := by
  have xl : ix (nI l) 26 = true := ix_nI hl (by decide)
  have cl := nI_clamp (show l < 2 ^ 31 by omega)
  have t7 := (hT l hl).2.2.2.2.2.1
  have z : (nI (tb 7 l) ≤ (0 : Int32)) = (tb 7 l ≤ 0) := nIle (b := 0) (by omega) (by decide)
  simp only [j_X9_spellClass_209_24, gd_t (decide_eq_true hL), gd_t (show ix (7 : Int32) 9 = true by decide), gd_t (show ix (8 : Int32) 9 = true by decide), gd_t xl, cl, show (7 : Int32).toNatClampNeg = 7 from rfl, show (8 : Int32).toNatClampNeg = 8 from rfl, hC 7 (by decide) l hl, hC 8 (by decide) l hl, z]
  unfold qOp
  by_cases c : tb 7 l ≤ 0
  · rw [if_pos c, if_pos c, List.append_nil]
    exact C_end hN h (by omega)
  · rw [if_neg c, if_neg c]
    obtain ⟨S1, e1, h1⟩ := TX_num hN h txt_19 (tb 7 l) (by show _ + 6 + 1 < _; omega)
    have q1 : (x ++ [32, 111, 112, 101, 110, 32] ++ [48 + tb 7 l]).length = x.length + 7 := by rw [List.length_append, List.length_append]; rfl
    obtain ⟨S2, e2, h2⟩ := TX_num hN h1 txt_18 (tb 8 l) (by show _ + 6 + 1 < _; omega)
    obtain ⟨S3, e3, h3⟩ := C_end hN h2 (by rw [List.length_append, List.length_append, q1]; show _ + 6 + 1 + 1 < _; omega)
    refine ⟨S3, ?_, ?_⟩
    · rw [e1, Option.bind_some]
      simp only [un1]
      rw [e2, Option.bind_some]
      exact e3
    · simp only [List.append_assoc] at h3 ⊢
      exact h3
theorem C_sq (hL : nv L 10 = oC) (hN : aS 98 = 1000) (hC : RC C tb) (hT : TbS tb) (hl : l < 26) (h : TX S x) (hx : x.length + 32 < 1000) : ∃ S', j_X9_spellClass_152_21 oC aS L C (nI l) S = some S' ∧ TX S' (x ++ qSq tb l ++ qOp tb l ++ [59]) := by
  have xl : ix (nI l) 26 = true := ix_nI hl (by decide)
  have cl := nI_clamp (show l < 2 ^ 31 by omega)
  have t5 := (hT l hl).2.2.2.1
  have z : (nI (tb 5 l) ≤ (0 : Int32)) = (tb 5 l ≤ 0) := nIle (b := 0) (by omega) (by decide)
  simp only [j_X9_spellClass_152_21, gd_t (decide_eq_true hL), gd_t (show ix (5 : Int32) 9 = true by decide), gd_t (show ix (6 : Int32) 9 = true by decide), gd_t xl, cl, show (5 : Int32).toNatClampNeg = 5 from rfl, show (6 : Int32).toNatClampNeg = 6 from rfl, hC 5 (by decide) l hl, hC 6 (by decide) l hl, z]
  unfold qSq
  by_cases c : tb 5 l ≤ 0
  · rw [if_pos c, if_pos c, List.append_nil]
    exact C_op hL hN hC hT hl h (by omega)
  · rw [if_neg c, if_neg c]
    obtain ⟨S1, e1, h1⟩ := TX_num hN h txt_17 (tb 5 l) (by show _ + 9 + 1 < _; omega)
    have q1 : (x ++ [32, 115, 113, 117, 101, 101, 122, 101, 32] ++ [48 + tb 5 l]).length = x.length + 10 := by rw [List.length_append, List.length_append]; rfl
    obtain ⟨S2, e2, h2⟩ := TX_num hN h1 txt_18 (tb 6 l) (by show _ + 6 + 1 < _; omega)
    obtain ⟨S3, e3, h3⟩ := C_op hL hN hC hT hl h2 (by rw [List.length_append, List.length_append, q1]; show _ + 6 + 1 + 15 < _; omega)
    refine ⟨S3, ?_, ?_⟩
    · rw [e1, Option.bind_some]
      simp only [un1]
      rw [e2, Option.bind_some]
      exact e3
    · simp only [List.append_assoc] at h3 ⊢
      exact h3
theorem C_trim (hL : nv L 10 = oC) (hN : aS 98 = 1000) (hC : RC C tb) (hT : TbS tb) (hl : l < 26) (h : TX S x) (hx : x.length + 39 < 1000) : ∃ S', j_X9_spellClass_117_18 oC aS L C (nI l) S = some S' ∧ TX S' (x ++ qTrim tb l ++ qSq tb l ++ qOp tb l ++ [59]) := by
  have xl : ix (nI l) 26 = true := ix_nI hl (by decide)
  have cl := nI_clamp (show l < 2 ^ 31 by omega)
  have t4 := (hT l hl).2.2.1
  have z : (nI (tb 4 l) ≤ (0 : Int32)) = (tb 4 l ≤ 0) := nIle (b := 0) (by omega) (by decide)
  simp only [j_X9_spellClass_117_18, gd_t (decide_eq_true hL), gd_t (show ix (4 : Int32) 9 = true by decide), gd_t xl, cl, show (4 : Int32).toNatClampNeg = 4 from rfl, hC 4 (by decide) l hl, z]
  unfold qTrim
  by_cases c : tb 4 l ≤ 0
  · rw [if_pos c, if_pos c, List.append_nil]
    exact C_sq hL hN hC hT hl h (by omega)
  · rw [if_neg c, if_neg c]
    obtain ⟨S1, e1, h1⟩ := TX_num hN h txt_16 (tb 4 l) (by show _ + 6 + 1 < _; omega)
    obtain ⟨S3, e3, h3⟩ := C_sq hL hN hC hT hl h1 (by rw [List.length_append, List.length_append]; show _ + 6 + 1 + 32 < _; omega)
    refine ⟨S3, ?_, ?_⟩
    · rw [e1, Option.bind_some]
      exact e3
    · simp only [List.append_assoc] at h3 ⊢
      exact h3
theorem C_hang (hL : nv L 10 = oC) (hN : aS 98 = 1000) (hC : RC C tb) (hT : TbS tb) (hl : l < 26) (h : TX S x) (hx : x.length + 44 < 1000) : ∃ S', j_X9_spellClass_92_15 oC aS L C (nI l) S = some S' ∧ TX S' (x ++ qHang tb l ++ qTrim tb l ++ qSq tb l ++ qOp tb l ++ [59]) := by
  have xl : ix (nI l) 26 = true := ix_nI hl (by decide)
  have cl := nI_clamp (show l < 2 ^ 31 by omega)
  have t3 := (hT l hl).2.1
  have z : (nI (tb 3 l) = (1 : Int32)) = (tb 3 l = 1) := nIe (b := 1) (by omega) (by decide)
  simp only [j_X9_spellClass_92_15, gd_t (decide_eq_true hL), gd_t (show ix (3 : Int32) 9 = true by decide), gd_t xl, cl, show (3 : Int32).toNatClampNeg = 3 from rfl, hC 3 (by decide) l hl, z]
  unfold qHang
  by_cases c : tb 3 l = 1
  · rw [if_pos c, if_pos c]
    obtain ⟨S1, e1, h1⟩ := TX_text hN h txt_15 (by show _ + 5 < _; omega)
    obtain ⟨S3, e3, h3⟩ := C_trim hL hN hC hT hl h1 (by rw [List.length_append]; show _ + 5 + 39 < _; omega)
    refine ⟨S3, ?_, h3⟩
    rw [e1, Option.bind_some]
    exact e3
  · rw [if_neg c, if_neg c, List.append_nil]
    exact C_trim hL hN hC hT hl h (by omega)
theorem C_shyE (hL : nv L 10 = oC) (hN : aS 98 = 1000) (hC : RC C tb) (hT : TbS tb) (hP : RP P p) (hl : l < 26) (h : TX S x) (hx : x.length + 52 < 1000) : ∃ S', j_X9_spellClass_67_11 oC aS L P C (nI l) S = some S' ∧ TX S' (x ++ qShyE p l ++ qHang tb l ++ qTrim tb l ++ qSq tb l ++ qOp tb l ++ [59]) := by
  simp only [j_X9_spellClass_67_11, f_X9_bitOf, hP.2.2.2.2.2.2.2, bit_bo, Option.bind_some, un1, bo_1e]
  unfold qShyE
  by_cases c : bt (pe p) l = true
  · rw [if_pos c, if_pos c]
    obtain ⟨S1, e1, h1⟩ := TX_text hN h txt_14 (by show _ + 8 < _; omega)
    obtain ⟨S3, e3, h3⟩ := C_hang hL hN hC hT hl h1 (by rw [List.length_append]; show _ + 8 + 44 < _; omega)
    refine ⟨S3, ?_, h3⟩
    rw [e1, Option.bind_some]
    exact e3
  · rw [if_neg c, if_neg c, List.append_nil]
    exact C_hang hL hN hC hT hl h (by omega)
theorem C_class (hL : nv L 10 = oC) (hN : aS 98 = 1000) (hC : RC C tb) (hT : TbS tb) (hP : RP P p) (hl : l < 26) (h : TX S x) (hx : x.length + 76 < 1000) : ∃ S', f_X9_spellClass L aS S P oC C (nI l) = some S' ∧ TX S' (x ++ qHd tb l ++ qShyB p l ++ qShyE p l ++ qHang tb l ++ qTrim tb l ++ qSq tb l ++ qOp tb l ++ [59]) := by
  have xl : ix (nI l) 26 = true := ix_nI hl (by decide)
  have cl := nI_clamp (show l < 2 ^ 31 by omega)
  obtain ⟨S1, e1, h1⟩ := TX_text hN h txt_11 (by show _ + 6 < _; omega)
  obtain ⟨S2, e2, h2⟩ := TX_add hN h1 (by rw [List.length_append]; show _ + 6 < _; omega) (97 + l)
  obtain ⟨S3, e3, h3⟩ := TX_num hN h2 txt_12 (tb 0 l) (by rw [List.length_append, List.length_append]; show _ + 6 + 1 + 6 + 1 < _; omega)
  have h3' : TX S3 (x ++ qHd tb l) := by
    unfold qHd
    simp only [List.append_assoc] at h3 ⊢
    exact h3
  have q3 : (x ++ qHd tb l).length = x.length + 14 := by rw [List.length_append]; rfl
  have a1 : (97 : Int32) + nI l = nI (97 + l) := nI_add 97 l
  unfold f_X9_spellClass
  rw [e1, Option.bind_some]
  simp only [un1]
  rw [a1, e2, Option.bind_some]
  simp only [gd_t (decide_eq_true hL), gd_t (show ix (0 : Int32) 9 = true by decide), gd_t xl, cl, show (0 : Int32).toNatClampNeg = 0 from rfl, hC 0 (by decide) l hl]
  rw [e3, Option.bind_some]
  simp only [f_X9_bitOf, hP.2.2.2.2.2.2.1, bit_bo, Option.bind_some, bo_1e]
  unfold qShyB
  by_cases c : bt (pb p) l = true
  · rw [if_pos c, if_pos c]
    obtain ⟨S4, e4, h4⟩ := TX_text hN h3' txt_13 (by show _ + 10 < _; omega)
    obtain ⟨S5, e5, h5⟩ := C_shyE hL hN hC hT hP hl h4 (by rw [List.length_append]; show _ + 10 + 52 < _; omega)
    refine ⟨S5, ?_, h5⟩
    rw [e4, Option.bind_some]
    exact e5
  · rw [if_neg c, if_neg c, List.append_nil]
    exact C_shyE hL hN hC hT hP hl h3' (by omega)
theorem C_pair {m : Nat} (hN : aS 98 = 1000) (h : TX S x) (hx : x.length + 9 < 1000) : ∃ S', f_X9_spellPair aS S (nI l) (nI m) = some S' ∧ TX S' (x ++ [107, 101, 101, 112, 32, 97 + l, 32, 97 + m, 59]) := by
  obtain ⟨S1, e1, h1⟩ := TX_text hN h txt_20 (by show _ + 5 < _; omega)
  have q1 : (x ++ [107, 101, 101, 112, 32]).length = x.length + 5 := by rw [List.length_append]; rfl
  obtain ⟨S2, e2, h2⟩ := TX_add hN h1 (by omega) (97 + l)
  have q2 : (x ++ [107, 101, 101, 112, 32] ++ [97 + l]).length = x.length + 6 := by rw [List.length_append, q1]; rfl
  obtain ⟨S3, e3, h3⟩ := TX_add hN h2 (by omega) 32
  have q3 : (x ++ [107, 101, 101, 112, 32] ++ [97 + l] ++ [32]).length = x.length + 7 := by rw [List.length_append, q2]; rfl
  obtain ⟨S4, e4, h4⟩ := TX_add hN h3 (by omega) (97 + m)
  have q4 : (x ++ [107, 101, 101, 112, 32] ++ [97 + l] ++ [32] ++ [97 + m]).length = x.length + 8 := by rw [List.length_append, q3]; rfl
  obtain ⟨S5, e5, h5⟩ := TX_add hN h4 (by omega) 59
  have e3' : f_X0_add aS S2 (32 : Int32) = some S3 := e3
  have e5' : f_X0_add aS S4 (59 : Int32) = some S5 := e5
  refine ⟨S5, ?_, ?_⟩
  · unfold f_X9_spellPair
    rw [e1, Option.bind_some]
    simp only [un1, show (97 : Int32) + nI l = nI (97 + l) from nI_add 97 l, show (97 : Int32) + nI m = nI (97 + m) from nI_add 97 m]
    rw [e2, Option.bind_some]
    simp only [e3', Option.bind_some, e4, e5']
  · simp only [List.append_assoc] at h5 ⊢
    exact h5
end
