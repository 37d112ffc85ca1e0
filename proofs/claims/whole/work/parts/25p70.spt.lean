section
variable {M0 M : OV} {l : Nat} {tb : Tb} {p : Pg} {x : List Nat}
theorem D_end (h : MX M0 M x) (hl : x.length + 1 < 1200) : ∃ M', j_X10_writesClass_175_30 M = some M' ∧ MX M0 M' (x ++ [59]) := by
  obtain ⟨S1, e1, h1⟩ := MX_add h (by omega) 59
  have e1' : f_X10_writes M (59 : Int32) = some S1 := e1
  exact ⟨S1, by simp only [j_X10_writesClass_175_30, e1', Option.bind_some, un1], h1⟩
theorem D_op (h37 : W37 M0) (hR : RT M0 tb) (hT : TbS tb) (hl : l < 26) (h0 : 0 < tb 0 l) (h : MX M0 M x) (hx : x.length + 15 < 1000) : ∃ M', j_X10_writesClass_142_28 (nI l) M = some M' ∧ MX M0 M' (x ++ qOp tb l ++ [59]) := by
  have xl : ix (nI l) 26 = true := ix_nI hl (by decide)
  have cl := nI_clamp (show l < 2 ^ 31 by omega)
  have t7 := (hT l hl).2.2.2.2.2.1
  have z : (nI (tb 7 l) ≤ (0 : Int32)) = (tb 7 l ≤ 0) := nIle (b := 0) (by omega) (by decide)
  have a6 : ∀ M', KW M0 M' → ar M' 6 l = nI (tb 7 l) := fun M' k => by rw [k.1 6 (by decide)]; exact ((hR l hl).2 h0).2.2.2.2.1
  have a7 : ∀ M', KW M0 M' → ar M' 7 l = nI (tb 8 l) := fun M' k => by rw [k.1 7 (by decide)]; exact ((hR l hl).2 h0).2.2.2.2.2
  simp only [j_X10_writesClass_142_28, gd_t xl, cl, a6 M h.1, z]
  unfold qOp
  by_cases c : tb 7 l ≤ 0
  · rw [if_pos c, if_pos c, List.append_nil]
    exact D_end h (by omega)
  · rw [if_neg c, if_neg c]
    obtain ⟨S1, e1, h1⟩ := MX_num h37 h wrd_9 (tb 7 l) (by show _ + 3 + 4 < _; omega)
    have e1' : f_X10_writesNumber M (9 : Int32) (nI (tb 7 l)) = some S1 := e1
    obtain ⟨S2, e2, h2⟩ := MX_num h37 h1 wrd_8 (tb 8 l) (by simp only [List.length_append, List.length_cons, List.length_nil]; omega)
    have e2' : f_X10_writesNumber S1 (8 : Int32) (nI (tb 8 l)) = some S2 := e2
    obtain ⟨S3, e3, h3⟩ := D_end h2 (by simp only [List.length_append, List.length_cons, List.length_nil]; omega)
    refine ⟨S3, ?_, ?_⟩
    · rw [e1', Option.bind_some]
      simp only [un1, a7 S1 h1.1]
      rw [e2', Option.bind_some]
      exact e3
    · simp only [List.append_assoc, List.cons_append, List.nil_append] at h3 ⊢
      exact h3
theorem D_sq (h37 : W37 M0) (hR : RT M0 tb) (hT : TbS tb) (hl : l < 26) (h0 : 0 < tb 0 l) (h : MX M0 M x) (hx : x.length + 32 < 1000) : ∃ M', j_X10_writesClass_109_26 (nI l) M = some M' ∧ MX M0 M' (x ++ qSq tb l ++ qOp tb l ++ [59]) := by
  have xl : ix (nI l) 26 = true := ix_nI hl (by decide)
  have cl := nI_clamp (show l < 2 ^ 31 by omega)
  have t5 := (hT l hl).2.2.2.1
  have z : (nI (tb 5 l) ≤ (0 : Int32)) = (tb 5 l ≤ 0) := nIle (b := 0) (by omega) (by decide)
  have a4 : ∀ M', KW M0 M' → ar M' 4 l = nI (tb 5 l) := fun M' k => by rw [k.1 4 (by decide)]; exact ((hR l hl).2 h0).2.2.1
  have a5 : ∀ M', KW M0 M' → ar M' 5 l = nI (tb 6 l) := fun M' k => by rw [k.1 5 (by decide)]; exact ((hR l hl).2 h0).2.2.2.1
  simp only [j_X10_writesClass_109_26, gd_t xl, cl, a4 M h.1, z]
  unfold qSq
  by_cases c : tb 5 l ≤ 0
  · rw [if_pos c, if_pos c, List.append_nil]
    exact D_op h37 hR hT hl h0 h (by omega)
  · rw [if_neg c, if_neg c]
    obtain ⟨S1, e1, h1⟩ := MX_num h37 h wrd_7 (tb 5 l) (by show _ + 3 + 7 < _; omega)
    have e1' : f_X10_writesNumber M (7 : Int32) (nI (tb 5 l)) = some S1 := e1
    obtain ⟨S2, e2, h2⟩ := MX_num h37 h1 wrd_8 (tb 6 l) (by simp only [List.length_append, List.length_cons, List.length_nil]; omega)
    have e2' : f_X10_writesNumber S1 (8 : Int32) (nI (tb 6 l)) = some S2 := e2
    obtain ⟨S3, e3, h3⟩ := D_op h37 hR hT hl h0 h2 (by simp only [List.length_append, List.length_cons, List.length_nil]; omega)
    refine ⟨S3, ?_, ?_⟩
    · rw [e1', Option.bind_some]
      simp only [un1, a5 S1 h1.1]
      rw [e2', Option.bind_some]
      exact e3
    · simp only [List.append_assoc, List.cons_append, List.nil_append] at h3 ⊢
      exact h3
theorem D_trim (h37 : W37 M0) (hR : RT M0 tb) (hT : TbS tb) (hl : l < 26) (h0 : 0 < tb 0 l) (h : MX M0 M x) (hx : x.length + 39 < 1000) : ∃ M', j_X10_writesClass_88_24 (nI l) M = some M' ∧ MX M0 M' (x ++ qTrim tb l ++ qSq tb l ++ qOp tb l ++ [59]) := by
  have xl : ix (nI l) 26 = true := ix_nI hl (by decide)
  have cl := nI_clamp (show l < 2 ^ 31 by omega)
  have t4 := (hT l hl).2.2.1
  have z : (nI (tb 4 l) ≤ (0 : Int32)) = (tb 4 l ≤ 0) := nIle (b := 0) (by omega) (by decide)
  have a3 : ar M 3 l = nI (tb 4 l) := by rw [h.1.1 3 (by decide)]; exact ((hR l hl).2 h0).2.1
  simp only [j_X10_writesClass_88_24, gd_t xl, cl, a3, z]
  unfold qTrim
  by_cases c : tb 4 l ≤ 0
  · rw [if_pos c, if_pos c, List.append_nil]
    exact D_sq h37 hR hT hl h0 h (by omega)
  · rw [if_neg c, if_neg c]
    obtain ⟨S1, e1, h1⟩ := MX_num h37 h wrd_6 (tb 4 l) (by show _ + 3 + 4 < _; omega)
    have e1' : f_X10_writesNumber M (6 : Int32) (nI (tb 4 l)) = some S1 := e1
    obtain ⟨S3, e3, h3⟩ := D_sq h37 hR hT hl h0 h1 (by simp only [List.length_append, List.length_cons, List.length_nil]; omega)
    refine ⟨S3, ?_, ?_⟩
    · rw [e1', Option.bind_some]
      exact e3
    · simp only [List.append_assoc, List.cons_append, List.nil_append] at h3 ⊢
      exact h3
end
