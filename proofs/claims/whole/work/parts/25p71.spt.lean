section
variable {M0 M : OV} {l : Nat} {tb : Tb} {p : Pg} {x : List Nat}
theorem D_shy (h37 : W37 M0) (hM : RM (ar M0 8) p) (hl : l < 26) (h : MX M0 M x) (hx : x.length + 18 < 1000) : ∃ M', lp (s_X10_writesClass_32_10 (nI l)) 5000 (0, M) = some M' ∧ MX M0 M' (x ++ qShyB p l ++ qShyE p l) := by
  have b82 : ∀ M', KW M0 M' → ar M' 8 82 = pb p := fun M' k => by rw [k.1 8 (by decide)]; exact hM.2.2.2.2.2.2.1
  have b83 : ∀ M', KW M0 M' → ar M' 8 83 = pe p := fun M' k => by rw [k.1 8 (by decide)]; exact hM.2.2.2.2.2.2.2
  have s0 : ∃ M1, s_X10_writesClass_32_10 (nI l) (0, M) = some (.inl (1, M1)) ∧ MX M0 M1 (x ++ qShyB p l) := by
    have st : s_X10_writesClass_32_10 (nI l) (0, M) = (if bt (pb p) l = false then some (.inl (1, M)) else (f_X10_writesMore M (2 : Int32)).bind (un1 (fun M_18 => (f_X10_writesMore M_18 (3 : Int32)).bind (un1 (fun M_20 => some (.inl (1, M_20))))))) := by
      simp only [s_X10_writesClass_32_10, un2, if_neg (show ¬ (2 : Int32) ≤ 0 by decide), show (82 : Int32) + 0 = 82 from rfl, gd_t (show ix (82 : Int32) 113 = true by decide), show (82 : Int32).toNatClampNeg = 82 from rfl, b82 M h.1, M_isIn, Option.bind_some, un1, bo_0, j_X10_writesClass_68_16, bnd, show (0 : Int32) + 1 = 1 from rfl, show (3 : Int32) + 0 = 3 from rfl]
    rw [st]
    unfold qShyB
    cases c : bt (pb p) l
    · rw [if_pos rfl, if_neg (by simp), List.append_nil]
      exact ⟨M, rfl, h⟩
    · rw [if_neg (by simp), if_pos rfl]
      obtain ⟨S1, e1, h1⟩ := MX_more h37 h wrd_2 (by show _ + 1 + 3 < _; omega)
      have e1' : f_X10_writesMore M (2 : Int32) = some S1 := e1
      obtain ⟨S2, e2, h2⟩ := MX_more h37 h1 wrd_3 (by simp only [List.length_append, List.length_cons, List.length_nil]; omega)
      have e2' : f_X10_writesMore S1 (3 : Int32) = some S2 := e2
      refine ⟨S2, by rw [e1', Option.bind_some]; simp only [un1]; rw [e2', Option.bind_some], ?_⟩
      simp only [List.append_assoc, List.cons_append, List.nil_append] at h2 ⊢
      exact h2
  obtain ⟨M1, g1, h1⟩ := s0
  have q1 := (q_len (fun _ _ => 0) p l).1
  have s1 : ∃ M2, s_X10_writesClass_32_10 (nI l) (1, M1) = some (.inl (2, M2)) ∧ MX M0 M2 (x ++ qShyB p l ++ qShyE p l) := by
    have st : s_X10_writesClass_32_10 (nI l) (1, M1) = (if bt (pe p) l = false then some (.inl (2, M1)) else (f_X10_writesMore M1 (2 : Int32)).bind (un1 (fun M_18 => (f_X10_writesMore M_18 (4 : Int32)).bind (un1 (fun M_20 => some (.inl (2, M_20))))))) := by
      simp only [s_X10_writesClass_32_10, un2, if_neg (show ¬ (2 : Int32) ≤ 1 by decide), show (82 : Int32) + 1 = 83 from rfl, gd_t (show ix (83 : Int32) 113 = true by decide), show (83 : Int32).toNatClampNeg = 83 from rfl, b83 M1 h1.1, M_isIn, Option.bind_some, un1, bo_0, j_X10_writesClass_68_16, bnd, show (1 : Int32) + 1 = 2 from rfl, show (3 : Int32) + 1 = 4 from rfl]
    rw [st]
    have qe : qShyE p l = if bt (pe p) l = true then [32, 115, 104, 121, 32, 101, 110, 100] else [] := rfl
    rw [qe]
    cases c : bt (pe p) l
    · rw [if_pos rfl, if_neg (by simp), List.append_nil]
      exact ⟨M1, rfl, h1⟩
    · rw [if_neg (by simp), if_pos rfl]
      have q1' : (x ++ qShyB p l).length ≤ x.length + 10 := by rw [List.length_append]; omega
      obtain ⟨S1, e1, h1⟩ := MX_more h37 h1 wrd_2 (by show _ + 1 + 3 < _; omega)
      have e1' : f_X10_writesMore M1 (2 : Int32) = some S1 := e1
      obtain ⟨S2, e2, h2⟩ := MX_more h37 h1 wrd_4 (by simp only [List.length_append, List.length_cons, List.length_nil] at q1' ⊢; omega)
      have e2' : f_X10_writesMore S1 (4 : Int32) = some S2 := e2
      refine ⟨S2, by rw [e1', Option.bind_some]; simp only [un1]; rw [e2', Option.bind_some], ?_⟩
      simp only [List.append_assoc, List.cons_append, List.nil_append] at h2 ⊢
      exact h2
  obtain ⟨M2, g2, h2⟩ := s1
  have g3 : s_X10_writesClass_32_10 (nI l) (2, M2) = some (.inr M2) := by simp only [s_X10_writesClass_32_10, un2, if_pos (show (2 : Int32) ≤ 2 by decide)]
  refine ⟨M2, ?_, h2⟩
  rw [lp_l g1, lp_l g2, lp_r g3]
theorem D_class (h37 : W37 M0) (hM : RM (ar M0 8) p) (hR : RT M0 tb) (hT : TbS tb) (hl : l < 26) (h0 : 0 < tb 0 l) (h : MX M0 M x) (hx : x.length + 76 < 1000) : ∃ M', f_X10_writesClass M (nI l) = some M' ∧ MX M0 M' (x ++ qHd tb l ++ qShyB p l ++ qShyE p l ++ qHang tb l ++ qTrim tb l ++ qSq tb l ++ qOp tb l ++ [59]) := by
  have xl : ix (nI l) 26 = true := ix_nI hl (by decide)
  have cl := nI_clamp (show l < 2 ^ 31 by omega)
  have ql := q_len tb p l
  obtain ⟨S1, e1, h1⟩ := MX_word h37 h wrd_0 (by show _ + 5 < _; omega)
  have e1' : f_X10_writesWord M (0 : Int32) = some S1 := e1
  obtain ⟨S2, e2, h2⟩ := MX_add h1 (by simp only [List.length_append, List.length_cons, List.length_nil]; omega) 32
  have e2' : f_X10_writes S1 (32 : Int32) = some S2 := e2
  obtain ⟨S3, e3, h3⟩ := MX_add h2 (by simp only [List.length_append, List.length_cons, List.length_nil]; omega) (97 + l)
  obtain ⟨S4, e4, h4⟩ := MX_num h37 h3 wrd_1 (tb 0 l) (by simp only [List.length_append, List.length_cons, List.length_nil]; omega)
  have e4' : f_X10_writesNumber S3 (1 : Int32) (nI (tb 0 l)) = some S4 := e4
  have h4' : MX M0 S4 (x ++ qHd tb l) := by
    unfold qHd
    simp only [List.append_assoc, List.cons_append, List.nil_append] at h4 ⊢
    exact h4
  have q4 : (x ++ qHd tb l).length = x.length + 14 := by rw [List.length_append]; rfl
  obtain ⟨S5, e5, h5⟩ := D_shy (p := p) h37 hM hl h4' (by omega)
  have q5 : (x ++ qHd tb l ++ qShyB p l ++ qShyE p l).length ≤ x.length + 32 := by rw [List.length_append, List.length_append, q4]; omega
  have a1 : ar S3 1 l = nI (tb 0 l) := by rw [h3.1.1 1 (by decide)]; exact (hR l hl).1
  have a2 : ar S5 2 l = nI (tb 3 l) := by rw [h5.1.1 2 (by decide)]; exact ((hR l hl).2 h0).1
  have t3 := (hT l hl).2.1
  have z : (nI (tb 3 l) = (0 : Int32)) = (tb 3 l = 0) := nIe (b := 0) (by omega) (by decide)
  have fin : ∃ M', (if tb 3 l = 0 then j_X10_writesClass_88_24 (nI l) S5 else (f_X10_writesMore S5 (5 : Int32)).bind (un1 (fun M_43 => j_X10_writesClass_88_24 (nI l) M_43))) = some M' ∧ MX M0 M' (x ++ qHd tb l ++ qShyB p l ++ qShyE p l ++ qHang tb l ++ qTrim tb l ++ qSq tb l ++ qOp tb l ++ [59]) := by
    have qh : qHang tb l = if tb 3 l = 1 then [32, 104, 97, 110, 103] else [] := rfl
    rw [qh]
    by_cases c : tb 3 l = 0
    · rw [if_pos c, if_neg (by omega), List.append_nil]
      exact D_trim h37 hR hT hl h0 h5 (by omega)
    · rw [if_neg c, if_pos (by omega)]
      obtain ⟨S6, e6, h6⟩ := MX_more h37 h5 wrd_5 (by show _ + 1 + 4 < _; omega)
      have e6' : f_X10_writesMore S5 (5 : Int32) = some S6 := e6
      obtain ⟨S7, e7, h7⟩ := D_trim h37 hR hT hl h0 h6 (by simp only [List.length_append, List.length_cons, List.length_nil] at q5 ⊢; omega)
      refine ⟨S7, ?_, ?_⟩
      · rw [e6', Option.bind_some]
        exact e7
      · simp only [List.append_assoc, List.cons_append, List.nil_append] at h7 ⊢
        exact h7
  obtain ⟨M', g1, g2⟩ := fin
  refine ⟨M', ?_, g2⟩
  rw [← g1]
  unfold f_X10_writesClass
  rw [e1', Option.bind_some]
  simp only [un1]
  rw [e2', Option.bind_some]
  simp only [show (97 : Int32) + nI l = nI (97 + l) from nI_add 97 l]
  rw [e3, Option.bind_some]
  simp only [gd_t xl, cl, a1]
  rw [e4', Option.bind_some]
  simp only [bnd_e]
  rw [e5, Option.bind_some]
  simp only [a2, z]
end
