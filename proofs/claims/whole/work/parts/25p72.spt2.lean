-- spellTable: classes, pairs, the whole
def qCl (tb : Tb) (p : Pg) (l : Nat) : List Nat := qHd tb l ++ qShyB p l ++ qShyE p l ++ qHang tb l ++ qTrim tb l ++ qSq tb l ++ qOp tb l ++ [59]
theorem qCl_len (tb : Tb) (p : Pg) (l : Nat) : (qCl tb p l).length ≤ 76 := by
  have := q_len tb p l
  have e1 : [59].length = 1 := rfl
  unfold qCl
  simp only [List.length_append, e1]
  omega
def clT (tb : Tb) (p : Pg) : Nat → List Nat
  | 0 => []
  | k + 1 => if 0 < tb 0 k then clT tb p k ++ qCl tb p k else clT tb p k
theorem clT_len (tb : Tb) (p : Pg) : ∀ k, (clT tb p k).length ≤ 76 * sm (fun l => if 0 < tb 0 l then 1 else 0) k
  | 0 => Nat.zero_le _
  | k + 1 => by
    have ih := clT_len tb p k
    have := qCl_len tb p k
    rw [clT, sm]
    by_cases c : 0 < tb 0 k
    · rw [if_pos c, if_pos c, List.length_append]; omega
    · rw [if_neg c, if_neg c]; omega
def qPr (a b : Nat) : List Nat := [107, 101, 101, 112, 32, 97 + a, 32, 97 + b, 59]
def prI (p : Pg) (a : Nat) : Nat → List Nat
  | 0 => []
  | b + 1 => if bt (pt p a) b = true then prI p a b ++ qPr a b else prI p a b
def prO (p : Pg) : Nat → List Nat
  | 0 => []
  | a + 1 => prO p a ++ prI p a 26
theorem prI_len (p : Pg) (a : Nat) : ∀ m, (prI p a m).length ≤ 9 * sm (fun k => if bt (pt p a) k = true then 1 else 0) m
  | 0 => Nat.zero_le _
  | m + 1 => by
    have ih := prI_len p a m
    have e : (qPr a m).length = 9 := rfl
    rw [prI, sm]
    by_cases c : bt (pt p a) m = true
    · rw [if_pos c, if_pos c, List.length_append]; omega
    · rw [if_neg c, if_neg c]; omega
theorem prO_len (p : Pg) : ∀ a, (prO p a).length ≤ 9 * sm (fun l => bc (pt p l)) a
  | 0 => Nat.zero_le _
  | a + 1 => by
    have ih := prO_len p a
    have h := prI_len p a 26
    have e : bc (pt p a) = sm (fun k => if bt (pt p a) k = true then 1 else 0) 26 := rfl
    rw [prO, sm, List.length_append]
    omega
theorem M_told1 {M : OV} {tb : Tb} (hR : RT M tb) (hT : TbS tb) {l : Nat} (hl : l < 26) : f_X10_isTold M (nI l) = some (bo (decide (0 < tb 0 l))) := by
  have t0 := (hT l hl).1
  have z : (nI (tb 0 l) ≤ (0 : Int32)) = (tb 0 l ≤ 0) := nIle (b := 0) (by omega) (by decide)
  have hin : f_X10_in (nI l) 0 25 = some 1 := (by decide : ∀ l, l < 26 → f_X10_in (nI l) 0 25 = some 1) l hl
  unfold f_X10_isTold
  rw [hin, Option.bind_some]
  simp only [un1]
  rw [if_neg (by decide), gd_t (ix_nI hl (by decide)), nI_clamp (by omega), (hR l hl).1]
  simp only [z, j_X10_isTold_23_3]
  by_cases c : tb 0 l ≤ 0
  · rw [if_pos c, decide_eq_false (by omega)]; rfl
  · rw [if_neg c, decide_eq_true (by omega)]; rfl
section
variable {S L C P M0 M : OV} {aS : Nat → Nat} {oC : Nat} {tb : Tb} {p : Pg}
theorem TX_classes (hL : nv L 10 = oC) (hN : aS 98 = 1000) (hC : RC C tb) (hT : TbS tb) (hP : RP P p) (h10 : cls tb ≤ 10) (h : TX S []) : ∃ S', lp (s_X9_spellTable_17_3 oC aS L P C) 5000 (0, S) = some S' ∧ TX S' (clT tb p 26) := by
  refine lp_inv (step := s_X9_spellTable_17_3 oC aS L P C) (fun i s => ∃ S', s = (nI i, S') ∧ TX S' (clT tb p i)) (fun r => TX r (clT tb p 26)) 0 26 (by decide) ?_ ?_ 5000 (by decide) (0, S) ⟨S, rfl, h⟩
  · rintro i s - hi ⟨S', rfl, h'⟩
    have z26 : ((26 : Int32) ≤ nI i) = (26 ≤ i) := nIle (a := 26) (by decide) (by omega)
    have hl := clT_len tb p i
    have hm : sm (fun l => if 0 < tb 0 l then 1 else 0) (i + 1) ≤ cls tb := sm_mono (by omega)
    rw [sm] at hm
    have st : s_X9_spellTable_17_3 oC aS L P C (nI i, S') = if 0 < tb 0 i then (f_X9_spellClass L aS S' P oC C (nI i)).bind (un1 (fun S_11 => some (.inl (nI (i + 1), S_11)))) else some (.inl (nI (i + 1), S')) := by
      unfold s_X9_spellTable_17_3
      simp only [un2, z26]
      rw [if_neg (by omega), gd_t (decide_eq_true hL), C_has hC hT hi, Option.bind_some]
      simp only [un1, bo_0, decide_eq_false_iff_not, j_X9_spellTable_39_9, bnd_e, nI_1]
      by_cases c : 0 < tb 0 i
      · rw [if_neg (fun h => h c), if_pos c]
      · rw [if_pos c, if_neg c]
    rw [st, clT]
    by_cases c : 0 < tb 0 i
    · rw [if_pos c] at hm
      obtain ⟨S2, e2, h2⟩ := C_class (p := p) hL hN hC hT hP hi h' (by omega)
      refine ⟨(nI (i + 1), S2), by rw [if_pos c, e2]; rfl, S2, rfl, ?_⟩
      rw [if_pos c]
      unfold qCl
      simp only [List.append_assoc] at h2 ⊢
      exact h2
    · exact ⟨(nI (i + 1), S'), by rw [if_neg c], S', rfl, by rw [if_neg c]; exact h'⟩
  · rintro s ⟨S', rfl, h'⟩
    exact ⟨S', by simp only [s_X9_spellTable_17_3, un2, if_pos (show (26 : Int32) ≤ nI 26 by decide)], h'⟩
theorem MX_classes (h37 : W37 M0) (hM : RM (ar M0 8) p) (hR : RT M0 tb) (hT : TbS tb) (h10 : cls tb ≤ 10) (h : MX M0 M []) : ∃ M', lp s_X10_spellTable_14_3 5000 (0, M) = some M' ∧ MX M0 M' (clT tb p 26) := by
  refine lp_inv (step := s_X10_spellTable_14_3) (fun i s => ∃ M', s = (nI i, M') ∧ MX M0 M' (clT tb p i)) (fun r => MX M0 r (clT tb p 26)) 0 26 (by decide) ?_ ?_ 5000 (by decide) (0, M) ⟨M, rfl, h⟩
  · rintro i s - hi ⟨M', rfl, h'⟩
    have z26 : ((26 : Int32) ≤ nI i) = (26 ≤ i) := nIle (a := 26) (by decide) (by omega)
    have hl := clT_len tb p i
    have hm : sm (fun l => if 0 < tb 0 l then 1 else 0) (i + 1) ≤ cls tb := sm_mono (by omega)
    rw [sm] at hm
    have st : s_X10_spellTable_14_3 (nI i, M') = if 0 < tb 0 i then (f_X10_writesClass M' (nI i)).bind (un1 (fun M_11 => some (.inl (nI (i + 1), M_11)))) else some (.inl (nI (i + 1), M')) := by
      unfold s_X10_spellTable_14_3
      simp only [un2, z26]
      rw [if_neg (by omega), M_told1 (KM_RT (KW_KM h'.1) hR) hT hi, Option.bind_some]
      simp only [un1, bo_0, decide_eq_false_iff_not, j_X10_spellTable_33_9, bnd_e, nI_1]
      by_cases c : 0 < tb 0 i
      · rw [if_neg (fun h => h c), if_pos c]
      · rw [if_pos c, if_neg c]
    rw [st, clT]
    by_cases c : 0 < tb 0 i
    · rw [if_pos c] at hm
      obtain ⟨M2, e2, h2⟩ := D_class (p := p) h37 hM hR hT hi c h' (by omega)
      refine ⟨(nI (i + 1), M2), by rw [if_pos c, e2]; rfl, M2, rfl, ?_⟩
      rw [if_pos c]
      unfold qCl
      simp only [List.append_assoc] at h2 ⊢
      exact h2
    · exact ⟨(nI (i + 1), M'), by rw [if_neg c], M', rfl, by rw [if_neg c]; exact h'⟩
  · rintro s ⟨M', rfl, h'⟩
    exact ⟨M', by simp only [s_X10_spellTable_14_3, un2, if_pos (show (26 : Int32) ≤ nI 26 by decide)], h'⟩
theorem TX_row {y : List Nat} {a : Nat} (hN : aS 98 = 1000) (hP : RP P p) (ha : a < 26) (hy : y.length + 9 * bc (pt p a) < 1000) (h : TX S y) : ∃ S', lp (s_X9_spellTable_55_19 aS P (nI a)) 5000 (0, S) = some S' ∧ TX S' (y ++ prI p a 26) := by
  refine lp_inv (step := s_X9_spellTable_55_19 aS P (nI a)) (fun i s => ∃ S', s = (nI i, S') ∧ TX S' (y ++ prI p a i)) (fun r => TX r (y ++ prI p a 26)) 0 26 (by decide) ?_ ?_ 5000 (by decide) (0, S) ⟨S, rfl, by rw [prI, List.append_nil]; exact h⟩
  · rintro i s - hi ⟨S', rfl, h'⟩
    have z26 : ((26 : Int32) ≤ nI i) = (26 ≤ i) := nIle (a := 26) (by decide) (by omega)
    have hl := prI_len p a i
    have hm : sm (fun k => if bt (pt p a) k = true then 1 else 0) (i + 1) ≤ bc (pt p a) := sm_mono (by omega)
    rw [sm] at hm
    have st : s_X9_spellTable_55_19 aS P (nI a) (nI i, S') = if bt (pt p a) i = false then some (.inl (nI (i + 1), S')) else (f_X9_spellPair aS S' (nI a) (nI i)).bind (un1 (fun S_27 => some (.inl (nI (i + 1), S_27)))) := by
      unfold s_X9_spellTable_55_19
      simp only [un2, z26]
      rw [if_neg (by omega), P_kept hP ha, Option.bind_some]
      simp only [un1, bo_0, j_X9_spellTable_79_25, bnd_e, nI_1]
    rw [st, prI]
    cases c : bt (pt p a) i
    · exact ⟨(nI (i + 1), S'), by rw [if_pos rfl], S', rfl, by rw [if_neg (by simp)]; exact h'⟩
    · rw [c, if_pos rfl] at hm
      obtain ⟨S2, e2, h2⟩ := C_pair (l := a) (m := i) hN h' (by rw [List.length_append]; omega)
      refine ⟨(nI (i + 1), S2), by rw [if_neg (by simp), e2]; rfl, S2, rfl, ?_⟩
      rw [if_pos rfl, ← List.append_assoc]
      exact h2
  · rintro s ⟨S', rfl, h'⟩
    exact ⟨S', by simp only [s_X9_spellTable_55_19, un2, if_pos (show (26 : Int32) ≤ nI 26 by decide)], h'⟩
theorem TX_pairs {y : List Nat} (hN : aS 98 = 1000) (hP : RP P p) (hy : y.length + 9 * prs p < 1000) (h : TX S y) : ∃ S', lp (s_X9_spellTable_47_15 aS P) 5000 (0, S) = some S' ∧ TX S' (y ++ prO p 26) := by
  refine lp_inv (step := s_X9_spellTable_47_15 aS P) (fun i s => ∃ S', s = (nI i, S') ∧ TX S' (y ++ prO p i)) (fun r => TX r (y ++ prO p 26)) 0 26 (by decide) ?_ ?_ 5000 (by decide) (0, S) ⟨S, rfl, by rw [prO, List.append_nil]; exact h⟩
  · rintro i s - hi ⟨S', rfl, h'⟩
    have z26 : ¬ (26 : Int32) ≤ nI i := by rw [show ((26 : Int32) ≤ nI i) = (26 ≤ i) from nIle (a := 26) (by decide) (by omega)]; omega
    have hl := prO_len p i
    have hm : sm (fun l => bc (pt p l)) (i + 1) ≤ prs p := sm_mono (by omega)
    rw [sm] at hm
    obtain ⟨S2, e2, h2⟩ := TX_row hN hP hi (by rw [List.length_append]; omega) h'
    refine ⟨(nI (i + 1), S2), ?_, S2, rfl, by rw [prO, ← List.append_assoc]; exact h2⟩
    unfold s_X9_spellTable_47_15
    simp only [un2]
    rw [if_neg z26, bnd_e, e2, Option.bind_some]
    simp only [un1, bnd_e, nI_1]
  · rintro s ⟨S', rfl, h'⟩
    exact ⟨S', by unfold s_X9_spellTable_47_15; simp only [un2]; rw [if_pos (show (26 : Int32) ≤ nI 26 by decide)], h'⟩
theorem MX_row {y : List Nat} {a : Nat} (h37 : W37 M0) (hM : RM (ar M0 8) p) (ha : a < 26) (hy : y.length + 9 * bc (pt p a) < 1000) (h : MX M0 M y) : ∃ M', lp (s_X10_spellTable_49_19 (nI a)) 5000 (0, M) = some M' ∧ MX M0 M' (y ++ prI p a 26) := by
  refine lp_inv (step := s_X10_spellTable_49_19 (nI a)) (fun i s => ∃ M', s = (nI i, M') ∧ MX M0 M' (y ++ prI p a i)) (fun r => MX M0 r (y ++ prI p a 26)) 0 26 (by decide) ?_ ?_ 5000 (by decide) (0, M) ⟨M, rfl, by rw [prI, List.append_nil]; exact h⟩
  · rintro i s - hi ⟨M', rfl, h'⟩
    have z26 : ((26 : Int32) ≤ nI i) = (26 ≤ i) := nIle (a := 26) (by decide) (by omega)
    have hl := prI_len p a i
    have hm : sm (fun k => if bt (pt p a) k = true then 1 else 0) (i + 1) ≤ bc (pt p a) := sm_mono (by omega)
    rw [sm] at hm
    have hk : RM (ar M' 8) p := KM_RM (KW_KM h'.1) hM
    rw [prI]
    cases c : bt (pt p a) i
    · refine ⟨(nI (i + 1), M'), ?_, M', rfl, by rw [if_neg (by simp)]; exact h'⟩
      unfold s_X10_spellTable_49_19
      simp only [un2, z26]
      rw [if_neg (by omega), M_pair hk ha, c, Option.bind_some]
      simp only [un1, j_X10_spellTable_107_25, bnd_e, nI_1]
      rw [if_pos (show bo false = 0 from rfl)]
    · rw [c, if_pos rfl] at hm
      have q0 : (y ++ prI p a i).length + 9 < 1000 := by rw [List.length_append]; omega
      obtain ⟨S1, e1, h1⟩ := MX_word h37 h' wrd_10 (by show _ + 4 < _; omega)
      have e1' : f_X10_writesWord M' (10 : Int32) = some S1 := e1
      have q1 : (y ++ prI p a i ++ [107, 101, 101, 112]).length = (y ++ prI p a i).length + 4 := by rw [List.length_append]; rfl
      obtain ⟨S2, e2, h2⟩ := MX_add h1 (by omega) 32
      have e2' : f_X10_writes S1 (32 : Int32) = some S2 := e2
      have q2 : (y ++ prI p a i ++ [107, 101, 101, 112] ++ [32]).length = (y ++ prI p a i).length + 5 := by rw [List.length_append, q1]; rfl
      obtain ⟨S3, e3, h3⟩ := MX_add h2 (by omega) (97 + a)
      have q3 : (y ++ prI p a i ++ [107, 101, 101, 112] ++ [32] ++ [97 + a]).length = (y ++ prI p a i).length + 6 := by rw [List.length_append, q2]; rfl
      obtain ⟨S4, e4, h4⟩ := MX_add h3 (by omega) 32
      have e4' : f_X10_writes S3 (32 : Int32) = some S4 := e4
      have q4 : (y ++ prI p a i ++ [107, 101, 101, 112] ++ [32] ++ [97 + a] ++ [32]).length = (y ++ prI p a i).length + 7 := by rw [List.length_append, q3]; rfl
      obtain ⟨S5, e5, h5⟩ := MX_add h4 (by omega) (97 + i)
      have q5 : (y ++ prI p a i ++ [107, 101, 101, 112] ++ [32] ++ [97 + a] ++ [32] ++ [97 + i]).length = (y ++ prI p a i).length + 8 := by rw [List.length_append, q4]; rfl
      obtain ⟨S6, e6, h6⟩ := MX_add h5 (by omega) 59
      have e6' : f_X10_writes S5 (59 : Int32) = some S6 := e6
      refine ⟨(nI (i + 1), S6), ?_, S6, rfl, ?_⟩
      · unfold s_X10_spellTable_49_19
        simp only [un2, z26]
        rw [if_neg (by omega), M_pair hk ha, c, Option.bind_some]
        simp only [un1, j_X10_spellTable_107_25, bnd_e, nI_1]
        rw [if_neg (show ¬ bo true = 0 by decide), e1', Option.bind_some, e2', Option.bind_some, show (97 : Int32) + nI a = nI (97 + a) from nI_add 97 a, show (97 : Int32) + nI i = nI (97 + i) from nI_add 97 i, e3, Option.bind_some, e4', Option.bind_some, e5, Option.bind_some, e6', Option.bind_some]
      · rw [if_pos rfl]
        unfold qPr
        simp only [List.append_assoc, List.cons_append, List.nil_append] at h6 ⊢
        exact h6
  · rintro s ⟨M', rfl, h'⟩
    exact ⟨M', by simp only [s_X10_spellTable_49_19, un2, if_pos (show (26 : Int32) ≤ nI 26 by decide)], h'⟩
theorem MX_pairs {y : List Nat} (h37 : W37 M0) (hM : RM (ar M0 8) p) (hy : y.length + 9 * prs p < 1000) (h : MX M0 M y) : ∃ M', lp s_X10_spellTable_41_15 5000 (0, M) = some M' ∧ MX M0 M' (y ++ prO p 26) := by
  refine lp_inv (step := s_X10_spellTable_41_15) (fun i s => ∃ M', s = (nI i, M') ∧ MX M0 M' (y ++ prO p i)) (fun r => MX M0 r (y ++ prO p 26)) 0 26 (by decide) ?_ ?_ 5000 (by decide) (0, M) ⟨M, rfl, by rw [prO, List.append_nil]; exact h⟩
  · rintro i s - hi ⟨M', rfl, h'⟩
    have z26 : ¬ (26 : Int32) ≤ nI i := by rw [show ((26 : Int32) ≤ nI i) = (26 ≤ i) from nIle (a := 26) (by decide) (by omega)]; omega
    have hl := prO_len p i
    have hm : sm (fun l => bc (pt p l)) (i + 1) ≤ prs p := sm_mono (by omega)
    rw [sm] at hm
    obtain ⟨M2, e2, h2⟩ := MX_row h37 hM hi (by rw [List.length_append]; omega) h'
    refine ⟨(nI (i + 1), M2), ?_, M2, rfl, by rw [prO, ← List.append_assoc]; exact h2⟩
    unfold s_X10_spellTable_41_15
    simp only [un2]
    rw [if_neg z26, bnd_e, e2, Option.bind_some]
    simp only [un1, bnd_e, nI_1]
  · rintro s ⟨M', rfl, h'⟩
    exact ⟨M', by unfold s_X10_spellTable_41_15; simp only [un2]; rw [if_pos (show (26 : Int32) ≤ nI 26 by decide)], h'⟩
end
def ST9 (L1 L2 : Int32 × OV → Option OV) (aS : Nat → Nat) (S : OV) (p0 : Int32) : Option (Int32 × OV) := (if (-1 : Int32) ≤ p0 then bnd (sI S 1 (0 : Int32)) (fun S_1 => bnd (0 : Int32) (fun v2_2 => ((L1 (v2_2, S_1)).bind (un1 (fun S_13 => bnd (0 : Int32) (fun v2_14 => ((L2 (v2_14, S_13)).bind (un1 (fun S_31 => (f_X0_told aS S_31 p0).bind (un1 (fun r_32 => some (r_32, S_31)))))))))))) else some ((-1 : Int32), S))
theorem ST9_eq (L : OV) (aS : Nat → Nat) (S P : OV) (oC : Nat) (C : OV) (p0 : Int32) : f_X9_spellTable L aS S P oC C p0 = ST9 (lp (s_X9_spellTable_17_3 oC aS L P C) 5000) (lp (s_X9_spellTable_47_15 aS P) 5000) aS S p0 := rfl
theorem ST9_at {L1 L2 : Int32 × OV → Option OV} {aS : Nat → Nat} {S S1 S2 : OV} {p0 r : Int32} (h : (-1 : Int32) ≤ p0) (e1 : L1 (0, sI S 1 0) = some S1) (e2 : L2 (0, S1) = some S2) (e3 : f_X0_told aS S2 p0 = some r) : ST9 L1 L2 aS S p0 = some (r, S2) := by
  unfold ST9
  rw [if_pos h]
  simp only [bnd_e]
  rw [e1, Option.bind_some]
  simp only [un1]
  rw [e2, Option.bind_some, e3, Option.bind_some]
def ST10 (L1 L2 : Int32 × OV → Option OV) (M : OV) (p0 : Int32) : Option (Int32 × OV) := (if (-1 : Int32) ≤ p0 then bnd (sI M 32 (0 : Int32)) (fun M_1 => bnd (0 : Int32) (fun v2_2 => ((L1 (v2_2, M_1)).bind (un1 (fun M_13 => bnd (0 : Int32) (fun v2_14 => ((L2 (v2_14, M_13)).bind (un1 (fun M_41 => (f_X10_told M_41 p0).bind (un1 (fun r_42 => some (r_42, M_41)))))))))))) else some ((-1 : Int32), M))
theorem ST10_eq (M : OV) (p0 : Int32) : f_X10_spellTable M p0 = ST10 (lp s_X10_spellTable_14_3 5000) (lp s_X10_spellTable_41_15 5000) M p0 := rfl
theorem ST10_at {L1 L2 : Int32 × OV → Option OV} {M M1 M2 : OV} {p0 r : Int32} (h : (-1 : Int32) ≤ p0) (e1 : L1 (0, sI M 32 0) = some M1) (e2 : L2 (0, M1) = some M2) (e3 : f_X10_told M2 p0 = some r) : ST10 L1 L2 M p0 = some (r, M2) := by
  unfold ST10
  rw [if_pos h]
  simp only [bnd_e]
  rw [e1, Option.bind_some]
  simp only [un1]
  rw [e2, Option.bind_some, e3, Option.bind_some]
theorem ok_spellTable : Ok_spellTable INV := by
  intro o a aK Z B hI q0
  have hI2 := hI
  obtain ⟨tb, p, len, v, cnt, nx, q, hc⟩ := hI2
  obtain ⟨i1, i2, i3, i4, i5, i6, i7, i8, i9, i10, i11, i12⟩ := hc
  by_cases c : q0 < -1
  · have c' : ¬ (-1 : Int32) ≤ q0 := Int32.not_le.2 c
    refine ⟨(-1, Z 2), (-1, Z 28), ?_, ?_, rfl, ?_⟩
    · rw [ST9_eq]; exact if_neg c'
    · rw [ST10_eq]; exact if_neg c'
    · show INV o a aK (va_up (va_up Z 2 (Z 2)) 28 (Z 28)) B
      rw [up_same, up_same]
      exact hI
  · have c' : (-1 : Int32) ≤ q0 := Int32.not_lt.1 c
    have hP := i4.1
    have hC := i6.1
    obtain ⟨hT, h10, ⟨hs, hpt, h12, hhi⟩, h500⟩ := i12
    have hRT := i11.1
    have hM := i11.2.1
    have h37 : W37 (Z 28) := i11.2.2.2.2.2.2
    have l1 := clT_len tb p 26
    have l1' : (clT tb p 26).length ≤ 76 * cls tb := l1
    have l2 := prO_len p 26
    have l2' : (prO p 26).length ≤ 9 * prs p := l2
    obtain ⟨S1, e1, h1⟩ := TX_classes (L := Z 0) (aS := a 2) i2.1 i1.2 hC hT hP h10 (TX_0 (Z 2))
    obtain ⟨S2, e2, h2⟩ := TX_pairs (aS := a 2) i1.2 hP (by omega) h1
    obtain ⟨M1, m1, g1⟩ := MX_classes (p := p) h37 hM hRT hT h10 (MX_0 (Z 28))
    obtain ⟨M2, m2, g2⟩ := MX_pairs h37 hM (by omega) g1
    obtain ⟨r, r1, r2⟩ := told_both i1.2 h2 g2 (by rw [List.length_append]; omega) c
    refine ⟨(r, S2), (r, M2), ?_, ?_, rfl, ?_⟩
    · rw [ST9_eq]; exact ST9_at c' e1 e2 r1
    · rw [ST10_eq]; exact ST10_at c' m1 m2 r2
    · exact ⟨tb, p, len, v, cnt, nx, q, i1, i2, i3, i4, i5, i6, i7, i8, i9, i10, KM_MOD (KW_KM g2.1) i11, hT, h10, ⟨hs, hpt, h12, hhi⟩, h500⟩
