/-- line k of E ends where a line of F ends; and it is a line of F -/
def heB (E F : Nat → Nat) (k : Nat) : Bool := decide (F (stt F (lnW F (E (stt E k)))) = E (stt E k))
def hlB (E F : Nat → Nat) (k : Nat) : Bool := decide (stt F (lnW F (E (stt E k))) = stt E k ∧ F (stt F (lnW F (E (stt E k)))) = E (stt E k))
theorem bo_dec (c : Prop) [Decidable c] : (if c then some (1 : Int32) else some 0) = some (bo (decide c)) := by
  by_cases h : c
  · rw [if_pos h, decide_eq_true h]; rfl
  · rw [if_neg h, decide_eq_false h]; rfl
theorem Y_ofLine {Y : OV} {tb : Tb} {p : Pg} {ke s e : Nat} (hY : YR Y tb p ke) (hs : PgS p) (h1 : s < 2 ^ 31) (he : e < pn p) : f_X3_hasLineOf Y (nI s) (nI e) = some (bo (decide (stt (EK tb p ke) (lnW (EK tb p ke) e) = s ∧ EK tb p ke (stt (EK tb p ke) (lnW (EK tb p ke) e)) = e))) ∧ f_X3_endsAt Y (nI e) = some (bo (decide (EK tb p ke (stt (EK tb p ke) (lnW (EK tb p ke) e)) = e))) := by
  have h40 := hs.1
  have hE : ∀ a, a ≤ EK tb p ke a := fun a => (EK_in hs ke a).1
  have hn : ∀ a, a < pn p → EK tb p ke a < pn p := fun a => (EK_in hs ke a).2
  obtain ⟨l1, l2, l3⟩ := LN_spec hE hn
  obtain ⟨w1, w2, w3, -⟩ := lnW_spec hE hn h40 he
  have w4 := (stt_ln hE hn w1).2
  have hw := Y_lineWith hY hs he
  obtain ⟨⟨y0, y1, -⟩, -⟩ := hY.2.2 _ w1
  generalize lnW (EK tb p ke) e = j at *
  have xj : ix (nI j) 40 = true := ix_nI (by omega) (by decide)
  have x0 : ix (0 : Int32) 11 = true := by decide
  have x1 : ix (1 : Int32) 11 = true := by decide
  have cj := nI_clamp (show j < 2 ^ 31 by omega)
  have c0 : (0 : Int32).toNatClampNeg = 0 := rfl
  have c1 : (1 : Int32).toNatClampNeg = 1 := rfl
  constructor
  · unfold f_X3_hasLineOf
    simp only [hw, Option.bind_some, un1, bnd, if_neg (nI_ne1 (show j < 2 ^ 31 by omega)), gd_t x0, gd_t x1, gd_t xj, cj, c0, c1, y0, y1, nIe (show stt (EK tb p ke) j < 2 ^ 31 by omega) h1, nIe (show EK tb p ke (stt (EK tb p ke) j) < 2 ^ 31 by omega) (show e < 2 ^ 31 by omega), j_X3_hasLineOf_39_4]
    rw [← bo_dec]
    by_cases d1 : stt (EK tb p ke) j = s
    · by_cases d2 : EK tb p ke (stt (EK tb p ke) j) = e
      · rw [if_pos d1, if_pos d2, if_pos ⟨d1, d2⟩]
      · rw [if_pos d1, if_neg d2, if_neg (fun h => d2 h.2)]
    · rw [if_neg d1, if_neg (fun h => d1 h.1)]
  · unfold f_X3_endsAt
    simp only [hw, Option.bind_some, un1, bnd, if_neg (nI_ne1 (show j < 2 ^ 31 by omega)), gd_t x1, gd_t xj, cj, c1, y1, nIe (show EK tb p ke (stt (EK tb p ke) j) < 2 ^ 31 by omega) (show e < 2 ^ 31 by omega), j_X3_endsAt_27_4]
    rw [← bo_dec]
theorem M_twoLays {M : OV} {tb : Tb} {p : Pg} (hM : RM (ar M 8) p) (hs : PgS p) (hR : RT M tb) (hT : TbS tb) (hpt : PgT tb p) {kd ke : Nat} (hkd : kd < 4) (hke : ke < 4) : ∃ M1 M2 M3, f_X10_laysLines M (nI ke) = some M1 ∧ iv M1 25 = nI (LN (EK tb p ke) (pn p)) ∧ lp (s_X10_same_29_9 (nI (LN (EK tb p ke) (pn p)))) 5000 (0, M1) = some M2 ∧ f_X10_laysLines M2 (nI kd) = some M3 ∧ KM M M3 ∧ ML M3 tb p kd ∧ ∀ k, k < LN (EK tb p ke) (pn p) → ar M3 28 k = nI (EK tb p ke (stt (EK tb p ke) k)) := by
  have h40 := hs.1
  have hE : ∀ a, a ≤ EK tb p ke a := fun a => (EK_in hs ke a).1
  have hn : ∀ a, a < pn p → EK tb p ke a < pn p := fun a => (EK_in hs ke a).2
  obtain ⟨l1, l2, l3⟩ := LN_spec hE hn
  obtain ⟨M1, e1, k1, m1⟩ := M_laysLines hM hs hR hT hpt hke
  obtain ⟨M2, e2, k2, a2⟩ := lp_inv (step := s_X10_same_29_9 (nI (LN (EK tb p ke) (pn p)))) (fun k s => ∃ M', s = (nI k, M') ∧ KM M M' ∧ ar M' 24 = ar M1 24 ∧ ∀ j, j < k → ar M' 28 j = nI (EK tb p ke (stt (EK tb p ke) j))) (fun M' => KM M M' ∧ ∀ j, j < LN (EK tb p ke) (pn p) → ar M' 28 j = nI (EK tb p ke (stt (EK tb p ke) j))) 0 (LN (EK tb p ke) (pn p)) (Nat.zero_le _) (by
    rintro k s - hk ⟨M', rfl, hK, h24, h28⟩
    have xk : ix (nI k) 41 = true := ix_nI (by omega) (by decide)
    have ck := nI_clamp (show k < 2 ^ 31 by omega)
    refine ⟨(nI (k + 1), sA M' 28 k (ar M' 24 k)), ?_, _, rfl, KM_tr hK (KM_A _ _ _ _ (by omega)), ?_, fun j hj => ?_⟩
    · simp only [s_X10_same_29_9, un2, nIle (show LN (EK tb p ke) (pn p) < 2 ^ 31 by omega) (show k < 2 ^ 31 by omega), if_neg (show ¬ LN (EK tb p ke) (pn p) ≤ k by omega), gd_t xk, ck, bnd, nI_1]
    · rw [arA, if_neg (by decide)]; exact h24
    · rw [arA, if_pos rfl, updE]
      by_cases c : j = k
      · rw [if_pos c, h24, c]; exact m1.2 k hk
      · rw [if_neg c]; exact h28 j (by omega)) (by
    rintro s ⟨M', rfl, hK, h24, h28⟩
    exact ⟨M', by simp only [s_X10_same_29_9, un2, if_pos (Int32.le_refl _)], hK, h28⟩) 5000 (by omega) (nI 0, M1) ⟨M1, rfl, KO_KM k1, rfl, fun j hj => by omega⟩
  obtain ⟨M3, e3, k3, m3⟩ := M_laysLines (KM_RM k2 hM) hs (KM_RT k2 hR) hT hpt hkd
  exact ⟨M1, M2, M3, e1, m1.1, e2, e3, KM_tr k2 (KO_KM k3), m3, fun k hk => by rw [(k3.1 28 (by omega)).1]; exact a2 k hk⟩
theorem hl_iff {E F : Nat → Nat} {n : Nat} (hF : ∀ a, a ≤ F a) (hn : ∀ a, a < n → F a < n) (hn40 : n ≤ 40) {k j : Nat} (hj : j < LN F n) : (F (stt F j) = E (stt E k) ∧ stt F j = stt E k ↔ hlB E F k = true ∧ lnW F (E (stt E k)) = j) ∧ (F (stt F j) = E (stt E k) ↔ heB E F k = true ∧ lnW F (E (stt E k)) = j) := by
  have key : F (stt F j) = E (stt E k) → lnW F (E (stt E k)) = j := by
    intro h1
    rw [← h1]
    exact lnW_at hF hn hn40 hj (hF _) (Nat.le_refl _)
  constructor
  · constructor
    · rintro ⟨h1, h2⟩
      have h3 := key h1
      refine ⟨decide_eq_true ?_, h3⟩
      rw [h3]
      exact ⟨h2, h1⟩
    · rintro ⟨h1, h2⟩
      have h3 := of_decide_eq_true h1
      rw [h2] at h3
      exact ⟨h3.2, h3.1⟩
  · constructor
    · intro h1
      have h3 := key h1
      refine ⟨decide_eq_true ?_, h3⟩
      rw [h3]
      exact h1
    · rintro ⟨h1, h2⟩
      have h3 := of_decide_eq_true h1
      rw [h2] at h3
      exact h3
theorem M_cnt {M : OV} {tb : Tb} {p : Pg} (hs : PgS p) {kd ke k : Nat} (hm : ML M tb p kd) (h28 : ∀ k, k < LN (EK tb p ke) (pn p) → ar M 28 k = nI (EK tb p ke (stt (EK tb p ke) k))) (hk : k < LN (EK tb p kd) (pn p)) (c : Int32) : lp (s_X10_same_78_23 M (nI (LN (EK tb p ke) (pn p))) (nI k)) 5000 (c, 0) = some (if hlB (EK tb p kd) (EK tb p ke) k = true then c + 1 else c) := by
  have h40 := hs.1
  have hE : ∀ a, a ≤ EK tb p kd a := fun a => (EK_in hs kd a).1
  have hnE : ∀ a, a < pn p → EK tb p kd a < pn p := fun a => (EK_in hs kd a).2
  have hF : ∀ a, a ≤ EK tb p ke a := fun a => (EK_in hs ke a).1
  have hnF : ∀ a, a < pn p → EK tb p ke a < pn p := fun a => (EK_in hs ke a).2
  have hfi := M_first hm hs hk
  have hla := hm.2 k hk
  obtain ⟨k1, k2⟩ := stt_ln hE hnE hk
  obtain ⟨le1, -, -⟩ := LN_spec hE hnE
  obtain ⟨l1, l2, l3⟩ := LN_spec hF hnF
  have hw := (lnW_spec hF hnF h40 k2).1
  have hi := fun j hj => (hl_iff (E := EK tb p kd) (k := k) hF hnF h40 (j := j) hj).1
  generalize EK tb p kd = E at *
  generalize EK tb p ke = F at *
  generalize hN : LN F (pn p) = n at *
  have xk : ix (nI k) 41 = true := ix_nI (by omega) (by decide)
  have ck := nI_clamp (show k < 2 ^ 31 by omega)
  obtain ⟨r, e, rfl⟩ := lp_inv (step := s_X10_same_78_23 M (nI n) (nI k)) (fun j s => s = (if hlB E F k = true ∧ lnW F (E (stt E k)) < j then c + 1 else c, nI j)) (fun r => r = if hlB E F k = true then c + 1 else c) 0 n (Nat.zero_le _) (by
    rintro j s - hj rfl
    have xj : ix (nI j) 41 = true := ix_nI (by omega) (by decide)
    have cj := nI_clamp (show j < 2 ^ 31 by omega)
    have q1 := l2 j hj
    have q2 := hnF _ q1
    have hst : ∀ d, s_X10_same_78_23 M (nI n) (nI k) (d, nI j) = j_X10_same_104_27 M (nI k) d (nI j) (nI (stt F j)) := by
      intro d
      cases j with
      | zero => simp only [s_X10_same_78_23, un2, nIle (show n < 2 ^ 31 by omega) (show 0 < 2 ^ 31 by decide), if_neg (show ¬ n ≤ 0 by omega), if_pos (show nI 0 = 0 from rfl)]; rfl
      | succ j =>
        have xj' : ix (nI j) 41 = true := ix_nI (by omega) (by decide)
        have cj' := nI_clamp (show j < 2 ^ 31 by omega)
        have e1 : nI (j + 1) - 1 = nI j := nI_m1 (by omega)
        have e0 : (nI (j + 1) = (0 : Int32)) = (j + 1 = 0) := nIe (by omega) (by decide)
        simp only [s_X10_same_78_23, un2, nIle (show n < 2 ^ 31 by omega) (show j + 1 < 2 ^ 31 by omega), if_neg (show ¬ n ≤ j + 1 by omega), e0, if_neg (Nat.succ_ne_zero j), e1, gd_t xj', cj', h28 j (by omega), nI_1]
        rfl
    have hj2 : ∀ d, j_X10_same_104_27 M (nI k) d (nI j) (nI (stt F j)) = some (.inl (if F (stt F j) = E (stt E k) ∧ stt F j = stt E k then d + 1 else d, nI (j + 1))) := by
      intro d
      simp only [j_X10_same_104_27, bnd, gd_t xj, gd_t xk, cj, ck, h28 j hj, hla, nIe (show F (stt F j) < 2 ^ 31 by omega) (show E (stt E k) < 2 ^ 31 by omega), hfi, Option.bind_some, un1, nIe (show stt F j < 2 ^ 31 by omega) (show stt E k < 2 ^ 31 by omega), j_X10_same_137_30, nI_1]
      by_cases d1 : F (stt F j) = E (stt E k)
      · by_cases d2 : stt F j = stt E k
        · rw [if_pos d1, if_pos d2, if_pos ⟨d1, d2⟩]
        · rw [if_pos d1, if_neg d2, if_neg (fun h => d2 h.2)]
      · rw [if_neg d1, if_neg (fun h => d1 h.1)]
    refine ⟨_, (hst _).trans (hj2 _), ?_⟩
    have hij := hi j hj
    by_cases d1 : F (stt F j) = E (stt E k) ∧ stt F j = stt E k
    · obtain ⟨u1, u2⟩ := hij.1 d1
      rw [if_pos d1, if_neg (fun h => by omega), if_pos ⟨u1, by omega⟩]
    · rw [if_neg d1]
      by_cases d2 : hlB E F k = true
      · have : lnW F (E (stt E k)) ≠ j := fun h => d1 (hij.2 ⟨d2, h⟩)
        by_cases d3 : lnW F (E (stt E k)) < j
        · rw [if_pos ⟨d2, d3⟩, if_pos ⟨d2, by omega⟩]
        · rw [if_neg (fun h => d3 h.2), if_neg (fun h => by omega)]
      · rw [if_neg (fun h => d2 h.1), if_neg (fun h => d2 h.1)]) (by
    rintro s rfl
    refine ⟨_, by simp only [s_X10_same_78_23, un2, if_pos (Int32.le_refl _)]; rfl, ?_⟩
    by_cases d2 : hlB E F k = true
    · rw [if_pos ⟨d2, hw⟩, if_pos d2]
    · rw [if_neg (fun h => d2 h.1), if_neg d2]) 5000 (by omega) (c, 0) (by rw [if_neg (fun h => by omega)]; rfl)
  exact e
theorem M_fnd {M : OV} {tb : Tb} {p : Pg} (hs : PgS p) {kd ke k : Nat} (hm : ML M tb p kd) (h28 : ∀ k, k < LN (EK tb p ke) (pn p) → ar M 28 k = nI (EK tb p ke (stt (EK tb p ke) k))) (hk : k < LN (EK tb p kd) (pn p)) : lp (s_X10_common_67_20 M (nI (LN (EK tb p ke) (pn p))) (nI k)) 5000 (0, 0) = some (bo (heB (EK tb p kd) (EK tb p ke) k)) := by
  have h40 := hs.1
  have hE : ∀ a, a ≤ EK tb p kd a := fun a => (EK_in hs kd a).1
  have hnE : ∀ a, a < pn p → EK tb p kd a < pn p := fun a => (EK_in hs kd a).2
  have hF : ∀ a, a ≤ EK tb p ke a := fun a => (EK_in hs ke a).1
  have hnF : ∀ a, a < pn p → EK tb p ke a < pn p := fun a => (EK_in hs ke a).2
  have hla := hm.2 k hk
  obtain ⟨k1, k2⟩ := stt_ln hE hnE hk
  obtain ⟨le1, -, -⟩ := LN_spec hE hnE
  obtain ⟨l1, l2, l3⟩ := LN_spec hF hnF
  have hw := (lnW_spec hF hnF h40 k2).1
  have hi := fun j hj => (hl_iff (E := EK tb p kd) (k := k) hF hnF h40 (j := j) hj).2
  generalize EK tb p kd = E at *
  generalize EK tb p ke = F at *
  generalize hN : LN F (pn p) = n at *
  have xk : ix (nI k) 41 = true := ix_nI (by omega) (by decide)
  have ck := nI_clamp (show k < 2 ^ 31 by omega)
  obtain ⟨r, e, rfl⟩ := lp_inv' (step := s_X10_common_67_20 M (nI n) (nI k)) (fun j s => s = (bo (decide (heB E F k = true ∧ lnW F (E (stt E k)) < j)), nI j)) (fun r => r = bo (heB E F k)) 0 n (Nat.zero_le _) (by
    rintro j s - hj rfl
    have xj : ix (nI j) 41 = true := ix_nI (by omega) (by decide)
    have cj := nI_clamp (show j < 2 ^ 31 by omega)
    have q2 := hnF _ (l2 j hj)
    have hij := hi j hj
    have hst : s_X10_common_67_20 M (nI n) (nI k) (bo (decide (heB E F k = true ∧ lnW F (E (stt E k)) < j)), nI j) = (if decide (heB E F k = true ∧ lnW F (E (stt E k)) < j) = false then (if F (stt F j) = E (stt E k) then some (.inl (1, nI (j + 1))) else some (.inl (0, nI (j + 1)))) else some (.inr (bo (decide (heB E F k = true ∧ lnW F (E (stt E k)) < j))))) := by
      simp only [s_X10_common_67_20, un2, nIle (show n < 2 ^ 31 by omega) (show j < 2 ^ 31 by omega), if_neg (show ¬ n ≤ j by omega), bo_0, gd_t xj, gd_t xk, cj, ck, h28 j hj, hla, nIe (show F (stt F j) < 2 ^ 31 by omega) (show E (stt E k) < 2 ^ 31 by omega), j_X10_common_100_24, bnd, nI_1]
    by_cases d : heB E F k = true ∧ lnW F (E (stt E k)) < j
    · right
      rw [decide_eq_true d, if_neg (by simp)] at hst
      refine ⟨_, by rw [decide_eq_true d]; exact hst, ?_⟩
      rw [d.1]
    · left
      rw [decide_eq_false d, if_pos rfl] at hst
      by_cases d1 : F (stt F j) = E (stt E k)
      · rw [if_pos d1] at hst
        refine ⟨_, by rw [decide_eq_false d]; exact hst, ?_⟩
        obtain ⟨u1, u2⟩ := hij.1 d1
        rw [decide_eq_true ⟨u1, by omega⟩]
        rfl
      · rw [if_neg d1] at hst
        refine ⟨_, by rw [decide_eq_false d]; exact hst, ?_⟩
        rw [decide_eq_false (fun h => ?_)]
        · rfl
        · have h1 := h.1
          rcases Nat.lt_or_ge (lnW F (E (stt E k))) j with h2 | h2
          · exact d ⟨h1, h2⟩
          · exact d1 (hij.2 ⟨h1, by omega⟩)) (by
    rintro s rfl
    refine ⟨_, by simp only [s_X10_common_67_20, un2, if_pos (Int32.le_refl _)]; rfl, ?_⟩
    cases d2 : heB E F k
    · rw [decide_eq_false (by simp)]
    · rw [decide_eq_true ⟨rfl, hw⟩]) 5000 (by omega) (0, 0) (by rw [decide_eq_false (fun h => by omega)]; rfl)
  exact e
theorem same_both {M Y V : OV} {tb : Tb} {p : Pg} (hs : PgS p) {kd ke : Nat} (hY : YR Y tb p kd) (hV : YR V tb p ke) (hm : ML M tb p kd) (h28 : ∀ k, k < LN (EK tb p ke) (pn p) → ar M 28 k = nI (EK tb p ke (stt (EK tb p ke) k))) : ∃ r, lp (s_X9_same_35_17 Y V) 5000 (0, 0) = some r ∧ lp (s_X10_same_66_19 M (nI (LN (EK tb p ke) (pn p)))) 5000 (0, 0) = some r := by
  have h40 := hs.1
  have hE : ∀ a, a ≤ EK tb p kd a := fun a => (EK_in hs kd a).1
  have hnE : ∀ a, a < pn p → EK tb p kd a < pn p := fun a => (EK_in hs kd a).2
  obtain ⟨l1, l2, l3⟩ := LN_spec hE hnE
  have x0 : ix (0 : Int32) 11 = true := by decide
  have x1 : ix (1 : Int32) 11 = true := by decide
  have c0 : (0 : Int32).toNatClampNeg = 0 := rfl
  have c1 : (1 : Int32).toNatClampNeg = 1 := rfl
  have st : ∀ k (c : Int32), k < LN (EK tb p kd) (pn p) → s_X9_same_35_17 Y V (c, nI k) = some (.inl (if hlB (EK tb p kd) (EK tb p ke) k = true then c + 1 else c, nI (k + 1))) ∧ s_X10_same_66_19 M (nI (LN (EK tb p ke) (pn p))) (c, nI k) = some (.inl (if hlB (EK tb p kd) (EK tb p ke) k = true then c + 1 else c, nI (k + 1))) := by
    intro k c hk
    obtain ⟨k1, k2⟩ := stt_ln hE hnE hk
    obtain ⟨⟨y0, y1, -⟩, -⟩ := hY.2.2 k hk
    have xk : ix (nI k) 40 = true := ix_nI (by omega) (by decide)
    have ck := nI_clamp (show k < 2 ^ 31 by omega)
    have hh := (Y_ofLine (s := stt (EK tb p kd) k) hV hs (by omega) k2).1
    constructor
    · simp only [s_X9_same_35_17, un2, hY.1, nIle (show LN (EK tb p kd) (pn p) < 2 ^ 31 by omega) (show k < 2 ^ 31 by omega), if_neg (show ¬ LN (EK tb p kd) (pn p) ≤ k by omega), gd_t x0, gd_t x1, gd_t xk, c0, c1, ck, y0, y1, hh, Option.bind_some, un1, bo_0, j_X9_same_73_25, bnd, nI_1]
      unfold hlB
      split
      · rename_i h
        rw [if_neg (by rw [h]; simp)]
      · rename_i h
        rw [if_pos (by simpa using h)]
    · simp only [s_X10_same_66_19, un2, hm.1, nIle (show LN (EK tb p kd) (pn p) < 2 ^ 31 by omega) (show k < 2 ^ 31 by omega), if_neg (show ¬ LN (EK tb p kd) (pn p) ≤ k by omega), bnd, M_cnt hs hm h28 hk c, Option.bind_some, un1, nI_1]
  have key : ∀ m k (c : Int32) n, LN (EK tb p kd) (pn p) - k ≤ m → k ≤ LN (EK tb p kd) (pn p) → m < n → ∃ r, lp (s_X9_same_35_17 Y V) n (c, nI k) = some r ∧ lp (s_X10_same_66_19 M (nI (LN (EK tb p ke) (pn p)))) n (c, nI k) = some r := by
    intro m
    induction m with
    | zero =>
      intro k c n h1 h2 h3
      obtain ⟨n, rfl⟩ : ∃ n', n = n' + 1 := ⟨n - 1, by omega⟩
      refine ⟨c, lp_r ?_, lp_r ?_⟩
      · simp only [s_X9_same_35_17, un2, hY.1, nIle (show LN (EK tb p kd) (pn p) < 2 ^ 31 by omega) (show k < 2 ^ 31 by omega), if_pos (show LN (EK tb p kd) (pn p) ≤ k by omega)]
      · simp only [s_X10_same_66_19, un2, hm.1, nIle (show LN (EK tb p kd) (pn p) < 2 ^ 31 by omega) (show k < 2 ^ 31 by omega), if_pos (show LN (EK tb p kd) (pn p) ≤ k by omega)]
    | succ m ih =>
      intro k c n h1 h2 h3
      obtain ⟨n, rfl⟩ : ∃ n', n = n' + 1 := ⟨n - 1, by omega⟩
      rcases Nat.lt_or_ge k (LN (EK tb p kd) (pn p)) with h | h
      · rw [lp_l (st k c h).1, lp_l (st k c h).2]
        exact ih (k + 1) _ n (by omega) (by omega) (by omega)
      · refine ⟨c, lp_r ?_, lp_r ?_⟩
        · simp only [s_X9_same_35_17, un2, hY.1, nIle (show LN (EK tb p kd) (pn p) < 2 ^ 31 by omega) (show k < 2 ^ 31 by omega), if_pos h]
        · simp only [s_X10_same_66_19, un2, hm.1, nIle (show LN (EK tb p kd) (pn p) < 2 ^ 31 by omega) (show k < 2 ^ 31 by omega), if_pos h]
  exact key _ 0 0 5000 (Nat.le_refl _) (Nat.zero_le _) (by omega)
theorem common_both {M Y V L R N : OV} {tb : Tb} {p : Pg} (hs : PgS p) {kd ke : Nat} (hY : YR Y tb p kd) (hV : YR V tb p ke) (hm : ML M tb p kd) (h28 : ∀ k, k < LN (EK tb p ke) (pn p) → ar M 28 k = nI (EK tb p ke (stt (EK tb p ke) k))) (q0 : Int32) : ∃ x, (lp (s_X9_common_25_13 Y L R N V q0) 5000 (0, 0) = some (.inl x) ∧ lp (s_X10_common_52_15 M q0 (nI (LN (EK tb p ke) (pn p)))) 5000 (0, 0) = some (.inl x)) ∨ (lp (s_X9_common_25_13 Y L R N V q0) 5000 (0, 0) = some (.inr (x, L, R, N, Y, V)) ∧ lp (s_X10_common_52_15 M q0 (nI (LN (EK tb p ke) (pn p)))) 5000 (0, 0) = some (.inr (x, M))) := by
  have h40 := hs.1
  have hE : ∀ a, a ≤ EK tb p kd a := fun a => (EK_in hs kd a).1
  have hnE : ∀ a, a < pn p → EK tb p kd a < pn p := fun a => (EK_in hs kd a).2
  obtain ⟨l1, l2, l3⟩ := LN_spec hE hnE
  have x1 : ix (1 : Int32) 11 = true := by decide
  have c1 : (1 : Int32).toNatClampNeg = 1 := rfl
  have st : ∀ k (c : Int32), k < LN (EK tb p kd) (pn p) → s_X9_common_25_13 Y L R N V q0 (c, nI k) = (if heB (EK tb p kd) (EK tb p ke) k = false then some (.inl (c, nI (k + 1))) else if c = q0 then some (.inr (.inr (nI (EK tb p kd (stt (EK tb p kd) k)), L, R, N, Y, V))) else some (.inl (c + 1, nI (k + 1)))) ∧ s_X10_common_52_15 M q0 (nI (LN (EK tb p ke) (pn p))) (c, nI k) = (if heB (EK tb p kd) (EK tb p ke) k = false then some (.inl (c, nI (k + 1))) else if c = q0 then some (.inr (.inr (nI (EK tb p kd (stt (EK tb p kd) k)), M))) else some (.inl (c + 1, nI (k + 1)))) := by
    intro k c hk
    obtain ⟨k1, k2⟩ := stt_ln hE hnE hk
    obtain ⟨⟨y0, y1, -⟩, -⟩ := hY.2.2 k hk
    have xk : ix (nI k) 40 = true := ix_nI (by omega) (by decide)
    have xk1 : ix (nI k) 41 = true := ix_nI (by omega) (by decide)
    have ck := nI_clamp (show k < 2 ^ 31 by omega)
    have hh := (Y_ofLine (s := stt (EK tb p kd) k) hV hs (by omega) k2).2
    have hh' : f_X3_endsAt V (nI (EK tb p kd (stt (EK tb p kd) k))) = some (bo (heB (EK tb p kd) (EK tb p ke) k)) := hh
    constructor
    · simp only [s_X9_common_25_13, un2, hY.1, nIle (show LN (EK tb p kd) (pn p) < 2 ^ 31 by omega) (show k < 2 ^ 31 by omega), if_neg (show ¬ LN (EK tb p kd) (pn p) ≤ k by omega), gd_t x1, gd_t xk, c1, ck, y1, hh', Option.bind_some, un1, bo_0, j_X9_common_66_21, bnd, nI_1]
    · simp only [s_X10_common_52_15, un2, hm.1, nIle (show LN (EK tb p kd) (pn p) < 2 ^ 31 by omega) (show k < 2 ^ 31 by omega), if_neg (show ¬ LN (EK tb p kd) (pn p) ≤ k by omega), bnd, M_fnd hs hm h28 hk, Option.bind_some, un1, bo_0, gd_t xk1, ck, hm.2 k hk, j_X10_common_132_29, nI_1]
  have key : ∀ m k (c : Int32) n, LN (EK tb p kd) (pn p) - k ≤ m → k ≤ LN (EK tb p kd) (pn p) → m < n → ∃ x, (lp (s_X9_common_25_13 Y L R N V q0) n (c, nI k) = some (.inl x) ∧ lp (s_X10_common_52_15 M q0 (nI (LN (EK tb p ke) (pn p)))) n (c, nI k) = some (.inl x)) ∨ (lp (s_X9_common_25_13 Y L R N V q0) n (c, nI k) = some (.inr (x, L, R, N, Y, V)) ∧ lp (s_X10_common_52_15 M q0 (nI (LN (EK tb p ke) (pn p)))) n (c, nI k) = some (.inr (x, M))) := by
    intro m
    induction m with
    | zero =>
      intro k c n h1 h2 h3
      obtain ⟨n, rfl⟩ : ∃ n', n = n' + 1 := ⟨n - 1, by omega⟩
      refine ⟨c, Or.inl ⟨lp_r ?_, lp_r ?_⟩⟩
      · simp only [s_X9_common_25_13, un2, hY.1, nIle (show LN (EK tb p kd) (pn p) < 2 ^ 31 by omega) (show k < 2 ^ 31 by omega), if_pos (show LN (EK tb p kd) (pn p) ≤ k by omega)]
      · simp only [s_X10_common_52_15, un2, hm.1, nIle (show LN (EK tb p kd) (pn p) < 2 ^ 31 by omega) (show k < 2 ^ 31 by omega), if_pos (show LN (EK tb p kd) (pn p) ≤ k by omega)]
    | succ m ih =>
      intro k c n h1 h2 h3
      obtain ⟨n, rfl⟩ : ∃ n', n = n' + 1 := ⟨n - 1, by omega⟩
      rcases Nat.lt_or_ge k (LN (EK tb p kd) (pn p)) with h | h
      · obtain ⟨s1, s2⟩ := st k c h
        cases d : heB (EK tb p kd) (EK tb p ke) k
        · rw [d, if_pos rfl] at s1 s2
          rw [lp_l s1, lp_l s2]
          exact ih (k + 1) _ n (by omega) (by omega) (by omega)
        · rw [d, if_neg (by simp)] at s1 s2
          by_cases d2 : c = q0
          · rw [if_pos d2] at s1 s2
            exact ⟨_, Or.inr ⟨lp_r s1, lp_r s2⟩⟩
          · rw [if_neg d2] at s1 s2
            rw [lp_l s1, lp_l s2]
            exact ih (k + 1) _ n (by omega) (by omega) (by omega)
      · refine ⟨c, Or.inl ⟨lp_r ?_, lp_r ?_⟩⟩
        · simp only [s_X9_common_25_13, un2, hY.1, nIle (show LN (EK tb p kd) (pn p) < 2 ^ 31 by omega) (show k < 2 ^ 31 by omega), if_pos h]
        · simp only [s_X10_common_52_15, un2, hm.1, nIle (show LN (EK tb p kd) (pn p) < 2 ^ 31 by omega) (show k < 2 ^ 31 by omega), if_pos h]
  exact key _ 0 0 5000 (Nat.le_refl _) (Nat.zero_le _) (by omega)
theorem INV_q5 {o : Nat → Nat} {a aK : Nat → Nat → Nat} {Z B : Nat → OV} {tb : Tb} {p : Pg} {len : Nat} {v : Nat → Nat} {cnt nx : Nat} {q : Nat → Pg} (hI : INVc o a (Z 0) (Z 1) (Z 3) (Z 5) (Z 6) (Z 7) (Z 9) (Z 10) (Z 24) (Z 25) (Z 26) (Z 27) (Z 28) B tb p len v cnt nx q) {kd ke : Nat} (hkd : kd < 4) (hke : ke < 4) (hne : kd ≠ ke) {L' R' N' Y' V' M' : OV} (hL : ∀ k, nv L' k = nv (Z 0) k) (hR0 : R0 R') (hR : iv L' 12 = 0 ∨ RR (o 10) (a 0 2) R' tb p) (hY : YC Y' tb p kd) (hV : YC V' tb p ke) (hM : KM (Z 28) M') : INV o a aK (va_up (va_up (va_up (va_up (va_up (va_up Z 0 L') 6 R') 8 N') (24 + kd) Y') (24 + ke) V') 28 M') B := by
  obtain ⟨i1, ⟨i2, i2'⟩, i3, i4, i5, i6, i7, i8, ⟨y0, y1, y2, y3⟩, i10, i11, i12⟩ := hI
  have hk4 : kd = 0 ∨ kd = 1 ∨ kd = 2 ∨ kd = 3 := by omega
  have he4 : ke = 0 ∨ ke = 1 ∨ ke = 2 ∨ ke = 3 := by omega
  rcases hk4 with rfl | rfl | rfl | rfl <;> rcases he4 with rfl | rfl | rfl | rfl
  · exact absurd rfl hne
  · exact ⟨tb, p, len, v, cnt, nx, q, i1, ⟨(hL 10).trans i2, (hL 11).trans i2'⟩, i3, i4, i5, i6, ⟨hR0, i7.2⟩, hR, ⟨hY, hV, y2, y3⟩, i10, KM_MOD hM i11, i12⟩
  · exact ⟨tb, p, len, v, cnt, nx, q, i1, ⟨(hL 10).trans i2, (hL 11).trans i2'⟩, i3, i4, i5, i6, ⟨hR0, i7.2⟩, hR, ⟨hY, y1, hV, y3⟩, i10, KM_MOD hM i11, i12⟩
  · exact ⟨tb, p, len, v, cnt, nx, q, i1, ⟨(hL 10).trans i2, (hL 11).trans i2'⟩, i3, i4, i5, i6, ⟨hR0, i7.2⟩, hR, ⟨hY, y1, y2, hV⟩, i10, KM_MOD hM i11, i12⟩
  · exact ⟨tb, p, len, v, cnt, nx, q, i1, ⟨(hL 10).trans i2, (hL 11).trans i2'⟩, i3, i4, i5, i6, ⟨hR0, i7.2⟩, hR, ⟨hV, hY, y2, y3⟩, i10, KM_MOD hM i11, i12⟩
  · exact absurd rfl hne
  · exact ⟨tb, p, len, v, cnt, nx, q, i1, ⟨(hL 10).trans i2, (hL 11).trans i2'⟩, i3, i4, i5, i6, ⟨hR0, i7.2⟩, hR, ⟨y0, hY, hV, y3⟩, i10, KM_MOD hM i11, i12⟩
  · exact ⟨tb, p, len, v, cnt, nx, q, i1, ⟨(hL 10).trans i2, (hL 11).trans i2'⟩, i3, i4, i5, i6, ⟨hR0, i7.2⟩, hR, ⟨y0, hY, y2, hV⟩, i10, KM_MOD hM i11, i12⟩
  · exact ⟨tb, p, len, v, cnt, nx, q, i1, ⟨(hL 10).trans i2, (hL 11).trans i2'⟩, i3, i4, i5, i6, ⟨hR0, i7.2⟩, hR, ⟨hV, y1, hY, y3⟩, i10, KM_MOD hM i11, i12⟩
  · exact ⟨tb, p, len, v, cnt, nx, q, i1, ⟨(hL 10).trans i2, (hL 11).trans i2'⟩, i3, i4, i5, i6, ⟨hR0, i7.2⟩, hR, ⟨y0, hV, hY, y3⟩, i10, KM_MOD hM i11, i12⟩
  · exact absurd rfl hne
  · exact ⟨tb, p, len, v, cnt, nx, q, i1, ⟨(hL 10).trans i2, (hL 11).trans i2'⟩, i3, i4, i5, i6, ⟨hR0, i7.2⟩, hR, ⟨y0, y1, hY, hV⟩, i10, KM_MOD hM i11, i12⟩
  · exact ⟨tb, p, len, v, cnt, nx, q, i1, ⟨(hL 10).trans i2, (hL 11).trans i2'⟩, i3, i4, i5, i6, ⟨hR0, i7.2⟩, hR, ⟨hV, y1, y2, hY⟩, i10, KM_MOD hM i11, i12⟩
  · exact ⟨tb, p, len, v, cnt, nx, q, i1, ⟨(hL 10).trans i2, (hL 11).trans i2'⟩, i3, i4, i5, i6, ⟨hR0, i7.2⟩, hR, ⟨y0, hV, y2, hY⟩, i10, KM_MOD hM i11, i12⟩
  · exact ⟨tb, p, len, v, cnt, nx, q, i1, ⟨(hL 10).trans i2, (hL 11).trans i2'⟩, i3, i4, i5, i6, ⟨hR0, i7.2⟩, hR, ⟨y0, y1, hV, hY⟩, i10, KM_MOD hM i11, i12⟩
  · exact absurd rfl hne
theorem YC_k {Z : Nat → OV} {tb : Tb} {p : Pg} (h : YC (Z 24) tb p 0 ∧ YC (Z 25) tb p 1 ∧ YC (Z 26) tb p 2 ∧ YC (Z 27) tb p 3) {kd : Nat} (hkd : kd < 4) : YC (Z (24 + kd)) tb p kd := by
  have hk4 : kd = 0 ∨ kd = 1 ∨ kd = 2 ∨ kd = 3 := by omega
  rcases hk4 with rfl | rfl | rfl | rfl
  · exact h.1
  · exact h.2.1
  · exact h.2.2.1
  · exact h.2.2.2
theorem ok_common : Ok_common INV := by
  intro o a aK Z B hI q0
  have hI2 := hI
  obtain ⟨tb, p, len, v, cnt, nx, q, hc⟩ := hI2
  have hc' := hc
  obtain ⟨-, ⟨i2, -⟩, -, hPG, -, ⟨hC, -⟩, ⟨hR0, -⟩, hr, hYs, -, ⟨hRT, hM, -⟩, ⟨hT, -, hG, -⟩⟩ := hc'
  have hs := hG.1
  have hpt := hG.2.1
  have hP := hPG.1
  by_cases h1 : (-1 : Int32) ≤ q0
  · obtain ⟨L1, R1, N1, Y1, e1, g1, g2, g3, g4⟩ := L_layout (a := a) (N := Z 8) (show 0 < 4 by decide) i2 hR0 hr hC hP hs hT hpt hYs.1
    obtain ⟨L2, R2, N2, Y2, e2, g5, g6, g7, g8⟩ := L_layout (a := a) (N := N1) (show 1 < 4 by decide) ((g1 10).trans i2) g2 g3 hC hP hs hT hpt hYs.2.1
    obtain ⟨M1, M2, M3, m1, m2, m3, m4, m5, m6, m7⟩ := M_twoLays hM hs hRT hT hpt (kd := 0) (ke := 1) (by decide) (by decide)
    obtain ⟨x, hx⟩ := common_both (L := L2) (R := R2) (N := N2) hs g4 g8 m6 m7 q0
    have e1' : f_X9_layoutOf (a 0) (Z 0) (Z 3) (Z 6) (Z 8) (o 10) (Z 10) (a 0 (900 + 0)) (Z (24 + 0)) (0 : Int32) = some (L1, R1, N1, Y1) := e1
    have e2' : f_X9_layoutOf (a 0) L1 (Z 3) R1 N1 (o 10) (Z 10) (a 0 (900 + 1)) (Z (24 + 1)) (1 : Int32) = some (L2, R2, N2, Y2) := e2
    have m1' : f_X10_laysLines (Z 28) (1 : Int32) = some M1 := m1
    have m4' : f_X10_laysLines M2 (0 : Int32) = some M3 := m4
    have m3' : lp (s_X10_common_19_5 (nI (LN (EK tb p 1) (pn p)))) 5000 (0, M1) = some M2 := m3
    have hfin : ∀ r, f_X9_common (a 0) (Z 0) (Z 3) (Z 6) (Z 8) (o 10) (Z 10) (Z (24 + 0)) (Z (24 + 1)) q0 = some (r, L2, R2, N2, Y1, Y2) → f_X10_common (Z 28) q0 = some (r, M3) → (∃ (u : Int32 × OV × OV × OV × OV × OV) (w : Int32 × OV), f_X9_common (a 0) (Z 0) (Z 3) (Z 6) (Z 8) (o 10) (Z 10) (Z (24 + 0)) (Z (24 + 1)) q0 = some u ∧ f_X10_common (Z 28) q0 = some w ∧ w.1 = u.1 ∧ INV o a aK (va_up (va_up (va_up (va_up (va_up (va_up Z 0 u.2.1) 6 u.2.2.1) 8 u.2.2.2.1) (24 + 0) u.2.2.2.2.1) (24 + 1) u.2.2.2.2.2) 28 w.2) B) := by
      intro r f1 f2
      exact ⟨_, _, f1, f2, rfl, INV_q5 hc (kd := 0) (ke := 1) (by decide) (by decide) (by decide) (fun k => (g5 k).trans (g1 k)) g6 g7 (Or.inr g4) (Or.inr g8) m5⟩
    have F9 : f_X9_common (a 0) (Z 0) (Z 3) (Z 6) (Z 8) (o 10) (Z 10) (Z (24 + 0)) (Z (24 + 1)) q0 = ((lp (s_X9_common_25_13 Y1 L2 R2 N2 Y2 q0) 5000 (0, 0)).bind (Sum.elim (un1 (fun v4_24 => (if q0 = (-1 : Int32) then some (v4_24, L2, R2, N2, Y1, Y2) else some ((-2 : Int32), L2, R2, N2, Y1, Y2)))) (fun r => some r))) := by
      unfold f_X9_common
      rw [if_pos h1, e1', Option.bind_some]
      simp only [un4]
      rw [e2', Option.bind_some]
      simp only [un4, bnd]
    have F10 : f_X10_common (Z 28) q0 = ((lp (s_X10_common_52_15 M3 q0 (nI (LN (EK tb p 1) (pn p)))) 5000 (0, 0)).bind (Sum.elim (un1 (fun v3_32 => (if q0 = (-1 : Int32) then some (v3_32, M3) else some ((-2 : Int32), M3)))) (fun r => some r))) := by
      unfold f_X10_common
      rw [if_pos h1, m1', Option.bind_some]
      simp only [un1, m2, bnd]
      rw [m3', Option.bind_some]
      try simp only [un1]
      rw [m4', Option.bind_some]
    rcases hx with ⟨x1, x2⟩ | ⟨x1, x2⟩
    · rw [x1, Option.bind_some, Sum.elim_inl] at F9
      rw [x2, Option.bind_some, Sum.elim_inl] at F10
      by_cases c : q0 = -1
      · exact hfin x (by rw [F9]; simp only [un1, if_pos c]) (by rw [F10]; simp only [un1, if_pos c])
      · exact hfin (-2) (by rw [F9]; simp only [un1, if_neg c]) (by rw [F10]; simp only [un1, if_neg c])
    · rw [x1, Option.bind_some, Sum.elim_inr] at F9
      rw [x2, Option.bind_some, Sum.elim_inr] at F10
      exact hfin x F9 F10
  · refine ⟨(-1, Z 0, Z 6, Z 8, Z (24 + 0), Z (24 + 1)), (-1, Z 28), by unfold f_X9_common; rw [if_neg h1], by unfold f_X10_common; rw [if_neg h1], rfl, ?_⟩
    show INV o a aK (va_up (va_up (va_up (va_up (va_up (va_up Z 0 (Z 0)) 6 (Z 6)) 8 (Z 8)) (24 + 0) (Z (24 + 0))) (24 + 1) (Z (24 + 1))) 28 (Z 28)) B
    rw [up_same, up_same, up_same, up_same, up_same, up_same]
    exact hI
theorem ok_same : Ok_same INV := by
  intro o a aK Z B hI q0 q1
  have hI2 := hI
  obtain ⟨tb, p, len, v, cnt, nx, q, hc⟩ := hI2
  have hc' := hc
  obtain ⟨-, ⟨i2, -⟩, -, hPG, -, ⟨hC, -⟩, ⟨hR0, -⟩, hr, hYs, -, ⟨hRT, hM, -⟩, ⟨hT, -, hG, -⟩⟩ := hc'
  have hs := hG.1
  have hpt := hG.2.1
  have hP := hPG.1
  have bad : f_X9_same_1 (a 0) (Z 0) (Z 3) (Z 6) (Z 8) (o 10) (Z 10) (a 0 (900 + 0)) (Z (24 + 0)) q0 q1 = some (-1, Z 0, Z 6, Z 8, Z (24 + 0)) → f_X10_same (Z 28) q0 q1 = some (-1, Z 28) → (∃ (u : Int32 × OV × OV × OV × OV) (w : Int32 × OV), f_X9_same_1 (a 0) (Z 0) (Z 3) (Z 6) (Z 8) (o 10) (Z 10) (a 0 (900 + 0)) (Z (24 + 0)) q0 q1 = some u ∧ f_X10_same (Z 28) q0 q1 = some w ∧ w.1 = u.1 ∧ INV o a aK (va_up (va_up (va_up (va_up (va_up Z 0 u.2.1) 6 u.2.2.1) 8 u.2.2.2.1) (24 + 0) u.2.2.2.2) 28 w.2) B) := by
    intro h1 h2
    refine ⟨_, _, h1, h2, rfl, ?_⟩
    show INV o a aK (va_up (va_up (va_up (va_up (va_up Z 0 (Z 0)) 6 (Z 6)) 8 (Z 8)) (24 + 0) (Z (24 + 0))) 28 (Z 28)) B
    rw [up_same, up_same, up_same, up_same, up_same]
    exact hI
  rcases kind_or q0 with ⟨b1, b2⟩ | ⟨kd, hkd, rfl, b1, b2⟩
  · left
    refine bad ?_ ?_
    · unfold f_X9_same_1
      rw [b1]
      rfl
    · unfold f_X10_same
      rw [b2]
      rfl
  rcases kind_or q1 with ⟨d1, d2⟩ | ⟨ke, hke, rfl, d1, d2⟩
  · left
    refine bad ?_ ?_
    · unfold f_X9_same_1
      rw [b1, Option.bind_some]
      try simp only [un1]
      rw [if_neg (by decide), d1]
      rfl
    · unfold f_X10_same
      rw [b2, Option.bind_some]
      try simp only [un1]
      rw [if_neg (by decide), d2]
      rfl
  obtain ⟨M1, M2, M3, m1, m2, m3, m4, m5, m6, m7⟩ := M_twoLays hM hs hRT hT hpt hkd hke
  have F10 : ∀ x, lp (s_X10_same_66_19 M3 (nI (LN (EK tb p ke) (pn p)))) 5000 (0, 0) = some x → f_X10_same (Z 28) (nI kd) (nI ke) = some (x, M3) := by
    intro x hx
    unfold f_X10_same
    rw [b2, Option.bind_some]
    try simp only [un1]
    rw [if_neg (by decide), d2, Option.bind_some]
    try simp only [un1]
    rw [if_neg (by decide), m1, Option.bind_some]
    simp only [un1, m2, bnd]
    rw [m3, Option.bind_some]
    try simp only [un1]
    rw [m4, Option.bind_some]
    try simp only [un1]
    rw [hx, Option.bind_some]
  have H1 : kd = ke → (∃ (u : Int32 × OV × OV × OV × OV) (w : Int32 × OV), f_X9_same_1 (a 0) (Z 0) (Z 3) (Z 6) (Z 8) (o 10) (Z 10) (a 0 (900 + kd)) (Z (24 + kd)) (nI kd) (nI ke) = some u ∧ f_X10_same (Z 28) (nI kd) (nI ke) = some w ∧ w.1 = u.1 ∧ INV o a aK (va_up (va_up (va_up (va_up (va_up Z 0 u.2.1) 6 u.2.2.1) 8 u.2.2.2.1) (24 + kd) u.2.2.2.2) 28 w.2) B) := by
    intro hke'
    subst hke'
    obtain ⟨L1, R1, N1, Y1, e1, g1, g2, g3, g4⟩ := L_layout (a := a) (N := Z 8) hkd i2 hR0 hr hC hP hs hT hpt (YC_k (Z := Z) hYs hkd)
    have e2 := L_layout2 (a := a) (L := L1) (P := Z 3) (R := R1) (N := N1) (C := Z 10) (oC := o 10) hkd g4
    obtain ⟨x, x1, x2⟩ := same_both hs g4 g4 m6 m7
    have x1' : lp (s_X9_same_1_35_17 Y1) 5000 (0, 0) = some x := x1
    refine ⟨(x, L1, R1, N1, Y1), (x, M3), ?_, F10 x x2, rfl, INV_q2 hc hkd ⟨g1, g2, g3, Or.inr g4, m5⟩⟩
    unfold f_X9_same_1
    rw [b1, Option.bind_some]
    try simp only [un1]
    rw [if_neg (by decide), Option.bind_some]
    try simp only [un1]
    rw [if_neg (by decide), e1, Option.bind_some]
    simp only [un4]
    rw [e2, Option.bind_some]
    simp only [un4, bnd]
    rw [x1', Option.bind_some]
  have H2 : kd ≠ ke → (∃ (u : Int32 × OV × OV × OV × OV × OV) (w : Int32 × OV), f_X9_same (a 0) (Z 0) (Z 3) (Z 6) (Z 8) (o 10) (Z 10) (a 0 (900 + kd)) (Z (24 + kd)) (a 0 (900 + ke)) (Z (24 + ke)) (nI kd) (nI ke) = some u ∧ f_X10_same (Z 28) (nI kd) (nI ke) = some w ∧ w.1 = u.1 ∧ INV o a aK (va_up (va_up (va_up (va_up (va_up (va_up Z 0 u.2.1) 6 u.2.2.1) 8 u.2.2.2.1) (24 + kd) u.2.2.2.2.1) (24 + ke) u.2.2.2.2.2) 28 w.2) B) := by
    intro hne
    obtain ⟨L1, R1, N1, Y1, e1, g1, g2, g3, g4⟩ := L_layout (a := a) (N := Z 8) hkd i2 hR0 hr hC hP hs hT hpt (YC_k (Z := Z) hYs hkd)
    obtain ⟨L2, R2, N2, Y2, e2, g5, g6, g7, g8⟩ := L_layout (a := a) (N := N1) hke ((g1 10).trans i2) g2 g3 hC hP hs hT hpt (YC_k (Z := Z) hYs hke)
    obtain ⟨x, x1, x2⟩ := same_both hs g4 g8 m6 m7
    refine ⟨(x, L2, R2, N2, Y1, Y2), (x, M3), ?_, F10 x x2, rfl, INV_q5 hc hkd hke hne (fun k => (g5 k).trans (g1 k)) g6 g7 (Or.inr g4) (Or.inr g8) m5⟩
    unfold f_X9_same
    rw [b1, Option.bind_some]
    try simp only [un1]
    rw [if_neg (by decide), d1, Option.bind_some]
    try simp only [un1]
    rw [if_neg (by decide), e1, Option.bind_some]
    simp only [un4]
    rw [e2, Option.bind_some]
    simp only [un4, bnd]
    rw [x1, Option.bind_some]
  have hk4 : kd = 0 ∨ kd = 1 ∨ kd = 2 ∨ kd = 3 := by omega
  have he4 : ke = 0 ∨ ke = 1 ∨ ke = 2 ∨ ke = 3 := by omega
  clear hkd hke b1 b2 d1 d2 m1 m2 m3 m4 m5 m6 m7 F10 bad
  rcases hk4 with rfl | rfl | rfl | rfl <;> rcases he4 with rfl | rfl | rfl | rfl
  · exact Or.inl (H1 rfl)
  · exact Or.inr (Or.inl (H2 (by decide)))
  · exact Or.inr (Or.inr (Or.inl (H2 (by decide))))
  · exact Or.inr (Or.inr (Or.inr (Or.inl (H2 (by decide)))))
  · exact Or.inr (Or.inr (Or.inr (Or.inr (Or.inl (H2 (by decide))))))
  · exact Or.inr (Or.inr (Or.inr (Or.inr (Or.inr (Or.inl (H1 rfl))))))
  · exact Or.inr (Or.inr (Or.inr (Or.inr (Or.inr (Or.inr (Or.inl (H2 (by decide))))))))
  · exact Or.inr (Or.inr (Or.inr (Or.inr (Or.inr (Or.inr (Or.inr (Or.inl (H2 (by decide)))))))))
  · exact Or.inr (Or.inr (Or.inr (Or.inr (Or.inr (Or.inr (Or.inr (Or.inr (Or.inl (H2 (by decide))))))))))
  · exact Or.inr (Or.inr (Or.inr (Or.inr (Or.inr (Or.inr (Or.inr (Or.inr (Or.inr (Or.inl (H2 (by decide)))))))))))
  · exact Or.inr (Or.inr (Or.inr (Or.inr (Or.inr (Or.inr (Or.inr (Or.inr (Or.inr (Or.inr (Or.inl (H1 rfl)))))))))))
  · exact Or.inr (Or.inr (Or.inr (Or.inr (Or.inr (Or.inr (Or.inr (Or.inr (Or.inr (Or.inr (Or.inr (Or.inl (H2 (by decide)))))))))))))
  · exact Or.inr (Or.inr (Or.inr (Or.inr (Or.inr (Or.inr (Or.inr (Or.inr (Or.inr (Or.inr (Or.inr (Or.inr (Or.inl (H2 (by decide))))))))))))))
  · exact Or.inr (Or.inr (Or.inr (Or.inr (Or.inr (Or.inr (Or.inr (Or.inr (Or.inr (Or.inr (Or.inr (Or.inr (Or.inr (Or.inl (H2 (by decide)))))))))))))))
  · exact Or.inr (Or.inr (Or.inr (Or.inr (Or.inr (Or.inr (Or.inr (Or.inr (Or.inr (Or.inr (Or.inr (Or.inr (Or.inr (Or.inr (Or.inl (H2 (by decide))))))))))))))))
  · exact Or.inr (Or.inr (Or.inr (Or.inr (Or.inr (Or.inr (Or.inr (Or.inr (Or.inr (Or.inr (Or.inr (Or.inr (Or.inr (Or.inr (Or.inr (H1 rfl)))))))))))))))
