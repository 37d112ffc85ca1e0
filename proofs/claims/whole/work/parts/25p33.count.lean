theorem P_kept {P : OV} {p : Pg} (hP : RP P p) {a : Nat} (ha : a < 26) (b : Nat) : f_X4_isKept P (nI a) (nI b) = some (bo (bt (pt p a) b)) := by
  unfold f_X4_isKept
  rw [gd_t (ix_nI ha (by decide)), nI_clamp (by omega), hP.2.2.2.1 a ha]
  simp only [f_X9_bitOf, Option.bind_some, un1, bit_bo, bo_1]
  cases bt (pt p a) b <;> rfl
theorem P_signsOf {P : OV} {p : Pg} (hP : RP P p) (hs : PgS p) {l : Nat} (hl : l < 26) : f_X4_signsOf P (nI l) = some (nI (sg (fun i => if ps p i = l then 1 else 0) 0 (pn p))) := by
  have h40 := hs.1
  have h1 : ∀ k, 0 ≤ k → k < pn p → ∀ x, s_X4_signsOf_4_3 P (nI l) (nI x, nI k) = some (.inl (nI (x + (fun i => if ps p i = l then 1 else 0) k), nI (k + 1))) := by
    intro k _ hk x
    have l0 := (hs.2.1 k hk).1
    simp only [s_X4_signsOf_4_3, un2, hP.1, nIle (show pn p < 2 ^ 31 by omega) (show k < 2 ^ 31 by omega), if_neg (show ¬ pn p ≤ k by omega), gd_t (ix_nI (show k < 40 by omega) (show 40 < 2 ^ 31 by decide)), nI_clamp (show k < 2 ^ 31 by omega), hP.2.1 k hk, nIe (show ps p k < 2 ^ 31 by omega) (show l < 2 ^ 31 by omega), j_X4_signsOf_25_7, bnd, nI_1]
    by_cases c : ps p k = l <;> simp [c]
  have h2 : ∀ x, s_X4_signsOf_4_3 P (nI l) (nI x, nI (pn p)) = some (.inr (nI x)) := by
    intro x
    simp only [s_X4_signsOf_4_3, un2, hP.1, if_pos (Int32.le_refl _)]
  have := lp_sum (step := s_X4_signsOf_4_3 P (nI l)) (fun i => if ps p i = l then 1 else 0) 0 (pn p) (Nat.zero_le _) h1 h2 5000 (by omega)
  unfold f_X4_signsOf
  simp only [bnd]
  rw [show (0 : Int32) = nI 0 from rfl, this]
  rfl
theorem M_signsLike {M : OV} {p : Pg} (hM : RM (ar M 8) p) (hs : PgS p) {l : Nat} (hl : l < 26) : f_X10_signsLike M (nI l) = some (nI (sg (fun i => if ps p i = l then 1 else 0) 0 (pn p))) := by
  have h40 := hs.1
  have h1 : ∀ k, 0 ≤ k → k < pn p → ∀ x, s_X10_signsLike_4_3 M (nI l) (nI x, nI k) = some (.inl (nI (x + (fun i => if ps p i = l then 1 else 0) k), nI (k + 1))) := by
    intro k _ hk x
    have l0 := (hs.2.1 k hk).1
    simp only [s_X10_signsLike_4_3, un2, M_many hM, Option.bind_some, un1, nIle (show pn p < 2 ^ 31 by omega) (show k < 2 ^ 31 by omega), if_neg (show ¬ pn p ≤ k by omega), M_class hM hs hk, nIe (show ps p k < 2 ^ 31 by omega) (show l < 2 ^ 31 by omega), j_X10_signsLike_24_11, bnd, nI_1]
    by_cases c : ps p k = l <;> simp [c]
  have h2 : ∀ x, s_X10_signsLike_4_3 M (nI l) (nI x, nI (pn p)) = some (.inr (nI x)) := by
    intro x
    simp only [s_X10_signsLike_4_3, un2, M_many hM, Option.bind_some, un1, if_pos (Int32.le_refl _)]
  have := lp_sum (step := s_X10_signsLike_4_3 M (nI l)) (fun i => if ps p i = l then 1 else 0) 0 (pn p) (Nat.zero_le _) h1 h2 5000 (by omega)
  unfold f_X10_signsLike
  simp only [bnd]
  rw [show (0 : Int32) = nI 0 from rfl, this]
  rfl
theorem bo_if (b : Bool) : (if bo b = 0 then some (0 : Int32) else some 1) = some (bo b) := by cases b <;> rfl
theorem ok_isPair : Ok_isPair INV := by
  rintro o a aK Z B hI q0 q1
  have hI' := hI
  obtain ⟨tb, p, len, v, cnt, nx, q, -, ⟨i2, -⟩, -, ⟨hP, -⟩, -, ⟨hC, -⟩, -, -, -, -, ⟨hRT, hM, -⟩, ⟨hT, -, ⟨hs, -⟩, -⟩⟩ := hI'
  have hn := decide_eq_true i2
  rcases told_or hC hRT hT q0 with ⟨e1, e2⟩ | ⟨l, hl, rfl, hl0, e1, e2⟩
  · exact ⟨-1, -1, by simp only [f_X9_isPair, gd_t hn, e1, Option.bind_some, un1, if_true], by simp only [f_X10_isPair, e2, Option.bind_some, un1, if_true], rfl, hI⟩
  · rcases told_or hC hRT hT q1 with ⟨e3, e4⟩ | ⟨k, hk, rfl, hk0, e3, e4⟩
    · exact ⟨-1, -1, by simp only [f_X9_isPair, gd_t hn, e1, e3, Option.bind_some, un1, if_true, if_neg (show ¬ (1 : Int32) = 0 by decide)], by simp only [f_X10_isPair, e2, e4, Option.bind_some, un1, if_true, if_neg (show ¬ (1 : Int32) = 0 by decide)], rfl, hI⟩
    · refine ⟨bo (bt (pt p l) k), bo (bt (pt p l) k), ?_, ?_, rfl, hI⟩
      · simp only [f_X9_isPair, gd_t hn, e1, e3, Option.bind_some, un1, if_neg (show ¬ (1 : Int32) = 0 by decide), P_kept hP hl, bo_if]
      · simp only [f_X10_isPair, e2, e4, Option.bind_some, un1, if_neg (show ¬ (1 : Int32) = 0 by decide), M_pair hM hl, bo_if]
theorem ok_of : Ok_of INV := by
  rintro o a aK Z B hI q0 q1
  have hI' := hI
  obtain ⟨tb, p, len, v, cnt, nx, q, -, ⟨i2, -⟩, -, ⟨hP, -⟩, -, ⟨hC, -⟩, -, -, -, -, ⟨hRT, hM, -⟩, ⟨hT, -, ⟨hs, -⟩, -⟩⟩ := hI'
  have hn := decide_eq_true i2
  rcases told_or hC hRT hT q0 with ⟨e1, e2⟩ | ⟨l, hl, rfl, hl0, e1, e2⟩
  · exact ⟨-1, -1, by simp only [f_X9_of, gd_t hn, e1, Option.bind_some, un1, if_true], by simp only [f_X10_of, e2, Option.bind_some, un1, if_true], rfl, hI⟩
  · have xl : ix (nI l) 26 = true := ix_nI hl (by decide)
    have cl := nI_clamp (show l < 2 ^ 31 by omega)
    obtain ⟨m1, m2⟩ := hRT l hl
    obtain ⟨m3, m4, m5, m6, m7, m8⟩ := m2 hl0
    have e82 : ar (Z 28) 8 (82 : Int32).toNatClampNeg = pb p := hM.2.2.2.2.2.2.1
    have e83 : ar (Z 28) 8 (83 : Int32).toNatClampNeg = pe p := hM.2.2.2.2.2.2.2
    have b3 := (hT l hl).2.1
    have e30 : (if nI (tb 3 l) = 0 then some (0 : Int32) else some 1) = some (nI (tb 3 l)) := by
      generalize tb 3 l = u at b3
      exact (by decide : ∀ u, u ≤ 1 → (if nI u = 0 then some (0 : Int32) else some 1) = some (nI u)) u b3
    have h10 : f_X10_of (Z 28) (nI l) q1 = (if q1 = 0 then some (nI (tb 0 l)) else if q1 = 1 then some (bo (bt (pb p) l)) else if q1 = 2 then some (bo (bt (pe p) l)) else if q1 = 3 then some (nI (tb 3 l)) else if q1 = 4 then some (nI (tb 4 l)) else if q1 = 5 then some (nI (tb 5 l)) else if q1 = 6 then some (nI (tb 6 l)) else if q1 = 7 then some (nI (tb 7 l)) else if q1 = 8 then some (nI (tb 8 l)) else if q1 = 9 then some (nI (sg (fun i => if ps p i = l then 1 else 0) 0 (pn p))) else some (-1)) := by
      simp only [f_X10_of, e2, Option.bind_some, un1, if_neg (show ¬ (1 : Int32) = 0 by decide), gd_t xl, cl, m1, m3, m4, m5, m6, m7, m8, gd_t (show ix (82 : Int32) 113 = true by decide), gd_t (show ix (83 : Int32) 113 = true by decide), e82, e83, M_isIn, bo_if, e30, M_signsLike hM hs hl]
    have h9 : f_X9_of (Z 0) (Z 3) (o 10) (Z 10) (nI l) q1 = (if q1 = 1 then some (bo (bt (pb p) l)) else if q1 = 2 then some (bo (bt (pe p) l)) else if q1 = 9 then some (nI (sg (fun i => if ps p i = l then 1 else 0) 0 (pn p))) else if q1 < 0 then some (-1) else if 9 ≤ q1 then some (-1) else gd (ix q1 9) (some (gr (Z 10) 0 q1.toNatClampNeg l))) := by
      simp only [f_X9_of, gd_t hn, e1, Option.bind_some, un1, if_neg (show ¬ (1 : Int32) = 0 by decide), f_X9_bitOf, hP.2.2.2.2.2.2.1, hP.2.2.2.2.2.2.2, bit_bo, P_signsOf hP hs hl, j_X9_of_86_3, gd_t xl, cl]
    have fin : ∀ r, f_X9_of (Z 0) (Z 3) (o 10) (Z 10) (nI l) q1 = some r → f_X10_of (Z 28) (nI l) q1 = some r → (∃ (u : Int32) (w : Int32), f_X9_of (Z 0) (Z 3) (o 10) (Z 10) (nI l) q1 = some u ∧ f_X10_of (Z 28) (nI l) q1 = some w ∧ w = u ∧ INV o a aK Z B) := fun r a b => ⟨r, r, a, b, rfl, hI⟩
    have hg : ∀ k, k < 9 → gr (Z 10) 0 k l = nI (tb k l) := fun k hk => hC k hk l hl
    rcases pk_ix q1 (show 10 < 2 ^ 31 by decide) with h | h | ⟨w, hw, rfl⟩
    · have hne : ∀ j, j < 10 → ¬ q1 = nI j := fun j hj => out_ne (by decide) (Or.inl h : q1 < 0 ∨ nI 10 ≤ q1) hj
      refine fin (-1) ?_ ?_
      · rw [h9, if_neg (show ¬ q1 = (1 : Int32) from hne 1 (by decide)), if_neg (show ¬ q1 = (2 : Int32) from hne 2 (by decide)), if_neg (show ¬ q1 = (9 : Int32) from hne 9 (by decide)), if_pos h]
      · rw [h10, if_neg (show ¬ q1 = (0 : Int32) from hne 0 (by decide)), if_neg (show ¬ q1 = (1 : Int32) from hne 1 (by decide)), if_neg (show ¬ q1 = (2 : Int32) from hne 2 (by decide)), if_neg (show ¬ q1 = (3 : Int32) from hne 3 (by decide)), if_neg (show ¬ q1 = (4 : Int32) from hne 4 (by decide)), if_neg (show ¬ q1 = (5 : Int32) from hne 5 (by decide)), if_neg (show ¬ q1 = (6 : Int32) from hne 6 (by decide)), if_neg (show ¬ q1 = (7 : Int32) from hne 7 (by decide)), if_neg (show ¬ q1 = (8 : Int32) from hne 8 (by decide)), if_neg (show ¬ q1 = (9 : Int32) from hne 9 (by decide))]
    · have hne : ∀ j, j < 10 → ¬ q1 = nI j := fun j hj => out_ne (by decide) (Or.inr h : q1 < 0 ∨ nI 10 ≤ q1) hj
      have h0 : ¬ q1 < 0 := Int32.not_lt.mpr (Int32.le_trans (show (0 : Int32) ≤ nI 10 by decide) h)
      have h9' : (9 : Int32) ≤ q1 := Int32.le_trans (show (9 : Int32) ≤ nI 10 by decide) h
      refine fin (-1) ?_ ?_
      · rw [h9, if_neg (show ¬ q1 = (1 : Int32) from hne 1 (by decide)), if_neg (show ¬ q1 = (2 : Int32) from hne 2 (by decide)), if_neg (show ¬ q1 = (9 : Int32) from hne 9 (by decide)), if_neg h0, if_pos h9']
      · rw [h10, if_neg (show ¬ q1 = (0 : Int32) from hne 0 (by decide)), if_neg (show ¬ q1 = (1 : Int32) from hne 1 (by decide)), if_neg (show ¬ q1 = (2 : Int32) from hne 2 (by decide)), if_neg (show ¬ q1 = (3 : Int32) from hne 3 (by decide)), if_neg (show ¬ q1 = (4 : Int32) from hne 4 (by decide)), if_neg (show ¬ q1 = (5 : Int32) from hne 5 (by decide)), if_neg (show ¬ q1 = (6 : Int32) from hne 6 (by decide)), if_neg (show ¬ q1 = (7 : Int32) from hne 7 (by decide)), if_neg (show ¬ q1 = (8 : Int32) from hne 8 (by decide)), if_neg (show ¬ q1 = (9 : Int32) from hne 9 (by decide))]
    · have w10 : w = 0 ∨ w = 1 ∨ w = 2 ∨ w = 3 ∨ w = 4 ∨ w = 5 ∨ w = 6 ∨ w = 7 ∨ w = 8 ∨ w = 9 := by omega
      rcases w10 with rfl | rfl | rfl | rfl | rfl | rfl | rfl | rfl | rfl | rfl
      · exact fin (nI (tb 0 l)) (by rw [h9]; exact congrArg some (hg 0 (by decide))) (by rw [h10]; rfl)
      · exact fin (bo (bt (pb p) l)) (by rw [h9]; rfl) (by rw [h10]; rfl)
      · exact fin (bo (bt (pe p) l)) (by rw [h9]; rfl) (by rw [h10]; rfl)
      · exact fin (nI (tb 3 l)) (by rw [h9]; exact congrArg some (hg 3 (by decide))) (by rw [h10]; rfl)
      · exact fin (nI (tb 4 l)) (by rw [h9]; exact congrArg some (hg 4 (by decide))) (by rw [h10]; rfl)
      · exact fin (nI (tb 5 l)) (by rw [h9]; exact congrArg some (hg 5 (by decide))) (by rw [h10]; rfl)
      · exact fin (nI (tb 6 l)) (by rw [h9]; exact congrArg some (hg 6 (by decide))) (by rw [h10]; rfl)
      · exact fin (nI (tb 7 l)) (by rw [h9]; exact congrArg some (hg 7 (by decide))) (by rw [h10]; rfl)
      · exact fin (nI (tb 8 l)) (by rw [h9]; exact congrArg some (hg 8 (by decide))) (by rw [h10]; rfl)
      · exact fin (nI (sg (fun i => if ps p i = l then 1 else 0) 0 (pn p))) (by rw [h9]; rfl) (by rw [h10]; rfl)
-- what is counted
theorem P_legalEnds {P : OV} {p : Pg} (hP : RP P p) (hs : PgS p) : f_X4_legalEnds P = some (nI (sg (fun i => if lgl p i = true then 1 else 0) 0 (pn p))) := by
  have h40 := hs.1
  have h1 : ∀ k, 0 ≤ k → k < pn p → ∀ x, s_X4_legalEnds_4_3 P (nI x, nI k) = some (.inl (nI (x + (fun i => if lgl p i = true then 1 else 0) k), nI (k + 1))) := by
    intro k _ hk x
    simp only [s_X4_legalEnds_4_3, un2, hP.1, nIle (show pn p < 2 ^ 31 by omega) (show k < 2 ^ 31 by omega), if_neg (show ¬ pn p ≤ k by omega), P_legal hP hs hk, Option.bind_some, un1, bo_0, j_X4_legalEnds_23_9, bnd, nI_1]
    cases lgl p k <;> simp
  have h2 : ∀ x, s_X4_legalEnds_4_3 P (nI x, nI (pn p)) = some (.inr (nI x)) := by
    intro x
    simp only [s_X4_legalEnds_4_3, un2, hP.1, if_pos (Int32.le_refl _)]
  have := lp_sum (step := s_X4_legalEnds_4_3 P) (fun i => if lgl p i = true then 1 else 0) 0 (pn p) (Nat.zero_le _) h1 h2 5000 (by omega)
  unfold f_X4_legalEnds
  simp only [bnd]
  rw [show (0 : Int32) = nI 0 from rfl, this]
  rfl
theorem M_legalEnds {M : OV} {p : Pg} (hM : RM (ar M 8) p) (hs : PgS p) : f_X10_legalEnds M = some (nI (sg (fun i => if lgl p i = true then 1 else 0) 0 (pn p))) := by
  have h40 := hs.1
  have h1 : ∀ k, 0 ≤ k → k < pn p → ∀ x, s_X10_legalEnds_4_3 M (nI x, nI k) = some (.inl (nI (x + (fun i => if lgl p i = true then 1 else 0) k), nI (k + 1))) := by
    intro k _ hk x
    simp only [s_X10_legalEnds_4_3, un2, M_many hM, Option.bind_some, un1, nIle (show pn p < 2 ^ 31 by omega) (show k < 2 ^ 31 by omega), if_neg (show ¬ pn p ≤ k by omega), M_legal hM hs hk, bo_0, j_X10_legalEnds_23_11, bnd, nI_1]
    cases lgl p k <;> simp
  have h2 : ∀ x, s_X10_legalEnds_4_3 M (nI x, nI (pn p)) = some (.inr (nI x)) := by
    intro x
    simp only [s_X10_legalEnds_4_3, un2, M_many hM, Option.bind_some, un1, if_pos (Int32.le_refl _)]
  have := lp_sum (step := s_X10_legalEnds_4_3 M) (fun i => if lgl p i = true then 1 else 0) 0 (pn p) (Nat.zero_le _) h1 h2 5000 (by omega)
  unfold f_X10_legalEnds
  simp only [bnd]
  rw [show (0 : Int32) = nI 0 from rfl, this]
  rfl
theorem P_marksOf {P : OV} {p : Pg} (hP : RP P p) (hs : PgS p) {m : Nat} (hm : m ≤ 2) : f_X4_marksOf P (nI m) = some (nI (sg (fun i => if pm p i = m then 1 else 0) 0 (pn p))) := by
  have h40 := hs.1
  have h1 : ∀ k, 0 ≤ k → k < pn p → ∀ x, s_X4_marksOf_4_3 P (nI m) (nI x, nI k) = some (.inl (nI (x + (fun i => if pm p i = m then 1 else 0) k), nI (k + 1))) := by
    intro k _ hk x
    have l0 := (hs.2.1 k hk).2
    simp only [s_X4_marksOf_4_3, un2, hP.1, nIle (show pn p < 2 ^ 31 by omega) (show k < 2 ^ 31 by omega), if_neg (show ¬ pn p ≤ k by omega), gd_t (ix_nI (show k < 40 by omega) (show 40 < 2 ^ 31 by decide)), nI_clamp (show k < 2 ^ 31 by omega), hP.2.2.1 k hk, nIe (show pm p k < 2 ^ 31 by omega) (show m < 2 ^ 31 by omega), j_X4_marksOf_25_7, bnd, nI_1]
    by_cases c : pm p k = m <;> simp [c]
  have h2 : ∀ x, s_X4_marksOf_4_3 P (nI m) (nI x, nI (pn p)) = some (.inr (nI x)) := by
    intro x
    simp only [s_X4_marksOf_4_3, un2, hP.1, if_pos (Int32.le_refl _)]
  have := lp_sum (step := s_X4_marksOf_4_3 P (nI m)) (fun i => if pm p i = m then 1 else 0) 0 (pn p) (Nat.zero_le _) h1 h2 5000 (by omega)
  unfold f_X4_marksOf
  simp only [bnd]
  rw [show (0 : Int32) = nI 0 from rfl, this]
  rfl
theorem M_marked {M : OV} {p : Pg} (hM : RM (ar M 8) p) (hs : PgS p) {m : Nat} (hm : m ≤ 2) : f_X10_signsMarked M (nI m) = some (nI (sg (fun i => if pm p i = m then 1 else 0) 0 (pn p))) := by
  have h40 := hs.1
  have h1 : ∀ k, 0 ≤ k → k < pn p → ∀ x, s_X10_signsMarked_4_3 M (nI m) (nI x, nI k) = some (.inl (nI (x + (fun i => if pm p i = m then 1 else 0) k), nI (k + 1))) := by
    intro k _ hk x
    have l0 := (hs.2.1 k hk).2
    simp only [s_X10_signsMarked_4_3, un2, M_many hM, Option.bind_some, un1, nIle (show pn p < 2 ^ 31 by omega) (show k < 2 ^ 31 by omega), if_neg (show ¬ pn p ≤ k by omega), M_mark hM hs hk, nIe (show pm p k < 2 ^ 31 by omega) (show m < 2 ^ 31 by omega), j_X10_signsMarked_24_11, bnd, nI_1]
    by_cases c : pm p k = m <;> simp [c]
  have h2 : ∀ x, s_X10_signsMarked_4_3 M (nI m) (nI x, nI (pn p)) = some (.inr (nI x)) := by
    intro x
    simp only [s_X10_signsMarked_4_3, un2, M_many hM, Option.bind_some, un1, if_pos (Int32.le_refl _)]
  have := lp_sum (step := s_X10_signsMarked_4_3 M (nI m)) (fun i => if pm p i = m then 1 else 0) 0 (pn p) (Nat.zero_le _) h1 h2 5000 (by omega)
  unfold f_X10_signsMarked
  simp only [bnd]
  rw [show (0 : Int32) = nI 0 from rfl, this]
  rfl
theorem M_classes {M C : OV} {tb : Tb} (hC : RC C tb) (hR : RT M tb) (hT : TbS tb) : f_X10_classes M = some (nI (cls tb)) := by
  have h1 : ∀ k, 0 ≤ k → k < 26 → ∀ x, s_X10_classes_4_3 M (nI x, nI k) = some (.inl (nI (x + (fun l => if 0 < tb 0 l then 1 else 0) k), nI (k + 1))) := by
    intro k _ hk x
    have b9 := (hT k hk).1
    have e : f_X10_isTold M (nI k) = some (if 0 < tb 0 k then 1 else 0) := by
      rcases told_or hC hR hT (nI k) with ⟨-, e⟩ | ⟨l, hl, el, hl0, -, e⟩
      · rw [e]
        have : ¬ 0 < tb 0 k := by
          intro z
          have e0 : (nI (tb 0 k) ≤ (0 : Int32)) = (tb 0 k ≤ 0) := nIle (by omega) (by decide)
          have e1 : f_X10_in (nI k) 0 25 = some 1 := by simp only [f_X10_in, if_neg (nI_pos (show k < 2 ^ 31 by omega)), if_neg (show ¬ (25 : Int32) < nI k from nI_nlt (show k ≤ 25 by omega) (by decide))]
          simp only [f_X10_isTold, e1, Option.bind_some, un1, if_neg (show ¬ (1 : Int32) = 0 by decide), gd_t (ix_nI hk (show 26 < 2 ^ 31 by decide)), nI_clamp (show k < 2 ^ 31 by omega), (hR k hk).1, e0, if_neg (show ¬ tb 0 k ≤ 0 by omega)] at e
          exact absurd (Option.some.inj e) (by decide)
        rw [if_neg this]
      · rw [e]
        have : k = l := by
          have := congrArg Int32.toNatClampNeg el
          rw [nI_clamp (by omega), nI_clamp (by omega)] at this
          exact this
        subst this
        rw [if_pos hl0]
    simp only [s_X10_classes_4_3, un2, show ((26 : Int32) ≤ nI k) = (26 ≤ k) from nIle (by decide) (by omega), if_neg (show ¬ 26 ≤ k by omega), e, Option.bind_some, un1, j_X10_classes_21_9, bnd, nI_1]
    by_cases c : 0 < tb 0 k
    · simp [c, nI_1]
    · simp [c]
  have h2 : ∀ x, s_X10_classes_4_3 M (nI x, nI 26) = some (.inr (nI x)) := by
    intro x
    simp only [s_X10_classes_4_3, un2, if_pos (show (26 : Int32) ≤ nI 26 by decide)]
  have := lp_sum (step := s_X10_classes_4_3 M) (fun l => if 0 < tb 0 l then 1 else 0) 0 26 (by decide) h1 h2 5000 (by omega)
  unfold f_X10_classes
  simp only [bnd]
  rw [show (0 : Int32) = nI 0 from rfl, this]
  rfl
/-- the longest stretch: with how far the one that is open goes -/
def lg2 (p : Pg) : Nat → Nat × Nat
  | 0 => (0, 0)
  | i + 1 => if lgl p i = true then (max (i + 1 - (lg2 p i).2) (lg2 p i).1, i + 1) else lg2 p i
theorem lg2_le (p : Pg) : ∀ i, (lg2 p i).2 ≤ i ∧ (lg2 p i).1 ≤ i
  | 0 => ⟨Nat.le_refl _, Nat.le_refl _⟩
  | i + 1 => by
    have := lg2_le p i
    simp only [lg2]
    split
    · exact ⟨Nat.le_refl _, by show max _ _ ≤ i + 1; omega⟩
    · omega
theorem P_longest {P : OV} {p : Pg} (hP : RP P p) (hs : PgS p) : f_X4_longestStretch P = some (nI (lg2 p (pn p)).1) := by
  have h40 := hs.1
  have hstep : ∀ k, 0 ≤ k → k < pn p → s_X4_longestStretch_6_4 P ((fun k => (nI (lg2 p k).1, nI (lg2 p k).2, nI k)) k) = some (.inl ((fun k => (nI (lg2 p k).1, nI (lg2 p k).2, nI k)) (k + 1))) := by
    intro k _ hk
    have hle := lg2_le p k
    show s_X4_longestStretch_6_4 P (nI (lg2 p k).1, nI (lg2 p k).2, nI k) = some (.inl (nI (lg2 p (k + 1)).1, nI (lg2 p (k + 1)).2, nI (k + 1)))
    simp only [s_X4_longestStretch_6_4, un3, hP.1, nIle (show pn p < 2 ^ 31 by omega) (show k < 2 ^ 31 by omega), if_neg (show ¬ pn p ≤ k by omega), P_legal hP hs hk, Option.bind_some, un1, bo_0, j_X4_longestStretch_36_12, bnd, nI_1, nI_sub (show (lg2 p k).2 ≤ k + 1 by omega), mx_nI (show (lg2 p k).1 < 2 ^ 31 by omega) (show k + 1 - (lg2 p k).2 < 2 ^ 31 by omega), lg2]
    cases lgl p k <;> simp
  have hend : s_X4_longestStretch_6_4 P ((fun k => (nI (lg2 p k).1, nI (lg2 p k).2, nI k)) (pn p)) = some (.inr (nI (lg2 p (pn p)).1)) := by
    simp only [s_X4_longestStretch_6_4, un3, hP.1, if_pos (Int32.le_refl _)]
  have h := lp_for (step := s_X4_longestStretch_6_4 P) (fun k => (nI (lg2 p k).1, nI (lg2 p k).2, nI k)) 0 (pn p) (Nat.zero_le _) hstep hend 5000 (by omega)
  unfold f_X4_longestStretch
  simp only [bnd]
  rw [show lp (s_X4_longestStretch_6_4 P) 5000 (0, 0, 0) = some (nI (lg2 p (pn p)).1) from h]
  rfl
theorem M_longest {M : OV} {p : Pg} (hM : RM (ar M 8) p) (hs : PgS p) : f_X10_longest M = some (nI (lg2 p (pn p)).1) := by
  have h40 := hs.1
  have hstep : ∀ k, 0 ≤ k → k < pn p → s_X10_longest_6_4 M ((fun k => (nI (max (lg2 p k).1 (k - (lg2 p k).2)), nI (k - (lg2 p k).2), nI k)) k) = some (.inl ((fun k => (nI (max (lg2 p k).1 (k - (lg2 p k).2)), nI (k - (lg2 p k).2), nI k)) (k + 1))) := by
    intro k _ hk
    have hle := lg2_le p k
    show s_X10_longest_6_4 M (nI (max (lg2 p k).1 (k - (lg2 p k).2)), nI (k - (lg2 p k).2), nI k) = some (.inl (nI (max (lg2 p (k + 1)).1 (k + 1 - (lg2 p (k + 1)).2)), nI (k + 1 - (lg2 p (k + 1)).2), nI (k + 1)))
    simp only [s_X10_longest_6_4, un3, M_many hM, Option.bind_some, un1, nIle (show pn p < 2 ^ 31 by omega) (show k < 2 ^ 31 by omega), if_neg (show ¬ pn p ≤ k by omega), bnd, nI_1, nIle (show k - (lg2 p k).2 + 1 < 2 ^ 31 by omega) (show max (lg2 p k).1 (k - (lg2 p k).2) < 2 ^ 31 by omega), j_X10_longest_24_12, M_legal hM hs hk, bo_0, j_X10_longest_34_16, lg2]
    by_cases c : k - (lg2 p k).2 + 1 ≤ max (lg2 p k).1 (k - (lg2 p k).2)
    · rw [if_pos c]
      cases lgl p k
      · simp only [if_true, Bool.false_eq_true, if_false]
        rw [show max (lg2 p k).1 (k - (lg2 p k).2) = max (lg2 p k).1 (k + 1 - (lg2 p k).2) by omega, show k - (lg2 p k).2 + 1 = k + 1 - (lg2 p k).2 by omega]
      · simp only [Bool.true_eq_false, if_false, if_true]
        rw [show max (lg2 p k).1 (k - (lg2 p k).2) = max (max (k + 1 - (lg2 p k).2) (lg2 p k).1) (k + 1 - (k + 1)) by omega, Nat.sub_self]
        rfl
    · rw [if_neg c]
      cases lgl p k
      · simp only [if_true, Bool.false_eq_true, if_false]
        rw [show k - (lg2 p k).2 + 1 = k + 1 - (lg2 p k).2 by omega, show max (lg2 p k).1 (k + 1 - (lg2 p k).2) = k + 1 - (lg2 p k).2 by omega]
      · simp only [Bool.true_eq_false, if_false, if_true]
        rw [show k - (lg2 p k).2 + 1 = max (max (k + 1 - (lg2 p k).2) (lg2 p k).1) (k + 1 - (k + 1)) by omega, Nat.sub_self]
        rfl
  have hlast : (lg2 p (pn p)).2 = pn p := by
    cases hn : pn p with
    | zero => rfl
    | succ n =>
      have : lgl p n = true := by unfold lgl; exact decide_eq_true (Or.inl hn.symm)
      rw [lg2, if_pos this]
  have hend : s_X10_longest_6_4 M ((fun k => (nI (max (lg2 p k).1 (k - (lg2 p k).2)), nI (k - (lg2 p k).2), nI k)) (pn p)) = some (.inr (nI (lg2 p (pn p)).1)) := by
    simp only [s_X10_longest_6_4, un3, M_many hM, Option.bind_some, un1, if_pos (Int32.le_refl _), hlast, Nat.sub_self, Nat.max_zero]
  have h := lp_for (step := s_X10_longest_6_4 M) (fun k => (nI (max (lg2 p k).1 (k - (lg2 p k).2)), nI (k - (lg2 p k).2), nI k)) 0 (pn p) (Nat.zero_le _) hstep hend 5000 (by omega)
  unfold f_X10_longest
  simp only [bnd]
  rw [show lp (s_X10_longest_6_4 M) 5000 (0, 0, 0) = some (nI (lg2 p (pn p)).1) from h]
  rfl
