-- a layout's rows
def YL (Y : OV) (tb : Tb) (p : Pg) (a b k : Nat) : Prop := gr Y 0 0 k = nI a ∧ gr Y 0 1 k = nI b ∧ gr Y 0 2 k = nI (mcost tb p a b) ∧ gr Y 0 3 k = nI (msN tb p a b) ∧ gr Y 0 4 k = nI (msN tb p a b) - nI (pd p) ∧ gr Y 0 5 k = bo (mhung tb p a b) ∧ gr Y 0 6 k = nI (mtake tb p a b) ∧ gr Y 0 7 k = nI (mput tb p a b) ∧ gr Y 0 8 k = nI (mleft tb p a b) ∧ gr Y 0 9 k = bo (lgl p b) ∧ gr Y 0 10 k = bo (mlong tb p a b)
def YD (Y : OV) (tb : Tb) (p : Pg) (a b : Nat) : Prop := ∀ i, a ≤ i → i ≤ b → ar Y 1 i = nI (tk tb p a b i) ∧ ar Y 2 i = nI (pu tb p a b i)
/-- a layout that stands for the lines of a kind -/
def YR (Y : OV) (tb : Tb) (p : Pg) (kd : Nat) : Prop := iv Y 6 = nI (LN (EK tb p kd) (pn p)) ∧ iv Y 7 = 1 ∧ ∀ k, k < LN (EK tb p kd) (pn p) → YL Y tb p (stt (EK tb p kd) k) (EK tb p kd (stt (EK tb p kd) k)) k ∧ YD Y tb p (stt (EK tb p kd) k) (EK tb p kd (stt (EK tb p kd) k))
theorem R_natural {R : OV} {oC oP : Nat} {tb : Tb} {p : Pg} (hR : RR oC oP R tb p) (hs : PgS p) (hT : TbS tb) (hpt : PgT tb p) {a b : Nat} (hab : a ≤ b) (hb : b < pn p) : f_X7_naturalWidth R (nI a) (nI b) = some (nI (msN tb p a b)) := by
  have h40 := hs.1
  have hY := hR.2.2
  have tr := msN_trim hs hT hpt hab hb
  have mo := sm_mono (f := fx tb p 0) (show a ≤ b + 1 by omega)
  unfold f_X7_naturalWidth
  rw [nI_1, gd_t (ix_nI (show b + 1 < 41 by omega) (by decide)), gd_t (ix_nI (show a < 41 by omega) (by decide)), gd_t (ix_nI (show b < 40 by omega) (by decide)), nI_clamp (by omega), nI_clamp (by omega), nI_clamp (by omega), hY.1 (b + 1) (by omega), hY.1 a (by omega), hY.2.2.2.2.1 b hb, nI_sub mo]
  exact congrArg some (nI_sub tr.2)
theorem R_legal {R : OV} {oC oP : Nat} {tb : Tb} {p : Pg} (hR : RR oC oP R tb p) (hs : PgS p) {b : Nat} (hb : b < pn p) : f_X7_isLegal R (nI b) = some (bo (lgl p b)) := by
  have h40 := hs.1
  unfold f_X7_isLegal
  rw [gd_t (ix_nI (show b < 40 by omega) (by decide)), nI_clamp (by omega), hR.2.2.2.2.2.2.2.2.2.2 b hb, gd_t (b01_bo _)]
theorem Y_note {Y R P : OV} {oC oP : Nat} {tb : Tb} {p : Pg} (hR : RR oC oP R tb p) (hP : RP P p) (hs : PgS p) (hT : TbS tb) (hpt : PgT tb p) {a b k : Nat} (hab : a ≤ b) (hb : b < pn p) (h6 : iv Y 6 = nI k) (hk : k < 40) : ∃ Y', f_X3_note Y (RLD R tb p a b) oP P (nI a) (nI b) = some Y' ∧ YL Y' tb p a b k ∧ (∀ q, ar Y' q = ar Y q) ∧ (∀ q, iv Y' q = iv Y q) ∧ ∀ q j, j ≠ k → gr Y' 0 q j = gr Y 0 q j := by
  have hR2 := RR_ld hR a b
  have hn := R_natural hR2 hs hT hpt hab hb
  have hl := R_legal hR2 hs hb
  have he : f_X7_excess (RLD R tb p a b) oP P (nI a) (nI b) = some (nI (msN tb p a b) - nI (pd p)) := by
    unfold f_X7_excess
    rw [hn]
    simp only [Option.bind_some, un1, hR2.2.1, decide_true, gd_T, hP.2.2.2.2.2.1]
  have xk : ix (nI k) 40 = true := ix_nI hk (by decide)
  have ck := nI_clamp (show k < 2 ^ 31 by omega)
  have i11 : iv (RLD R tb p a b) 11 = bo (mhung tb p a b) := Eq.trans rfl rfl
  have i12 : iv (RLD R tb p a b) 12 = bo (mlong tb p a b) := Eq.trans rfl rfl
  have i14 : iv (RLD R tb p a b) 14 = nI (mtake tb p a b) := Eq.trans rfl rfl
  have i15 : iv (RLD R tb p a b) 15 = nI (mput tb p a b) := Eq.trans rfl rfl
  have i16 : iv (RLD R tb p a b) 16 = nI (mleft tb p a b) := Eq.trans rfl rfl
  have i17 : iv (RLD R tb p a b) 17 = nI (mcost tb p a b) := Eq.trans rfl rfl
  refine ⟨sG (sG (sG (sG (sG (sG (sG (sG (sG (sG (sG Y 0 0 k (nI a)) 0 1 k (nI b)) 0 2 k (nI (mcost tb p a b))) 0 3 k (nI (msN tb p a b))) 0 4 k (nI (msN tb p a b) - nI (pd p))) 0 5 k (bo (mhung tb p a b))) 0 6 k (nI (mtake tb p a b))) 0 7 k (nI (mput tb p a b))) 0 8 k (nI (mleft tb p a b))) 0 9 k (bo (lgl p b))) 0 10 k (bo (mlong tb p a b)), ?_, ?_, fun q => rfl, fun q => rfl, fun q j hj => ?_⟩
  · unfold f_X3_note
    have x0 : ix (0 : Int32) 11 = true := by decide
    have c0 : (0 : Int32).toNatClampNeg = 0 := by decide
    have x1 : ix (1 : Int32) 11 = true := by decide
    have c1 : (1 : Int32).toNatClampNeg = 1 := by decide
    have x2 : ix (2 : Int32) 11 = true := by decide
    have c2 : (2 : Int32).toNatClampNeg = 2 := by decide
    have x3 : ix (3 : Int32) 11 = true := by decide
    have c3 : (3 : Int32).toNatClampNeg = 3 := by decide
    have x4 : ix (4 : Int32) 11 = true := by decide
    have c4 : (4 : Int32).toNatClampNeg = 4 := by decide
    have x5 : ix (5 : Int32) 11 = true := by decide
    have c5 : (5 : Int32).toNatClampNeg = 5 := by decide
    have x6 : ix (6 : Int32) 11 = true := by decide
    have c6 : (6 : Int32).toNatClampNeg = 6 := by decide
    have x7 : ix (7 : Int32) 11 = true := by decide
    have c7 : (7 : Int32).toNatClampNeg = 7 := by decide
    have x8 : ix (8 : Int32) 11 = true := by decide
    have c8 : (8 : Int32).toNatClampNeg = 8 := by decide
    have x9 : ix (9 : Int32) 11 = true := by decide
    have c9 : (9 : Int32).toNatClampNeg = 9 := by decide
    have x10 : ix (10 : Int32) 11 = true := by decide
    have c10 : (10 : Int32).toNatClampNeg = 10 := by decide
    simp only [j_X3_note_95_17, j_X3_note_168_29, gd_t x0, gd_t x1, gd_t x2, gd_t x3, gd_t x4, gd_t x5, gd_t x6, gd_t x7, gd_t x8, gd_t x9, gd_t x10, c0, c1, c2, c3, c4, c5, c6, c7, c8, c9, c10, h6, ivG, gd_t xk, ck, bnd, hn, he, hl, Option.bind_some, un1, i11, i12, i14, i15, i16, i17, bo_0]
    cases mhung tb p a b <;> cases lgl p b <;> cases mlong tb p a b <;> simp [bo_t, bo_f]
  · refine ⟨?_, ?_, ?_, ?_, ?_, ?_, ?_, ?_, ?_, ?_, ?_⟩ <;> simp [grG, updE]
  · simp only [grG, if_true]
    by_cases q10 : q = 10
    · subst q10; simp [updE, hj, grG]
    by_cases q9 : q = 9
    · subst q9; simp [updE, hj, grG]
    by_cases q8 : q = 8
    · subst q8; simp [updE, hj, grG]
    by_cases q7 : q = 7
    · subst q7; simp [updE, hj, grG]
    by_cases q6 : q = 6
    · subst q6; simp [updE, hj, grG]
    by_cases q5 : q = 5
    · subst q5; simp [updE, hj, grG]
    by_cases q4 : q = 4
    · subst q4; simp [updE, hj, grG]
    by_cases q3 : q = 3
    · subst q3; simp [updE, hj, grG]
    by_cases q2 : q = 2
    · subst q2; simp [updE, hj, grG]
    by_cases q1 : q = 1
    · subst q1; simp [updE, hj, grG]
    by_cases q0 : q = 0
    · subst q0; simp [updE, hj, grG]
    simp [q0, q1, q2, q3, q4, q5, q6, q7, q8, q9, q10]

theorem Y_dealTaken {Y R C P : OV} {oC oP : Nat} {tb : Tb} {p : Pg} (hR : RR oC oP R tb p) (hC : RC C tb) (hP : RP P p) (hs : PgS p) (hT : TbS tb) {a b : Nat} (hab : a ≤ b) (hb : b < pn p) : ∃ Y', f_X3_dealTaken Y (RLD R tb p a b) oC C oP P (nI a) (nI b) = some Y' ∧ (∀ i, a ≤ i → i ≤ b → ar Y' 1 i = nI (tk tb p a b i)) ∧ (∀ i, i < a ∨ b < i → ar Y' 1 i = ar Y 1 i) ∧ ar Y' 2 = ar Y 2 ∧ (∀ q i, gr Y' q i = gr Y q i) ∧ ∀ q, iv Y' q = iv Y q := by
  have h40 := hs.1
  have hR2 := RR_ld hR a b
  obtain ⟨Y1, e1, r1, o1, s1, g1, v1⟩ := lp_inv (step := s_X3_dealTaken_3_2 oC oP (RLD R tb p a b) C P (nI b)) (fun c s => ∃ Y', s = (nI c, Y') ∧ (∀ i, a ≤ i → i < c → ar Y' 3 i = nI (fx tb p 5 i) ∧ ar Y' 4 i = nI (fx tb p 6 i) ∧ ar Y' 1 i = 0) ∧ (∀ i, i < a ∨ c ≤ i → ar Y' 1 i = ar Y 1 i) ∧ ar Y' 2 = ar Y 2 ∧ (∀ q i, gr Y' q i = gr Y q i) ∧ ∀ q, iv Y' q = iv Y q) (fun Y' => (∀ i, a ≤ i → i ≤ b → ar Y' 3 i = nI (fx tb p 5 i) ∧ ar Y' 4 i = nI (fx tb p 6 i) ∧ ar Y' 1 i = 0) ∧ (∀ i, i < a ∨ b < i → ar Y' 1 i = ar Y 1 i) ∧ ar Y' 2 = ar Y 2 ∧ (∀ q i, gr Y' q i = gr Y q i) ∧ ∀ q, iv Y' q = iv Y q) a (b + 1) (by omega) (by
    rintro c s h1 h2 ⟨Y', rfl, r', o', s', g', v'⟩
    have fA : f_X7_factOf (RLD R tb p a b) oC C oP P (5 : Int32) (nI c) = some (nI (fx tb p 5 c)) := R_fact (k := 5) hR2.1 hR2.2.1 hC hP hs (by decide) (by omega)
    have fB : f_X7_factOf (RLD R tb p a b) oC C oP P (6 : Int32) (nI c) = some (nI (fx tb p 6 c)) := R_fact (k := 6) hR2.1 hR2.2.1 hC hP hs (by decide) (by omega)
    have xc : ix (nI c) 40 = true := ix_nI (by omega) (by decide)
    have cc := nI_clamp (show c < 2 ^ 31 by omega)
    refine ⟨(nI (c + 1), sA (sA (sA Y' 3 c (nI (fx tb p 5 c))) 4 c (nI (fx tb p 6 c))) 1 c 0), ?_, _, rfl, fun i u1 u2 => ?_, fun i u => ?_, ?_, g', v'⟩
    · simp only [s_X3_dealTaken_3_2, un2, nIlt (show b < 2 ^ 31 by omega) (show c < 2 ^ 31 by omega), if_neg (show ¬ b < c by omega), fA, fB, Option.bind_some, un1, gd_t xc, cc, bnd, nI_1]
    · by_cases c0 : i = c
      · subst c0; simp [arA, updE]
      · simpa [arA, updE, c0] using r' i u1 (by omega)
    · have : i ≠ c := by omega
      simpa [arA, updE, this] using o' i (by omega)
    · simp [arA]; exact s') (by
    rintro s ⟨Y', rfl, r', o', s', g', v'⟩
    exact ⟨Y', by simp only [s_X3_dealTaken_3_2, un2, nIlt (show b < 2 ^ 31 by omega) (show b + 1 < 2 ^ 31 by omega), if_pos (show b < b + 1 by omega)], fun i u1 u2 => r' i u1 (by omega), fun i u => o' i (by omega), s', g', v'⟩) 5000 (by omega) (nI a, Y) ⟨Y, rfl, fun i u1 u2 => by omega, fun i _ => rfl, rfl, fun _ _ => rfl, fun _ => rfl⟩
  have xb : ix (nI b) 40 = true := ix_nI (by omega) (by decide)
  have cb := nI_clamp (show b < 2 ^ 31 by omega)
  have eg : f_X7_endGives (RLD R tb p a b) (nI b) = some (nI (rmT tb p b (mhung tb p a b) b)) := by
    have i11 : iv (RLD R tb p a b) 11 = bo (mhung tb p a b) := Eq.trans rfl rfl
    unfold f_X7_endGives rmT
    simp only [i11, bo_0, gd_t xb, cb, hR2.2.2.2.2.2.2.2.1 b hb, Nat.lt_irrefl, if_false]
    cases mhung tb p a b <;> simp [nI_0]
  have i14 : iv (RLD R tb p a b) 14 = nI (mtake tb p a b) := Eq.trans rfl rfl
  have bd : ∀ i, a ≤ i → i ≤ b → rmT tb p b (mhung tb p a b) i ≤ 9 ∧ fx tb p 6 i ≤ 3 := by
    intro i u1 u2
    have t := hT _ (hs.2.1 i (by omega)).1
    have t5 := t.2.2.2.1
    have t6 := t.2.2.2.2.1
    have t7 := t.2.2.2.2.2.1
    have t8 := t.2.2.2.2.2.2.1
    refine ⟨?_, by unfold fx; omega⟩
    unfold rmT fx
    split
    · omega
    · split <;> omega
  obtain ⟨f, e2, h1, h2⟩ := Y_deal1 (Y := sA Y1 3 b (nI (rmT tb p b (mhung tb p a b) b))) (rm := rmT tb p b (mhung tb p a b)) (rk := fx tb p 6) (g := fun _ => 0) (a := a) (b := b) (x := mtake tb p a b) (by omega) hab (fun i u1 u2 => by
    have hr := r1 i u1 u2
    refine ⟨?_, by simpa [arA] using hr.2.1, by simpa [arA, nI_0] using hr.2.2⟩
    by_cases c0 : i = b
    · subst c0; simp [arA, updE]
    · rw [arA, if_pos rfl, updE, if_neg c0, hr.1]
      unfold rmT
      rw [if_pos (by omega)]) bd (fun _ => Nat.zero_le _) (by have := mtake_le (a := a) hs hT hb; omega)
  refine ⟨sW (sA Y1 3 b (nI (rmT tb p b (mhung tb p a b) b))) 1 f, ?_, fun i u1 u2 => ?_, fun i u => ?_, ?_, g1, v1⟩
  · unfold f_X3_dealTaken
    simp only [bnd, e1, Option.bind_some, un1, eg, gd_t xb, cb, i14]
    rw [e2]
    rfl
  · rw [arW, if_pos rfl]
    exact h1 i u1 u2
  · rw [arW, if_pos rfl, h2 i u, arA, if_neg (by decide)]
    exact o1 i u
  · rw [arW, if_neg (by decide), arA, if_neg (by decide)]
    exact s1

theorem Y_dealPutIn {Y R C P : OV} {oC oP : Nat} {tb : Tb} {p : Pg} (hR : RR oC oP R tb p) (hC : RC C tb) (hP : RP P p) (hs : PgS p) (hT : TbS tb) {a b : Nat} (hab : a ≤ b) (hb : b < pn p) : ∃ Y', f_X3_dealPutIn Y (RLD R tb p a b) oC C oP P (nI a) (nI b) = some Y' ∧ (∀ i, a ≤ i → i ≤ b → ar Y' 2 i = nI (pu tb p a b i)) ∧ (∀ i, i < a ∨ b < i → ar Y' 2 i = ar Y 2 i) ∧ ar Y' 1 = ar Y 1 ∧ (∀ q i, gr Y' q i = gr Y q i) ∧ ∀ q, iv Y' q = iv Y q := by
  have h40 := hs.1
  have hR2 := RR_ld hR a b
  obtain ⟨Y1, e1, r1, o1, s1, g1, v1⟩ := lp_inv (step := s_X3_dealPutIn_3_2 oC oP (RLD R tb p a b) C P (nI b)) (fun c s => ∃ Y', s = (nI c, Y') ∧ (∀ i, a ≤ i → i < c → ar Y' 3 i = nI (fx tb p 7 i) ∧ ar Y' 4 i = nI (fx tb p 8 i) ∧ ar Y' 2 i = 0) ∧ (∀ i, i < a ∨ c ≤ i → ar Y' 2 i = ar Y 2 i) ∧ ar Y' 1 = ar Y 1 ∧ (∀ q i, gr Y' q i = gr Y q i) ∧ ∀ q, iv Y' q = iv Y q) (fun Y' => (∀ i, a ≤ i → i ≤ b → ar Y' 3 i = nI (fx tb p 7 i) ∧ ar Y' 4 i = nI (fx tb p 8 i) ∧ ar Y' 2 i = 0) ∧ (∀ i, i < a ∨ b < i → ar Y' 2 i = ar Y 2 i) ∧ ar Y' 1 = ar Y 1 ∧ (∀ q i, gr Y' q i = gr Y q i) ∧ ∀ q, iv Y' q = iv Y q) a (b + 1) (by omega) (by
    rintro c s h1 h2 ⟨Y', rfl, r', o', s', g', v'⟩
    have fA : f_X7_factOf (RLD R tb p a b) oC C oP P (7 : Int32) (nI c) = some (nI (fx tb p 7 c)) := R_fact (k := 7) hR2.1 hR2.2.1 hC hP hs (by decide) (by omega)
    have fB : f_X7_factOf (RLD R tb p a b) oC C oP P (8 : Int32) (nI c) = some (nI (fx tb p 8 c)) := R_fact (k := 8) hR2.1 hR2.2.1 hC hP hs (by decide) (by omega)
    have xc : ix (nI c) 40 = true := ix_nI (by omega) (by decide)
    have cc := nI_clamp (show c < 2 ^ 31 by omega)
    refine ⟨(nI (c + 1), sA (sA (sA Y' 3 c (nI (fx tb p 7 c))) 4 c (nI (fx tb p 8 c))) 2 c 0), ?_, _, rfl, fun i u1 u2 => ?_, fun i u => ?_, ?_, g', v'⟩
    · simp only [s_X3_dealPutIn_3_2, un2, nIlt (show b < 2 ^ 31 by omega) (show c < 2 ^ 31 by omega), if_neg (show ¬ b < c by omega), fA, fB, Option.bind_some, un1, gd_t xc, cc, bnd, nI_1]
    · by_cases c0 : i = c
      · subst c0; simp [arA, updE]
      · simpa [arA, updE, c0] using r' i u1 (by omega)
    · have : i ≠ c := by omega
      simpa [arA, updE, this] using o' i (by omega)
    · simp [arA]; exact s') (by
    rintro s ⟨Y', rfl, r', o', s', g', v'⟩
    exact ⟨Y', by simp only [s_X3_dealPutIn_3_2, un2, nIlt (show b < 2 ^ 31 by omega) (show b + 1 < 2 ^ 31 by omega), if_pos (show b < b + 1 by omega)], fun i u1 u2 => r' i u1 (by omega), fun i u => o' i (by omega), s', g', v'⟩) 5000 (by omega) (nI a, Y) ⟨Y, rfl, fun i u1 u2 => by omega, fun i _ => rfl, rfl, fun _ _ => rfl, fun _ => rfl⟩
  have xb : ix (nI b) 40 = true := ix_nI (by omega) (by decide)
  have cb := nI_clamp (show b < 2 ^ 31 by omega)
  have i15 : iv (RLD R tb p a b) 15 = nI (mput tb p a b) := Eq.trans rfl rfl
  have z0 : (0 : Int32) = nI (rmP tb p b b) := by unfold rmP; rw [if_neg (Nat.lt_irrefl _)]; rfl
  have bd : ∀ i, a ≤ i → i ≤ b → rmP tb p b i ≤ 9 ∧ fx tb p 8 i ≤ 3 := by
    intro i u1 u2
    have t := hT _ (hs.2.1 i (by omega)).1
    have t5 := t.2.2.2.1
    have t6 := t.2.2.2.2.1
    have t7 := t.2.2.2.2.2.1
    have t8 := t.2.2.2.2.2.2.1
    refine ⟨?_, by unfold fx; omega⟩
    unfold rmP fx
    split
    · omega
    · omega
  obtain ⟨f, e2, h1, h2⟩ := Y_deal2 (Y := sA Y1 3 b (nI (rmP tb p b b))) (rm := rmP tb p b) (rk := fx tb p 8) (g := fun _ => 0) (a := a) (b := b) (x := mput tb p a b) (by omega) hab (fun i u1 u2 => by
    have hr := r1 i u1 u2
    refine ⟨?_, by simpa [arA] using hr.2.1, by simpa [arA, nI_0] using hr.2.2⟩
    by_cases c0 : i = b
    · subst c0; simp [arA, updE]
    · rw [arA, if_pos rfl, updE, if_neg c0, hr.1]
      unfold rmP
      rw [if_pos (by omega)]) bd (fun _ => Nat.zero_le _) (by have := mput_le (tb := tb) hs a b; omega)
  refine ⟨sW (sA Y1 3 b (nI (rmP tb p b b))) 2 f, ?_, fun i u1 u2 => ?_, fun i u => ?_, ?_, g1, v1⟩
  · unfold f_X3_dealPutIn
    simp only [bnd, e1, Option.bind_some, un1, gd_t xb, cb, i15]
    rw [z0]
    rw [e2]
    rfl
  · rw [arW, if_pos rfl]
    exact h1 i u1 u2
  · rw [arW, if_pos rfl, h2 i u, arA, if_neg (by decide)]
    exact o1 i u
  · rw [arW, if_neg (by decide), arA, if_neg (by decide)]
    exact s1

theorem Y_fill {Y R C P N : OV} {oC oP : Nat} {tb : Tb} {p : Pg} {kd : Nat} (hR : RR oC oP R tb p) (hC : RC C tb) (hP : RP P p) (hs : PgS p) (hT : TbS tb) (hpt : PgT tb p) (hN : NP N tb p kd) : ∃ Y' R', f_X3_fill Y R oC C oP P N = some (Y', R') ∧ RR oC oP R' tb p ∧ YR Y' tb p kd := by
  have h40 := hs.1
  have hE : ∀ a, a ≤ EK tb p kd a := fun a => (EK_in hs kd a).1
  have hn : ∀ a, a < pn p → EK tb p kd a < pn p := fun a => (EK_in hs kd a).2
  obtain ⟨L1, L2, L3⟩ := LN_spec hE hn
  obtain ⟨r, e, hr⟩ := lp_inv (step := s_X3_fill_7_3 oC oP C P N) (fun k s => ∃ Y' R', s = (nI (stt (EK tb p kd) k), Y', R') ∧ RR oC oP R' tb p ∧ iv Y' 6 = nI k ∧ ∀ i, i < k → YL Y' tb p (stt (EK tb p kd) i) (EK tb p kd (stt (EK tb p kd) i)) i ∧ YD Y' tb p (stt (EK tb p kd) i) (EK tb p kd (stt (EK tb p kd) i))) (fun r => ∃ Y' R', r = (Y', R') ∧ RR oC oP R' tb p ∧ iv Y' 6 = nI (LN (EK tb p kd) (pn p)) ∧ ∀ i, i < LN (EK tb p kd) (pn p) → YL Y' tb p (stt (EK tb p kd) i) (EK tb p kd (stt (EK tb p kd) i)) i ∧ YD Y' tb p (stt (EK tb p kd) i) (EK tb p kd (stt (EK tb p kd) i))) 0 (LN (EK tb p kd) (pn p)) (Nat.zero_le _) (by
    rintro k s - hk ⟨Y1, R1, rfl, hR1, i1, c1⟩
    have h1 := L2 k hk
    have h2 := stt_ge hE k
    obtain ⟨a, ha⟩ : ∃ a, a = stt (EK tb p kd) k := ⟨_, rfl⟩
    obtain ⟨b, hb⟩ : ∃ b, b = EK tb p kd a := ⟨_, rfl⟩
    have hab : a ≤ b := by rw [hb]; exact hE a
    have hbn : b < pn p := by rw [hb]; exact hn a (by omega)
    have xa : ix (nI a) 41 = true := ix_nI (by omega) (by decide)
    have ca := nI_clamp (show a < 2 ^ 31 by omega)
    have eN2 : ar N 2 a = nI b := by rw [hb, ha]; exact hN k hk
    have hm := R_measure hR1.2.1 hR1.2.2 hP hs hT hpt hab hbn
    have hR2 := RR_ld hR1 a b
    obtain ⟨Y2, e2, l2, a2, v2, f2⟩ := Y_note (Y := Y1) hR1 hP hs hT hpt hab hbn i1 (by omega)
    obtain ⟨Y3, e3, d3, o3, s3, g3, v3⟩ := Y_dealTaken (Y := Y2) hR1 hC hP hs hT hab hbn
    obtain ⟨Y4, e4, d4, o4, s4, g4, v4⟩ := Y_dealPutIn (Y := Y3) hR1 hC hP hs hT hab hbn
    have emx : (if nI a < nI b then nI b else nI a) = nI b := by
      rw [mx_nI (by omega) (by omega), Nat.max_eq_left hab]
    have i4 : iv Y4 6 = nI k := by rw [v4, v3, v2]; exact i1
    refine ⟨(nI (b + 1), sI Y4 6 (nI (k + 1)), RLD R1 tb p a b), ?_, sI Y4 6 (nI (k + 1)), RLD R1 tb p a b, ?_, hR2, by rw [ivI, if_pos rfl], fun i hi => ?_⟩
    · rw [← ha]
      simp only [s_X3_fill_7_3, un3, N_signs hR1 hP, Option.bind_some, un1, nIle (show pn p < 2 ^ 31 by omega) (show a < 2 ^ 31 by omega), if_neg (show ¬ pn p ≤ a by omega), i1, show ((40 : Int32) ≤ nI k) = (40 ≤ k) from nIle (by decide) (by omega), if_neg (show ¬ 40 ≤ k by omega), gd_t xa, ca, eN2, emx, bnd, hm, e2, e3, e4, i4, nI_1]
    · rw [stt, ← ha, ← hb]
    · by_cases c : i = k
      · subst c
        rw [← ha, ← hb]
        refine ⟨?_, fun q u1 u2 => ?_⟩
        · simp only [YL, grI, g4, g3]
          exact l2
        · rw [arI, arI, s4, d3 q u1 u2, d4 q u1 u2]
          exact ⟨rfl, rfl⟩
      · have hc := c1 i (by omega)
        have hlt := stt_lt hE (show i < k by omega)
        rw [← ha] at hlt
        refine ⟨?_, fun q u1 u2 => ?_⟩
        · simp only [YL, grI, g4, g3, f2 _ i c]
          exact hc.1
        · rw [arI, arI, s4, o3 q (by omega), o4 q (by omega), s3, a2, a2]
          exact hc.2 q u1 u2) (by
    rintro s ⟨Y1, R1, rfl, hR1, i1, c1⟩
    exact ⟨(Y1, R1), by simp only [s_X3_fill_7_3, un3, N_signs hR1 hP, Option.bind_some, un1, L3, if_pos (Int32.le_refl _)], Y1, R1, rfl, hR1, i1, c1⟩) 5000 (by omega) (nI (stt (EK tb p kd) 0), sI Y 6 0, R) ⟨_, R, rfl, hR, by rw [ivI, if_pos rfl]; rfl, fun i h => by omega⟩
  obtain ⟨Y1, R1, rfl, hR1, i1, c1⟩ := hr
  refine ⟨sI Y1 7 1, R1, ?_, hR1, by rw [ivI, if_neg (by decide)]; exact i1, by rw [ivI, if_pos rfl], c1⟩
  unfold f_X3_fill
  simp only [bnd]
  rw [show lp (s_X3_fill_7_3 oC oP C P N) 5000 (0, sI Y 6 0, R) = some (Y1, R1) from e]
  rfl
