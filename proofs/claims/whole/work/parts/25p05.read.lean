theorem gd_T {β : Type} {K : Option β} : gd true K = K := rfl
theorem nI_sub {a b : Nat} (h : b ≤ a) : nI a - nI b = nI (a - b) := by
  have h1 : nI (a - b) + nI b = nI a := by rw [nI_add]; congr 1; omega
  rw [← h1, Int32.add_sub_cancel]
theorem nar_bo (b : Bool) : vp_nar .boolean (bo b) = bo b := by cases b <;> decide
theorem R_read {R C P : OV} {oC oP : Nat} {tb : Tb} {p : Pg} (hz : RRk R tb p 0) (hC : RC C tb) (hP : RP P p) (hs : PgS p) (hT : TbS tb) (hpt : PgT tb p) : ∃ R', f_X7_read R oC C oP P = some R' ∧ nv R' 0 = oC ∧ nv R' 1 = oP ∧ RRk R' tb p (pn p) := by
  have h40 := hs.1
  unfold f_X7_read
  simp only [bnd]
  obtain ⟨R', e, hR'⟩ := lp_rule (step := s_X7_read_12_4 oC oP C P) (fun s => ∃ k, k ≤ pn p ∧ s.1 = nI k ∧ nv s.2 0 = oC ∧ nv s.2 1 = oP ∧ RRk s.2 tb p k) (fun s => 41 - s.1.toNatClampNeg) (fun R' => nv R' 0 = oC ∧ nv R' 1 = oP ∧ RRk R' tb p (pn p)) (by
    rintro ⟨v, S⟩ ⟨k, hk, rfl, n0, n1, hS⟩
    have ck := nI_clamp (show k < 2 ^ 31 by omega)
    simp only at n0 n1 hS
    rcases Nat.lt_or_ge k (pn p) with hlt | hge
    · left
      have g : ¬ iv P 4 ≤ nI k := by rw [hP.1]; exact nI_ge hlt (by omega)
      have x40 : ix (nI k) 40 = true := ix_nI (by omega) (by decide)
      have l0 := (hs.2.1 k hlt).1
      have tt := hT _ l0
      have f4 : ∀ S : OV, nv S 0 = oC → nv S 1 = oP → f_X7_factOf S oC C oP P (4 : Int32) (nI k) = some (nI (fx tb p 4 k)) := fun S a b => R_fact (k := 4) a b hC hP hs (by decide) hlt
      have f5 : ∀ S : OV, nv S 0 = oC → nv S 1 = oP → f_X7_factOf S oC C oP P (5 : Int32) (nI k) = some (nI (fx tb p 5 k)) := fun S a b => R_fact (k := 5) a b hC hP hs (by decide) hlt
      have f6 : ∀ S : OV, nv S 0 = oC → nv S 1 = oP → f_X7_factOf S oC C oP P (6 : Int32) (nI k) = some (nI (fx tb p 6 k)) := fun S a b => R_fact (k := 6) a b hC hP hs (by decide) hlt
      have f3 : ∀ S : OV, nv S 0 = oC → nv S 1 = oP → f_X7_factOf S oC C oP P (3 : Int32) (nI k) = some (nI (fx tb p 3 k)) := fun S a b => R_fact (k := 3) a b hC hP hs (by decide) hlt
      have b3 : fx tb p 3 k ≤ 1 := tt.2.1
      have b4 : fx tb p 4 k ≤ 8 := tt.2.2.1
      have b5 : fx tb p 5 k ≤ 8 := tt.2.2.2.1
      have em : (if nI (fx tb p 5 k) - nI (fx tb p 4 k) < (0 : Int32) then (0 : Int32) else nI (fx tb p 5 k) - nI (fx tb p 4 k)) = nI (fx tb p 5 k - fx tb p 4 k) := by
        generalize fx tb p 5 k = u at b5 ⊢
        generalize fx tb p 4 k = w at b4 ⊢
        exact (by decide : ∀ u, u < 9 → ∀ w, w < 9 → (if nI u - nI w < (0 : Int32) then (0 : Int32) else nI u - nI w) = nI (u - w)) u (by omega) w (by omega)
      generalize hS5 : sA (sA (sA (sA (sA S 6 k (nI (fx tb p 4 k))) 7 k (nI (fx tb p 5 k - fx tb p 4 k))) 8 k (nI (fx tb p 6 k))) 9 k (nI (fx tb p 3 k))) 10 k (bo (lgl p k)) = S5
      have m0 : nv S5 0 = oC := by rw [← hS5]; exact n0
      have m1 : nv S5 1 = oP := by rw [← hS5]; exact n1
      have m8 : ar S5 8 k = nI (fx tb p 6 k) := by rw [← hS5]; simp [arA, updE]
      obtain ⟨S6, e6, a1, a2, a3, a4, a5, a6⟩ := R_add m0 m1 hC hP hs hT hlt m8
      refine ⟨(nI (k + 1), S6), ?_, ⟨k + 1, hlt, rfl, by rw [a1]; exact m0, by rw [a1]; exact m1, ?_⟩, ?_⟩
      · have e3 : (nI (fx tb p 3 k) = (1 : Int32)) = (fx tb p 3 k = 1) := nIe (by omega) (by decide)
        simp only [s_X7_read_12_4, un2, n1, nvA, eq_self, decide_true, gd_T, if_neg g, f4, f5, f6, f3, n0, Option.bind_some, un1, gd_t x40, bnd, ck, arA, updE, if_true, em, e3, j_X7_read_91_19]
        have hv : ∀ t : Int32, t = nI (fx tb p 3 k) → vp_nar .boolean t = nI (fx tb p 3 k) := by
          intro t ht
          subst ht
          generalize fx tb p 3 k = u at b3 ⊢
          exact (by decide : ∀ u, u < 2 → vp_nar .boolean (nI u) = nI u) u (by omega)
        by_cases c3 : fx tb p 3 k = 1
        · rw [if_pos c3, hv 1 (by rw [c3]; rfl), P_legal hP hs hlt]
          simp only [Option.bind_some, un1, gd_t x40, bnd, ck, nar_bo]
          rw [hS5, e6]
          simp [nI_1]
        · have c30 : fx tb p 3 k = 0 := by omega
          rw [if_neg c3, hv 0 (by rw [c30]; rfl), P_legal hP hs hlt]
          simp only [Option.bind_some, un1, gd_t x40, bnd, ck, nar_bo]
          rw [hS5, e6]
          simp [nI_1]
      · have q0 : ∀ q, q ≠ 6 → q ≠ 7 → q ≠ 8 → q ≠ 9 → q ≠ 10 → ar S5 q = ar S q := fun q h6 h7 h8 h9 h10 => by rw [← hS5]; simp [arA, h6, h7, h8, h9, h10]
        have q1 : ∀ q r, gr S5 q r = gr S q r := fun q r => by rw [← hS5]; rfl
        obtain ⟨r2, r3, r4, r5, r6, r7, r8, r9, r10⟩ := hS
        have w5 : fx tb p 5 k ≤ fx tb p 0 k := Nat.le_of_lt (tt.2.2.2.2.2.2.2 (hpt k hlt)).2.1
        refine ⟨fun j hj => ?_, fun j hj => ?_, fun r h1 h2 j hj => ?_, fun r h1 h2 j hj => ?_, fun j hj => ?_, fun j hj => ?_, fun j hj => ?_, fun j hj => ?_, fun j hj => ?_⟩
        · rw [a3 j, q0 2 (by decide) (by decide) (by decide) (by decide) (by decide)]
          by_cases c : j = k + 1
          · subst c; rw [if_pos rfl, r2 k (Nat.le_refl _), nI_add]; rfl
          · rw [if_neg c]; exact r2 j (by omega)
        · rw [a4 j, q0 3 (by decide) (by decide) (by decide) (by decide) (by decide)]
          by_cases c : j = k + 1
          · subst c; rw [if_pos rfl, r3 k (Nat.le_refl _), nI_add, nI_sub (by omega)]; congr 1; simp only [sm, fT]; omega
          · rw [if_neg c]; exact r3 j (by omega)
        · rw [a5 r h1 h2 j, q1]
          by_cases c : j = k + 1
          · subst c; rw [if_pos ⟨rfl, h2⟩, r4 r h1 h2 k (Nat.le_refl _), nI_add]; rfl
          · rw [if_neg (fun z => c z.1)]; exact r4 r h1 h2 j (by omega)
        · rw [a6 r h1 h2 j, q1]
          by_cases c : j = k + 1
          · subst c; rw [if_pos ⟨rfl, h2⟩, r5 r h1 h2 k (Nat.le_refl _), nI_add]; rfl
          · rw [if_neg (fun z => c z.1)]; exact r5 r h1 h2 j (by omega)
        · rw [a2 6 (by decide) (by decide), ← hS5]
          by_cases c : j = k
          · subst c; simp [arA, updE]
          · simp [arA, updE, c]; exact r6 j (by omega)
        · rw [a2 7 (by decide) (by decide), ← hS5]
          by_cases c : j = k
          · subst c; simp [arA, updE]
          · simp [arA, updE, c]; exact r7 j (by omega)
        · rw [a2 8 (by decide) (by decide), ← hS5]
          by_cases c : j = k
          · subst c; simp [arA, updE]
          · simp [arA, updE, c]; exact r8 j (by omega)
        · rw [a2 9 (by decide) (by decide), ← hS5]
          by_cases c : j = k
          · subst c; simp [arA, updE]
          · simp [arA, updE, c]; exact r9 j (by omega)
        · rw [a2 10 (by decide) (by decide), ← hS5]
          by_cases c : j = k
          · subst c; simp [arA, updE]
          · simp [arA, updE, c]; exact r10 j (by omega)
      · simp only [ck, nI_clamp (show k + 1 < 2 ^ 31 by omega)]
        omega
    · right
      have e1 : k = pn p := by omega
      subst e1
      have d1 : decide (nv S 1 = oP) = true := decide_eq_true n1
      exact ⟨S, by simp [s_X7_read_12_4, un2, gd_t d1, hP.1], n0, n1, hS⟩) 5000 (nI 0, sN (sN R 0 oC) 1 oP) ⟨0, Nat.zero_le _, rfl, by simp [nvN], by simp [nvN], hz⟩ (by simp only [nI_clamp (show 0 < 2 ^ 31 by decide)]; omega)
  exact ⟨R', by rw [show (0 : Int32) = nI 0 from rfl, e]; rfl, hR'⟩
