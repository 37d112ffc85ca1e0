theorem ite_ex {α : Type} {c : Prop} [Decidable c] {a b : Option α} (ha : ∃ x, a = some x) (hb : ∃ x, b = some x) : ∃ x, (if c then a else b) = some x := by
  by_cases h : c
  · rw [if_pos h]; exact ha
  · rw [if_neg h]; exact hb
theorem ok_count : Ok_count INV := by
  rintro o a aK Z B hI q0
  have hI' := hI
  obtain ⟨tb, p, len, v, cnt, nx, q, -, ⟨i2, -⟩, ⟨hT1, -⟩, ⟨hP, hP8⟩, ⟨-, hH2, -⟩, ⟨hC, hC5⟩, -, -, -, -, ⟨hRT, hM, hM36, -, hM11, -⟩, ⟨hT, -, ⟨hs, -, -, hb⟩, -⟩⟩ := hI'
  have h10 : f_X10_count (Z 28) q0 = (if q0 = 0 then some (nI (cls tb)) else if q0 = 1 then some (nI (prs p)) else if q0 = 2 then some (nI (pn p)) else if q0 = 3 then some (nI (pd p)) else if q0 = 4 then some (nI cnt) else if q0 = 5 then some (nI len) else if q0 = 6 then some (nI (sg (fun i => if lgl p i = true then 1 else 0) 0 (pn p))) else if q0 = 7 then some (nI (lg2 p (pn p)).1) else if q0 = 8 then some (nI (pw p 0)) else if q0 = 9 then some (nI (pw p 1)) else if q0 = 10 then some (nI (pw p 2)) else if q0 = 11 then some (nI (sg (fun i => if pm p i = 1 then 1 else 0) 0 (pn p))) else if q0 = 12 then some (nI (sg (fun i => if pm p i = 2 then 1 else 0) 0 (pn p))) else some (-1)) := by
    have e81 : ar (Z 28) 8 (81 : Int32).toNatClampNeg = nI (pd p) := hM.2.2.2.2.2.1
    unfold f_X10_count
    simp only [M_classes hC hRT hT, M_pairs hM hb, M_many hM, M_legalEnds hM hs, M_longest hM hs, Option.bind_some, un1, gd_t (show ix (81 : Int32) 113 = true by decide), e81, hM11, hM36]
    by_cases c8 : q0 = 8
    · subst c8
      have e : gd (ix (((84 : Int32) + 8) - 8) 113) (some (ar (Z 28) 8 (((84 : Int32) + 8) - 8).toNatClampNeg)) = some (nI (pw p 0)) := by
        rw [gd_t (by decide)]
        exact congrArg some (hM.2.2.2.2.1 0 (by decide))
      rw [e]
      rfl
    · by_cases c9 : q0 = 9
      · subst c9
        have e : gd (ix (((84 : Int32) + 9) - 8) 113) (some (ar (Z 28) 8 (((84 : Int32) + 9) - 8).toNatClampNeg)) = some (nI (pw p 1)) := by
          rw [gd_t (by decide)]
          exact congrArg some (hM.2.2.2.2.1 1 (by decide))
        rw [e]
        rfl
      · by_cases c10 : q0 = 10
        · subst c10
          have e : gd (ix (((84 : Int32) + 10) - 8) 113) (some (ar (Z 28) 8 (((84 : Int32) + 10) - 8).toNatClampNeg)) = some (nI (pw p 2)) := by
            rw [gd_t (by decide)]
            exact congrArg some (hM.2.2.2.2.1 2 (by decide))
          rw [e]
          rfl
        · by_cases c11 : q0 = 11
          · subst c11
            rw [show f_X10_signsMarked (Z 28) ((11 : Int32) - 10) = some (nI (sg (fun i => if pm p i = 1 then 1 else 0) 0 (pn p))) from M_marked (m := 1) hM hs (by decide)]
            rfl
          · by_cases c12 : q0 = 12
            · subst c12
              rw [show f_X10_signsMarked (Z 28) ((12 : Int32) - 10) = some (nI (sg (fun i => if pm p i = 2 then 1 else 0) 0 (pn p))) from M_marked (m := 2) hM hs (by decide)]
              rfl
            · simp only [if_neg c8, if_neg c9, if_neg c10, if_neg c11, if_neg c12]
  have h9 : f_X9_count (Z 0) (Z 1) (Z 3) (Z 5) (o 10) (Z 10) q0 = (if q0 = 0 then some (nI (cls tb)) else if q0 = 1 then some (nI (prs p)) else if q0 = 2 then some (nI (pn p)) else if q0 = 3 then some (nI (pd p)) else if q0 = 4 then some (nI cnt) else if q0 = 5 then some (nI len) else if q0 = 6 then some (nI (sg (fun i => if lgl p i = true then 1 else 0) 0 (pn p))) else if q0 = 7 then some (nI (lg2 p (pn p)).1) else if q0 = 8 then some (nI (pw p 0)) else if q0 = 9 then some (nI (pw p 1)) else if q0 = 10 then some (nI (pw p 2)) else if q0 = 11 then some (nI (sg (fun i => if pm p i = 1 then 1 else 0) 0 (pn p))) else if q0 = 12 then some (nI (sg (fun i => if pm p i = 2 then 1 else 0) 0 (pn p))) else some (-1)) := by
    have w0 : ar (Z 3) 3 (0 : Int32).toNatClampNeg = nI (pw p 0) := hP.2.2.2.2.1 0 (by decide)
    have w1 : ar (Z 3) 3 (1 : Int32).toNatClampNeg = nI (pw p 1) := hP.2.2.2.2.1 1 (by decide)
    have w2 : ar (Z 3) 3 (2 : Int32).toNatClampNeg = nI (pw p 2) := hP.2.2.2.2.1 2 (by decide)
    have m1 : f_X4_marksOf (Z 3) 1 = some (nI (sg (fun i => if pm p i = 1 then 1 else 0) 0 (pn p))) := P_marksOf (m := 1) hP hs (by decide)
    have m2 : f_X4_marksOf (Z 3) 2 = some (nI (sg (fun i => if pm p i = 2 then 1 else 0) 0 (pn p))) := P_marksOf (m := 2) hP hs (by decide)
    unfold f_X9_count
    simp only [gd_t (decide_eq_true i2), hC5, hP8, hP.1, hP.2.2.2.2.2.1, hH2, hT1, P_legalEnds hP hs, P_longest hP hs, Option.bind_some, un1, gd_t (show ix (0 : Int32) 3 = true by decide), gd_t (show ix (1 : Int32) 3 = true by decide), gd_t (show ix (2 : Int32) 3 = true by decide), w0, w1, w2, m1, m2]
  have fin : ∀ r, f_X9_count (Z 0) (Z 1) (Z 3) (Z 5) (o 10) (Z 10) q0 = r → f_X10_count (Z 28) q0 = r → (∃ x, r = some x) → (∃ (u : Int32) (w : Int32), f_X9_count (Z 0) (Z 1) (Z 3) (Z 5) (o 10) (Z 10) q0 = some u ∧ f_X10_count (Z 28) q0 = some w ∧ w = u ∧ INV o a aK Z B) := by
    rintro r e1 e2 ⟨x, rfl⟩
    exact ⟨x, x, e1, e2, rfl, hI⟩
  refine fin _ h9 h10 ?_
  exact ite_ex ⟨_, rfl⟩ (ite_ex ⟨_, rfl⟩ (ite_ex ⟨_, rfl⟩ (ite_ex ⟨_, rfl⟩ (ite_ex ⟨_, rfl⟩ (ite_ex ⟨_, rfl⟩ (ite_ex ⟨_, rfl⟩ (ite_ex ⟨_, rfl⟩ (ite_ex ⟨_, rfl⟩ (ite_ex ⟨_, rfl⟩ (ite_ex ⟨_, rfl⟩ (ite_ex ⟨_, rfl⟩ (ite_ex ⟨_, rfl⟩ ⟨_, rfl⟩))))))))))))
theorem ok_weigh : Ok_weigh INV := by
  rintro o a aK Z B ⟨tb, p, len, v, cnt, nx, q, hc⟩ q0 q1
  have hc' := hc
  obtain ⟨-, -, -, ⟨hP, hP8⟩, -, -, -, -, -, -, ⟨-, hM, -⟩, ⟨-, -, hG, -⟩⟩ := hc'
  have hs := hG.1
  have h40 := hs.1
  refine okA hc (fun oK K => f_X9_weigh (Z 0) (Z 3) (a 5) (Z 5) (Z 9) oK K (Z (24 + 0)) (Z (24 + 1)) (Z (24 + 2)) (Z (24 + 3)) q0 q1) (f_X10_weigh (Z 28) q0 q1) (fun H' K' M' e1 e2 k1 => ?_)
  rcases in_or q0 (show 3 < 2 ^ 31 by decide) (by decide) with ⟨e3, h⟩ | ⟨k, hk, rfl, e3⟩
  · left
    have e3' : f_X10_in q0 0 2 = some 0 := e3
    refine ⟨-1, ?_, by simp only [f_X10_weigh, e3', Option.bind_some, un1, if_true]⟩
    simp only [f_X9_weigh]
    by_cases c : q0 < 0
    · rw [if_pos c]
    · rcases h with h | h
      · exact absurd h c
      · rw [if_neg c, if_neg (Int32.not_lt.mpr (show (3 : Int32) ≤ q0 from h))]
  · have e3' : f_X10_in (nI k) 0 2 = some 1 := e3
    obtain ⟨lo, hi, hlo, hh, elo, ehi, flo, fhi, hle⟩ : ∃ lo hi : Nat, lo ≤ hi ∧ hi ≤ 9999 ∧ ([0, 1, 1] : List Int32).getD k 0 = nI lo ∧ ([9, 99, 9999] : List Int32).getD k 0 = nI hi ∧ f_X10_leastWeight (nI k) = some (nI lo) ∧ f_X10_mostWeight (nI k) = some (nI hi) ∧ (∀ w, lo ≤ w → w ≤ hi → (k = 0 → w ≤ 9) ∧ (k = 1 → 1 ≤ w ∧ w ≤ 99) ∧ (k = 2 → 1 ≤ w ∧ w ≤ 9999)) := by
      have k3 : k = 0 ∨ k = 1 ∨ k = 2 := by omega
      rcases k3 with rfl | rfl | rfl
      · exact ⟨0, 9, by decide, by decide, rfl, rfl, rfl, rfl, fun w h1 h2 => by omega⟩
      · exact ⟨1, 99, by decide, by decide, rfl, rfl, rfl, rfl, fun w h1 h2 => by omega⟩
      · exact ⟨1, 9999, by decide, by decide, rfl, rfl, rfl, rfl, fun w h1 h2 => by omega⟩
    have xk : ix (nI k) 3 = true := ix_nI hk (by decide)
    have ck := nI_clamp (show k < 2 ^ 31 by omega)
    have h0 : ¬ nI k < 0 := nI_pos (by omega)
    have h3 : nI k < 3 := nI_lt hk (by decide)
    have e84 : ar (Z 28) 8 (84 + k) = nI (pw p k) := hM.2.2.2.2.1 k hk
    have bw : pw p k ≤ 9999 := by
      have k3 : k = 0 ∨ k = 1 ∨ k = 2 := by omega
      obtain ⟨-, -, -, -, w0, w1, w1', w2, w2'⟩ := hs
      rcases k3 with rfl | rfl | rfl <;> omega
    rcases in_or' q1 (show hi < 2 ^ 31 - 1 by omega) hlo with ⟨e4, h⟩ | ⟨w, h1, h2, rfl, c1, c2, e4⟩
    · left
      refine ⟨-1, ?_, by simp only [f_X10_weigh, e3', flo, fhi, e4, Option.bind_some, un1, if_true, if_neg (show ¬ (1 : Int32) = 0 by decide)]⟩
      simp only [f_X9_weigh, if_neg h0, if_pos h3, gd_t xk, ck, elo, ehi]
      by_cases c : q1 < nI lo
      · rw [if_pos c]
      · rcases h with h | h
        · exact absurd h c
        · rw [if_neg c, if_pos h]
    · have eq1 : (nI (pw p k) = nI w) = (pw p k = w) := nIe (by omega) (by omega)
      by_cases c : pw p k = w
      · left
        exact ⟨-1, by simp only [f_X9_weigh, if_neg h0, if_pos h3, gd_t xk, ck, elo, ehi, if_neg c1, if_neg c2, hP.2.2.2.2.1 k hk, eq1, if_pos c], by simp only [f_X10_weigh, e3', flo, fhi, e4, Option.bind_some, un1, if_neg (show ¬ (1 : Int32) = 0 by decide), show (84 : Int32) + nI k = nI (84 + k) from nI_add 84 k, gd_t (ix_nI (show 84 + k < 113 by omega) (show 113 < 2 ^ 31 by decide)), nI_clamp (show 84 + k < 2 ^ 31 by omega), e84, eq1, if_pos c]⟩
      · right
        have hb := M_becomes e2 (show 84 + k < 113 by omega) (nI w)
        have h84 : ar M' 8 (84 + k) = nI (pw p k) := by rw [k1 8 (by decide)]; exact e84
        refine ⟨nI (pw p k), sA (Z 3) 3 k (nI w), sA M' 8 (84 + k) (nI w), pWt p k w, ?_, ?_, (fr8 _ _ _).1, (fr8 _ _ _).2, ⟨⟨hP.1, hP.2.1, hP.2.2.1, hP.2.2.2.1, fun j hj => ?_, hP.2.2.2.2.2.1, hP.2.2.2.2.2.2.1, hP.2.2.2.2.2.2.2⟩, hP8⟩, ?_, ?_⟩
        · simp only [f_X9_weigh, if_neg h0, if_pos h3, gd_t xk, ck, elo, ehi, if_neg c1, if_neg c2, hP.2.2.2.2.1 k hk, eq1, if_neg c, e1, Option.bind_some, un8, bnd]
        · simp only [f_X10_weigh, e3', flo, fhi, e4, Option.bind_some, un1, if_neg (show ¬ (1 : Int32) = 0 by decide), show (84 : Int32) + nI k = nI (84 + k) from nI_add 84 k, gd_t (ix_nI (show 84 + k < 113 by omega) (show 113 < 2 ^ 31 by decide)), nI_clamp (show 84 + k < 2 ^ 31 by omega), e84, eq1, if_neg c, hb, h84, un2]
        · rw [arA, if_pos rfl, updE]
          show _ = nI (va_up (fun j => pw p j) k w j)
          unfold va_up
          by_cases c0 : j = k
          · rw [if_pos c0, if_pos c0]
          · rw [if_neg c0, if_neg c0]; exact hP.2.2.2.2.1 j hj
        · rw [arA, if_pos rfl, k1 8 (by decide)]
          obtain ⟨r0, r1, r2, r3, r4, r5, r6, r7⟩ := hM
          refine ⟨?_, fun j hj => ?_, fun j hj => ?_, fun l hl => ?_, fun j hj => ?_, ?_, ?_, ?_⟩
          · rw [updE, if_neg (by omega)]; exact r0
          · have hj' : j < pn p := hj
            rw [updE, if_neg (by omega)]; exact r1 j hj
          · have hj' : j < pn p := hj
            rw [updE, if_neg (by omega)]; exact r2 j hj
          · rw [updE, if_neg (by omega)]; exact r3 l hl
          · rw [updE]
            show _ = nI (va_up (fun j => pw p j) k w j)
            unfold va_up
            by_cases c0 : j = k
            · rw [if_pos (by omega), if_pos c0]
            · rw [if_neg (by omega), if_neg c0]; exact r4 j hj
          · rw [updE, if_neg (by omega)]; exact r5
          · rw [updE, if_neg (by omega)]; exact r6
          · rw [updE, if_neg (by omega)]; exact r7
        · obtain ⟨⟨g1, g2, g3, g4, w0, w1, w1', w2, w2'⟩, gt, gp⟩ := hG
          obtain ⟨q0', q1', q2'⟩ := hle w h1 h2
          have ew : ∀ j, pw (pWt p k w) j = if j = k then w else pw p j := fun j => rfl
          refine ⟨⟨g1, g2, g3, g4, ?_, ?_, ?_, ?_, ?_⟩, gt, gp⟩
          · rw [ew]; split <;> omega
          · rw [ew]; split <;> omega
          · rw [ew]; split <;> omega
          · rw [ew]; split <;> omega
          · rw [ew]; split <;> omega
theorem ok_shy : Ok_shy INV := by
  rintro o a aK Z B ⟨tb, p, len, v, cnt, nx, q, hc⟩ q0 q1
  have hc' := hc
  obtain ⟨-, ⟨i2, -⟩, -, ⟨hP, hP8⟩, -, ⟨hC, -⟩, -, -, -, -, ⟨hRT, hM, -⟩, ⟨hT, -, hG, -⟩⟩ := hc'
  have hs := hG.1
  have h40 := hs.1
  refine okA hc (fun oK K => f_X9_shy (Z 0) (Z 3) (a 5) (Z 5) (Z 9) (o 10) (Z 10) oK K (Z (24 + 0)) (Z (24 + 1)) (Z (24 + 2)) (Z (24 + 3)) q0 q1) (f_X10_shy (Z 28) q0 q1) (fun H' K' M' e1 e2 k1 => ?_)
  have hn := decide_eq_true i2
  rcases told_or hC hRT hT q0 with ⟨e3, e4⟩ | ⟨l, hl, rfl, hl0, e3, e4⟩
  · left
    exact ⟨-1, by simp only [f_X9_shy, gd_t hn, e3, Option.bind_some, un1, if_true], by simp only [f_X10_shy, e4, Option.bind_some, un1, if_true]⟩
  · right
    obtain ⟨gs, gt, gp⟩ := hG
    by_cases z : q1 = 0
    · obtain ⟨w, hw⟩ : ∃ w, w = pb p ^^^ ((1 : Int32) <<< (nI l &&& 31)) := ⟨_, rfl⟩
      have e82 : ar (Z 28) 8 82 = pb p := hM.2.2.2.2.2.2.1
      have hb := M_becomes e2 (show 82 < 113 by decide) w
      refine ⟨bo (bt w l), sI (Z 3) 6 w, sA M' 8 82 w, pBg p w, ?_, ?_, (fr8 _ _ _).1, (fr8 _ _ _).2, ⟨⟨by rw [ivI, if_neg (by decide)]; exact hP.1, hP.2.1, hP.2.2.1, hP.2.2.2.1, hP.2.2.2.2.1, by rw [ivI, if_neg (by decide)]; exact hP.2.2.2.2.2.1, by rw [ivI, if_pos rfl]; rfl, by rw [ivI, if_neg (by decide)]; exact hP.2.2.2.2.2.2.2⟩, by rw [ivI, if_neg (by decide)]; exact hP8⟩, ?_, gs, gt, gp⟩
      · simp only [f_X9_shy, gd_t hn, e3, Option.bind_some, un1, if_neg (show ¬ (1 : Int32) = 0 by decide), e1, un8, bnd, if_pos z, hP.2.2.2.2.2.2.1, ← hw, f_X9_bitOf, ivI, if_true, bit_bo]
      · simp only [f_X10_shy, e4, Option.bind_some, un1, if_neg (show ¬ (1 : Int32) = 0 by decide), if_pos z, j_X10_shy_21_4, bnd, gd_t (show ix (82 : Int32) 113 = true by decide), show (82 : Int32).toNatClampNeg = 82 by decide, e82, ← hw]
        rw [show (82 : Int32) = nI 82 from rfl, hb]
        simp only [Option.bind_some, un2, arA, if_true, updE, M_isIn, un1, bo_0]
        cases bt w l <;> rfl
      · rw [arA, if_pos rfl, k1 8 (by decide)]
        obtain ⟨r0, r1, r2, r3, r4, r5, r6, r7⟩ := hM
        refine ⟨?_, fun j hj => ?_, fun j hj => ?_, fun l hl => ?_, fun j hj => ?_, ?_, ?_, ?_⟩
        · rw [updE, if_neg (by omega)]; exact r0
        · have hj' : j < pn p := hj
          rw [updE, if_neg (by omega)]; exact r1 j hj
        · have hj' : j < pn p := hj
          rw [updE, if_neg (by omega)]; exact r2 j hj
        · rw [updE, if_neg (by omega)]; exact r3 l hl
        · rw [updE, if_neg (by omega)]; exact r4 j hj
        · rw [updE, if_neg (by omega)]; exact r5
        · rw [updE, if_pos rfl]; rfl
        · rw [updE, if_neg (by omega)]; exact r7
    · obtain ⟨w, hw⟩ : ∃ w, w = pe p ^^^ ((1 : Int32) <<< (nI l &&& 31)) := ⟨_, rfl⟩
      have e83 : ar (Z 28) 8 83 = pe p := hM.2.2.2.2.2.2.2
      have hb := M_becomes e2 (show 83 < 113 by decide) w
      refine ⟨bo (bt w l), sI (Z 3) 7 w, sA M' 8 83 w, pEn p w, ?_, ?_, (fr8 _ _ _).1, (fr8 _ _ _).2, ⟨⟨by rw [ivI, if_neg (by decide)]; exact hP.1, hP.2.1, hP.2.2.1, hP.2.2.2.1, hP.2.2.2.2.1, by rw [ivI, if_neg (by decide)]; exact hP.2.2.2.2.2.1, by rw [ivI, if_neg (by decide)]; exact hP.2.2.2.2.2.2.1, by rw [ivI, if_pos rfl]; rfl⟩, by rw [ivI, if_neg (by decide)]; exact hP8⟩, ?_, gs, gt, gp⟩
      · simp only [f_X9_shy, gd_t hn, e3, Option.bind_some, un1, if_neg (show ¬ (1 : Int32) = 0 by decide), e1, un8, bnd, if_neg z, hP.2.2.2.2.2.2.2, ← hw, f_X9_bitOf, ivI, if_true, bit_bo]
      · simp only [f_X10_shy, e4, Option.bind_some, un1, if_neg (show ¬ (1 : Int32) = 0 by decide), if_neg z, j_X10_shy_21_4, bnd, gd_t (show ix (83 : Int32) 113 = true by decide), show (83 : Int32).toNatClampNeg = 83 by decide, e83, ← hw]
        rw [show (83 : Int32) = nI 83 from rfl, hb]
        simp only [Option.bind_some, un2, arA, if_true, updE, M_isIn, un1, bo_0]
        cases bt w l <;> rfl
      · rw [arA, if_pos rfl, k1 8 (by decide)]
        obtain ⟨r0, r1, r2, r3, r4, r5, r6, r7⟩ := hM
        refine ⟨?_, fun j hj => ?_, fun j hj => ?_, fun l hl => ?_, fun j hj => ?_, ?_, ?_, ?_⟩
        · rw [updE, if_neg (by omega)]; exact r0
        · have hj' : j < pn p := hj
          rw [updE, if_neg (by omega)]; exact r1 j hj
        · have hj' : j < pn p := hj
          rw [updE, if_neg (by omega)]; exact r2 j hj
        · rw [updE, if_neg (by omega)]; exact r3 l hl
        · rw [updE, if_neg (by omega)]; exact r4 j hj
        · rw [updE, if_neg (by omega)]; exact r5
        · rw [updE, if_neg (by omega)]; exact r6
        · rw [updE, if_pos rfl]; rfl
theorem ok_pair : Ok_pair INV := by
  rintro o a aK Z B ⟨tb, p, len, v, cnt, nx, q, hc⟩ q0 q1
  have hc' := hc
  obtain ⟨-, ⟨i2, -⟩, -, ⟨hP, hP8⟩, -, ⟨hC, -⟩, -, -, -, -, ⟨hRT, hM, -⟩, ⟨hT, -, hG, -⟩⟩ := hc'
  have hG' := hG
  obtain ⟨gs, gt, g12, gb⟩ := hG'
  have hs := hG.1
  have h40 := hs.1
  refine okA hc (fun oK K => f_X9_pair (Z 0) (Z 3) (a 5) (Z 5) (Z 9) (o 10) (Z 10) oK K (Z (24 + 0)) (Z (24 + 1)) (Z (24 + 2)) (Z (24 + 3)) q0 q1) (f_X10_pair (Z 28) q0 q1) (fun H' K' M' e1 e2 k1 => ?_)
  have hn := decide_eq_true i2
  rcases told_or hC hRT hT q0 with ⟨e3, e4⟩ | ⟨l, hl, rfl, hl0, e3, e4⟩
  · left
    exact ⟨-1, by simp only [f_X9_pair, gd_t hn, e3, Option.bind_some, un1, if_true], by simp only [f_X10_pair, e4, Option.bind_some, un1, if_true]⟩
  · rcases told_or hC hRT hT q1 with ⟨e5, e6⟩ | ⟨k, hk, rfl, hk0, e5, e6⟩
    · left
      exact ⟨-1, by simp only [f_X9_pair, gd_t hn, e3, e5, Option.bind_some, un1, if_true, if_neg (show ¬ (1 : Int32) = 0 by decide)], by simp only [f_X10_pair, e4, e6, Option.bind_some, un1, if_true, if_neg (show ¬ (1 : Int32) = 0 by decide)]⟩
    · obtain ⟨t, ht⟩ : ∃ t, t = bt (pt p l) k := ⟨_, rfl⟩
      have hk4 := P_kept hP hl k
      have hmp := M_pair hM hl k
      rw [← ht] at hk4 hmp
      have hmpr := M_pairs hM gb
      have e12 : (nI (prs p) < (12 : Int32)) = (prs p < 12) := nIlt (by omega) (by decide)
      have e12' : (nI (prs p) = (12 : Int32)) = (prs p = 12) := nIe (by omega) (by decide)
      by_cases cr : t = false ∧ prs p = 12
      · left
        refine ⟨-1, ?_, ?_⟩
        · simp only [f_X9_pair, gd_t hn, e3, e5, Option.bind_some, un1, if_neg (show ¬ (1 : Int32) = 0 by decide), hk4, bnd, bo_0, cr.1, if_true, hP8, e12, if_neg (show ¬ prs p < 12 by omega)]
        · simp only [f_X10_pair, e4, e6, Option.bind_some, un1, if_neg (show ¬ (1 : Int32) = 0 by decide), hmp, bo_0, cr.1, if_true, hmpr, e12', if_pos cr.2]
      · right
        obtain ⟨w, hw⟩ : ∃ w, w = pt p l ^^^ ((1 : Int32) <<< (nI k &&& 31)) := ⟨_, rfl⟩
        have hbt : bt w k = !t := by rw [hw, bt_xor _ (by omega) (by omega), decide_eq_true rfl, ht]; cases bt (pt p l) k <;> rfl
        have hbc := bc_flip (w := pt p l) hk
        have hpr := prs_flip (p := p) hl w
        rw [← hw, ← ht] at hbc
        have hpr2 : prs (pTt p l w) = if t = true then prs p - 1 else prs p + 1 := by
          cases t
          · simp only [Bool.false_eq_true, if_false] at hbc ⊢; omega
          · simp only [if_true] at hbc ⊢; omega
        have hpr3 : t = true → 1 ≤ prs p := by
          intro z
          rw [z] at hbc
          simp only [if_true] at hbc
          omega
        have e87 : ar (Z 28) 8 (87 + l) = pt p l := hM.2.2.2.1 l hl
        have hb := M_becomes e2 (show 87 + l < 113 by omega) w
        have hRM : RM (ar (sA M' 8 (87 + l) w) 8) (pTt p l w) := by
          rw [arA, if_pos rfl, k1 8 (by decide)]
          obtain ⟨r0, r1, r2, r3, r4, r5, r6, r7⟩ := hM
          refine ⟨?_, fun j hj => ?_, fun j hj => ?_, fun j hj => ?_, fun j hj => ?_, ?_, ?_, ?_⟩
          · rw [updE, if_neg (by omega)]; exact r0
          · have hj' : j < pn p := hj
            rw [updE, if_neg (by omega)]; exact r1 j hj
          · have hj' : j < pn p := hj
            rw [updE, if_neg (by omega)]; exact r2 j hj
          · rw [updE]
            show _ = va_up (fun i => pt p i) l w j
            unfold va_up
            by_cases c0 : j = l
            · rw [if_pos (by omega), if_pos c0]
            · rw [if_neg (by omega), if_neg c0]; exact r3 j hj
          · rw [updE, if_neg (by omega)]; exact r4 j hj
          · rw [updE, if_neg (by omega)]; exact r5
          · rw [updE, if_neg (by omega)]; exact r6
          · rw [updE, if_neg (by omega)]; exact r7
        have hp2 := M_pair hRM hl k
        rw [show pt (pTt p l w) l = w from va_up_self (fun i => pt p i) l w, hbt] at hp2
        have xl : ix (nI l) 26 = true := ix_nI hl (by decide)
        have cl := nI_clamp (show l < 2 ^ 31 by omega)
        refine ⟨bo (!t), sI (sA (Z 3) 2 l w) 8 (nI (prs (pTt p l w))), sA M' 8 (87 + l) w, pTt p l w, ?_, ?_, (fr8 _ _ _).1, (fr8 _ _ _).2, ⟨⟨by rw [ivI, if_neg (by decide)]; exact hP.1, hP.2.1, hP.2.2.1, fun j hj => ?_, hP.2.2.2.2.1, by rw [ivI, if_neg (by decide)]; exact hP.2.2.2.2.2.1, by rw [ivI, if_neg (by decide)]; exact hP.2.2.2.2.2.2.1, by rw [ivI, if_neg (by decide)]; exact hP.2.2.2.2.2.2.2⟩, by rw [ivI, if_pos rfl]⟩, hRM, gs, gt, ?_, fun j hj => ?_⟩
        · have hj : j_X9_pair_52_8 (a 5 (100 + nx)) (a 5) (Z 0) (Z 3) (Z 5) (Z 9) (B nx) (Z (24 + 0)) (Z (24 + 1)) (Z (24 + 2)) (Z (24 + 3)) (nI l) (nI k) (bo t) = some (bo (!t), sI (Z 0) 12 0, sI (sA (Z 3) 2 l w) 8 (nI (prs (pTt p l w))), H', sI (Z 9) 3 0, K', sI (Z (24 + 0)) 7 0, sI (Z (24 + 1)) 7 0, sI (Z (24 + 2)) 7 0, sI (Z (24 + 3)) 7 0) := by
            simp only [j_X9_pair_52_8, e1, Option.bind_some, un8, gd_t xl, cl, hP.2.2.2.1 l hl, ← hw, bnd, bo_0, j_X9_pair_88_20, ivA, hP8]
            rw [hpr2]
            cases t
            · simp [nI_1, bo_t]
            · simp only [Bool.true_eq_false, if_false, if_true, add_m1, nI_m1 (hpr3 rfl)]
              rfl
          simp only [f_X9_pair, gd_t hn, e3, e5, Option.bind_some, un1, if_neg (show ¬ (1 : Int32) = 0 by decide), hk4, bnd, bo_0, hP8, e12]
          cases t
          · simp only [if_true]
            rw [if_pos (by
              have : ¬ prs p = 12 := fun z => cr ⟨rfl, z⟩
              omega)]
            exact hj
          · simp only [Bool.true_eq_false, if_false]
            exact hj
        · have hj : j_X10_pair_36_7 (Z 28) (nI l) (nI k) = some (bo (!t), sA M' 8 (87 + l) w) := by
            simp only [j_X10_pair_36_7, show (87 : Int32) + nI l = nI (87 + l) from nI_add 87 l, gd_t (ix_nI (show 87 + l < 113 by omega) (show 113 < 2 ^ 31 by decide)), nI_clamp (show 87 + l < 2 ^ 31 by omega), e87, ← hw, hb, Option.bind_some, un2, hp2, un1, bo_0]
            cases t <;> rfl
          simp only [f_X10_pair, e4, e6, Option.bind_some, un1, if_neg (show ¬ (1 : Int32) = 0 by decide), hmp, bo_0, hmpr, e12']
          cases t
          · simp only [if_true]
            rw [if_neg (fun z => cr ⟨rfl, z⟩)]
            exact hj
          · simp only [Bool.true_eq_false, if_false]
            exact hj
        · rw [arI, arA, if_pos rfl, updE]
          show _ = va_up (fun i => pt p i) l w j
          unfold va_up
          by_cases c0 : j = l
          · rw [if_pos c0, if_pos c0]
          · rw [if_neg c0, if_neg c0]; exact hP.2.2.2.1 j hj
        · rw [hpr2]
          cases t
          · have : ¬ prs p = 12 := fun z => cr ⟨rfl, z⟩
            simp only [Bool.false_eq_true, if_false]
            omega
          · simp only [if_true]; omega
        · show hib (va_up (fun i => pt p i) l w j)
          unfold va_up
          split
          · rw [hw]; exact hib_flip hk (gb l hl)
          · exact gb j hj
