def reS (p : Pg) (l l' k : Nat) : Nat := if ps p k = l then l' else ps p k
theorem ok_replace : Ok_replace INV := by
  rintro o a aK Z B ⟨tb, p, len, v, cnt, nx, q, hc⟩ q0 q1
  have hc' := hc
  obtain ⟨-, ⟨i2, -⟩, -, hPG, -, ⟨hC, -⟩, -, -, -, -, ⟨hRT, hM, -⟩, ⟨hT, -, hG, -⟩⟩ := hc'
  have hP := hPG.1
  have hs := hG.1
  have h40 := hs.1
  refine okA hc (fun oK K => f_X9_replace (Z 0) (Z 3) (a 5) (Z 5) (Z 9) (o 10) (Z 10) oK K (Z (24 + 0)) (Z (24 + 1)) (Z (24 + 2)) (Z (24 + 3)) q0 q1) (f_X10_replace (Z 28) q0 q1) (fun H' K' M' e1 e2 k1 => ?_)
  have hn := decide_eq_true i2
  rcases told_or hC hRT hT q0 with ⟨e3, e4⟩ | ⟨l, hl, rfl, hl0, e3, e4⟩
  · left
    exact ⟨-1, by simp only [f_X9_replace, gd_t hn, e3, Option.bind_some, un1, if_true], by simp only [f_X10_replace, e4, Option.bind_some, un1, if_true]⟩
  · rcases told_or hC hRT hT q1 with ⟨e5, e6⟩ | ⟨l', hl', rfl, hl0', e5, e6⟩
    · left
      exact ⟨-1, by simp only [f_X9_replace, gd_t hn, e3, e5, Option.bind_some, un1, if_true, if_neg (show ¬ (1 : Int32) = 0 by decide)], by simp only [f_X10_replace, e4, e6, Option.bind_some, un1, if_true, if_neg (show ¬ (1 : Int32) = 0 by decide)]⟩
    · have ell : (nI l = nI l') = (l = l') := nIe (by omega) (by omega)
      by_cases c : l = l'
      · left
        exact ⟨-1, by simp only [f_X9_replace, gd_t hn, e3, e5, Option.bind_some, un1, if_neg (show ¬ (1 : Int32) = 0 by decide), ell, if_pos c], by simp only [f_X10_replace, e4, e6, Option.bind_some, un1, if_neg (show ¬ (1 : Int32) = 0 by decide), ell, if_pos c]⟩
      · obtain ⟨g, hg⟩ : ∃ g : Nat → Nat, g = fun i => if ps p i = l then 1 else 0 := ⟨_, rfl⟩
        have e7 := P_signsOf hP hs hl
        have e8 := M_signsLike hM hs hl
        rw [← hg] at e7 e8
        have hle : sg g 0 (pn p) ≤ 1 * (pn p - 0) := sg_le _ (fun i _ _ => by rw [hg]; simp only; split <;> omega)
        have ez : (nI (sg g 0 (pn p)) = (0 : Int32)) = (sg g 0 (pn p) = 0) := nIe (by omega) (by decide)
        by_cases c0 : sg g 0 (pn p) = 0
        · left
          exact ⟨-1, by simp only [f_X9_replace, gd_t hn, e3, e5, Option.bind_some, un1, if_neg (show ¬ (1 : Int32) = 0 by decide), ell, if_neg c, e7, bnd, ez, if_pos c0], by simp only [f_X10_replace, e4, e6, Option.bind_some, un1, if_neg (show ¬ (1 : Int32) = 0 by decide), ell, if_neg c, e8, ez, if_pos c0]⟩
        · right
          have hM' : RM (ar M' 8) p := by rw [k1 8 (by decide)]; exact hM
          obtain ⟨r, e9, f, rfl, g1⟩ := lp_inv (step := s_X9_replace_51_18 (nI l) (nI l')) (fun k s => ∃ f, s = (nI k, sW (Z 3) 0 f) ∧ (∀ j, j < k → f j = nI (reS p l l' j)) ∧ ∀ j, k ≤ j → j < pn p → f j = nI (ps p j)) (fun r => ∃ f, r = sW (Z 3) 0 f ∧ ∀ j, j < pn p → f j = nI (reS p l l' j)) 0 (pn p) (Nat.zero_le _) (by
            rintro k s - hk ⟨f, rfl, g1, g2⟩
            have l0 := (hs.2.1 k hk).1
            refine ⟨(nI (k + 1), sW (Z 3) 0 (upd f k (nI (reS p l l' k)))), ?_, _, rfl, fun j hj => ?_, fun j h1 h2 => ?_⟩
            · simp only [s_X9_replace_51_18, un2, ivW, hP.1, nIle (show pn p < 2 ^ 31 by omega) (show k < 2 ^ 31 by omega), if_neg (show ¬ pn p ≤ k by omega), gd_t (ix_nI (show k < 40 by omega) (show 40 < 2 ^ 31 by decide)), nI_clamp (show k < 2 ^ 31 by omega), arW, if_true, g2 k (Nat.le_refl _) hk, nIe (show ps p k < 2 ^ 31 by omega) (show l < 2 ^ 31 by omega), sA_W, j_X9_replace_88_22, bnd, nI_1]
              unfold reS
              by_cases c1 : ps p k = l
              · simp only [if_pos c1]
              · simp only [if_neg c1]
                rw [show upd f k (nI (ps p k)) = f from funext fun j => by
                  rw [updE]
                  split
                  · rename_i h; rw [h]; exact (g2 k (Nat.le_refl _) hk).symm
                  · rfl]
            · rw [updE]
              by_cases c1 : j = k
              · rw [if_pos c1, c1]
              · rw [if_neg c1]; exact g1 j (by omega)
            · rw [updE, if_neg (by omega)]; exact g2 j (by omega) h2) (by
            rintro s ⟨f, rfl, g1, g2⟩
            exact ⟨sW (Z 3) 0 f, by simp only [s_X9_replace_51_18, un2, ivW, hP.1, if_pos (Int32.le_refl _)], f, rfl, g1⟩) 5000 (by omega) (nI 0, Z 3) ⟨ar (Z 3) 0, by rw [sW_self], fun j hj => by omega, fun j _ h2 => hP.2.1 j h2⟩
          obtain ⟨r, e10, f', rfl, m0, m1, m2, m3⟩ := lp_inv (step := s_X10_replace_40_11 (nI l) (nI l')) (fun k s => ∃ f, s = (nI (sg g 0 k), nI k, sW M' 8 f) ∧ f 0 = nI (pn p) ∧ (∀ j, j < k → f (1 + j) = nI (reS p l l' j)) ∧ (∀ j, k ≤ j → j < pn p → f (1 + j) = nI (ps p j)) ∧ ∀ j, 41 ≤ j → f j = ar M' 8 j) (fun r => ∃ f, r = (nI (sg g 0 (pn p)), sW M' 8 f) ∧ f 0 = nI (pn p) ∧ (∀ j, j < pn p → f (1 + j) = nI (reS p l l' j)) ∧ True ∧ ∀ j, 41 ≤ j → f j = ar M' 8 j) 0 (pn p) (Nat.zero_le _) (by
            rintro k s - hk ⟨f, rfl, m0, m1, m2, m3⟩
            have l0 := (hs.2.1 k hk).1
            have hmany : f_X10_many (sW M' 8 f) = some (nI (pn p)) := by
              unfold f_X10_many
              rw [gd_t (by decide), arW, if_pos rfl]
              exact congrArg some m0
            have hcl : f_X10_classOf (sW M' 8 f) (nI k) = some (nI (ps p k)) := by
              unfold f_X10_classOf
              rw [nI_1l, gd_t (ix_nI (show 1 + k < 113 by omega) (by decide)), nI_clamp (by omega), arW, if_pos rfl, m2 k (Nat.le_refl _) hk]
            refine ⟨(nI (sg g 0 (k + 1)), nI (k + 1), sW M' 8 (upd f (1 + k) (nI (reS p l l' k)))), ?_, _, rfl, ?_, fun j hj => ?_, fun j h1 h2 => ?_, fun j hj => ?_⟩
            · simp only [s_X10_replace_40_11, un3, hmany, Option.bind_some, un1, nIle (show pn p < 2 ^ 31 by omega) (show k < 2 ^ 31 by omega), if_neg (show ¬ pn p ≤ k by omega), hcl, nIe (show ps p k < 2 ^ 31 by omega) (show l < 2 ^ 31 by omega), nI_1l, gd_t (ix_nI (show 1 + k < 113 by omega) (show 113 < 2 ^ 31 by decide)), nI_clamp (show 1 + k < 2 ^ 31 by omega), sA_W, j_X10_replace_75_21, bnd, nI_1, sg_succ (Nat.zero_le k)]
              unfold reS
              rw [hg]
              by_cases c1 : ps p k = l
              · simp only [if_pos c1]
              · simp only [if_neg c1, Nat.add_zero]
                rw [show upd f (1 + k) (nI (ps p k)) = f from funext fun j => by
                  rw [updE]
                  split
                  · rename_i h; rw [h]; exact (m2 k (Nat.le_refl _) hk).symm
                  · rfl]
            · rw [updE, if_neg (by omega)]; exact m0
            · rw [updE]
              by_cases c1 : j = k
              · rw [if_pos (by omega), c1]
              · rw [if_neg (by omega)]; exact m1 j (by omega)
            · rw [updE, if_neg (by omega)]; exact m2 j (by omega) h2
            · rw [updE, if_neg (by omega)]; exact m3 j hj) (by
            rintro s ⟨f, rfl, m0, m1, m2, m3⟩
            have hmany : f_X10_many (sW M' 8 f) = some (nI (pn p)) := by
              unfold f_X10_many
              rw [gd_t (by decide), arW, if_pos rfl]
              exact congrArg some m0
            exact ⟨_, by simp only [s_X10_replace_40_11, un3, hmany, Option.bind_some, un1, if_pos (Int32.le_refl _)], f, rfl, m0, m1, trivial, m3⟩) 5000 (by omega) (nI (sg g 0 0), nI 0, M') ⟨ar M' 8, by rw [sW_self], hM'.1, fun j hj => by omega, fun j _ h2 => hM'.2.1 j h2, fun j _ => rfl⟩
          refine ⟨nI (sg g 0 (pn p)), sW (Z 3) 0 f, sW M' 8 f', pPer p (pn p) (reS p l l') (pm p), ?_, ?_, fun k h8 _ => by rw [arW, if_neg h8], fun k => rfl, PG_per hPG hP.1 (fun j hj => ⟨by rw [arW, if_pos rfl]; exact g1 j hj, by rw [arW, if_neg (by decide)]; exact hP.2.2.1 j hj⟩) (fun k hk => by rw [arW, if_neg (by omega)]) (fun k _ => rfl), ?_, PgG_per hG h40 (fun k hk => ?_) (fun k hk => (hs.2.1 k hk).2)⟩
          · show f_X9_replace (Z 0) (Z 3) (a 5) (Z 5) (Z 9) (o 10) (Z 10) (a 5 (100 + nx)) (B nx) (Z (24 + 0)) (Z (24 + 1)) (Z (24 + 2)) (Z (24 + 3)) (nI l) (nI l') = _
            unfold f_X9_replace
            rw [gd_t hn, e3, Option.bind_some]
            simp only [un1]
            rw [if_neg (show ¬ (1 : Int32) = 0 by decide), gd_t hn, e5, Option.bind_some, if_neg (show ¬ (1 : Int32) = 0 by decide)]
            simp only [ell, if_neg c, e7, Option.bind_some, bnd, ez, if_neg c0, e1, un8]
            rw [show lp (s_X9_replace_51_18 (nI l) (nI l')) 5000 (0, Z 3) = some (sW (Z 3) 0 f) from e9]
            rfl
          · unfold f_X10_replace
            rw [e4, Option.bind_some]
            simp only [un1]
            rw [if_neg (show ¬ (1 : Int32) = 0 by decide), e6, Option.bind_some, if_neg (show ¬ (1 : Int32) = 0 by decide)]
            simp only [ell, if_neg c, e8, Option.bind_some, bnd, ez, if_neg c0, e2]
            rw [show lp (s_X10_replace_40_11 (nI l) (nI l')) 5000 (0, 0, M') = _ from e10]
            rfl
          · rw [arW, if_pos rfl]
            refine RM_per hM' m0 (fun k hk => ⟨m1 k hk, ?_⟩) (fun j hj => m3 j (by omega))
            rw [m3 _ (by omega)]
            exact hM'.2.2.1 k hk
          · unfold reS
            split
            · exact ⟨hl', hl0'⟩
            · exact ⟨(hs.2.1 k hk).1, hG.2.1 k hk⟩
/-- where the sign at k comes from, when d signs at i go to t -/
def srI (i d t k : Nat) : Nat := if t ≤ k ∧ k < t + d then i + k - t else if (if k < t then k else k - d) < i then (if k < t then k else k - d) else (if k < t then k else k - d) + d
theorem srI_lt {i d t n k : Nat} (hid : i + d ≤ n) (htd : t + d ≤ n) (hk : k < n) : srI i d t k < n := by
  unfold srI
  split
  · omega
  · split <;> split <;> omega
theorem P_moveFrom {P O : OV} {p : Pg} (hP : PGc P p) (hO : RP O p) (h40 : pn p ≤ 40) {i d t : Nat} (hid : i + d ≤ pn p) (htd : t + d ≤ pn p) : ∃ P', f_X4_moveFrom P O (nI i) (nI d) (nI t) = some P' ∧ PGc P' (pPer p (pn p) (fun k => ps p (srI i d t k)) (fun k => pm p (srI i d t k))) := by
  have hP' := hP
  obtain ⟨⟨r4, -⟩, -⟩ := hP'
  have sA0 : ∀ (f g : Nat → Int32) (j : Nat) (v : Int32), sA (sW (sW P 0 f) 1 g) 0 j v = sW (sW P 0 (upd f j v)) 1 g := by
    intro f g j v
    refine Prod.ext rfl (Prod.ext (funext fun q => ?_) rfl)
    simp only [sA, sW, va_up, ar]
    by_cases h : q = 0
    · subst h; simp
    · simp [h]
  obtain ⟨r, e, f, g, rfl, g1⟩ := lp_inv (step := s_X4_moveFrom_3_2 O (nI i) (nI d) (nI t)) (fun k s => ∃ f g, s = (nI k, sW (sW P 0 f) 1 g) ∧ ∀ j, j < k → f j = nI (ps p (srI i d t j)) ∧ g j = nI (pm p (srI i d t j))) (fun r => ∃ f g, r = sW (sW P 0 f) 1 g ∧ ∀ j, j < pn p → f j = nI (ps p (srI i d t j)) ∧ g j = nI (pm p (srI i d t j))) 0 (pn p) (Nat.zero_le _) (by
    rintro k s - hk ⟨f, g, rfl, g1⟩
    have hsr := srI_lt hid htd hk
    have hhas : f_X4_has O (nI (srI i d t k)) = some 1 := by
      unfold f_X4_has
      rw [hO.1, if_neg (nI_pos (by omega)), if_neg (nI_ge hsr (by omega))]
    have hj : j_X4_moveFrom_75_6 O (sW (sW P 0 f) 1 g) (nI k) (nI (srI i d t k)) = some (.inl (nI (k + 1), sW (sW P 0 (upd f k (nI (ps p (srI i d t k))))) 1 (upd g k (nI (pm p (srI i d t k)))))) := by
      simp only [j_X4_moveFrom_75_6, hhas, Option.bind_some, un1, if_neg (show ¬ (1 : Int32) = 0 by decide), gd_t (ix_nI (show srI i d t k < 40 by omega) (show 40 < 2 ^ 31 by decide)), gd_t (ix_nI (show k < 40 by omega) (show 40 < 2 ^ 31 by decide)), nI_clamp (show srI i d t k < 2 ^ 31 by omega), nI_clamp (show k < 2 ^ 31 by omega), hO.2.1 _ hsr, hO.2.2.1 _ hsr, bnd, sA0, sA_W, j_X4_moveFrom_112_10, nI_1]
    refine ⟨(nI (k + 1), sW (sW P 0 (upd f k (nI (ps p (srI i d t k))))) 1 (upd g k (nI (pm p (srI i d t k))))), ?_, upd f k (nI (ps p (srI i d t k))), upd g k (nI (pm p (srI i d t k))), rfl, fun j hj => ?_⟩
    · refine Eq.trans ?_ hj
      have h56 : ∀ r0 : Nat, r0 = (if k < t then k else k - d) → ¬ (t ≤ k ∧ k < t + d) → j_X4_moveFrom_56_16 O (sW (sW P 0 f) 1 g) (nI i) (nI d) (nI k) (nI r0) = j_X4_moveFrom_75_6 O (sW (sW P 0 f) 1 g) (nI k) (nI (srI i d t k)) := by
        intro r0 hr0 hnot
        have hb : r0 < 2 ^ 31 := by rw [hr0]; split <;> omega
        simp only [j_X4_moveFrom_56_16, bnd, nIle (show i < 2 ^ 31 by omega) hb, j_X4_moveFrom_73_19, nI_add]
        unfold srI
        rw [if_neg hnot, ← hr0]
        by_cases c : r0 < i
        · rw [if_neg (by omega), if_pos c]
        · rw [if_pos (by omega), if_neg c]
      simp only [s_X4_moveFrom_3_2, un2, ivW, r4, nIle (show pn p < 2 ^ 31 by omega) (show k < 2 ^ 31 by omega), if_neg (show ¬ pn p ≤ k by omega), nIlt (show k < 2 ^ 31 by omega) (show t < 2 ^ 31 by omega), nI_add, nIle (show t + d < 2 ^ 31 by omega) (show k < 2 ^ 31 by omega), j_X4_moveFrom_40_14, nIle (show t < 2 ^ 31 by omega) (show k < 2 ^ 31 by omega), bnd]
      by_cases c1 : k < t
      · rw [if_pos c1, if_neg (by omega)]
        exact h56 k (by rw [if_pos c1]) (by omega)
      · rw [if_neg c1]
        by_cases c2 : t + d ≤ k
        · rw [if_pos c2, if_pos (by omega), nI_sub (by omega)]
          exact h56 (k - d) (by rw [if_neg c1]) (by omega)
        · rw [if_neg c2, nI_sub (by omega)]
          unfold srI
          rw [if_pos ⟨by omega, by omega⟩]
    · simp only [updE]
      by_cases c : j = k
      · rw [if_pos c, if_pos c, c]; exact ⟨rfl, rfl⟩
      · rw [if_neg c, if_neg c]; exact g1 j (by omega)) (by
    rintro s ⟨f, g, rfl, g1⟩
    exact ⟨sW (sW P 0 f) 1 g, by simp only [s_X4_moveFrom_3_2, un2, ivW, r4, if_pos (Int32.le_refl _)], f, g, rfl, g1⟩) 5000 (by omega) (nI 0, P) ⟨ar P 0, ar P 1, by rw [sW_self, sW_self], fun j hj => by omega⟩
  refine ⟨sW (sW P 0 f) 1 g, ?_, PG_per hP r4 (fun j hj => ?_) (fun k hk => by rw [arW, if_neg (by omega), arW, if_neg (by omega)]) (fun k _ => rfl)⟩
  · unfold f_X4_moveFrom
    simp only [bnd]
    rw [show lp (s_X4_moveFrom_3_2 O (nI i) (nI d) (nI t)) 5000 (0, P) = _ from e]
    rfl
  · rw [arW, if_neg (by decide), arW, if_pos rfl, arW, if_pos rfl]
    exact g1 j hj
theorem M_aside (M : OV) : f_X10_putsAside M = some (sW M 9 (mix 113 (ar M 8) (ar M 9))) := by
  unfold f_X10_putsAside
  have h := lp_for (step := s_X10_putsAside_2_2) (fun k => (nI k, sW M 9 (mix k (ar M 8) (ar M 9)))) 0 113 (r := sW M 9 (mix 113 (ar M 8) (ar M 9))) (by omega)
    (fun k h0 h1 => by
      have e : ix (nI k) 113 = true := ix_nI h1 (by decide)
      have g : ¬ (113 : Int32) ≤ nI k := nI_ge h1 (by decide)
      simp only [s_X10_putsAside_2_2, un2, if_neg g, gd_t e, bnd, sA_W, nI_clamp (show k < 2 ^ 31 by omega), arW, nI_1]
      simp [mix_upd])
    (by simp [s_X10_putsAside_2_2, un2, show (113 : Int32) ≤ nI 113 by decide]) 5000 (by omega)
  simp only [mix_0, sW_self] at h
  simp only [bnd]
  rw [show (0 : Int32) = nI 0 from rfl, h]
  rfl
theorem ok_shift : Ok_shift INV := by
  rintro o a aK Z B hI q0 q1 q2
  have hI2 := hI
  obtain ⟨tb, p, len, v, cnt, nx, q, hc⟩ := hI2
  have hc' := hc
  obtain ⟨-, -, -, hPG, hH, -, -, -, -, -, ⟨hRT, hM, -, -, m5, m6, -⟩, ⟨hT, -, hG, -, -, u6⟩⟩ := hc'
  have hP := hPG.1
  have hs := hG.1
  have h40 := hs.1
  refine ⟨nx, hH.2.2.1, ?_⟩
  have no : ∀ (e1 : f_X9_shift (Z 0) (Z 3) (Z 4) (a 5) (Z 5) (Z 9) (a 5 (100 + nx)) (B nx) (Z (24 + 0)) (Z (24 + 1)) (Z (24 + 2)) (Z (24 + 3)) q0 q1 q2 = some (0, Z 0, Z 3, Z 4, Z 5, Z 9, B nx, Z (24 + 0), Z (24 + 1), Z (24 + 2), Z (24 + 3))) (e2 : f_X10_shift (Z 28) q0 q1 q2 = some (0, Z 28)), (∃ (u : Int32 × OV × OV × OV × OV × OV × OV × OV × OV × OV × OV) (w : Int32 × OV), f_X9_shift (Z 0) (Z 3) (Z 4) (a 5) (Z 5) (Z 9) (a 5 (100 + nx)) (B nx) (Z (24 + 0)) (Z (24 + 1)) (Z (24 + 2)) (Z (24 + 3)) q0 q1 q2 = some u ∧ f_X10_shift (Z 28) q0 q1 q2 = some w ∧ w.1 = u.1 ∧ INV o a aK (va_up (va_up (va_up (va_up (va_up (va_up (va_up (va_up (va_up (va_up Z 0 u.2.1) 3 u.2.2.1) 4 u.2.2.2.1) 5 u.2.2.2.2.1) 9 u.2.2.2.2.2.1) (24 + 0) u.2.2.2.2.2.2.2.1) (24 + 1) u.2.2.2.2.2.2.2.2.1) (24 + 2) u.2.2.2.2.2.2.2.2.2.1) (24 + 3) u.2.2.2.2.2.2.2.2.2.2) 28 w.2) (va_up B nx u.2.2.2.2.2.2.1)) := by
    intro e1 e2
    refine ⟨_, _, e1, e2, rfl, ?_⟩
    simp only [up_same]
    exact hI
  rcases run_or hP hM hs q0 q1 with ⟨e3, h⟩ | ⟨i, d, hi, hd, hid, rfl, rfl, c1, c2, e3, e4⟩
  · refine no (by simp only [f_X9_shift, e3, Option.bind_some, un1, if_true]) ?_
    rcases h with e4 | ⟨e4, c1 | ⟨c1, c2⟩⟩
    · simp only [f_X10_shift, e4, Option.bind_some, un1, if_true]
    · simp only [f_X10_shift, e4, Option.bind_some, un1, if_neg (show ¬ (1 : Int32) = 0 by decide), if_pos c1]
    · simp only [f_X10_shift, e4, Option.bind_some, un1, if_neg (show ¬ (1 : Int32) = 0 by decide), if_neg c1, M_many hM, if_pos c2]
  · have hnd : nI (pn p) - nI d = nI (pn p - d) := nI_sub (by omega)
    rcases in_or' q2 (show pn p - d < 2 ^ 31 - 1 by omega) (Nat.zero_le _) with ⟨e5, h⟩ | ⟨t, -, ht, rfl, c3, c4, e5⟩
    · have e5' : f_X10_in q2 0 (nI (pn p - d)) = some 0 := e5
      refine no ?_ (by simp only [f_X10_shift, e4, Option.bind_some, un1, if_neg (show ¬ (1 : Int32) = 0 by decide), if_neg c1, M_many hM, if_neg c2, hnd, e5', if_true])
      simp only [f_X9_shift, e3, Option.bind_some, un1, if_neg (show ¬ (1 : Int32) = 0 by decide), hP.1, hnd]
      by_cases c : q2 < 0
      · rw [if_pos c]
      · rcases h with h | h
        · exact absurd h c
        · rw [if_neg c, if_pos h]
    · have e5' : f_X10_in (nI t) 0 (nI (pn p - d)) = some 1 := e5
      have c3' : ¬ nI t < (0 : Int32) := c3
      have eti : (nI t = nI i) = (t = i) := nIe (by omega) (by omega)
      by_cases c : t = i
      · exact no (by simp only [f_X9_shift, e3, Option.bind_some, un1, if_neg (show ¬ (1 : Int32) = 0 by decide), hP.1, hnd, if_neg c3', if_neg c4, eti, if_pos c]) (by simp only [f_X10_shift, e4, Option.bind_some, un1, if_neg (show ¬ (1 : Int32) = 0 by decide), if_neg c1, M_many hM, if_neg c2, hnd, e5', eti, if_pos c])
      · obtain ⟨H', K', e1, hH'⟩ := A_begin (L := Z 0) (W := Z 9) (Y0 := Z (24 + 0)) (Y1 := Z (24 + 1)) (Y2 := Z (24 + 2)) (Y3 := Z (24 + 3)) (a := a) hPG hs hH
        obtain ⟨M', e2, k1, k2, k3, k4⟩ := M_keeps hH.2.2.2.1 m5 hM hs (fun j hj => (u6 j hj).1) m6
        have hM' : RM (ar M' 8) p := by rw [k1 8 (by decide)]; exact hM
        obtain ⟨J', e6, hJ'⟩ := P_copy (K := Z 4) hPG hs
        obtain ⟨P', e7, hP'⟩ := P_moveFrom hPG hJ'.1 h40 hid (show t + d ≤ pn p by omega)
        -- the model's row
        obtain ⟨M9, hM9⟩ : ∃ M9, M9 = sW M' 9 (mix 113 (ar M' 8) (ar M' 9)) := ⟨_, rfl⟩
        have e8 : f_X10_putsAside M' = some M9 := by rw [hM9]; exact M_aside M'
        have h98 : ar M9 8 = ar M' 8 := by rw [hM9, arW, if_neg (by decide)]
        have h99 : ∀ j, j < 113 → ar M9 9 j = ar M' 8 j := fun j hj => by rw [hM9, arW, if_pos rfl]; unfold mix; rw [if_pos hj]
        obtain ⟨f1, e9, g0, g1, g2, g3⟩ := M_down M9 (ar M9 8) (n := pn p) (i := i) (d := d) (by rw [h98]; exact hM'.1) hd hid h40
        rw [sW_self] at e9
        obtain ⟨f2, e10, g0', g1', g2', g3'⟩ := M_up M9 f1 (n := pn p - d) (i := t) (d := d) g0 (by omega) hd (by omega)
        rw [show pn p - d + d = pn p by omega] at g0'
        rw [h98] at g1 g2 g3
        obtain ⟨r, e11, f3, rfl, s0, s1, s2, s3⟩ := lp_inv (step := s_X10_shift_67_18 (nI i) (nI d) (nI t)) (fun k s => ∃ f, s = (nI k, sW M9 8 f) ∧ f 0 = f2 0 ∧ (∀ j, j < t ∨ (t + k ≤ j ∧ j < pn p) → f (1 + j) = f2 (1 + j) ∧ f (41 + j) = f2 (41 + j)) ∧ (∀ j, t ≤ j → j < t + k → f (1 + j) = ar M' 8 (1 + (i + j - t)) ∧ f (41 + j) = ar M' 8 (41 + (i + j - t))) ∧ ∀ j, 81 ≤ j → f j = f2 j) (fun r => ∃ f, r = sW M9 8 f ∧ f 0 = f2 0 ∧ (∀ j, j < t ∨ (t + d ≤ j ∧ j < pn p) → f (1 + j) = f2 (1 + j) ∧ f (41 + j) = f2 (41 + j)) ∧ (∀ j, t ≤ j → j < t + d → f (1 + j) = ar M' 8 (1 + (i + j - t)) ∧ f (41 + j) = ar M' 8 (41 + (i + j - t))) ∧ ∀ j, 81 ≤ j → f j = f2 j) 0 d (Nat.zero_le _) (by
          rintro k s - hk ⟨f, rfl, s0, s1, s2, s3⟩
          have a1 : (1 : Int32) + nI i + nI k = nI (1 + i + k) := by rw [nI_1l, nI_add]
          have a2 : (1 : Int32) + nI t + nI k = nI (1 + t + k) := by rw [nI_1l, nI_add]
          have a3 : (41 : Int32) + nI i + nI k = nI (41 + i + k) := by rw [show (41 : Int32) + nI i = nI (41 + i) from nI_add 41 i, nI_add]
          have a4 : (41 : Int32) + nI t + nI k = nI (41 + t + k) := by rw [show (41 : Int32) + nI t = nI (41 + t) from nI_add 41 t, nI_add]
          refine ⟨(nI (k + 1), sW M9 8 (upd (upd f (1 + t + k) (ar M9 9 (1 + i + k))) (41 + t + k) (ar M9 9 (41 + i + k)))), ?_, _, rfl, ?_, fun j hj => ⟨?_, ?_⟩, fun j h1 h2 => ⟨?_, ?_⟩, fun j hj => ?_⟩
          · simp only [s_X10_shift_67_18, un2, nIle (show d < 2 ^ 31 by omega) (show k < 2 ^ 31 by omega), if_neg (show ¬ d ≤ k by omega), a1, a2, a3, a4, gd_t (ix_nI (show 1 + i + k < 113 by omega) (show 113 < 2 ^ 31 by decide)), gd_t (ix_nI (show 1 + t + k < 113 by omega) (show 113 < 2 ^ 31 by decide)), gd_t (ix_nI (show 41 + i + k < 113 by omega) (show 113 < 2 ^ 31 by decide)), gd_t (ix_nI (show 41 + t + k < 113 by omega) (show 113 < 2 ^ 31 by decide)), nI_clamp (show 1 + i + k < 2 ^ 31 by omega), nI_clamp (show 1 + t + k < 2 ^ 31 by omega), nI_clamp (show 41 + i + k < 2 ^ 31 by omega), nI_clamp (show 41 + t + k < 2 ^ 31 by omega), bnd, sA_W, arW, show ¬ (9 : Nat) = 8 by decide, if_false, nI_1]
          · rw [updE, if_neg (by omega), updE, if_neg (by omega)]; exact s0
          · rw [updE, if_neg (by omega), updE, if_neg (by omega)]; exact (s1 j (by omega)).1
          · rw [updE, if_neg (by omega), updE, if_neg (by omega)]; exact (s1 j (by omega)).2
          · rw [updE, if_neg (by omega), updE]
            by_cases c : j = t + k
            · rw [if_pos (by omega), h99 _ (by omega), show 1 + (i + j - t) = 1 + i + k by omega]
            · rw [if_neg (by omega)]; exact (s2 j h1 (by omega)).1
          · rw [updE]
            by_cases c : j = t + k
            · rw [if_pos (by omega), h99 _ (by omega), show 41 + (i + j - t) = 41 + i + k by omega]
            · rw [if_neg (by omega), updE, if_neg (by omega)]; exact (s2 j h1 (by omega)).2
          · rw [updE, if_neg (by omega), updE, if_neg (by omega)]; exact s3 j hj) (by
          rintro s ⟨f, rfl, s0, s1, s2, s3⟩
          exact ⟨_, by simp only [s_X10_shift_67_18, un2, if_pos (Int32.le_refl _)], f, rfl, s0, s1, s2, s3⟩) 5000 (by omega) (nI 0, sW M9 8 f2) ⟨f2, rfl, rfl, fun j _ => ⟨rfl, rfl⟩, fun j h1 h2 => by omega, fun _ _ => rfl⟩
        have hrow : ∀ k, k < pn p → f3 (1 + k) = nI (ps p (srI i d t k)) ∧ f3 (41 + k) = nI (pm p (srI i d t k)) := by
          intro k hk
          have hlt := srI_lt hid (show t + d ≤ pn p by omega) hk
          have fin : ∀ x, x = srI i d t k → f3 (1 + k) = ar M' 8 (1 + x) → f3 (41 + k) = ar M' 8 (41 + x) → f3 (1 + k) = nI (ps p (srI i d t k)) ∧ f3 (41 + k) = nI (pm p (srI i d t k)) := by
            intro x hx h1 h2
            subst hx
            exact ⟨h1.trans (hM'.2.1 _ hlt), h2.trans (hM'.2.2.1 _ hlt)⟩
          by_cases d1 : k < t
          · have p1 := s1 k (Or.inl d1)
            have p2 := g1' k d1
            by_cases d2 : k < i
            · have p3 := g1 k d2
              exact fin k (by unfold srI; rw [if_neg (by omega), if_pos d1, if_pos d2]) (p1.1.trans (p2.1.trans p3.1)) (p1.2.trans (p2.2.trans p3.2))
            · have p3 := g2 k (by omega) (by omega)
              exact fin (k + d) (by unfold srI; rw [if_neg (by omega), if_pos d1, if_neg d2]) (p1.1.trans (p2.1.trans p3.1)) (p1.2.trans (p2.2.trans p3.2))
          · by_cases d3 : k < t + d
            · have p1 := s2 k (by omega) d3
              exact fin (i + k - t) (by unfold srI; rw [if_pos ⟨by omega, d3⟩]) p1.1 p1.2
            · have p1 := s1 k (Or.inr ⟨by omega, hk⟩)
              have p2 := g2' (k - d) (by omega) (by omega)
              rw [show k - d + d = k by omega] at p2
              by_cases d2 : k - d < i
              · have p3 := g1 (k - d) d2
                exact fin (k - d) (by unfold srI; rw [if_neg (by omega), if_neg d1, if_pos d2]) (p1.1.trans (p2.1.trans p3.1)) (p1.2.trans (p2.2.trans p3.2))
              · have p3 := g2 (k - d) (by omega) (by omega)
                exact fin (k - d + d) (by unfold srI; rw [if_neg (by omega), if_neg d1, if_neg d2]) (p1.1.trans (p2.1.trans p3.1)) (p1.2.trans (p2.2.trans p3.2))
        have hRM : RM (ar (sW M9 8 f3) 8) (pPer p (pn p) (fun k => ps p (srI i d t k)) (fun k => pm p (srI i d t k))) := by
          rw [arW, if_pos rfl]
          exact RM_per hM' (s0.trans g0') hrow (fun j hj => ((s3 j hj).trans (g3' j hj)).trans (g3 j hj))
        have hG' : PgG tb (pPer p (pn p) (fun k => ps p (srI i d t k)) (fun k => pm p (srI i d t k))) := PgG_per hG h40 (fun k hk => by
          have := srI_lt hid (show t + d ≤ pn p by omega) hk
          exact ⟨(hs.2.1 _ this).1, hG.2.1 _ this⟩) (fun k hk => (hs.2.1 _ (srI_lt hid (show t + d ≤ pn p by omega) hk)).2)
        have hIA := INV_act hc hH' k1 k2 k3 k4 (M'' := sW M9 8 f3) (fun k h8 h9 => by rw [arW, if_neg h8, hM9, arW, if_neg h9]) (fun k => by rw [ivW, hM9, ivW]) hP' hRM hG'
        refine ⟨(1, sI (Z 0) 12 0, P', J', H', sI (Z 9) 3 0, K', sI (Z (24 + 0)) 7 0, sI (Z (24 + 1)) 7 0, sI (Z (24 + 2)) 7 0, sI (Z (24 + 3)) 7 0), (1, sW M9 8 f3), ?_, ?_, rfl, tb, _, len, v, cn1 cnt, nx1 nx, qu1 p q, hIA⟩
        · simp only [f_X9_shift, e3, Option.bind_some, un1, if_neg (show ¬ (1 : Int32) = 0 by decide), hP.1, hnd, if_neg c3', if_neg c4, eti, if_neg c, e1, un8, e6, e7]
        · simp only [f_X10_shift, e4, Option.bind_some, un1, if_neg (show ¬ (1 : Int32) = 0 by decide), if_neg c1, M_many hM, if_neg c2, hnd, e5', eti, if_neg c, e2, e8, e9, e10, bnd]
          rw [show lp (s_X10_shift_67_18 (nI i) (nI d) (nI t)) 5000 (0, sW M9 8 f2) = _ from e11]
          rfl
