/-- a page whose signs are taken from elsewhere -/
def pPer (p : Pg) (n : Nat) (s m : Nat → Nat) : Pg := (n, s, m, p.2.2.2)
theorem PgG_per {tb : Tb} {p : Pg} (h : PgG tb p) {n : Nat} {s m : Nat → Nat} (hn : n ≤ 40) (hs : ∀ i, i < n → s i < 26 ∧ 0 < tb 0 (s i)) (hm : ∀ i, i < n → m i ≤ 2) : PgG tb (pPer p n s m) := by
  obtain ⟨⟨g1, g2, g3⟩, gt, gp⟩ := h
  exact ⟨⟨hn, fun i hi => ⟨(hs i hi).1, hm i hi⟩, g3⟩, fun i hi => (hs i hi).2, gp⟩
theorem RM_per {f f0 : Nat → Int32} {p : Pg} (h : RM f0 p) {n : Nat} {s m : Nat → Nat} (h0 : f 0 = nI n) (h1 : ∀ i, i < n → f (1 + i) = nI (s i) ∧ f (41 + i) = nI (m i)) (h2 : ∀ j, 81 ≤ j → f j = f0 j) : RM f (pPer p n s m) := by
  obtain ⟨r0, r1, r2, r3, r4, r5, r6, r7⟩ := h
  refine ⟨h0, fun i hi => (h1 i hi).1, fun i hi => (h1 i hi).2, fun l hl => ?_, fun k hk => ?_, ?_, ?_, ?_⟩
  · rw [h2 _ (by omega)]; exact r3 l hl
  · rw [h2 _ (by omega)]; exact r4 k hk
  · rw [h2 _ (by omega)]; exact r5
  · rw [h2 _ (by omega)]; exact r6
  · rw [h2 _ (by omega)]; exact r7
theorem PG_per {P P0 : OV} {p : Pg} (h : PGc P0 p) {n : Nat} {s m : Nat → Nat} (h4 : iv P 4 = nI n) (h1 : ∀ i, i < n → ar P 0 i = nI (s i) ∧ ar P 1 i = nI (m i)) (ha : ∀ k, 2 ≤ k → ar P k = ar P0 k) (hv : ∀ k, k ≠ 4 → iv P k = iv P0 k) : PGc P (pPer p n s m) := by
  obtain ⟨⟨r4, r0, r1, r2, r3, r5, r6, r7⟩, r8⟩ := h
  refine ⟨⟨h4, fun i hi => (h1 i hi).1, fun i hi => (h1 i hi).2, fun l hl => ?_, fun k hk => ?_, ?_, ?_, ?_⟩, ?_⟩
  · rw [ha 2 (by decide)]; exact r2 l hl
  · rw [ha 3 (by decide)]; exact r3 k hk
  · rw [hv 5 (by decide)]; exact r5
  · rw [hv 6 (by decide)]; exact r6
  · rw [hv 7 (by decide)]; exact r7
  · rw [hv 8 (by decide)]; exact r8
def inS (p : Pg) (i l k : Nat) : Nat := if k < i then ps p k else if k = i then l else ps p (k - 1)
def inM (p : Pg) (i k : Nat) : Nat := if k < i then pm p k else if k = i then 0 else pm p (k - 1)
theorem P_putIn {P : OV} {p : Pg} (hP : PGc P p) (hn : pn p < 40) {i l : Nat} (hi : i ≤ pn p) : ∃ P', f_X4_putIn P (nI i) (nI l) = some P' ∧ PGc P' (pPer p (pn p + 1) (inS p i l) (inM p i)) := by
  have hP' := hP
  obtain ⟨⟨r4, r0, r1, -⟩, -⟩ := hP'
  obtain ⟨n, hnn⟩ : ∃ n, n = pn p := ⟨_, rfl⟩
  rw [← hnn] at hn hi r4 r0 r1
  obtain ⟨r, e, f, g, rfl, g1, g2⟩ := lp_inv (step := s_X4_putIn_27_2 (nI i)) (fun k s => ∃ f g, s = (nI (n - k), sW (sW P 0 f) 1 g) ∧ (∀ j, j < n - k → f j = ar P 0 j ∧ g j = ar P 1 j) ∧ ∀ j, n - k ≤ j → j < n → f (j + 1) = ar P 0 j ∧ g (j + 1) = ar P 1 j) (fun r => ∃ f g, r = sW (sW P 0 f) 1 g ∧ (∀ j, j < i → f j = ar P 0 j ∧ g j = ar P 1 j) ∧ ∀ j, i ≤ j → j < n → f (j + 1) = ar P 0 j ∧ g (j + 1) = ar P 1 j) 0 (n - i) (Nat.zero_le _) (by
    rintro k s - hk ⟨f, g, rfl, g1, g2⟩
    obtain ⟨m, hm⟩ : ∃ m, n - k = m + 1 := ⟨n - k - 1, by omega⟩
    rw [hm] at g1 g2 ⊢
    have sA0 : ∀ (f g : Nat → Int32) (j : Nat) (v : Int32), sA (sW (sW P 0 f) 1 g) 0 j v = sW (sW P 0 (upd f j v)) 1 g := by
      intro f g j v
      refine Prod.ext rfl (Prod.ext (funext fun q => ?_) rfl)
      simp only [sA, sW, va_up, ar]
      by_cases h : q = 0
      · subst h; simp
      · simp [h]
    refine ⟨(nI m, sW (sW P 0 (upd f (m + 1) (f m))) 1 (upd g (m + 1) (g m))), ?_, _, _, by rw [show n - (k + 1) = m by omega], fun j hj => ⟨?_, ?_⟩, fun j h1 h2 => ⟨?_, ?_⟩⟩
    · simp only [s_X4_putIn_27_2, un2, nIle (show m + 1 < 2 ^ 31 by omega) (show i < 2 ^ 31 by omega), if_neg (show ¬ m + 1 ≤ i by omega), nI_pred, gd_t (ix_nI (show m < 40 by omega) (show 40 < 2 ^ 31 by decide)), gd_t (ix_nI (show m + 1 < 40 by omega) (show 40 < 2 ^ 31 by decide)), nI_clamp (show m < 2 ^ 31 by omega), nI_clamp (show m + 1 < 2 ^ 31 by omega), bnd, arW, show ¬ (0 : Nat) = 1 by decide, if_false, if_true, sA0, sA_W, add_m1]
    · rw [updE, if_neg (by omega)]; exact (g1 j (by omega)).1
    · rw [updE, if_neg (by omega)]; exact (g1 j (by omega)).2
    · rw [updE]
      by_cases c : j = m
      · rw [if_pos (by omega), c]; exact (g1 m (by omega)).1
      · rw [if_neg (by omega)]; exact (g2 j (by omega) h2).1
    · rw [updE]
      by_cases c : j = m
      · rw [if_pos (by omega), c]; exact (g1 m (by omega)).2
      · rw [if_neg (by omega)]; exact (g2 j (by omega) h2).2) (by
    rintro s ⟨f, g, rfl, g1, g2⟩
    rw [show n - (n - i) = i by omega] at g1 g2 ⊢
    exact ⟨sW (sW P 0 f) 1 g, by simp only [s_X4_putIn_27_2, un2, if_pos (Int32.le_refl _)], f, g, rfl, g1, g2⟩) 5000 (by omega) (nI (n - 0), P) ⟨ar P 0, ar P 1, by rw [sW_self, sW_self], fun j _ => ⟨rfl, rfl⟩, fun j h1 h2 => by omega⟩
  rw [Nat.sub_zero] at e
  refine ⟨sI (sA (sA (sW (sW P 0 f) 1 g) 0 i (nI l)) 1 i 0) 4 (nI (n + 1)), ?_, PG_per hP ?_ (fun j hj => ?_) (fun k hk => ?_) (fun k hk => ?_)⟩
  · unfold f_X4_putIn
    simp only [r4, if_neg (nI_pos (show i < 2 ^ 31 by omega)), nIlt (show n < 2 ^ 31 by omega) (show i < 2 ^ 31 by omega), if_neg (show ¬ n < i by omega), show (nI n < (40 : Int32)) = (n < 40) from nIlt (by omega) (by decide), if_pos hn, bnd, e, Option.bind_some, un1, gd_t (ix_nI (show i < 40 by omega) (show 40 < 2 ^ 31 by decide)), nI_clamp (show i < 2 ^ 31 by omega), ivA, ivW, nI_1]
  · rw [ivI, if_pos rfl, hnn]
  · rw [← hnn] at hj
    unfold inS inM
    simp only [arI, arA, arW, updE, show ¬ (0 : Nat) = 1 by decide, show ¬ (1 : Nat) = 0 by decide, if_true, if_false]
    by_cases c1 : j < i
    · simp only [if_neg (show ¬ j = i by omega), if_pos c1]
      rw [(g1 j c1).1, (g1 j c1).2]
      exact ⟨r0 j (by omega), r1 j (by omega)⟩
    · by_cases c2 : j = i
      · simp only [if_neg c1, if_pos c2]
        exact ⟨trivial, rfl⟩
      · simp only [if_neg c1, if_neg c2]
        obtain ⟨q, rfl⟩ : ∃ q, j = q + 1 := ⟨j - 1, by omega⟩
        rw [(g2 q (by omega) (by omega)).1, (g2 q (by omega) (by omega)).2, Nat.add_sub_cancel]
        exact ⟨r0 q (by omega), r1 q (by omega)⟩
  · rw [arI, arA, if_neg (by omega), arA, if_neg (by omega), arW, if_neg (by omega), arW, if_neg (by omega)]
  · rw [ivI, if_neg hk, ivA, ivA, ivW, ivW]
theorem ok_insert : Ok_insert INV := by
  rintro o a aK Z B ⟨tb, p, len, v, cnt, nx, q, hc⟩ q0 q1
  have hc' := hc
  obtain ⟨-, ⟨i2, -⟩, -, hPG, -, ⟨hC, -⟩, -, -, -, -, ⟨hRT, hM, -⟩, ⟨hT, -, hG, -⟩⟩ := hc'
  have hP := hPG.1
  have hs := hG.1
  have h40 := hs.1
  refine okA hc (fun oK K => f_X9_insert (Z 0) (Z 3) (a 5) (Z 5) (Z 9) (o 10) (Z 10) oK K (Z (24 + 0)) (Z (24 + 1)) (Z (24 + 2)) (Z (24 + 3)) q0 q1) (f_X10_insert (Z 28) q0 q1) (fun H' K' M' e1 e2 k1 => ?_)
  have hn := decide_eq_true i2
  have e40 : ((40 : Int32) ≤ nI (pn p)) = (40 ≤ pn p) := nIle (by decide) (by omega)
  have e40' : (nI (pn p) = (40 : Int32)) = (pn p = 40) := nIe (by omega) (by decide)
  rcases in_or' q0 (show pn p < 2 ^ 31 - 1 by omega) (Nat.zero_le _) with ⟨e3, h⟩ | ⟨i, -, hi, rfl, c1, c2, e3⟩
  · left
    have e3' : f_X10_in q0 0 (nI (pn p)) = some 0 := e3
    refine ⟨0, ?_, by simp only [f_X10_insert, M_many hM, e3', Option.bind_some, un1, if_true]⟩
    simp only [f_X9_insert, hP.1]
    by_cases c : q0 < 0
    · rw [if_pos c]
    · rcases h with h | h
      · exact absurd h c
      · rw [if_neg c, if_pos h]
  · have e3' : f_X10_in (nI i) 0 (nI (pn p)) = some 1 := e3
    have c1' : ¬ nI i < (0 : Int32) := c1
    rcases told_or hC hRT hT q1 with ⟨e5, e6⟩ | ⟨l, hl, rfl, hl0, e5, e6⟩
    · left
      refine ⟨0, ?_, by simp only [f_X10_insert, M_many hM, e3', e6, Option.bind_some, un1, if_true, if_neg (show ¬ (1 : Int32) = 0 by decide)]⟩
      simp only [f_X9_insert, hP.1, if_neg c1', if_neg c2, e40, gd_t hn, e5, Option.bind_some, un1, if_true, ite_self]
    · by_cases c : pn p = 40
      · left
        refine ⟨0, ?_, ?_⟩
        · simp only [f_X9_insert, hP.1, if_neg c1', if_neg c2, e40, if_pos (show 40 ≤ pn p by omega)]
        · simp only [f_X10_insert, M_many hM, e3', e6, Option.bind_some, un1, if_neg (show ¬ (1 : Int32) = 0 by decide), e40', if_pos c]
      · right
        obtain ⟨P', e7, hP'⟩ := P_putIn hPG (by omega) (l := l) hi
        have hM' : RM (ar M' 8) p := by rw [k1 8 (by decide)]; exact hM
        obtain ⟨f, e8, g0, g1, g2, g3⟩ := M_up M' (ar M' 8) (n := pn p) (i := i) (d := 1) hM'.1 hi (by decide) (by omega)
        rw [sW_self] at e8
        have e8' : f_X10_moves M' (nI i) 1 = some (sW M' 8 f) := e8
        refine ⟨1, P', sW M' 8 (upd (upd f (1 + i) (nI l)) (41 + i) 0), _, ?_, ?_, fun k h8 _ => by rw [arW, if_neg h8], fun k => rfl, hP', ?_, PgG_per hG (by omega) (fun k hk => ?_) (fun k hk => ?_)⟩
        · simp only [f_X9_insert, hP.1, if_neg c1', if_neg c2, e40, if_neg (show ¬ 40 ≤ pn p by omega), gd_t hn, e5, Option.bind_some, un1, if_neg (show ¬ (1 : Int32) = 0 by decide), e1, un8, e7]
        · simp only [f_X10_insert, M_many hM, e3', e6, Option.bind_some, un1, if_neg (show ¬ (1 : Int32) = 0 by decide), e40', if_neg c, e2, e8', nI_1l, show (41 : Int32) + nI i = nI (41 + i) from nI_add 41 i, gd_t (ix_nI (show 1 + i < 113 by omega) (show 113 < 2 ^ 31 by decide)), gd_t (ix_nI (show 41 + i < 113 by omega) (show 113 < 2 ^ 31 by decide)), nI_clamp (show 1 + i < 2 ^ 31 by omega), nI_clamp (show 41 + i < 2 ^ 31 by omega), bnd, sA_W]
        · rw [arW, if_pos rfl]
          refine RM_per hM' ?_ (fun k hk => ⟨?_, ?_⟩) (fun j hj => ?_)
          · rw [updE, if_neg (by omega), updE, if_neg (by omega)]; exact g0
          · rw [updE, if_neg (by omega), updE]
            unfold inS
            by_cases d1 : k < i
            · rw [if_neg (by omega), if_pos d1, (g1 k d1).1]; exact hM'.2.1 k (by omega)
            · by_cases d2 : k = i
              · rw [if_pos (by omega), if_neg d1, if_pos d2]
              · rw [if_neg (by omega), if_neg d1, if_neg d2]
                have := (g2 (k - 1) (by omega) (by omega)).1
                rw [show k - 1 + 1 = k by omega] at this
                rw [this]; exact hM'.2.1 (k - 1) (by omega)
          · rw [updE]
            unfold inM
            by_cases d1 : k < i
            · rw [if_neg (by omega), if_pos d1, updE, if_neg (by omega), (g1 k d1).2]; exact hM'.2.2.1 k (by omega)
            · by_cases d2 : k = i
              · rw [if_pos (by omega), if_neg d1, if_pos d2]; rfl
              · rw [if_neg (by omega), if_neg d1, if_neg d2, updE, if_neg (by omega)]
                have := (g2 (k - 1) (by omega) (by omega)).2
                rw [show k - 1 + 1 = k by omega] at this
                rw [this]; exact hM'.2.2.1 (k - 1) (by omega)
          · rw [updE, if_neg (by omega), updE, if_neg (by omega)]; exact g3 j hj
        · unfold inS
          split
          · exact ⟨(hs.2.1 k (by omega)).1, hG.2.1 k (by omega)⟩
          · split
            · exact ⟨hl, hl0⟩
            · exact ⟨(hs.2.1 (k - 1) (by omega)).1, hG.2.1 (k - 1) (by omega)⟩
        · unfold inM
          split
          · exact (hs.2.1 k (by omega)).2
          · split
            · exact Nat.zero_le _
            · exact (hs.2.1 (k - 1) (by omega)).2
-- a run of signs
theorem run_or {P M : OV} {p : Pg} (hP : RP P p) (hM : RM (ar M 8) p) (hs : PgS p) (q0 q1 : Int32) : (f_X4_hasRun P q0 q1 = some 0 ∧ (f_X10_isSign M q0 = some 0 ∨ (f_X10_isSign M q0 = some 1 ∧ (q1 < 1 ∨ (¬ q1 < 1 ∧ nI (pn p) - q0 < q1))))) ∨ ∃ i d, i < pn p ∧ 1 ≤ d ∧ i + d ≤ pn p ∧ q0 = nI i ∧ q1 = nI d ∧ ¬ q1 < 1 ∧ ¬ nI (pn p) - q0 < q1 ∧ f_X4_hasRun P q0 q1 = some 1 ∧ f_X10_isSign M q0 = some 1 := by
  have h40 := hs.1
  rcases has_or hP hM hs q0 with ⟨e1, e2⟩ | ⟨i, hi, rfl, e1, e2⟩
  · exact Or.inl ⟨by simp only [f_X4_hasRun, e1, Option.bind_some, un1, if_true, j_X4_hasRun_27_3], Or.inl e2⟩
  · by_cases c1 : q1 < 1
    · exact Or.inl ⟨by simp only [f_X4_hasRun, e1, Option.bind_some, un1, if_neg (show ¬ (1 : Int32) = 0 by decide), if_pos c1, j_X4_hasRun_27_3], Or.inr ⟨e2, Or.inl c1⟩⟩
    · by_cases c2 : nI (pn p) - nI i < q1
      · exact Or.inl ⟨by simp only [f_X4_hasRun, e1, Option.bind_some, un1, if_neg (show ¬ (1 : Int32) = 0 by decide), if_neg c1, hP.1, if_pos c2, j_X4_hasRun_27_3], Or.inr ⟨e2, Or.inr ⟨c1, c2⟩⟩⟩
      · right
        have h1 : (1 : Int32) ≤ q1 := Int32.not_lt.mp c1
        have h0 : ¬ q1 < 0 := Int32.not_lt.mpr (Int32.le_trans (show (0 : Int32) ≤ 1 by decide) h1)
        obtain ⟨d, hd, rfl⟩ := nI_of h0
        have hd1 : 1 ≤ d := (nI_leI (by decide) hd).mp h1
        have c2' := c2
        rw [nI_sub (by omega), nIlt (by omega) hd] at c2'
        exact ⟨i, d, hi, hd1, by omega, rfl, rfl, c1, c2, by simp only [f_X4_hasRun, e1, Option.bind_some, un1, if_neg (show ¬ (1 : Int32) = 0 by decide), if_neg c1, hP.1, if_neg c2], e2⟩
def deS (p : Pg) (i d k : Nat) : Nat := if k < i then ps p k else ps p (k + d)
def deM (p : Pg) (i d k : Nat) : Nat := if k < i then pm p k else pm p (k + d)
theorem P_takeOut {P : OV} {p : Pg} (hP : PGc P p) (h40 : pn p ≤ 40) {i d : Nat} (hd : 1 ≤ d) (hid : i + d ≤ pn p) (hrun : f_X4_hasRun P (nI i) (nI d) = some 1) : ∃ P', f_X4_takeOut P (nI i) (nI d) = some P' ∧ PGc P' (pPer p (pn p - d) (deS p i d) (deM p i d)) := by
  have hP' := hP
  obtain ⟨⟨r4, r0, r1, -⟩, -⟩ := hP'
  obtain ⟨n, hnn⟩ : ∃ n, n = pn p := ⟨_, rfl⟩
  rw [← hnn] at h40 hid r4 r0 r1
  have sA0 : ∀ (f g : Nat → Int32) (j : Nat) (v : Int32), sA (sW (sW P 0 f) 1 g) 0 j v = sW (sW P 0 (upd f j v)) 1 g := by
    intro f g j v
    refine Prod.ext rfl (Prod.ext (funext fun q => ?_) rfl)
    simp only [sA, sW, va_up, ar]
    by_cases h : q = 0
    · subst h; simp
    · simp [h]
  obtain ⟨r, e, f, g, rfl, g1, g2⟩ := lp_inv (step := s_X4_takeOut_14_4 (nI d)) (fun k s => ∃ f g, s = (nI k, sW (sW P 0 f) 1 g) ∧ (∀ j, j < i ∨ (k - d ≤ j ∧ j < n) → f j = ar P 0 j ∧ g j = ar P 1 j) ∧ ∀ j, i ≤ j → j < k - d → f j = ar P 0 (j + d) ∧ g j = ar P 1 (j + d)) (fun r => ∃ f g, r = sW (sW P 0 f) 1 g ∧ (∀ j, j < i → f j = ar P 0 j ∧ g j = ar P 1 j) ∧ ∀ j, i ≤ j → j < n - d → f j = ar P 0 (j + d) ∧ g j = ar P 1 (j + d)) (i + d) n hid (by
    rintro k s hk1 hk ⟨f, g, rfl, g1, g2⟩
    refine ⟨(nI (k + 1), sW (sW P 0 (upd f (k - d) (f k))) 1 (upd g (k - d) (g k))), ?_, _, _, rfl, fun j hj => ⟨?_, ?_⟩, fun j h1 h2 => ⟨?_, ?_⟩⟩
    · simp only [s_X4_takeOut_14_4, un2, ivW, r4, nIle (show n < 2 ^ 31 by omega) (show k < 2 ^ 31 by omega), if_neg (show ¬ n ≤ k by omega), nI_sub (show d ≤ k by omega), gd_t (ix_nI (show k < 40 by omega) (show 40 < 2 ^ 31 by decide)), gd_t (ix_nI (show k - d < 40 by omega) (show 40 < 2 ^ 31 by decide)), nI_clamp (show k < 2 ^ 31 by omega), nI_clamp (show k - d < 2 ^ 31 by omega), bnd, arW, show ¬ (0 : Nat) = 1 by decide, if_false, if_true, sA0, sA_W, nI_1]
    · rw [updE, if_neg (by omega)]; exact (g1 j (by omega)).1
    · rw [updE, if_neg (by omega)]; exact (g1 j (by omega)).2
    · rw [updE]
      by_cases c : j = k - d
      · rw [if_pos c, show j + d = k by omega]; exact (g1 k (by omega)).1
      · rw [if_neg c]; exact (g2 j h1 (by omega)).1
    · rw [updE]
      by_cases c : j = k - d
      · rw [if_pos c, show j + d = k by omega]; exact (g1 k (by omega)).2
      · rw [if_neg c]; exact (g2 j h1 (by omega)).2) (by
    rintro s ⟨f, g, rfl, g1, g2⟩
    exact ⟨sW (sW P 0 f) 1 g, by simp only [s_X4_takeOut_14_4, un2, ivW, r4, if_pos (Int32.le_refl _)], f, g, rfl, fun j hj => g1 j (Or.inl hj), g2⟩) 5000 (by omega) (nI (i + d), P) ⟨ar P 0, ar P 1, by rw [sW_self, sW_self], fun j _ => ⟨rfl, rfl⟩, fun j h1 h2 => by omega⟩
  refine ⟨sI (sW (sW P 0 f) 1 g) 4 (nI (n - d)), ?_, PG_per hP ?_ (fun j hj => ?_) (fun k hk => ?_) (fun k hk => ?_)⟩
  · unfold f_X4_takeOut
    simp only [hrun, Option.bind_some, un1, if_neg (show ¬ (1 : Int32) = 0 by decide), bnd, nI_add, e, ivW, r4, nI_sub (show d ≤ n by omega)]
  · rw [ivI, if_pos rfl, hnn]
  · rw [← hnn] at hj
    unfold deS deM
    simp only [arI, arW, show ¬ (0 : Nat) = 1 by decide, if_true, if_false]
    by_cases c1 : j < i
    · rw [if_pos c1, if_pos c1, (g1 j c1).1, (g1 j c1).2]
      exact ⟨r0 j (by omega), r1 j (by omega)⟩
    · rw [if_neg c1, if_neg c1, (g2 j (by omega) hj).1, (g2 j (by omega) hj).2]
      exact ⟨r0 _ (by omega), r1 _ (by omega)⟩
  · rw [arI, arW, if_neg (by omega), arW, if_neg (by omega)]
  · rw [ivI, if_neg hk, ivW, ivW]
theorem RM_del {f f0 : Nat → Int32} {p : Pg} (h : RM f0 p) {i d : Nat} (hid : i + d ≤ pn p) (g0 : f 0 = nI (pn p - d)) (g1 : ∀ j, j < i → f (1 + j) = f0 (1 + j) ∧ f (41 + j) = f0 (41 + j)) (g2 : ∀ j, i ≤ j → j < pn p - d → f (1 + j) = f0 (1 + (j + d)) ∧ f (41 + j) = f0 (41 + (j + d))) (g3 : ∀ j, 81 ≤ j → f j = f0 j) : RM f (pPer p (pn p - d) (deS p i d) (deM p i d)) := by
  refine RM_per h g0 (fun k hk => ?_) g3
  unfold deS deM
  by_cases c : k < i
  · rw [if_pos c, if_pos c, (g1 k c).1, (g1 k c).2]
    exact ⟨h.2.1 k (by omega), h.2.2.1 k (by omega)⟩
  · rw [if_neg c, if_neg c, (g2 k (by omega) hk).1, (g2 k (by omega) hk).2]
    exact ⟨h.2.1 _ (by omega), h.2.2.1 _ (by omega)⟩
theorem PgG_del {tb : Tb} {p : Pg} (h : PgG tb p) {i d : Nat} (hid : i + d ≤ pn p) : PgG tb (pPer p (pn p - d) (deS p i d) (deM p i d)) := by
  have hs := h.1
  have h40 := hs.1
  refine PgG_per h (by omega) (fun k hk => ?_) (fun k hk => ?_)
  · unfold deS
    split
    · exact ⟨(hs.2.1 k (by omega)).1, h.2.1 k (by omega)⟩
    · exact ⟨(hs.2.1 _ (by omega)).1, h.2.1 _ (by omega)⟩
  · unfold deM
    split
    · exact (hs.2.1 k (by omega)).2
    · exact (hs.2.1 _ (by omega)).2
theorem ok_delete : Ok_delete INV := by
  rintro o a aK Z B ⟨tb, p, len, v, cnt, nx, q, hc⟩ q0 q1
  have hc' := hc
  obtain ⟨-, -, -, hPG, -, -, -, -, -, -, ⟨hRT, hM, -⟩, ⟨hT, -, hG, -⟩⟩ := hc'
  have hP := hPG.1
  have hs := hG.1
  have h40 := hs.1
  refine okA hc (fun oK K => f_X9_delete (Z 0) (Z 3) (a 5) (Z 5) (Z 9) oK K (Z (24 + 0)) (Z (24 + 1)) (Z (24 + 2)) (Z (24 + 3)) q0 q1) (f_X10_delete (Z 28) q0 q1) (fun H' K' M' e1 e2 k1 => ?_)
  rcases run_or hP hM hs q0 q1 with ⟨e3, h⟩ | ⟨i, d, hi, hd, hid, rfl, rfl, c1, c2, e3, e4⟩
  · left
    refine ⟨0, by simp only [f_X9_delete, e3, Option.bind_some, un1, if_true], ?_⟩
    rcases h with e4 | ⟨e4, c1 | ⟨c1, c2⟩⟩
    · simp only [f_X10_delete, e4, Option.bind_some, un1, if_true]
    · simp only [f_X10_delete, e4, Option.bind_some, un1, if_neg (show ¬ (1 : Int32) = 0 by decide), if_pos c1]
    · simp only [f_X10_delete, e4, Option.bind_some, un1, if_neg (show ¬ (1 : Int32) = 0 by decide), if_neg c1, M_many hM, if_neg (Int32.not_le.mpr c2)]
  · right
    obtain ⟨P', e7, hP'⟩ := P_takeOut hPG h40 hd hid e3
    have hM' : RM (ar M' 8) p := by rw [k1 8 (by decide)]; exact hM
    obtain ⟨f, e8, g0, g1, g2, g3⟩ := M_down M' (ar M' 8) (n := pn p) (i := i) (d := d) hM'.1 hd hid h40
    rw [sW_self] at e8
    refine ⟨1, P', sW M' 8 f, _, ?_, ?_, fun k h8 _ => by rw [arW, if_neg h8], fun k => rfl, hP', ?_, PgG_del hG hid⟩
    · simp only [f_X9_delete, e3, Option.bind_some, un1, if_neg (show ¬ (1 : Int32) = 0 by decide), e1, un8, e7]
    · simp only [f_X10_delete, e4, Option.bind_some, un1, if_neg (show ¬ (1 : Int32) = 0 by decide), if_neg c1, M_many hM, if_pos (Int32.not_lt.mp c2), e2, e8]
    · rw [arW, if_pos rfl]
      exact RM_del hM' hid g0 g1 g2 g3
