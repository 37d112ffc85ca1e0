theorem INV_act {o : Nat → Nat} {a : Nat → Nat → Nat} {L T P H R U W C Y0 Y1 Y2 Y3 M : OV} {B : Nat → OV} {tb : Tb} {p : Pg} {len : Nat} {v : Nat → Nat} {cnt nx : Nat} {q : Nat → Pg} (hI : INVc o a L T P H R U W C Y0 Y1 Y2 Y3 M B tb p len v cnt nx q) {H' K' P' M' M'' : OV} {p' : Pg} (hH : HSc H' (va_up B nx K') (cn1 cnt) (nx1 nx) (qu1 p q)) (k1 : ∀ k, k ≠ 10 → ar M' k = ar M k) (k2 : ∀ k, k ≠ 11 → iv M' k = iv M k) (k3 : iv M' 11 = nI (cn1 cnt)) (k4 : ∀ j, j < cn1 cnt → RM (fun i => ar M' 10 (113 * (cn1 cnt - 1 - j) + i)) (qu1 p q j)) (f1 : ∀ k, k ≠ 8 → k ≠ 9 → ar M'' k = ar M' k) (f2 : ∀ k, iv M'' k = iv M' k) (hP : PGc P' p') (hM : RM (ar M'' 8) p') (hG : PgG tb p') : INVc o a (sI L 12 0) T P' H' R U (sI W 3 0) C (sI Y0 7 0) (sI Y1 7 0) (sI Y2 7 0) (sI Y3 7 0) M'' (va_up B nx K') tb p' len v (cn1 cnt) (nx1 nx) (qu1 p q) := by
  obtain ⟨i1, i2, i3, i4, i5, i6, i7, i8, i9, i10, ⟨m1, m2, m3, m4, m5, m6, m7⟩, ⟨u1, u2, u3, u4, u5, u6⟩⟩ := hI
  have ha : ∀ k, k ≠ 8 → k ≠ 9 → k ≠ 10 → ar M'' k = ar M k := fun k h8 h9 h10 => (f1 k h8 h9).trans (k1 k h10)
  refine ⟨i1, i2, i3, hP, hH, i6, i7, Or.inl (by rw [ivI, if_pos rfl]), ⟨Or.inl (by rw [ivI, if_pos rfl]), Or.inl (by rw [ivI, if_pos rfl]), Or.inl (by rw [ivI, if_pos rfl]), Or.inl (by rw [ivI, if_pos rfl])⟩, Or.inl (by rw [ivI, if_pos rfl]), ⟨?_, hM, ?_, ?_, ?_, ?_, ?_⟩, ⟨u1, u2, hG, u4, u5, fun j hj => ?_⟩⟩
  · unfold RT
    rw [ha 1 (by decide) (by decide) (by decide), ha 2 (by decide) (by decide) (by decide), ha 3 (by decide) (by decide) (by decide), ha 4 (by decide) (by decide) (by decide), ha 5 (by decide) (by decide) (by decide), ha 6 (by decide) (by decide) (by decide), ha 7 (by decide) (by decide) (by decide)]
    exact m1
  · rw [f2, k2 36 (by decide)]; exact m3
  · rw [ha 35 (by decide) (by decide) (by decide)]; exact m4
  · rw [f2]; exact k3
  · rw [f1 10 (by decide) (by decide)]; exact k4
  · rw [ha 37 (by decide) (by decide) (by decide)]; exact m7
  · unfold qu1
    by_cases c : j = 0
    · rw [if_pos c]; exact u3
    · rw [if_neg c]
      have : cn1 cnt ≤ cnt + 1 := by unfold cn1; split <;> omega
      exact u6 (j - 1) (by omega)
theorem okA {o : Nat → Nat} {a aK : Nat → Nat → Nat} {Z B : Nat → OV} {tb : Tb} {p : Pg} {len : Nat} {v : Nat → Nat} {cnt nx : Nat} {q : Nat → Pg} (hI : INVc o a (Z 0) (Z 1) (Z 3) (Z 5) (Z 6) (Z 7) (Z 9) (Z 10) (Z 24) (Z 25) (Z 26) (Z 27) (Z 28) B tb p len v cnt nx q) (F9 : Nat → OV → Option (Int32 × OV × OV × OV × OV × OV × OV × OV × OV × OV)) (F10 : Option (Int32 × OV)) (h : ∀ H' K' M', f_X9_beginAct (Z 0) (Z 3) (a 5) (Z 5) (Z 9) (a 5 (100 + nx)) (B nx) (Z (24 + 0)) (Z (24 + 1)) (Z (24 + 2)) (Z (24 + 3)) = some (sI (Z 0) 12 0, H', sI (Z 9) 3 0, K', sI (Z (24 + 0)) 7 0, sI (Z (24 + 1)) 7 0, sI (Z (24 + 2)) 7 0, sI (Z (24 + 3)) 7 0) → f_X10_keeps (Z 28) = some M' → (∀ k, k ≠ 10 → ar M' k = ar (Z 28) k) → (∃ r, F9 (a 5 (100 + nx)) (B nx) = some (r, Z 0, Z 3, Z 5, Z 9, B nx, Z (24 + 0), Z (24 + 1), Z (24 + 2), Z (24 + 3)) ∧ F10 = some (r, Z 28)) ∨ (∃ r P' M'' p', F9 (a 5 (100 + nx)) (B nx) = some (r, sI (Z 0) 12 0, P', H', sI (Z 9) 3 0, K', sI (Z (24 + 0)) 7 0, sI (Z (24 + 1)) 7 0, sI (Z (24 + 2)) 7 0, sI (Z (24 + 3)) 7 0) ∧ F10 = some (r, M'') ∧ (∀ k, k ≠ 8 → k ≠ 9 → ar M'' k = ar M' k) ∧ (∀ k, iv M'' k = iv M' k) ∧ PGc P' p' ∧ RM (ar M'' 8) p' ∧ PgG tb p')) : ∃ j, j < 12 ∧ ∃ (u : Int32 × OV × OV × OV × OV × OV × OV × OV × OV × OV) (w : Int32 × OV), F9 (a 5 (100 + j)) (B j) = some u ∧ F10 = some w ∧ w.1 = u.1 ∧ INV o a aK (va_up (va_up (va_up (va_up (va_up (va_up (va_up (va_up (va_up Z 0 u.2.1) 3 u.2.2.1) 5 u.2.2.2.1) 9 u.2.2.2.2.1) (24 + 0) u.2.2.2.2.2.2.1) (24 + 1) u.2.2.2.2.2.2.2.1) (24 + 2) u.2.2.2.2.2.2.2.2.1) (24 + 3) u.2.2.2.2.2.2.2.2.2) 28 w.2) (va_up B j u.2.2.2.2.2.1) := by
  have hI' := hI
  obtain ⟨-, -, -, hP, hH, -, -, -, -, -, ⟨-, m2, -, -, m5, m6, -⟩, ⟨-, -, ⟨hs, -⟩, -, -, u6⟩⟩ := hI'
  obtain ⟨H', K', e1, hH'⟩ := A_begin (L := Z 0) (W := Z 9) (Y0 := Z (24 + 0)) (Y1 := Z (24 + 1)) (Y2 := Z (24 + 2)) (Y3 := Z (24 + 3)) (a := a) hP hs hH
  obtain ⟨M', e2, k1, k2, k3, k4⟩ := M_keeps hH.2.2.2.1 m5 m2 hs (fun j hj => (u6 j hj).1) m6
  refine ⟨nx, hH.2.2.1, ?_⟩
  rcases h H' K' M' e1 e2 k1 with ⟨r, e3, e4⟩ | ⟨r, P', M'', p', e3, e4, f1, f2, hP', hM'', hG⟩
  · refine ⟨_, _, e3, e4, rfl, ?_⟩
    simp only [up_same]
    exact ⟨tb, p, len, v, cnt, nx, q, hI⟩
  · exact ⟨_, _, e3, e4, rfl, tb, p', len, v, cn1 cnt, nx1 nx, qu1 p q, INV_act hI hH' k1 k2 k3 k4 f1 f2 hP' hM'' hG⟩
theorem M_becomes {M M' : OV} (h : f_X10_keeps M = some M') {k : Nat} (hk : k < 113) (v : Int32) : f_X10_becomes M (nI k) v = some (ar M' 8 k, sA M' 8 k v) := by
  unfold f_X10_becomes
  simp only [h, Option.bind_some, un1, gd_t (ix_nI hk (show 113 < 2 ^ 31 by decide)), nI_clamp (show k < 2 ^ 31 by omega), bnd]
def pSg (p : Pg) (i l : Nat) : Pg := (p.1, va_up p.2.1 i l, p.2.2)
def pMk (p : Pg) (i m : Nat) : Pg := (p.1, p.2.1, va_up p.2.2.1 i m, p.2.2.2)
def pTt (p : Pg) (l : Nat) (w : Int32) : Pg := (p.1, p.2.1, p.2.2.1, va_up p.2.2.2.1 l w, p.2.2.2.2)
def pWt (p : Pg) (k w : Nat) : Pg := (p.1, p.2.1, p.2.2.1, p.2.2.2.1, va_up p.2.2.2.2.1 k w, p.2.2.2.2.2)
def pWd (p : Pg) (d : Nat) : Pg := (p.1, p.2.1, p.2.2.1, p.2.2.2.1, p.2.2.2.2.1, d, p.2.2.2.2.2.2)
def pBg (p : Pg) (w : Int32) : Pg := (p.1, p.2.1, p.2.2.1, p.2.2.2.1, p.2.2.2.2.1, p.2.2.2.2.2.1, w, p.2.2.2.2.2.2.2)
def pEn (p : Pg) (w : Int32) : Pg := (p.1, p.2.1, p.2.2.1, p.2.2.2.1, p.2.2.2.2.1, p.2.2.2.2.2.1, p.2.2.2.2.2.2.1, w)
theorem fr8 (M : OV) (k : Nat) (w : Int32) : (∀ j, j ≠ 8 → j ≠ 9 → ar (sA M 8 k w) j = ar M j) ∧ ∀ j, iv (sA M 8 k w) j = iv M j := ⟨fun j h _ => by rw [arA, if_neg h], fun j => rfl⟩
theorem in_or' (q : Int32) {lo hi : Nat} (hh : hi < 2 ^ 31 - 1) (hl : lo ≤ hi) : (f_X10_in q (nI lo) (nI hi) = some 0 ∧ (q < nI lo ∨ nI hi < q)) ∨ ∃ j, lo ≤ j ∧ j ≤ hi ∧ q = nI j ∧ ¬ q < nI lo ∧ ¬ nI hi < q ∧ f_X10_in q (nI lo) (nI hi) = some 1 := by
  by_cases c1 : q < nI lo
  · exact Or.inl ⟨by simp only [f_X10_in, if_pos c1, j_X10_in_14_1], Or.inl c1⟩
  · by_cases c2 : nI hi < q
    · exact Or.inl ⟨by simp only [f_X10_in, if_neg c1, if_pos c2, j_X10_in_14_1], Or.inr c2⟩
    · right
      have h1 : nI lo ≤ q := Int32.not_lt.mp c1
      have h2 : q ≤ nI hi := Int32.not_lt.mp c2
      have h0 : ¬ q < 0 := Int32.not_lt.mpr (Int32.le_trans (nI_pos' (by omega)) h1)
      obtain ⟨j, hj, rfl⟩ := nI_of h0
      refine ⟨j, (nI_leI (by omega) hj).mp h1, (nI_leI hj (by omega)).mp h2, rfl, c1, c2, by simp only [f_X10_in, if_neg c1, if_neg c2]⟩
theorem ok_width : Ok_width INV := by
  rintro o a aK Z B ⟨tb, p, len, v, cnt, nx, q, hc⟩ q0
  have hc' := hc
  obtain ⟨-, -, -, ⟨hP, hP8⟩, -, -, -, -, -, -, ⟨-, hM, -⟩, ⟨-, -, hG, -⟩⟩ := hc'
  have hs := hG.1
  refine okA hc (fun oK K => f_X9_width (Z 0) (Z 3) (a 5) (Z 5) (Z 9) oK K (Z (24 + 0)) (Z (24 + 1)) (Z (24 + 2)) (Z (24 + 3)) q0) (f_X10_width (Z 28) q0) (fun H' K' M' e1 e2 k1 => ?_)
  have e81 : ar (Z 28) 8 (81 : Int32).toNatClampNeg = nI (pd p) := hM.2.2.2.2.2.1
  rcases in_or' q0 (show 80 < 2 ^ 31 - 1 by decide) (show 4 ≤ 80 by decide) with ⟨e3, h⟩ | ⟨d, h4, h80, rfl, c1, c2, e3⟩
  · left
    have e3' : f_X10_in q0 4 80 = some 0 := e3
    have e4 : f_X9_isWidth q0 = some 0 := by
      unfold f_X9_isWidth
      by_cases c : q0 < 4
      · rw [if_pos c]; rfl
      · rcases h with h | h
        · exact absurd h c
        · rw [if_neg c, if_pos (show (80 : Int32) < q0 from h)]; rfl
    exact ⟨-1, by simp only [f_X9_width, e4, Option.bind_some, un1, if_true], by simp only [f_X10_width, e3', Option.bind_some, un1, if_true, j_X10_width_31_3]⟩
  · have e3' : f_X10_in (nI d) 4 80 = some 1 := e3
    have e4 : f_X9_isWidth (nI d) = some 1 := by
      unfold f_X9_isWidth
      rw [if_neg (show ¬ nI d < (4 : Int32) from c1), if_neg (show ¬ (80 : Int32) < nI d from c2)]
    have hd := hs.2.2.2.1
    have eq1 : (nI (pd p) = nI d) = (pd p = d) := nIe (by omega) (by omega)
    have eq2 : (nI d = nI (pd p)) = (pd p = d) := by rw [nIe (by omega) (by omega)]; exact propext ⟨Eq.symm, Eq.symm⟩
    by_cases c : pd p = d
    · left
      exact ⟨-1, by simp only [f_X9_width, e4, Option.bind_some, un1, if_neg (show ¬ (1 : Int32) = 0 by decide), hP.2.2.2.2.2.1, eq1, if_pos c], by simp only [f_X10_width, e3', Option.bind_some, un1, if_neg (show ¬ (1 : Int32) = 0 by decide), gd_t (show ix (81 : Int32) 113 = true by decide), e81, eq2, if_pos c, j_X10_width_31_3]⟩
    · right
      have hb := M_becomes e2 (show 81 < 113 by decide) (nI d)
      have h81 : ar M' 8 81 = nI (pd p) := by rw [k1 8 (by decide)]; exact e81
      refine ⟨nI (pd p), sI (Z 3) 5 (nI d), sA M' 8 81 (nI d), pWd p d, ?_, ?_, (fr8 _ _ _).1, (fr8 _ _ _).2, ⟨⟨?_, hP.2.1, hP.2.2.1, hP.2.2.2.1, hP.2.2.2.2.1, ?_, ?_, ?_⟩, ?_⟩, ?_, ?_⟩
      · simp only [f_X9_width, e4, Option.bind_some, un1, if_neg (show ¬ (1 : Int32) = 0 by decide), hP.2.2.2.2.2.1, eq1, if_neg c, e1, un8, bnd]
      · simp only [f_X10_width, e3', Option.bind_some, un1, if_neg (show ¬ (1 : Int32) = 0 by decide), gd_t (show ix (81 : Int32) 113 = true by decide), e81, eq2, if_neg c]
        rw [show (81 : Int32) = nI 81 from rfl, hb, h81]
        rfl
      · rw [ivI, if_neg (by decide)]; exact hP.1
      · rw [ivI, if_pos rfl]; rfl
      · rw [ivI, if_neg (by decide)]; exact hP.2.2.2.2.2.2.1
      · rw [ivI, if_neg (by decide)]; exact hP.2.2.2.2.2.2.2
      · rw [ivI, if_neg (by decide)]; exact hP8
      · have h40 := hs.1
        rw [arA, if_pos rfl, k1 8 (by decide)]
        obtain ⟨r0, r1, r2, r3, r4, r5, r6, r7⟩ := hM
        refine ⟨?_, fun i hi => ?_, fun i hi => ?_, fun l hl => ?_, fun k hk => ?_, ?_, ?_, ?_⟩
        · rw [updE, if_neg (by decide)]; exact r0
        · have hi' : i < pn p := hi
          rw [updE, if_neg (by omega)]; exact r1 i hi
        · have hi' : i < pn p := hi
          rw [updE, if_neg (by omega)]; exact r2 i hi
        · rw [updE, if_neg (by omega)]; exact r3 l hl
        · rw [updE, if_neg (by omega)]; exact r4 k hk
        · rw [updE, if_pos rfl]; rfl
        · rw [updE, if_neg (by decide)]; exact r6
        · rw [updE, if_neg (by decide)]; exact r7
      · obtain ⟨⟨g1, g2, g3, g4, g5⟩, gt, gp⟩ := hG
        exact ⟨⟨g1, g2, h4, h80, g5⟩, gt, gp⟩
theorem ok_mark : Ok_mark INV := by
  rintro o a aK Z B ⟨tb, p, len, v, cnt, nx, q, hc⟩ q0 q1
  have hc' := hc
  obtain ⟨-, -, -, ⟨hP, hP8⟩, -, -, -, -, -, -, ⟨-, hM, -⟩, ⟨-, -, hG, -⟩⟩ := hc'
  have hs := hG.1
  have h40 := hs.1
  refine okA hc (fun oK K => f_X9_mark (Z 0) (Z 3) (a 5) (Z 5) (Z 9) oK K (Z (24 + 0)) (Z (24 + 1)) (Z (24 + 2)) (Z (24 + 3)) q0 q1) (f_X10_mark (Z 28) q0 q1) (fun H' K' M' e1 e2 k1 => ?_)
  rcases has_or hP hM hs q0 with ⟨e5, e6⟩ | ⟨i, hi, rfl, e5, e6⟩
  · left
    exact ⟨-1, by simp only [f_X9_mark, e5, Option.bind_some, un1, if_true], by simp only [f_X10_mark, e6, Option.bind_some, un1, if_true, j_X10_mark_38_3]⟩
  · rcases in_or' q1 (show 2 < 2 ^ 31 - 1 by decide) (show 0 ≤ 2 by decide) with ⟨e3, h⟩ | ⟨m, -, h2, rfl, c1, c2, e3⟩
    · left
      have e3' : f_X10_in q1 0 2 = some 0 := e3
      have e4 : f_X9_isMark q1 = some 0 := by
        unfold f_X9_isMark
        by_cases c : q1 < 0
        · rw [if_pos c]; rfl
        · rcases h with h | h
          · exact absurd h c
          · rw [if_neg c, if_pos (show (2 : Int32) < q1 from h)]; rfl
      exact ⟨-1, by simp only [f_X9_mark, e5, e4, Option.bind_some, un1, if_true, if_neg (show ¬ (1 : Int32) = 0 by decide)], by simp only [f_X10_mark, e6, e3', Option.bind_some, un1, if_true, if_neg (show ¬ (1 : Int32) = 0 by decide), j_X10_mark_38_3]⟩
    · have e3' : f_X10_in (nI m) 0 2 = some 1 := e3
      have e4 : f_X9_isMark (nI m) = some 1 := by
        unfold f_X9_isMark
        rw [if_neg (show ¬ nI m < (0 : Int32) from c1), if_neg (show ¬ (2 : Int32) < nI m from c2)]
      have bm := (hs.2.1 i hi).2
      have eq1 : (nI (pm p i) = nI m) = (pm p i = m) := nIe (by omega) (by omega)
      have xi : ix (nI i) 40 = true := ix_nI (by omega) (by decide)
      have ci := nI_clamp (show i < 2 ^ 31 by omega)
      by_cases c : pm p i = m
      · left
        exact ⟨-1, by simp only [f_X9_mark, e5, e4, Option.bind_some, un1, if_neg (show ¬ (1 : Int32) = 0 by decide), gd_t xi, ci, hP.2.2.1 i hi, eq1, if_pos c], by simp only [f_X10_mark, e6, e3', Option.bind_some, un1, if_neg (show ¬ (1 : Int32) = 0 by decide), M_mark hM hs hi, eq1, if_pos c, j_X10_mark_38_3]⟩
      · right
        have hb := M_becomes e2 (show 41 + i < 113 by omega) (nI m)
        have h41 : ar M' 8 (41 + i) = nI (pm p i) := by rw [k1 8 (by decide)]; exact hM.2.2.1 i hi
        refine ⟨nI (pm p i), sA (Z 3) 1 i (nI m), sA M' 8 (41 + i) (nI m), pMk p i m, ?_, ?_, (fr8 _ _ _).1, (fr8 _ _ _).2, ⟨⟨hP.1, hP.2.1, fun k hk => ?_, hP.2.2.2.1, hP.2.2.2.2.1, hP.2.2.2.2.2.1, hP.2.2.2.2.2.2.1, hP.2.2.2.2.2.2.2⟩, hP8⟩, ?_, ?_⟩
        · simp only [f_X9_mark, e5, e4, Option.bind_some, un1, if_neg (show ¬ (1 : Int32) = 0 by decide), gd_t xi, ci, hP.2.2.1 i hi, eq1, if_neg c, e1, un8, bnd]
        · simp only [f_X10_mark, e6, e3', Option.bind_some, un1, if_neg (show ¬ (1 : Int32) = 0 by decide), M_mark hM hs hi, eq1, if_neg c]
          rw [show (41 : Int32) + nI i = nI (41 + i) from nI_add 41 i, hb, h41]
          rfl
        · rw [arA, if_pos rfl, updE]
          show _ = nI (va_up (fun j => pm p j) i m k)
          unfold va_up
          by_cases c0 : k = i
          · rw [if_pos c0, if_pos c0]
          · rw [if_neg c0, if_neg c0]; exact hP.2.2.1 k hk
        · rw [arA, if_pos rfl, k1 8 (by decide)]
          obtain ⟨r0, r1, r2, r3, r4, r5, r6, r7⟩ := hM
          refine ⟨?_, fun k hk => ?_, fun k hk => ?_, fun l hl => ?_, fun k hk => ?_, ?_, ?_, ?_⟩
          · rw [updE, if_neg (by omega)]; exact r0
          · have hk' : k < pn p := hk
            rw [updE, if_neg (by omega)]; exact r1 k hk
          · rw [updE]
            show _ = nI (va_up (fun j => pm p j) i m k)
            unfold va_up
            by_cases c0 : k = i
            · rw [if_pos (by omega), if_pos c0]
            · rw [if_neg (by omega), if_neg c0]; exact r2 k hk
          · rw [updE, if_neg (by omega)]; exact r3 l hl
          · rw [updE, if_neg (by omega)]; exact r4 k hk
          · rw [updE, if_neg (by omega)]; exact r5
          · rw [updE, if_neg (by omega)]; exact r6
          · rw [updE, if_neg (by omega)]; exact r7
        · obtain ⟨⟨g1, g2, g5⟩, gt, gp⟩ := hG
          refine ⟨⟨g1, fun k hk => ⟨(g2 k hk).1, ?_⟩, g5⟩, gt, gp⟩
          show va_up (fun j => pm p j) i m k ≤ 2
          unfold va_up
          split
          · exact h2
          · exact (g2 k hk).2
theorem ok_change : Ok_change INV := by
  rintro o a aK Z B ⟨tb, p, len, v, cnt, nx, q, hc⟩ q0 q1
  have hc' := hc
  obtain ⟨-, ⟨i2, -⟩, -, ⟨hP, hP8⟩, -, ⟨hC, -⟩, -, -, -, -, ⟨hRT, hM, -⟩, ⟨hT, -, hG, -⟩⟩ := hc'
  have hs := hG.1
  have h40 := hs.1
  refine okA hc (fun oK K => f_X9_change (Z 0) (Z 3) (a 5) (Z 5) (Z 9) (o 10) (Z 10) oK K (Z (24 + 0)) (Z (24 + 1)) (Z (24 + 2)) (Z (24 + 3)) q0 q1) (f_X10_change (Z 28) q0 q1) (fun H' K' M' e1 e2 k1 => ?_)
  have hn : gd (decide (nv (Z 0) 10 = o 10)) = fun (K : Option (Int32 × OV × OV × OV × OV × OV × OV × OV × OV × OV)) => K := by
    funext K
    exact gd_t (decide_eq_true i2)
  rcases has_or hP hM hs q0 with ⟨e5, e6⟩ | ⟨i, hi, rfl, e5, e6⟩
  · left
    exact ⟨-1, by simp only [f_X9_change, e5, Option.bind_some, un1, if_true], by simp only [f_X10_change, e6, Option.bind_some, un1, if_true]⟩
  · rcases told_or hC hRT hT q1 with ⟨e3, e4⟩ | ⟨l, hl, rfl, hl0, e3, e4⟩
    · left
      exact ⟨-1, by simp only [f_X9_change, e5, e3, Option.bind_some, un1, if_true, if_neg (show ¬ (1 : Int32) = 0 by decide), hn], by simp only [f_X10_change, e6, e4, Option.bind_some, un1, if_true, if_neg (show ¬ (1 : Int32) = 0 by decide)]⟩
    · have bm := (hs.2.1 i hi).1
      have eq1 : (nI (ps p i) = nI l) = (ps p i = l) := nIe (by omega) (by omega)
      have xi : ix (nI i) 40 = true := ix_nI (by omega) (by decide)
      have ci := nI_clamp (show i < 2 ^ 31 by omega)
      by_cases c : ps p i = l
      · left
        exact ⟨-1, by simp only [f_X9_change, e5, e3, Option.bind_some, un1, if_neg (show ¬ (1 : Int32) = 0 by decide), hn, gd_t xi, ci, hP.2.1 i hi, eq1, if_pos c], by simp only [f_X10_change, e6, e4, Option.bind_some, un1, if_neg (show ¬ (1 : Int32) = 0 by decide), M_class hM hs hi, eq1, if_pos c]⟩
      · right
        have hM' : RM (ar M' 8) p := by rw [k1 8 (by decide)]; exact hM
        refine ⟨nI (ps p i), sA (Z 3) 0 i (nI l), sA M' 8 (1 + i) (nI l), pSg p i l, ?_, ?_, (fr8 _ _ _).1, (fr8 _ _ _).2, ⟨⟨hP.1, fun k hk => ?_, hP.2.2.1, hP.2.2.2.1, hP.2.2.2.2.1, hP.2.2.2.2.2.1, hP.2.2.2.2.2.2.1, hP.2.2.2.2.2.2.2⟩, hP8⟩, ?_, ?_⟩
        · simp only [f_X9_change, e5, e3, Option.bind_some, un1, if_neg (show ¬ (1 : Int32) = 0 by decide), hn, gd_t xi, ci, hP.2.1 i hi, eq1, if_neg c, e1, un8, bnd]
        · simp only [f_X10_change, e6, e4, Option.bind_some, un1, if_neg (show ¬ (1 : Int32) = 0 by decide), M_class hM hs hi, eq1, if_neg c, e2, M_class hM' hs hi, bnd, nI_1l, gd_t (ix_nI (show 1 + i < 113 by omega) (show 113 < 2 ^ 31 by decide)), nI_clamp (show 1 + i < 2 ^ 31 by omega)]
        · rw [arA, if_pos rfl, updE]
          show _ = nI (va_up (fun j => ps p j) i l k)
          unfold va_up
          by_cases c0 : k = i
          · rw [if_pos c0, if_pos c0]
          · rw [if_neg c0, if_neg c0]; exact hP.2.1 k hk
        · rw [arA, if_pos rfl, k1 8 (by decide)]
          obtain ⟨r0, r1, r2, r3, r4, r5, r6, r7⟩ := hM
          refine ⟨?_, fun k hk => ?_, fun k hk => ?_, fun l' hl' => ?_, fun k hk => ?_, ?_, ?_, ?_⟩
          · rw [updE, if_neg (by omega)]; exact r0
          · rw [updE]
            show _ = nI (va_up (fun j => ps p j) i l k)
            unfold va_up
            by_cases c0 : k = i
            · rw [if_pos (by omega), if_pos c0]
            · rw [if_neg (by omega), if_neg c0]; exact r1 k hk
          · rw [updE, if_neg (by omega)]; exact r2 k hk
          · rw [updE, if_neg (by omega)]; exact r3 l' hl'
          · rw [updE, if_neg (by omega)]; exact r4 k hk
          · rw [updE, if_neg (by omega)]; exact r5
          · rw [updE, if_neg (by omega)]; exact r6
          · rw [updE, if_neg (by omega)]; exact r7
        · obtain ⟨⟨g1, g2, g5⟩, gt, gp⟩ := hG
          refine ⟨⟨g1, fun k hk => ⟨?_, (g2 k hk).2⟩, g5⟩, fun k hk => ?_, gp⟩
          · show va_up (fun j => ps p j) i l k < 26
            unfold va_up
            split
            · exact hl
            · exact (g2 k hk).1
          · show 0 < tb 0 (va_up (fun j => ps p j) i l k)
            unfold va_up
            split
            · exact hl0
            · exact gt k hk
