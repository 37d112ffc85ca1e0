def KT (M M' : OV) : Prop := (∀ k, (k ≤ 11 ∨ (35 ≤ k ∧ k ≤ 37)) → k ≠ 8 → k ≠ 9 → ar M' k = ar M k) ∧ (∀ k, (k ≤ 11 ∨ (35 ≤ k ∧ k ≤ 37)) → iv M' k = iv M k) ∧ ∀ i, i < 113 → ar M' 8 i = ar M 8 i
theorem KT_rf (M : OV) : KT M M := ⟨fun _ _ _ _ => rfl, fun _ _ => rfl, fun _ _ => rfl⟩
theorem KT_RM {M M' : OV} {p : Pg} (h : KT M M') (hs : PgS p) (m : RM (ar M 8) p) : RM (ar M' 8) p := RM_ext hs h.2.2 m
theorem KT_RT {M M' : OV} {tb : Tb} (h : KT M M') (m : RT M tb) : RT M' tb := by
  unfold RT
  rw [h.1 1 (by omega) (by decide) (by decide), h.1 2 (by omega) (by decide) (by decide), h.1 3 (by omega) (by decide) (by decide), h.1 4 (by omega) (by decide) (by decide), h.1 5 (by omega) (by decide) (by decide), h.1 6 (by omega) (by decide) (by decide), h.1 7 (by omega) (by decide) (by decide)]
  exact m
theorem KT_MOD {M M' : OV} {tb : Tb} {p : Pg} {len : Nat} {v : Nat → Nat} {cnt : Nat} {q : Nat → Pg} (h : KT M M') (hs : PgS p) (m : MOD M tb p len v cnt q) : MOD M' tb p len v cnt q := by
  obtain ⟨m1, m2, m3, m4, m5, m6, m7⟩ := m
  refine ⟨KT_RT h m1, KT_RM h hs m2, ?_, ?_, ?_, ?_, ?_⟩
  · rw [h.2.1 36 (by omega)]; exact m3
  · rw [h.1 35 (by omega) (by decide) (by decide)]; exact m4
  · rw [h.2.1 11 (by omega)]; exact m5
  · rw [h.1 10 (by omega) (by decide) (by decide)]; exact m6
  · rw [h.1 37 (by omega) (by decide) (by decide)]; exact m7
theorem INV_q3 {o : Nat → Nat} {a aK : Nat → Nat → Nat} {Z B : Nat → OV} {tb : Tb} {p : Pg} {len : Nat} {v : Nat → Nat} {cnt nx : Nat} {q : Nat → Pg} (hI : INVc o a (Z 0) (Z 1) (Z 3) (Z 5) (Z 6) (Z 7) (Z 9) (Z 10) (Z 24) (Z 25) (Z 26) (Z 27) (Z 28) B tb p len v cnt nx q) {J' U' N' M' : OV} (hU : R0 U') (hM : KT (Z 28) M') : INV o a aK (va_up (va_up (va_up (va_up Z 4 J') 7 U') 8 N') 28 M') B := by
  obtain ⟨i1, i2, i3, i4, i5, i6, i7, i8, i9, i10, i11, i12⟩ := hI
  exact ⟨tb, p, len, v, cnt, nx, q, i1, i2, i3, i4, i5, i6, ⟨i7.1, hU⟩, i8, i9, i10, KT_MOD hM i12.2.2.1.1 i11, i12⟩
-- pages that are tried
theorem RM_wd {f : Nat → Int32} {p : Pg} (h : RM f p) (hs : PgS p) (d : Nat) : RM (upd f 81 (nI d)) (pWd p d) := by
  have h40 := hs.1
  obtain ⟨r0, r1, r2, r3, r4, r5, r6, r7⟩ := h
  refine ⟨?_, fun i hi => ?_, fun i hi => ?_, fun l hl => ?_, fun k hk => ?_, ?_, ?_, ?_⟩
  · rw [updE, if_neg (by decide)]; exact r0
  · have hi' : i < pn p := hi
    rw [updE, if_neg (by omega)]; exact r1 i hi
  · have hi' : i < pn p := hi
    rw [updE, if_neg (by omega)]; exact r2 i hi
  · rw [updE, if_neg (by omega)]; exact r3 l hl
  · rw [updE, if_neg (by omega)]; exact r4 k hk
  · rw [updE, if_pos rfl]; rfl
  · rw [updE, if_neg (by decide)]; exact r6
  · rw [updE, if_neg (by decide)]; exact r7
theorem RP_wd {J : OV} {p : Pg} (h : RP J p) (d : Nat) : RP (sI J 5 (nI d)) (pWd p d) := by
  obtain ⟨r4, r0, r1, r2, r3, r5, r6, r7⟩ := h
  refine ⟨?_, r0, r1, r2, r3, ?_, ?_, ?_⟩
  · rw [ivI, if_neg (by decide)]; exact r4
  · rw [ivI, if_pos rfl]; rfl
  · rw [ivI, if_neg (by decide)]; exact r6
  · rw [ivI, if_neg (by decide)]; exact r7
theorem PgS_wd {p : Pg} (h : PgS p) {d : Nat} (h4 : 4 ≤ d) (h80 : d ≤ 80) : PgS (pWd p d) := by
  obtain ⟨g1, g2, g3, g4, g5⟩ := h
  exact ⟨g1, g2, h4, h80, g5⟩
theorem PgS_mk {p : Pg} (h : PgS p) (i : Nat) {m : Nat} (hm : m ≤ 2) : PgS (pMk p i m) := by
  obtain ⟨g1, g2, g5⟩ := h
  refine ⟨g1, fun k hk => ⟨(g2 k hk).1, ?_⟩, g5⟩
  show va_up (fun j => pm p j) i m k ≤ 2
  unfold va_up
  split
  · exact hm
  · exact (g2 k hk).2
theorem RM_mk {f : Nat → Int32} {p : Pg} (h : RM f p) (hs : PgS p) {i m : Nat} (hi : i < pn p) : RM (upd f (41 + i) (nI m)) (pMk p i m) := by
  have h40 := hs.1
  obtain ⟨r0, r1, r2, r3, r4, r5, r6, r7⟩ := h
  refine ⟨?_, fun k hk => ?_, fun k hk => ?_, fun l hl => ?_, fun k hk => ?_, ?_, ?_, ?_⟩
  · rw [updE, if_neg (by omega)]; exact r0
  · have hk' : k < pn p := hk
    rw [updE, if_neg (by omega)]; exact r1 k hk
  · rw [updE]
    show _ = nI (va_up (fun j => pm p j) i m k)
    unfold va_up
    by_cases c0 : k = i
    · rw [if_pos (by omega), if_pos c0]
    · rw [if_neg (by omega), if_neg c0]; exact r2 k hk
  · rw [updE, if_neg (by omega)]; exact r3 l hl
  · rw [updE, if_neg (by omega)]; exact r4 k hk
  · rw [updE, if_neg (by omega)]; exact r5
  · rw [updE, if_neg (by omega)]; exact r6
  · rw [updE, if_neg (by omega)]; exact r7
theorem RP_mk {J : OV} {p : Pg} (h : RP J p) (i m : Nat) : RP (sA J 1 i (nI m)) (pMk p i m) := by
  obtain ⟨r4, r0, r1, r2, r3, r5, r6, r7⟩ := h
  refine ⟨r4, r0, fun k hk => ?_, r2, r3, r5, r6, r7⟩
  rw [arA, if_pos rfl, updE]
  show _ = nI (va_up (fun j => pm p j) i m k)
  unfold va_up
  by_cases c0 : k = i
  · rw [if_pos c0, if_pos c0]
  · rw [if_neg c0, if_neg c0]; exact r1 k hk
/-- the cost of a page that is tried -/
theorem T_cost {o : Nat → Nat} {a : Nat → Nat → Nat} {L J U N C : OV} {tb : Tb} {p : Pg} (hL : nv L 10 = o 10) (hU : R0 U) (hC : RC C tb) (hJ : RP J p) (hs : PgS p) (hT : TbS tb) (hpt : PgT tb p) {x : Nat × Nat × Nat} (hx : best 1000000000 tb p 0 = some x) : ∃ U' N', f_X9_trialCost (a 0) L J U N (o 10) C = some (nI x.1, U', N') ∧ R0 U' := by
  obtain ⟨U1, e1, n0, n1, hU1⟩ := R_read (R := U) (oC := o 10) (oP := a 0 3) (RRk_0 hU) hC hJ hs hT hpt
  have hRR : RR (o 10) (a 0 3) U1 tb p := ⟨n0, n1, hU1⟩
  obtain ⟨N2, U2, e2, hU2, hN2, -⟩ := N_planBest (N := N) hRR hJ hs hT hpt (lm := 1000000000) (Nat.le_refl _)
  have h0 := (hN2 0 (Nat.zero_le _)).1
  rw [hx] at h0
  refine ⟨U2, N2, ?_, RR_0 hU2⟩
  unfold f_X9_trialCost
  rw [gd_t (decide_eq_true hL), e1]
  simp only [Option.bind_some, un1, show (1000000000 : Int32) = nI 1000000000 from rfl, e2, un2, gd_t (show ix (0 : Int32) 41 = true by decide)]
  rw [show (0 : Int32).toNatClampNeg = 0 from rfl, h0]
  rfl
theorem ok_costMarked : Ok_costMarked INV := by
  rintro o a aK Z B hI q0 q1
  have hI2 := hI
  obtain ⟨tb, p, len, v, cnt, nx, q, hc⟩ := hI2
  have hc' := hc
  obtain ⟨-, ⟨i2, -⟩, -, hPG, -, ⟨hC, -⟩, ⟨-, hU⟩, -, -, -, ⟨hRT, hM, -⟩, ⟨hT, -, ⟨hs, hpt, -⟩, -⟩⟩ := hc'
  have hP := hPG.1
  have h40 := hs.1
  have no : ∀ (e1 : f_X9_costMarked (a 0) (Z 0) (Z 3) (Z 4) (Z 7) (Z 8) (o 10) (Z 10) q0 q1 = some (-1, Z 4, Z 7, Z 8)) (e2 : f_X10_costMarked (Z 28) q0 q1 = some (-1, Z 28)), (∃ (u : Int32 × OV × OV × OV) (w : Int32 × OV), f_X9_costMarked (a 0) (Z 0) (Z 3) (Z 4) (Z 7) (Z 8) (o 10) (Z 10) q0 q1 = some u ∧ f_X10_costMarked (Z 28) q0 q1 = some w ∧ w.1 = u.1 ∧ INV o a aK (va_up (va_up (va_up (va_up Z 4 u.2.1) 7 u.2.2.1) 8 u.2.2.2) 28 w.2) B) := by
    intro e1 e2
    refine ⟨_, _, e1, e2, rfl, ?_⟩
    simp only [up_same]
    exact hI
  rcases has_or hP hM hs q0 with ⟨e1, e2⟩ | ⟨i, hi, rfl, e1, e2⟩
  · exact no (by simp only [f_X9_costMarked, e1, Option.bind_some, un1, if_true]) (by simp only [f_X10_costMarked, e2, Option.bind_some, un1, if_true])
  · rcases in_or' q1 (show 2 < 2 ^ 31 - 1 by decide) (show 0 ≤ 2 by decide) with ⟨e3, h⟩ | ⟨m, -, h2, rfl, c1, c2, e3⟩
    · have e3' : f_X10_in q1 0 2 = some 0 := e3
      have e4 : f_X9_isMark q1 = some 0 := by
        unfold f_X9_isMark
        by_cases c : q1 < 0
        · rw [if_pos c]; rfl
        · rcases h with h | h
          · exact absurd h c
          · rw [if_neg c, if_pos (show (2 : Int32) < q1 from h)]; rfl
      exact no (by simp only [f_X9_costMarked, e1, e4, Option.bind_some, un1, if_true, if_neg (show ¬ (1 : Int32) = 0 by decide)]) (by simp only [f_X10_costMarked, e2, e3', Option.bind_some, un1, if_true, if_neg (show ¬ (1 : Int32) = 0 by decide)])
    · have e3' : f_X10_in (nI m) 0 2 = some 1 := e3
      have e4 : f_X9_isMark (nI m) = some 1 := by
        unfold f_X9_isMark
        rw [if_neg (show ¬ nI m < (0 : Int32) from c1), if_neg (show ¬ (2 : Int32) < nI m from c2)]
      obtain ⟨J1, e5, hJ1⟩ := P_copy (K := Z 4) hPG hs
      have hsm := PgS_mk hs i h2
      have hptm : PgT tb (pMk p i m) := hpt
      obtain ⟨x, hx⟩ := best_all (tb := tb) hsm hT
      obtain ⟨U', N', e6, hU'⟩ := T_cost (a := a) (N := Z 8) i2 hU hC (RP_mk hJ1.1 i m) hsm hT hptm hx
      obtain ⟨M5, hM5⟩ : ∃ M5, M5 = sW (Z 28) 9 (mix 113 (ar (Z 28) 8) (ar (Z 28) 9)) := ⟨_, rfl⟩
      have e7 : f_X10_putsAside (Z 28) = some M5 := by rw [hM5]; exact M_aside _
      obtain ⟨M7, hM7⟩ : ∃ M7, M7 = sA M5 8 (41 + i) (nI m) := ⟨_, rfl⟩
      have hRM7 : RM (ar M7 8) (pMk p i m) := by
        rw [hM7, arA, if_pos rfl, hM5, arW, if_neg (by decide)]
        exact RM_mk hM hs hi
      have hRT7 : RT M7 tb := by rw [hM7, hM5]; exact hRT
      obtain ⟨M9, e8, k9, -⟩ := M_bestAsIs hRM7 hsm hRT7 hT hptm hx
      have h99 : ∀ j, j < 113 → ar M9 9 j = ar (Z 28) 8 j := fun j hj => by
        rw [(k9.1 9 (by omega)).1, hM7, arA, if_neg (by decide), hM5, arW, if_pos rfl]
        unfold mix
        rw [if_pos hj]
      have hkt : KT (Z 28) (sW M9 8 (mix 113 (ar M9 9) (ar M9 8))) := by
        refine ⟨fun k hk h8 h9 => ?_, fun k hk => ?_, fun j hj => ?_⟩
        · rw [arW, if_neg h8, ((KN_KM k9) k hk).1, hM7, arA, if_neg h8, hM5, arW, if_neg h9]
        · rw [ivW, ((KN_KM k9) k hk).2, hM7, ivA, hM5, ivW]
        · rw [arW, if_pos rfl]
          unfold mix
          rw [if_pos hj]
          exact h99 j hj
      refine ⟨(nI x.1, sA J1 1 i (nI m), U', N'), (nI x.1, sW M9 8 (mix 113 (ar M9 9) (ar M9 8))), ?_, ?_, rfl, INV_q3 hc hU' hkt⟩
      · simp only [f_X9_costMarked, e1, e4, Option.bind_some, un1, if_neg (show ¬ (1 : Int32) = 0 by decide), e5, gd_t (ix_nI (show i < 40 by omega) (show 40 < 2 ^ 31 by decide)), nI_clamp (show i < 2 ^ 31 by omega), bnd, e6, un3]
      · simp only [f_X10_costMarked, e2, e3', Option.bind_some, un1, if_neg (show ¬ (1 : Int32) = 0 by decide), e7, show (41 : Int32) + nI i = nI (41 + i) from nI_add 41 i, gd_t (ix_nI (show 41 + i < 113 by omega) (show 113 < 2 ^ 31 by decide)), nI_clamp (show 41 + i < 2 ^ 31 by omega), bnd, ← hM7, e8, un2, m_takesBack]
/-- the best lines at a width -/
def bw (tb : Tb) (p : Pg) (w : Nat) : Nat × Nat × Nat := (best 1000000000 tb (pWd p w) 0).getD (0, 0, 0)
theorem bw_eq {tb : Tb} {p : Pg} (hs : PgS p) (hT : TbS tb) {w : Nat} (h4 : 4 ≤ w) (h80 : w ≤ 80) : best 1000000000 tb (pWd p w) 0 = some (bw tb p w) := by
  obtain ⟨x, hx⟩ := best_all (tb := tb) (PgS_wd hs h4 h80) hT
  unfold bw
  rw [hx]
  rfl
theorem M_costAt {M : OV} {tb : Tb} {p : Pg} (hM : RM (ar M 8) p) (hs : PgS p) (hR : RT M tb) (hT : TbS tb) (hpt : PgT tb p) {w : Nat} (h4 : 4 ≤ w) (h80 : w ≤ 80) : ∃ M', f_X10_costAt M (nI w) = some (nI (bw tb p w).1, M') ∧ KT M M' ∧ ar M' 21 0 = nI (bw tb p w).2.1 := by
  have hsw := PgS_wd hs h4 h80
  obtain ⟨M1, hM1⟩ : ∃ M1, M1 = sA M 8 81 (nI w) := ⟨_, rfl⟩
  have hRM1 : RM (ar M1 8) (pWd p w) := by rw [hM1, arA, if_pos rfl]; exact RM_wd hM hs w
  have hRT1 : RT M1 tb := by rw [hM1]; exact hR
  obtain ⟨M2, e2, k2, h21⟩ := M_bestAsIs hRM1 hsw hRT1 hT (show PgT tb (pWd p w) from hpt) (bw_eq hs hT h4 h80)
  refine ⟨sA M2 8 81 (ar M 8 81), ?_, ⟨fun k hk h8 h9 => ?_, fun k hk => ?_, fun j hj => ?_⟩, ?_⟩
  · unfold f_X10_costAt
    simp only [gd_t (show ix (81 : Int32) 113 = true by decide), show (81 : Int32).toNatClampNeg = 81 by decide, bnd, ← hM1, e2, Option.bind_some, un2]
  · rw [arA, if_neg h8, ((KN_KM k2) k hk).1, hM1, arA, if_neg h8]
  · rw [ivA, ((KN_KM k2) k hk).2, hM1, ivA]
  · rw [arA, if_pos rfl, updE, ((KN_KM k2) 8 (by omega)).1, hM1, arA, if_pos rfl]
    by_cases c : j = 81
    · rw [if_pos c, c]
    · rw [if_neg c, updE, if_neg c]
  · rw [arA, if_neg (by decide)]
    exact h21
theorem KT_tr {M M' M'' : OV} (h : KT M M') (h2 : KT M' M'') : KT M M'' := ⟨fun k hk a b => (h2.1 k hk a b).trans (h.1 k hk a b), fun k hk => (h2.2.1 k hk).trans (h.2.1 k hk), fun i hi => (h2.2.2 i hi).trans (h.2.2 i hi)⟩
theorem ok_costBy : Ok_costBy INV := by
  rintro o a aK Z B hI q0
  have hI2 := hI
  obtain ⟨tb, p, len, v, cnt, nx, q, hc⟩ := hI2
  have hc' := hc
  obtain ⟨-, ⟨i2, -⟩, -, hPG, -, ⟨hC, -⟩, ⟨-, hU⟩, -, -, -, ⟨hRT, hM, -⟩, ⟨hT, -, ⟨hs, hpt, -⟩, -⟩⟩ := hc'
  rcases in_or' q0 (show 80 < 2 ^ 31 - 1 by decide) (show 4 ≤ 80 by decide) with ⟨e3, h⟩ | ⟨d, h4, h80, rfl, c1, c2, e3⟩
  · have e3' : f_X10_in q0 4 80 = some 0 := e3
    have e4 : f_X9_isWidth q0 = some 0 := by
      unfold f_X9_isWidth
      by_cases c : q0 < 4
      · rw [if_pos c]; rfl
      · rcases h with h | h
        · exact absurd h c
        · rw [if_neg c, if_pos (show (80 : Int32) < q0 from h)]; rfl
    refine ⟨(-1, Z 4, Z 7, Z 8), (-1, Z 28), by simp only [f_X9_costBy, e4, Option.bind_some, un1, if_true], by simp only [f_X10_costBy, e3', Option.bind_some, un1, if_true], rfl, ?_⟩
    simp only [up_same]
    exact hI
  · have e3' : f_X10_in (nI d) 4 80 = some 1 := e3
    have e4 : f_X9_isWidth (nI d) = some 1 := by
      unfold f_X9_isWidth
      rw [if_neg (show ¬ nI d < (4 : Int32) from c1), if_neg (show ¬ (80 : Int32) < nI d from c2)]
    obtain ⟨J1, e5, hJ1⟩ := P_copy (K := Z 4) hPG hs
    have hsw := PgS_wd hs h4 h80
    obtain ⟨U', N', e6, hU'⟩ := T_cost (a := a) (N := Z 8) i2 hU hC (RP_wd hJ1.1 d) hsw hT (show PgT tb (pWd p d) from hpt) (bw_eq hs hT h4 h80)
    obtain ⟨M', e7, kt, -⟩ := M_costAt hM hs hRT hT hpt h4 h80
    refine ⟨(nI (bw tb p d).1, sI J1 5 (nI d), U', N'), (nI (bw tb p d).1, M'), ?_, ?_, rfl, INV_q3 hc hU' kt⟩
    · simp only [f_X9_costBy, e4, Option.bind_some, un1, if_neg (show ¬ (1 : Int32) = 0 by decide), e5, bnd, e6, un3]
    · simp only [f_X10_costBy, e3', Option.bind_some, un1, if_neg (show ¬ (1 : Int32) = 0 by decide), e7, un2]
/-- one width more is tried -/
theorem T_width {oC oP : Nat} {J U N : OV} {tb : Tb} {p : Pg} {w0 w : Nat} (hU : RR oC oP U tb p) (hJ : RP J (pWd p w0)) (hs : PgS p) (hT : TbS tb) (hpt : PgT tb p) (h4 : 4 ≤ w) (h80 : w ≤ 80) : ∃ N' U', f_X5_planBest N U oP (sI J 5 (nI w)) 1000000000 = some (N', U') ∧ RR oC oP U' tb p ∧ RP (sI J 5 (nI w)) (pWd p w) ∧ ar N' 0 0 = nI (bw tb p w).1 ∧ ar N' 1 0 = nI (bw tb p w).2.1 := by
  have hJ' : RP (sI J 5 (nI w)) (pWd p w) := RP_wd hJ w
  obtain ⟨N2, U2, e2, hU2, hN2, -⟩ := N_planBest (N := N) (show RR oC oP U tb (pWd p w) from hU) hJ' (PgS_wd hs h4 h80) hT (show PgT tb (pWd p w) from hpt) (lm := 1000000000) (Nat.le_refl _)
  have h0 := hN2 0 (Nat.zero_le _)
  rw [bw_eq hs hT h4 h80] at h0
  exact ⟨N2, U2, e2, hU2, hJ', h0.1, h0.2⟩
/-- the best width so far, and its cost -/
def bws (tb : Tb) (p : Pg) : Nat → Nat × Nat
  | 0 => (4, 1000000000)
  | w + 1 => if 4 ≤ w ∧ (bw tb p w).1 < (bws tb p w).2 then (w, (bw tb p w).1) else bws tb p w
theorem bws_4 (tb : Tb) (p : Pg) : bws tb p 4 = (4, 1000000000) := by
  simp [bws]
theorem bws_le (tb : Tb) (p : Pg) : ∀ w, (bws tb p w).2 ≤ 1000000000
  | 0 => Nat.le_refl _
  | w + 1 => by
    have := bws_le tb p w
    rw [bws]
    split
    · show (bw tb p w).1 ≤ _; omega
    · exact this
theorem ok_bestWidth : Ok_bestWidth INV := by
  rintro o a aK Z B hI -
  have hI2 := hI
  obtain ⟨tb, p, len, v, cnt, nx, q, hc⟩ := hI2
  have hc' := hc
  obtain ⟨-, ⟨i2, -⟩, -, hPG, -, ⟨hC, -⟩, ⟨-, hU⟩, -, -, -, ⟨hRT, hM, -⟩, ⟨hT, -, ⟨hs, hpt, -⟩, -⟩⟩ := hc'
  obtain ⟨J1, e5, hJ1⟩ := P_copy (K := Z 4) hPG hs
  obtain ⟨U1, e1, n0, n1, hU1⟩ := R_read (R := Z 7) (oC := o 10) (oP := a 0 3) (RRk_0 hU) hC hJ1.1 hs hT hpt
  have bb : ∀ w, 4 ≤ w → w ≤ 80 → (bw tb p w).1 ≤ 1200000 := fun w h4 h80 => (best_bd' (PgS_wd hs h4 h80) hT (bw_eq hs hT h4 h80)).1
  obtain ⟨r, e2, J2, U2, N2, rfl, hU2⟩ := lp_inv (step := s_X9_bestWidth_34_8 (a 0)) (fun w s => ∃ w0 J U N, s = (nI (bws tb p w).1, nI (bws tb p w).2, nI w, J, U, N) ∧ RP J (pWd p w0) ∧ RR (o 10) (a 0 3) U tb p) (fun r => ∃ J U N, r = (nI (bws tb p 81).1, J, U, N) ∧ R0 U) 4 81 (by decide) (by
    rintro w s h4 h81 ⟨w0, J, U, N, rfl, hJ, hU⟩
    obtain ⟨N', U', e, hU', hJ', h0, h1⟩ := T_width (N := N) hU hJ hs hT hpt h4 (show w ≤ 80 by omega)
    have b1 := bb w h4 (by omega)
    have b2 := bws_le tb p w
    refine ⟨(nI (bws tb p (w + 1)).1, nI (bws tb p (w + 1)).2, nI (w + 1), sI J 5 (nI w), U', N'), ?_, w, _, _, _, rfl, hJ', hU'⟩
    simp only [s_X9_bestWidth_34_8, un6, show ((80 : Int32) < nI w) = (80 < w) from nIlt (by decide) (by omega), if_neg (show ¬ 80 < w by omega), bnd, e, Option.bind_some, un2, gd_t (show ix (0 : Int32) 41 = true by decide), show (0 : Int32).toNatClampNeg = 0 by decide, h0, nIle (show (bws tb p w).2 < 2 ^ 31 by omega) (show (bw tb p w).1 < 2 ^ 31 by omega), j_X9_bestWidth_87_21, nI_1]
    rw [bws]
    by_cases c : (bws tb p w).2 ≤ (bw tb p w).1
    · rw [if_pos c, if_neg (by omega)]
    · rw [if_neg c, if_pos ⟨h4, by omega⟩]) (by
    rintro s ⟨w0, J, U, N, rfl, hJ, hU⟩
    exact ⟨_, by simp only [s_X9_bestWidth_34_8, un6, if_pos (show (80 : Int32) < nI 81 by decide)], J, U, N, rfl, RR_0 hU⟩) 5000 (by omega) (nI (bws tb p 4).1, nI (bws tb p 4).2, nI 4, J1, U1, Z 8) ⟨pd p, J1, U1, Z 8, rfl, hJ1.1, n0, n1, hU1⟩
  obtain ⟨r, e3, M2, rfl, k2⟩ := lp_inv (step := s_X10_bestWidth_7_4) (fun w s => ∃ M', s = (nI (bws tb p w).1, nI (bws tb p w).2, nI w, M') ∧ KT (Z 28) M') (fun r => ∃ M', r = (nI (bws tb p 81).1, M') ∧ KT (Z 28) M') 4 81 (by decide) (by
    rintro w s h4 h81 ⟨M', rfl, k'⟩
    obtain ⟨M'', e, k'', -⟩ := M_costAt (KT_RM k' hs hM) hs (KT_RT k' hRT) hT hpt h4 (show w ≤ 80 by omega)
    have b1 := bb w h4 (by omega)
    have b2 := bws_le tb p w
    refine ⟨(nI (bws tb p (w + 1)).1, nI (bws tb p (w + 1)).2, nI (w + 1), M''), ?_, _, rfl, KT_tr k' k''⟩
    simp only [s_X10_bestWidth_7_4, un4, show ((80 : Int32) < nI w) = (80 < w) from nIlt (by decide) (by omega), if_neg (show ¬ 80 < w by omega), bnd, e, Option.bind_some, un2, nIlt (show (bw tb p w).1 < 2 ^ 31 by omega) (show (bws tb p w).2 < 2 ^ 31 by omega), j_X10_bestWidth_34_15, nI_1]
    rw [bws]
    by_cases c : (bw tb p w).1 < (bws tb p w).2
    · rw [if_pos c, if_pos ⟨h4, c⟩]
    · rw [if_neg c, if_neg (fun z => c z.2)]) (by
    rintro s ⟨M', rfl, k'⟩
    exact ⟨_, by simp only [s_X10_bestWidth_7_4, un4, if_pos (show (80 : Int32) < nI 81 by decide)], M', rfl, k'⟩) 5000 (by omega) (nI (bws tb p 4).1, nI (bws tb p 4).2, nI 4, Z 28) ⟨Z 28, rfl, KT_rf _⟩
  rw [bws_4] at e2 e3
  refine ⟨(nI (bws tb p 81).1, J2, U2, N2), (nI (bws tb p 81).1, M2), ?_, ?_, rfl, INV_q3 hc hU2 k2⟩
  · unfold f_X9_bestWidth
    rw [e5, Option.bind_some]
    simp only [un1]
    rw [gd_t (decide_eq_true i2), e1, Option.bind_some]
    simp only [bnd]
    rw [show lp (s_X9_bestWidth_34_8 (a 0)) 5000 (4, 1000000000, 4, J1, U1, Z 8) = _ from e2]
    rfl
  · unfold f_X10_bestWidth
    simp only [bnd]
    rw [show lp (s_X10_bestWidth_7_4) 5000 (4, 1000000000, 4, Z 28) = _ from e3]
    rfl
theorem ok_widthFor : Ok_widthFor INV := by
  rintro o a aK Z B hI q0
  have hI2 := hI
  obtain ⟨tb, p, len, v, cnt, nx, q, hc⟩ := hI2
  have hc' := hc
  obtain ⟨-, ⟨i2, -⟩, -, hPG, -, ⟨hC, -⟩, ⟨-, hU⟩, -, -, -, ⟨hRT, hM, -⟩, ⟨hT, -, ⟨hs, hpt, -⟩, -⟩⟩ := hc'
  have h40 := hs.1
  have no : ∀ r, f_X9_widthFor (a 0) (Z 0) (Z 3) (Z 4) (Z 7) (Z 8) (o 10) (Z 10) q0 = some (r, Z 4, Z 7, Z 8) → f_X10_widthFor (Z 28) q0 = some (r, Z 28) → (∃ (u : Int32 × OV × OV × OV) (w : Int32 × OV), f_X9_widthFor (a 0) (Z 0) (Z 3) (Z 4) (Z 7) (Z 8) (o 10) (Z 10) q0 = some u ∧ f_X10_widthFor (Z 28) q0 = some w ∧ w.1 = u.1 ∧ INV o a aK (va_up (va_up (va_up (va_up Z 4 u.2.1) 7 u.2.2.1) 8 u.2.2.2) 28 w.2) B) := by
    intro r e1 e2
    refine ⟨_, _, e1, e2, rfl, ?_⟩
    simp only [up_same]
    exact hI
  by_cases c1 : (1 : Int32) ≤ q0
  · have e0 : (nI (pn p) = (0 : Int32)) = (pn p = 0) := nIe (by omega) (by decide)
    by_cases c0 : pn p = 0
    · exact no (-2) (by simp only [f_X9_widthFor, if_pos c1, hPG.1.1, e0, if_pos c0]) (by simp only [f_X10_widthFor, if_pos c1, M_many hM, Option.bind_some, un1, e0, if_pos c0])
    · obtain ⟨J1, e5, hJ1⟩ := P_copy (K := Z 4) hPG hs
      obtain ⟨U1, e1, n0, n1, hU1⟩ := R_read (R := Z 7) (oC := o 10) (oP := a 0 3) (RRk_0 hU) hC hJ1.1 hs hT hpt
      obtain ⟨c, hcc⟩ : ∃ c : Nat → Bool, c = fun w => decide (w ≤ 80 ∧ q0 < nI (bw tb p w).2.1) := ⟨_, rfl⟩
      have hm : c 81 = false := by rw [hcc]; exact decide_eq_false (by omega)
      obtain ⟨r1, r2, r3, r4⟩ := scn_spec hm 90 4 (by decide) (by decide)
      obtain ⟨r, hrr⟩ : ∃ r, r = scn c 90 4 := ⟨_, rfl⟩
      rw [← hrr] at r1 r2 r3 r4
      have s3 : ∀ w, 4 ≤ w → w < r → w ≤ 80 ∧ q0 < nI (bw tb p w).2.1 := fun w u1 u2 => by have := r3 w u1 u2; rw [hcc] at this; exact of_decide_eq_true this
      have s4 : r ≤ 80 → ¬ q0 < nI (bw tb p r).2.1 := fun u z => by rw [hcc] at r4; exact (of_decide_eq_false r4) ⟨u, z⟩
      obtain ⟨z, e2, J2, U2, N2, hU2, hz⟩ := lp_inv (step := s_X9_widthFor_48_6 (a 0) q0) (fun w s => ∃ w0 J U N, s = (nI w, J, U, N) ∧ RP J (pWd p w0) ∧ RR (o 10) (a 0 3) U tb p) (fun z => ∃ J U N, R0 U ∧ ((r = 81 ∧ z = .inl (J, U, N)) ∨ (r ≤ 80 ∧ z = .inr (nI r, J, U, N)))) 4 r r1 (by
        rintro w s h4 h81 ⟨w0, J, U, N, rfl, hJ, hU⟩
        obtain ⟨t1, t2⟩ := s3 w h4 h81
        obtain ⟨N', U', e, hU', hJ', h0, h1⟩ := T_width (N := N) hU hJ hs hT hpt h4 t1
        refine ⟨(nI (w + 1), sI J 5 (nI w), U', N'), ?_, w, _, _, _, rfl, hJ', hU'⟩
        simp only [s_X9_widthFor_48_6, un4, show ((80 : Int32) < nI w) = (80 < w) from nIlt (by decide) (by omega), if_neg (show ¬ 80 < w by omega), bnd, e, Option.bind_some, un2, gd_t (show ix (0 : Int32) 41 = true by decide), show (0 : Int32).toNatClampNeg = 0 by decide, h1, if_pos t2, nI_1]) (by
        rintro s ⟨w0, J, U, N, rfl, hJ, hU⟩
        by_cases cr : r ≤ 80
        · obtain ⟨N', U', e, hU', hJ', h0, h1⟩ := T_width (N := N) hU hJ hs hT hpt r1 cr
          refine ⟨.inr (nI r, sI J 5 (nI r), U', N'), ?_, _, _, _, RR_0 hU', Or.inr ⟨cr, rfl⟩⟩
          simp only [s_X9_widthFor_48_6, un4, show ((80 : Int32) < nI r) = (80 < r) from nIlt (by decide) (by omega), if_neg (show ¬ 80 < r by omega), bnd, e, Option.bind_some, un2, gd_t (show ix (0 : Int32) 41 = true by decide), show (0 : Int32).toNatClampNeg = 0 by decide, h1, if_neg (s4 cr)]
        · refine ⟨.inl (J, U, N), ?_, _, _, _, RR_0 hU, Or.inl ⟨by omega, rfl⟩⟩
          simp only [s_X9_widthFor_48_6, un4, show ((80 : Int32) < nI r) = (80 < r) from nIlt (by decide) (by omega), if_pos (show 80 < r by omega)]) 5000 (by omega) (nI 4, J1, U1, Z 8) ⟨pd p, J1, U1, Z 8, rfl, hJ1.1, n0, n1, hU1⟩
      obtain ⟨y, e3, M2, k2, hy⟩ := lp_inv (step := s_X10_widthFor_19_4 q0) (fun w s => ∃ M', s = (nI w, M') ∧ KT (Z 28) M') (fun y => ∃ M', KT (Z 28) M' ∧ ((r = 81 ∧ y = .inl M') ∨ (r ≤ 80 ∧ y = .inr (nI r, M')))) 4 r r1 (by
        rintro w s h4 h81 ⟨M', rfl, k'⟩
        obtain ⟨t1, t2⟩ := s3 w h4 h81
        obtain ⟨M'', e, k'', h21⟩ := M_costAt (KT_RM k' hs hM) hs (KT_RT k' hRT) hT hpt h4 t1
        refine ⟨(nI (w + 1), M''), ?_, _, rfl, KT_tr k' k''⟩
        simp only [s_X10_widthFor_19_4, un2, show ((80 : Int32) < nI w) = (80 < w) from nIlt (by decide) (by omega), if_neg (show ¬ 80 < w by omega), e, Option.bind_some, gd_t (show ix (0 : Int32) 41 = true by decide), show (0 : Int32).toNatClampNeg = 0 by decide, h21, if_pos t2, bnd, nI_1]) (by
        rintro s ⟨M', rfl, k'⟩
        by_cases cr : r ≤ 80
        · obtain ⟨M'', e, k'', h21⟩ := M_costAt (KT_RM k' hs hM) hs (KT_RT k' hRT) hT hpt r1 cr
          refine ⟨.inr (nI r, M''), ?_, _, KT_tr k' k'', Or.inr ⟨cr, rfl⟩⟩
          simp only [s_X10_widthFor_19_4, un2, show ((80 : Int32) < nI r) = (80 < r) from nIlt (by decide) (by omega), if_neg (show ¬ 80 < r by omega), e, Option.bind_some, gd_t (show ix (0 : Int32) 41 = true by decide), show (0 : Int32).toNatClampNeg = 0 by decide, h21, if_neg (s4 cr)]
        · refine ⟨.inl M', ?_, _, k', Or.inl ⟨by omega, rfl⟩⟩
          simp only [s_X10_widthFor_19_4, un2, show ((80 : Int32) < nI r) = (80 < r) from nIlt (by decide) (by omega), if_pos (show 80 < r by omega)]) 5000 (by omega) (nI 4, Z 28) ⟨Z 28, rfl, KT_rf _⟩
      obtain ⟨ans, hans⟩ : ∃ ans : Int32, ans = if r ≤ 80 then nI r else -2 := ⟨_, rfl⟩
      refine ⟨(ans, J2, U2, N2), (ans, M2), ?_, ?_, rfl, INV_q3 hc hU2 k2⟩
      · unfold f_X9_widthFor
        simp only [if_pos c1, hPG.1.1, e0, if_neg c0, e5, Option.bind_some, un1, gd_t (decide_eq_true i2), e1, bnd]
        rw [show lp (s_X9_widthFor_48_6 (a 0) q0) 5000 (4, J1, U1, Z 8) = _ from e2]
        rcases hz with ⟨t, rfl⟩ | ⟨t, rfl⟩
        · rw [hans, if_neg (by omega)]; rfl
        · rw [hans, if_pos t]; rfl
      · unfold f_X10_widthFor
        simp only [if_pos c1, M_many hM, Option.bind_some, un1, e0, if_neg c0, bnd]
        rw [show lp (s_X10_widthFor_19_4 q0) 5000 (4, Z 28) = _ from e3]
        rcases hy with ⟨t, rfl⟩ | ⟨t, rfl⟩
        · rw [hans, if_neg (by omega)]; rfl
        · rw [hans, if_pos t]; rfl
  · exact no (-1) (by simp only [f_X9_widthFor, if_neg c1]) (by simp only [f_X10_widthFor, if_neg c1])
