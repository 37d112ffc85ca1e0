theorem run_t {J : OV} {p : Pg} (hJ : RP J p) (h40 : pn p ≤ 40) {i d : Nat} (hd : 1 ≤ d) (hid : i + d ≤ pn p) : f_X4_hasRun J (nI i) (nI d) = some 1 := by
  have e1 : f_X4_has J (nI i) = some 1 := by
    unfold f_X4_has
    rw [hJ.1, if_neg (nI_pos (by omega)), if_neg (nI_ge (show i < pn p by omega) (by omega))]
  have e2 : (nI d < (1 : Int32)) = (d < 1) := nIlt (by omega) (by decide)
  simp only [f_X4_hasRun, e1, Option.bind_some, un1, if_neg (show ¬ (1 : Int32) = 0 by decide), e2, if_neg (show ¬ d < 1 by omega), hJ.1, nI_sub (show i ≤ pn p by omega), nIlt (show pn p - i < 2 ^ 31 by omega) (show d < 2 ^ 31 by omega), if_neg (show ¬ pn p - i < d by omega)]
/-- the cost without one sign -/
def wcx (tb : Tb) (p : Pg) (i : Nat) : Nat := ((best 1000000000 tb (pPer p (pn p - 1) (deS p i 1) (deM p i 1)) 0).getD (0, 0, 0)).1
def wcs (c : Nat → Nat) : Nat → Option Nat × Nat
  | 0 => (none, 1000000000)
  | k + 1 => if c k < (wcs c k).2 then (some k, c k) else wcs c k
theorem wcs_le (c : Nat → Nat) : ∀ k, (wcs c k).2 ≤ 1000000000
  | 0 => Nat.le_refl _
  | k + 1 => by
    have := wcs_le c k
    rw [wcs]
    split
    · show c k ≤ _; omega
    · exact this
theorem ok_worst : Ok_worst INV := by
  rintro o a aK Z B hI -
  have hI2 := hI
  obtain ⟨tb, p, len, v, cnt, nx, q, hc⟩ := hI2
  have hc' := hc
  obtain ⟨-, ⟨i2, -⟩, -, hPG, -, ⟨hC, -⟩, ⟨-, hU⟩, -, -, -, ⟨hRT, hM, -⟩, ⟨hT, -, hG, -⟩⟩ := hc'
  have hs := hG.1
  have hpt := hG.2.1
  have hP := hPG.1
  have h40 := hs.1
  have hx : ∀ i, i < pn p → ∃ x, best 1000000000 tb (pPer p (pn p - 1) (deS p i 1) (deM p i 1)) 0 = some x ∧ x.1 = wcx tb p i ∧ x.1 ≤ 1200000 := by
    intro i hi
    have hg := PgG_del hG (i := i) (d := 1) (by omega)
    obtain ⟨x, hx⟩ := best_all (tb := tb) hg.1 hT
    refine ⟨x, hx, ?_, (best_bd' hg.1 hT hx).1⟩
    unfold wcx
    rw [hx]
    rfl
  obtain ⟨r, e2, J2, U2, N2, rfl, hU2⟩ := lp_inv (step := s_X9_worst_9_4 (o 10) (a 0) (Z 0) (Z 3) (Z 10)) (fun k s => ∃ J U N, s = (enD (wcs (wcx tb p) k).1, nI (wcs (wcx tb p) k).2, nI k, J, U, N) ∧ R0 U) (fun r => ∃ J U N, r = (enD (wcs (wcx tb p) (pn p)).1, J, U, N) ∧ R0 U) 0 (pn p) (Nat.zero_le _) (by
    rintro k s - hk ⟨J, U, N, rfl, hU⟩
    obtain ⟨x, hx1, hx2, hx3⟩ := hx k hk
    have hg := PgG_del hG (i := k) (d := 1) (by omega)
    obtain ⟨J1, e5, hJ1⟩ := P_copy (K := J) hPG hs
    obtain ⟨J3, e6, hJ3⟩ := P_takeOut hJ1 h40 (d := 1) (by decide) (show k + 1 ≤ pn p by omega) (run_t hJ1.1 h40 (by decide) (by omega))
    have e6' : f_X4_takeOut J1 (nI k) 1 = some J3 := e6
    obtain ⟨U', N', e7, hU'⟩ := T_cost (a := a) (N := N) i2 hU hC hJ3.1 hg.1 hT hg.2.1 hx1
    have b2 := wcs_le (wcx tb p) k
    refine ⟨(enD (wcs (wcx tb p) (k + 1)).1, nI (wcs (wcx tb p) (k + 1)).2, nI (k + 1), J3, U', N'), ?_, J3, U', N', rfl, hU'⟩
    simp only [s_X9_worst_9_4, un6, hP.1, nIle (show pn p < 2 ^ 31 by omega) (show k < 2 ^ 31 by omega), if_neg (show ¬ pn p ≤ k by omega), e5, Option.bind_some, un1, e6', e7, un3, bnd, nIle (show (wcs (wcx tb p) k).2 < 2 ^ 31 by omega) (show x.1 < 2 ^ 31 by omega), j_X9_worst_57_22, nI_1]
    rw [wcs, ← hx2]
    by_cases c : (wcs (wcx tb p) k).2 ≤ x.1
    · rw [if_pos c, if_neg (by omega)]
    · rw [if_neg c, if_pos (by omega)]
      rfl) (by
    rintro s ⟨J, U, N, rfl, hU⟩
    exact ⟨_, by simp only [s_X9_worst_9_4, un6, hP.1, if_pos (Int32.le_refl _)], J, U, N, rfl, hU⟩) 5000 (by omega) (enD (wcs (wcx tb p) 0).1, nI (wcs (wcx tb p) 0).2, nI 0, Z 4, Z 7, Z 8) ⟨Z 4, Z 7, Z 8, rfl, hU⟩
  obtain ⟨M5, hM5⟩ : ∃ M5, M5 = sW (Z 28) 9 (mix 113 (ar (Z 28) 8) (ar (Z 28) 9)) := ⟨_, rfl⟩
  have e7 : f_X10_putsAside (Z 28) = some M5 := by rw [hM5]; exact M_aside _
  have h59 : ∀ j, j < 113 → ar M5 9 j = ar (Z 28) 8 j := fun j hj => by
    rw [hM5, arW, if_pos rfl]
    unfold mix
    rw [if_pos hj]
  have kt5 : KT (Z 28) M5 := by
    rw [hM5]
    exact ⟨fun k hk h8 h9 => by rw [arW, if_neg h9], fun k hk => rfl, fun j hj => by rw [arW, if_neg (by decide)]⟩
  obtain ⟨r, e3, M2, rfl, k2⟩ := lp_inv (step := s_X10_worst_12_6) (fun k s => ∃ M', s = (enD (wcs (wcx tb p) k).1, nI (wcs (wcx tb p) k).2, nI k, M') ∧ KT (Z 28) M' ∧ ∀ j, j < 113 → ar M' 9 j = ar (Z 28) 8 j) (fun r => ∃ M', r = (enD (wcs (wcx tb p) (pn p)).1, M') ∧ KT (Z 28) M') 0 (pn p) (Nat.zero_le _) (by
    rintro k s - hk ⟨M', rfl, k', h9⟩
    obtain ⟨x, hx1, hx2, hx3⟩ := hx k hk
    have hg := PgG_del hG (i := k) (d := 1) (by omega)
    have hM' := KT_RM k' hs hM
    obtain ⟨f, e8, g0, g1, g2, g3⟩ := M_down M' (ar M' 8) (n := pn p) (i := k) (d := 1) hM'.1 (by decide) (by omega) h40
    rw [sW_self] at e8
    have e8' : f_X10_drops M' (nI k) 1 = some (sW M' 8 f) := e8
    have hRM : RM (ar (sW M' 8 f) 8) (pPer p (pn p - 1) (deS p k 1) (deM p k 1)) := by
      rw [arW, if_pos rfl]
      exact RM_del hM' (by omega) g0 g1 g2 g3
    obtain ⟨M9, e9, k9, -⟩ := M_bestAsIs hRM hg.1 (show RT (sW M' 8 f) tb from (KT_RT k' hRT : RT M' tb)) hT hg.2.1 hx1
    have h99 : ∀ j, j < 113 → ar M9 9 j = ar (Z 28) 8 j := fun j hj => by
      rw [(k9.1 9 (by omega)).1, arW, if_neg (by decide)]
      exact h9 j hj
    have b2 := wcs_le (wcx tb p) k
    have h90 : ar M' 9 (0 : Int32).toNatClampNeg = nI (pn p) := (h9 0 (by decide)).trans hM.1
    refine ⟨(enD (wcs (wcx tb p) (k + 1)).1, nI (wcs (wcx tb p) (k + 1)).2, nI (k + 1), sW M9 8 (mix 113 (ar M9 9) (ar M9 8))), ?_, _, rfl, ⟨fun j hj h8 h9' => ?_, fun j hj => ?_, fun j hj => ?_⟩, fun j hj => ?_⟩
    · simp only [s_X10_worst_12_6, un4, gd_t (show ix (0 : Int32) 113 = true by decide), h90, nIle (show pn p < 2 ^ 31 by omega) (show k < 2 ^ 31 by omega), if_neg (show ¬ pn p ≤ k by omega), e8', Option.bind_some, un1, e9, un2, bnd, m_takesBack, nIlt (show x.1 < 2 ^ 31 by omega) (show (wcs (wcx tb p) k).2 < 2 ^ 31 by omega), j_X10_worst_52_21, nI_1]
      rw [wcs, ← hx2]
      by_cases c : x.1 < (wcs (wcx tb p) k).2
      · rw [if_pos c, if_pos c]
        rfl
      · rw [if_neg c, if_neg c]
    · rw [arW, if_neg h8, ((KN_KM k9) j hj).1, arW, if_neg h8]
      exact k'.1 j hj h8 h9'
    · rw [ivW, ((KN_KM k9) j hj).2, ivW]
      exact k'.2.1 j hj
    · rw [arW, if_pos rfl]
      unfold mix
      rw [if_pos hj]
      exact h99 j hj
    · rw [arW, if_neg (by decide)]
      exact h99 j hj) (by
    rintro s ⟨M', rfl, k', h9⟩
    have h90 : ar M' 9 (0 : Int32).toNatClampNeg = nI (pn p) := (h9 0 (by decide)).trans hM.1
    exact ⟨_, by simp only [s_X10_worst_12_6, un4, gd_t (show ix (0 : Int32) 113 = true by decide), h90, if_pos (Int32.le_refl _)], M', rfl, k'⟩) 5000 (by omega) (enD (wcs (wcx tb p) 0).1, nI (wcs (wcx tb p) 0).2, nI 0, M5) ⟨M5, rfl, kt5, h59⟩
  refine ⟨(enD (wcs (wcx tb p) (pn p)).1, J2, U2, N2), (enD (wcs (wcx tb p) (pn p)).1, M2), ?_, ?_, rfl, INV_q3 hc hU2 k2⟩
  · unfold f_X9_worst
    simp only [bnd]
    rw [show lp (s_X9_worst_9_4 (o 10) (a 0) (Z 0) (Z 3) (Z 10)) 5000 (-2, 1000000000, 0, Z 4, Z 7, Z 8) = _ from e2]
    rfl
  · unfold f_X10_worst
    simp only [e7, Option.bind_some, un1, bnd]
    rw [show lp (s_X10_worst_12_6) 5000 (-2, 1000000000, 0, M5) = _ from e3]
    rfl
-- the tape
theorem INV_tape {o : Nat → Nat} {a aK : Nat → Nat → Nat} {Z B : Nat → OV} {tb : Tb} {p : Pg} {len : Nat} {v : Nat → Nat} {cnt nx : Nat} {q : Nat → Pg} (hI : INVc o a (Z 0) (Z 1) (Z 3) (Z 5) (Z 6) (Z 7) (Z 9) (Z 10) (Z 24) (Z 25) (Z 26) (Z 27) (Z 28) B tb p len v cnt nx q) {T' M' : OV} {len' : Nat} {v' : Nat → Nat} (hT : TPc T' len' v') (h500 : len' ≤ 500) (hv : ∀ i, i < len' → v' i < 256) (k1 : ∀ k, (k ≤ 11 ∨ k = 37) → ar M' k = ar (Z 28) k) (k2 : iv M' 11 = iv (Z 28) 11) (h36 : iv M' 36 = nI len') (h35 : ∀ i, i < len' → ar M' 35 i = nI (v' i)) : INV o a aK (va_up (va_up Z 1 T') 28 M') B := by
  obtain ⟨i1, i2, i3, i4, i5, i6, i7, i8, i9, i10, ⟨m1, m2, m3, m4, m5, m6, m7⟩, ⟨u1, u2, u3, u4, u5, u6⟩⟩ := hI
  refine ⟨tb, p, len', v', cnt, nx, q, i1, i2, hT, i4, i5, i6, i7, i8, i9, i10, ⟨?_, ?_, h36, h35, ?_, ?_, ?_⟩, ⟨u1, u2, u3, h500, hv, u6⟩⟩
  · show RT M' tb
    unfold RT
    rw [k1 1 (by omega), k1 2 (by omega), k1 3 (by omega), k1 4 (by omega), k1 5 (by omega), k1 6 (by omega), k1 7 (by omega)]
    exact m1
  · show RM (ar M' 8) p
    rw [k1 8 (by omega)]; exact m2
  · show iv M' 11 = nI cnt
    rw [k2]; exact m5
  · show ∀ j, j < cnt → RM (fun i => ar M' 10 (113 * (cnt - 1 - j) + i)) (q j)
    rw [k1 10 (by omega)]; exact m6
  · show ∀ i, i < 58 → ar M' 37 i = nI (wds.getD i 0)
    rw [k1 37 (by omega)]; exact m7
theorem ok_back : Ok_back INV := by
  rintro o a aK Z B hI q0
  have hI2 := hI
  obtain ⟨tb, p, len, v, cnt, nx, q, hc⟩ := hI2
  have hc' := hc
  obtain ⟨-, -, ⟨t1, t2⟩, -, -, -, -, -, -, -, ⟨-, -, m3, m4, -⟩, ⟨-, -, -, u4, u5, -⟩⟩ := hc'
  rcases in_or' q0 (show len < 2 ^ 31 - 1 by omega) (Nat.zero_le _) with ⟨e3, h⟩ | ⟨n, -, hn, rfl, c1, c2, e3⟩
  · have e3' : f_X10_in q0 0 (nI len) = some 0 := e3
    refine ⟨(-1, Z 1), (-1, Z 28), ?_, by simp only [f_X10_back, m3, e3', Option.bind_some, un1, if_true], rfl, ?_⟩
    · simp only [f_X9_back, t1]
      by_cases c : q0 < 0
      · rw [if_pos c]
      · rcases h with h | h
        · exact absurd h c
        · rw [if_neg c, if_neg (Int32.not_le.mpr h)]
    · simp only [up_same]
      exact hI
  · have e3' : f_X10_in (nI n) 0 (nI len) = some 1 := e3
    refine ⟨(nI (len - n), sI (Z 1) 1 (nI (len - n))), (nI (len - n), sI (Z 28) 36 (nI (len - n))), ?_, ?_, rfl, INV_tape hc (len' := len - n) (v' := v) ⟨by rw [ivI, if_pos rfl], fun i hi => t2 i (by omega)⟩ (by omega) (fun i hi => u5 i (by omega)) (fun k _ => rfl) (by rw [ivI, if_neg (by decide)]) (by rw [ivI, if_pos rfl]) (fun i hi => m4 i (by omega))⟩
    · simp only [f_X9_back, t1, if_neg (show ¬ nI n < (0 : Int32) from c1), if_pos (Int32.not_lt.mp c2), nI_sub hn, bnd, ivI, if_true]
    · simp only [f_X10_back, m3, e3', Option.bind_some, un1, if_neg (show ¬ (1 : Int32) = 0 by decide), nI_sub hn, bnd, ivI, if_true]
-- bytes of a word
def byN (x : Int32) (j : Nat) : Nat := x.toBitVec.toNat / 2 ^ (24 - 8 * j) % 256
theorem nI_self (x : Int32) : x = nI x.toBitVec.toNat := by
  apply Int32.toBitVec_inj.mp
  show x.toBitVec = BitVec.ofNat 32 x.toBitVec.toNat
  rw [BitVec.ofNat_toNat]
  simp
theorem by_asr (x : Int32) {s : Nat} (hs : s ≤ 24) : (x >>> (nI s &&& 31)) &&& 255 = nI (x.toBitVec.toNat / 2 ^ s % 256) := by
  rw [pk_and (x >>> (nI s &&& 31)) 8 (by decide)]
  have e : (x >>> (nI s &&& 31)).toBitVec.toNat % 2 ^ 8 = x.toBitVec.toNat / 2 ^ s % 2 ^ 8 := by
    apply Nat.eq_of_testBit_eq
    intro i
    rw [Nat.testBit_mod_two_pow, Nat.testBit_mod_two_pow, Nat.testBit_div_two_pow, BitVec.testBit_toNat, BitVec.testBit_toNat, Int32.toBitVec_shiftRight, BitVec.getLsbD_sshiftRight', sh_k s (by omega)]
    by_cases c : i < 8
    · simp [c, show s + i < 32 by omega, show i < 32 by omega, Nat.add_comm]
    · simp [c]
  rw [e]
theorem T_add {T : OV} {aB : Nat → Nat} {N m : Nat} {u : Nat → Nat} (hN : aB 98 = N) (hN2 : N < 2 ^ 31) (h : TPc T m u) (hm : m < N) : ∃ T', f_X0_add aB T (nI (u m)) = some T' ∧ TPc T' (m + 1) u := by
  refine ⟨sI (sA T 0 m (nI (u m))) 1 (nI (m + 1)), ?_, by rw [ivI, if_pos rfl], fun i hi => ?_⟩
  · unfold f_X0_add
    simp only [hN, h.1, show (Int32.ofNat N ≤ nI m) = (N ≤ m) from nIle (by omega) (by omega), if_neg (show ¬ N ≤ m by omega), gd_t (ix_nI hm hN2), nI_clamp (show m < 2 ^ 31 by omega), bnd, ivA, nI_1]
  · rw [arI, arA, if_pos rfl, updE]
    by_cases c : i = m
    · rw [if_pos c, c]
    · rw [if_neg c]; exact h.2 i (by omega)
theorem T_four {T : OV} {aB : Nat → Nat} {m : Nat} {u : Nat → Nat} {x : Int32} (hN : aB 98 = 500) (h : TPc T m u) (hm : m + 4 ≤ 500) (h0 : u m = byN x 0) (h1 : u (m + 1) = byN x 1) (h2 : u (m + 2) = byN x 2) (h3 : u (m + 3) = byN x 3) : ∃ T', f_X0_addFour aB T x = some T' ∧ TPc T' (m + 4) u := by
  have hlt := x.toBitVec.isLt
  have v0 : (x.toUInt32 >>> ((24 : Int32).toUInt32 &&& Int32.toUInt32 31)).toInt32 = nI (u m) := by
    rw [h0, nI_self x, pk_ushrN hlt 24 24 (by decide)]
    unfold byN
    rw [← nI_self x]
    congr 1
    omega
  have v1 : (x.toUInt32 >>> ((16 : Int32).toUInt32 &&& Int32.toUInt32 31)).toInt32 &&& 255 = nI (u (m + 1)) := by
    rw [h1, nI_self x, pk_ushrN hlt 16 16 (by decide), pk_andN (by omega) 8 (by decide)]
    unfold byN
    rw [← nI_self x]
  have v2 : (x.toUInt32 >>> ((8 : Int32).toUInt32 &&& Int32.toUInt32 31)).toInt32 &&& 255 = nI (u (m + 2)) := by
    rw [h2, nI_self x, pk_ushrN hlt 8 8 (by decide), pk_andN (by omega) 8 (by decide)]
    unfold byN
    rw [← nI_self x]
  have v3 : x &&& 255 = nI (u (m + 3)) := by
    rw [h3, pk_and x 8 (by decide)]
    unfold byN
    rw [show 24 - 8 * 3 = 0 by omega, Nat.pow_zero, Nat.div_one]
  obtain ⟨T1, e1, k1⟩ := T_add hN (by decide) h (by omega)
  obtain ⟨T2, e2, k2⟩ := T_add hN (by decide) k1 (by omega)
  obtain ⟨T3, e3, k3⟩ := T_add hN (by decide) k2 (by omega)
  obtain ⟨T4, e4, k4⟩ := T_add hN (by decide) k3 (by omega)
  refine ⟨T4, ?_, k4⟩
  unfold f_X0_addFour
  rw [v0, e1, Option.bind_some]
  simp only [un1]
  rw [v1, e2, Option.bind_some, v2, e3, Option.bind_some, v3, e4]
  rfl
theorem ok_feed : Ok_feed INV := by
  rintro o a aK Z B hI q0 q1 q2 q3 q4
  have hI2 := hI
  obtain ⟨tb, p, len, v, cnt, nx, q, hc⟩ := hI2
  have hc' := hc
  obtain ⟨⟨h98, -⟩, -, ⟨t1, t2⟩, -, -, -, -, -, -, -, ⟨-, -, m3, m4, -⟩, ⟨-, -, -, u4, u5, -⟩⟩ := hc'
  have e480 : (nI len ≤ (480 : Int32)) = (len ≤ 480) := nIle (by omega) (by decide)
  have e500 : (nI len + 20 ≤ (500 : Int32)) = (len + 20 ≤ 500) := by
    rw [show nI len + 20 = nI (len + 20) from nI_add len 20]
    exact nIle (by omega) (by decide)
  by_cases c : len ≤ 480
  · obtain ⟨w, hw⟩ : ∃ w : Nat → Int32, w = fun k => if k < 1 then q0 else if k < 2 then q1 else if k < 3 then q2 else if k < 4 then q3 else q4 := ⟨_, rfl⟩
    obtain ⟨u, hu⟩ : ∃ u : Nat → Nat, u = fun i => if i < len then v i else byN (w ((i - len) / 4)) ((i - len) % 4) := ⟨_, rfl⟩
    have hul : ∀ i, i < len → u i = v i := fun i hi => by rw [hu]; exact if_pos hi
    have huh : ∀ j, u (len + j) = byN (w (j / 4)) (j % 4) := fun j => by rw [hu]; simp only; rw [if_neg (by omega), Nat.add_sub_cancel_left]
    have h0 : TPc (Z 1) len u := ⟨t1, fun i hi => by rw [hul i hi]; exact t2 i hi⟩
    have w0 : w 0 = q0 := by rw [hw]; rfl
    have w1 : w 1 = q1 := by rw [hw]; rfl
    have w2 : w 2 = q2 := by rw [hw]; rfl
    have w3 : w 3 = q3 := by rw [hw]; rfl
    have w4 : w 4 = q4 := by rw [hw]; rfl
    obtain ⟨T1, e1, k1⟩ := T_four (x := q0) h98 h0 (by omega) (by rw [show len = len + 0 from rfl, huh, ← w0]) (by rw [huh, ← w0]) (by rw [huh, ← w0]) (by rw [huh, ← w0])
    obtain ⟨T2, e2, k2⟩ := T_four (x := q1) h98 k1 (by omega) (by rw [huh, ← w1]) (by rw [show len + 4 + 1 = len + 5 by omega, huh, ← w1]) (by rw [show len + 4 + 2 = len + 6 by omega, huh, ← w1]) (by rw [show len + 4 + 3 = len + 7 by omega, huh, ← w1])
    obtain ⟨T3, e3, k3⟩ := T_four (x := q2) h98 k2 (by omega) (by rw [show len + 4 + 4 = len + 8 by omega, huh, ← w2]) (by rw [show len + 4 + 4 + 1 = len + 9 by omega, huh, ← w2]) (by rw [show len + 4 + 4 + 2 = len + 10 by omega, huh, ← w2]) (by rw [show len + 4 + 4 + 3 = len + 11 by omega, huh, ← w2])
    obtain ⟨T4, e4, k4⟩ := T_four (x := q3) h98 k3 (by omega) (by rw [show len + 4 + 4 + 4 = len + 12 by omega, huh, ← w3]) (by rw [show len + 4 + 4 + 4 + 1 = len + 13 by omega, huh, ← w3]) (by rw [show len + 4 + 4 + 4 + 2 = len + 14 by omega, huh, ← w3]) (by rw [show len + 4 + 4 + 4 + 3 = len + 15 by omega, huh, ← w3])
    obtain ⟨T5, e5, k5⟩ := T_four (x := q4) h98 k4 (by omega) (by rw [show len + 4 + 4 + 4 + 4 = len + 16 by omega, huh, ← w4]) (by rw [show len + 4 + 4 + 4 + 4 + 1 = len + 17 by omega, huh, ← w4]) (by rw [show len + 4 + 4 + 4 + 4 + 2 = len + 18 by omega, huh, ← w4]) (by rw [show len + 4 + 4 + 4 + 4 + 3 = len + 19 by omega, huh, ← w4])
    rw [show len + 4 + 4 + 4 + 4 + 4 = len + 20 by omega] at k5
    obtain ⟨r, e6, f, rfl, hf⟩ := lp_inv (step := s_X10_feed_18_2 q0 q1 q2 q3 q4) (fun k s => ∃ f, s = (nI k, sI (sW (Z 28) 35 f) 36 (nI (len + k))) ∧ ∀ i, i < len + k → f i = nI (u i)) (fun r => ∃ f, r = sI (sW (Z 28) 35 f) 36 (nI (len + 20)) ∧ ∀ i, i < len + 20 → f i = nI (u i)) 0 20 (by decide) (by
      rintro k s - hk ⟨f, rfl, hf⟩
      have sA35 : ∀ (f : Nat → Int32) (j x : Nat) (vv : Int32), sI (sA (sI (sW (Z 28) 35 f) 36 (nI x)) 35 j vv) 36 (nI (x + 1)) = sI (sW (Z 28) 35 (upd f j vv)) 36 (nI (x + 1)) := by
        intro f j x vv
        refine Prod.ext (funext fun k => ?_) (Prod.ext (funext fun k => ?_) rfl)
        · simp only [sI, sA, sW, updE]
          by_cases h : k = 36 <;> simp [h]
        · simp only [sI, sA, sW, va_up, ar]
          by_cases h : k = 35
          · subst h; simp
          · simp [h]
      have hb : (w (k / 4) >>> (((24 : Int32) - ((8 : Int32) * (nI k - nI k / (4 : Int32) * (4 : Int32)))) &&& 31)) &&& 255 = nI (u (len + k)) := by
        rw [huh, show nI k - nI k / (4 : Int32) * (4 : Int32) = nI (k % 4) from pk_rem (show k < 2 ^ 31 by omega) (by decide) (by decide), show (8 : Int32) * nI (k % 4) = nI (8 * (k % 4)) from pk_mul 8 _, show (24 : Int32) - nI (8 * (k % 4)) = nI (24 - 8 * (k % 4)) from nI_sub (a := 24) (b := 8 * (k % 4)) (by omega)]
        exact by_asr _ (by omega)
      refine ⟨(nI (k + 1), sI (sW (Z 28) 35 (upd f (len + k) (nI (u (len + k))))) 36 (nI (len + (k + 1)))), ?_, _, rfl, fun i hi => ?_⟩
      · have hj : ∀ t, t = w (k / 4) → j_X10_feed_71_6 (sI (sW (Z 28) 35 f) 36 (nI (len + k))) (nI k) t = some (.inl (nI (k + 1), sI (sW (Z 28) 35 (upd f (len + k) (nI (u (len + k))))) 36 (nI (len + (k + 1))))) := by
          intro t ht
          subst ht
          simp only [j_X10_feed_71_6, bnd, ivI, if_true, gd_t (ix_nI (show len + k < 500 by omega) (show 500 < 2 ^ 31 by decide)), nI_clamp (show len + k < 2 ^ 31 by omega), hb, ivA, nI_1, sA35]
          rfl
        simp only [s_X10_feed_18_2, un2, show ((20 : Int32) ≤ nI k) = (20 ≤ k) from nIle (by decide) (by omega), if_neg (show ¬ 20 ≤ k by omega), show ((4 : Int32) ≤ nI k) = (4 ≤ k) from nIle (by decide) (by omega), show ((8 : Int32) ≤ nI k) = (8 ≤ k) from nIle (by decide) (by omega), show ((12 : Int32) ≤ nI k) = (12 ≤ k) from nIle (by decide) (by omega), show ((16 : Int32) ≤ nI k) = (16 ≤ k) from nIle (by decide) (by omega)]
        by_cases d1 : 4 ≤ k
        · rw [if_pos d1]
          by_cases d2 : 8 ≤ k
          · rw [if_pos d2]
            by_cases d3 : 12 ≤ k
            · rw [if_pos d3]
              by_cases d4 : 16 ≤ k
              · rw [if_pos d4]; exact hj _ (by rw [show k / 4 = 4 by omega, w4])
              · rw [if_neg d4]; exact hj _ (by rw [show k / 4 = 3 by omega, w3])
            · rw [if_neg d3]; exact hj _ (by rw [show k / 4 = 2 by omega, w2])
          · rw [if_neg d2]; exact hj _ (by rw [show k / 4 = 1 by omega, w1])
        · rw [if_neg d1]; exact hj _ (by rw [show k / 4 = 0 by omega, w0])
      · rw [updE]
        by_cases c0 : i = len + k
        · rw [if_pos c0, c0]
        · rw [if_neg c0]; exact hf i (by omega)) (by
      rintro s ⟨f, rfl, hf⟩
      exact ⟨_, by simp only [s_X10_feed_18_2, un2, if_pos (show (20 : Int32) ≤ nI 20 by decide)], f, rfl, hf⟩) 5000 (by omega) (nI 0, Z 28) ⟨ar (Z 28) 35, by
        rw [sW_self, Nat.add_zero, ← m3]
        refine Prod.ext rfl (Prod.ext (funext fun k => ?_) rfl)
        simp only [sI, updE, iv]
        split
        · rename_i h; rw [h]
        · rfl, fun i hi => by rw [hul i (by omega)]; exact m4 i (by omega)⟩
    refine ⟨(nI (len + 20), T5), (nI (len + 20), sI (sW (Z 28) 35 f) 36 (nI (len + 20))), ?_, ?_, rfl, INV_tape hc (v' := u) k5 (by omega) (fun i hi => ?_) (fun k hk => ?_) (by rw [ivI, if_neg (by decide), ivW]) (by rw [ivI, if_pos rfl]) (fun i hi => by rw [arI, arW, if_pos rfl]; exact hf i hi)⟩
    · simp only [f_X9_feed, t1, e480, if_pos c, e1, e2, e3, e4, e5, Option.bind_some, un1, k5.1]
    · simp only [f_X10_feed, m3, e500, if_pos (show len + 20 ≤ 500 by omega), bnd]
      rw [show lp (s_X10_feed_18_2 q0 q1 q2 q3 q4) 5000 (0, Z 28) = _ from e6]
      simp only [Option.bind_some, un1, ivI, if_true]
    · rw [hu]
      simp only
      split
      · exact u5 i (by omega)
      · unfold byN; omega
    · rw [arI, arW, if_neg (by omega)]
  · refine ⟨(-1, Z 1), (-1, Z 28), by simp only [f_X9_feed, t1, e480, if_neg c], by simp only [f_X10_feed, m3, e500, if_neg (show ¬ len + 20 ≤ 500 by omega)], rfl, ?_⟩
    simp only [up_same]
    exact hI
