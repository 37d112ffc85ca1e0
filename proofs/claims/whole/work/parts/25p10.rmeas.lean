theorem RRk_rl {R : OV} {tb : Tb} {p : Pg} {k : Nat} (h : RRk R tb p k) (a b c d e f g : Int32) : RRk (rlS R a b c d e f g) tb p k := h
theorem R_takeAway {Y P : OV} {oP : Nat} {tb : Tb} {p : Pg} (h1 : nv Y 1 = oP) (hY : RRk Y tb p (pn p)) (hP : RP P p) (hs : PgS p) (hT : TbS tb) {a b : Nat} (hab : a ≤ b) (hb : b < pn p) (hg : Bool) (x y : Nat) (hx : x ≤ 1000) (c12 c13 c14 c15 c16 : Int32) : f_X7_takeAway (rlS Y (bo hg) c12 c13 c14 c15 c16 (nI y)) oP P (nI a) (nI b) (nI x) = some (if 0 < dlR (qH tb p a b hg) x 3 then rlS Y 0 1 c13 0 c15 c16 (nI (pw p 2)) else rlS Y (bo hg) c12 c13 (nI x) c15 c16 (nI (y + dlC (qH tb p a b hg) x 3))) := by
  have h40 := hs.1
  have bq : ∀ r, qH tb p a b hg r ≤ 400 := fun r => bdQ hs hT hb hg r
  have eq : ∀ r, qH tb p a b hg r = sg (fQ tb p r) a b + (if fx tb p 6 b = r ∧ hg = false then fx tb p 5 b - fx tb p 4 b else 0) := fun r => rfl
  generalize qH tb p a b hg = q at *
  obtain ⟨r2, r3, r4, r5, r6, r7, r8, r9, r10⟩ := hY
  have hstep : ∀ j, 0 ≤ j → j < 3 → s_X7_takeAway_6_3 (nI a) (nI b) ((fun j => (nI (dlR q x j), nI (j + 1), rlS Y (bo hg) c12 c13 c14 c15 c16 (nI (y + dlC q x j)))) j) = some (.inl ((fun j => (nI (dlR q x j), nI (j + 1), rlS Y (bo hg) c12 c13 c14 c15 c16 (nI (y + dlC q x j)))) (j + 1))) := by
    intro j _ hj
    have b1 := dlR_le q x j
    have b2 := bq (j + 1)
    have g : ¬ (3 : Int32) < nI (j + 1) := nI_nlt (show j + 1 ≤ 3 by omega) (by decide)
    have x4 : ix (nI (j + 1)) 4 = true := ix_nI (by omega) (by decide)
    have xb : ix (nI b) 41 = true := ix_nI (by omega) (by decide)
    have xa : ix (nI a) 41 = true := ix_nI (by omega) (by decide)
    have xb0 : ix (nI b) 40 = true := ix_nI (by omega) (by decide)
    have b6 : fx tb p 6 b ≤ 3 := (hT _ (hs.2.1 b hb).1).2.2.2.2.1
    have e6 : (nI (fx tb p 6 b) = nI (j + 1)) = (fx tb p 6 b = j + 1) := nIe (by omega) (by omega)
    have mo := sm_mono (f := fQ tb p (j + 1)) hab
    simp only [s_X7_takeAway_6_3, un3, if_neg g, gd_t x4, gd_t xb, gd_t xa, gd_t xb0, bnd, nI_clamp (show j + 1 < 2 ^ 31 by omega), nI_clamp (show b < 2 ^ 31 by omega), nI_clamp (show a < 2 ^ 31 by omega), rl_gr, rl_ar, r4 (j + 1) (by omega) (by omega) b (by omega), r4 (j + 1) (by omega) (by omega) a (by omega), r8 b hb, r7 b hb, rl_i11, bo_0, e6, nI_sub mo, nI_add]
    have hj2 : ∀ t, t = nI (q (j + 1)) → j_X7_takeAway_62_11 (rlS Y (bo hg) c12 c13 c14 c15 c16 (nI (y + dlC q x j))) (nI (dlR q x j)) (nI (j + 1)) t = some (.inl (nI (dlR q x (j + 1)), nI (j + 1 + 1), rlS Y (bo hg) c12 c13 c14 c15 c16 (nI (y + dlC q x (j + 1))))) := by
      intro t ht
      subst ht
      have hm : min (q (j + 1)) (dlR q x j) ≤ dlR q x j := Nat.min_le_right _ _
      simp only [j_X7_takeAway_62_11, bnd, mn_nI (show dlR q x j < 2 ^ 31 by omega) (show q (j + 1) < 2 ^ 31 by omega), rl_i17, rl_s17, pk_mul, nI_add, nI_sub hm, nI_1, dlR_s, dlC_s]
      rw [Nat.mul_comm (j + 1), Nat.add_assoc y]
    have eqj := eq (j + 1)
    by_cases c1 : fx tb p 6 b = j + 1
    · cases hg
      · simp only [c1, if_true]
        refine hj2 _ ?_
        rw [eqj]
        simp [c1, sg]
      · simp only [c1, if_true, Bool.true_eq_false, if_false]
        refine hj2 _ ?_
        rw [eqj]
        simp [sg]
    · simp only [c1, if_false]
      refine hj2 _ ?_
      rw [eqj]
      simp [c1, sg]
  have hend : s_X7_takeAway_6_3 (nI a) (nI b) ((fun j => (nI (dlR q x j), nI (j + 1), rlS Y (bo hg) c12 c13 c14 c15 c16 (nI (y + dlC q x j)))) 3) = some (.inr (nI (dlR q x 3), rlS Y (bo hg) c12 c13 c14 c15 c16 (nI (y + dlC q x 3)))) := by
    simp only [s_X7_takeAway_6_3, un3, if_pos (show (3 : Int32) < nI (3 + 1) by decide)]
  have hx3 := lp_for (step := s_X7_takeAway_6_3 (nI a) (nI b)) (fun j => (nI (dlR q x j), nI (j + 1), rlS Y (bo hg) c12 c13 c14 c15 c16 (nI (y + dlC q x j)))) 0 3 (by omega) hstep hend 5000 (by omega)
  have e0 : (nI (dlR q x 0), nI (0 + 1), rlS Y (bo hg) c12 c13 c14 c15 c16 (nI (y + dlC q x 0))) = (nI x, (1 : Int32), rlS Y (bo hg) c12 c13 c14 c15 c16 (nI y)) := rfl
  rw [e0] at hx3
  unfold f_X7_takeAway
  simp only [bnd, hx3, Option.bind_some, un2]
  have b3 := dlR_le q x 3
  have e3 : (nI (dlR q x 3) ≤ (0 : Int32)) = (dlR q x 3 ≤ 0) := nIle (by omega) (by decide)
  have e2 : ar P 3 (2 : Int32).toNatClampNeg = nI (pw p 2) := hP.2.2.2.2.1 2 (by decide)
  simp only [e3, rl_s14, rl_s11, rl_s12, rl_nv, h1, decide_true, gd_T, gd_t (show ix (2 : Int32) 3 = true by decide), rl_s17, e2]
  by_cases c : dlR q x 3 ≤ 0
  · rw [if_pos c, if_neg (by omega)]
  · rw [if_neg c, if_pos (by omega)]
theorem R_openGaps {Y P : OV} {oP : Nat} {tb : Tb} {p : Pg} (h1 : nv Y 1 = oP) (hY : RRk Y tb p (pn p)) (hP : RP P p) (hs : PgS p) (hT : TbS tb) {a b : Nat} (hab : a ≤ b) (hb : b < pn p) (x y : Nat) (hx : x ≤ 1000) (c11 c12 c13 c14 c15 c16 : Int32) : f_X7_openGaps (rlS Y c11 c12 c13 c14 c15 c16 (nI y)) oP P (nI a) (nI b) (nI x) = some (rlS Y c11 c12 c13 c14 (nI (x - dlR (msO tb p a b) x 3)) (nI (dlR (msO tb p a b) x 3)) (nI (y + dlC (msO tb p a b) x 3 + dlR (msO tb p a b) x 3 * pw p 1))) := by
  have h40 := hs.1
  have bq : ∀ r, msO tb p a b r ≤ 400 := fun r => bdO hs hT hb r
  have eq : ∀ r, msO tb p a b r = sm (fO tb p r) b - sm (fO tb p r) a := fun r => rfl
  generalize msO tb p a b = q at *
  obtain ⟨r2, r3, r4, r5, r6, r7, r8, r9, r10⟩ := hY
  have hstep : ∀ j, 0 ≤ j → j < 3 → s_X7_openGaps_6_3 (nI a) (nI b) ((fun j => (nI (dlR q x j), nI (j + 1), rlS Y c11 c12 c13 c14 c15 c16 (nI (y + dlC q x j)))) j) = some (.inl ((fun j => (nI (dlR q x j), nI (j + 1), rlS Y c11 c12 c13 c14 c15 c16 (nI (y + dlC q x j)))) (j + 1))) := by
    intro j _ hj
    have b1 := dlR_le q x j
    have b2 := bq (j + 1)
    have g : ¬ (3 : Int32) < nI (j + 1) := nI_nlt (show j + 1 ≤ 3 by omega) (by decide)
    have x4 : ix (nI (j + 1)) 4 = true := ix_nI (by omega) (by decide)
    have xb : ix (nI b) 41 = true := ix_nI (by omega) (by decide)
    have xa : ix (nI a) 41 = true := ix_nI (by omega) (by decide)
    have mo := sm_mono (f := fO tb p (j + 1)) hab
    have hm : min (q (j + 1)) (dlR q x j) ≤ dlR q x j := Nat.min_le_right _ _
    simp only [s_X7_openGaps_6_3, un3, if_neg g, gd_t x4, gd_t xb, gd_t xa, bnd, nI_clamp (show j + 1 < 2 ^ 31 by omega), nI_clamp (show b < 2 ^ 31 by omega), nI_clamp (show a < 2 ^ 31 by omega), rl_gr, r5 (j + 1) (by omega) (by omega) b (by omega), r5 (j + 1) (by omega) (by omega) a (by omega), nI_sub mo, ← eq (j + 1), mn_nI (show dlR q x j < 2 ^ 31 by omega) (show q (j + 1) < 2 ^ 31 by omega), rl_i17, rl_s17, pk_mul, nI_add, nI_sub hm, nI_1, dlR_s, dlC_s]
    rw [Nat.mul_comm (j + 1), Nat.add_assoc y]
  have hend : s_X7_openGaps_6_3 (nI a) (nI b) ((fun j => (nI (dlR q x j), nI (j + 1), rlS Y c11 c12 c13 c14 c15 c16 (nI (y + dlC q x j)))) 3) = some (.inr (nI (dlR q x 3), rlS Y c11 c12 c13 c14 c15 c16 (nI (y + dlC q x 3)))) := by
    simp only [s_X7_openGaps_6_3, un3, if_pos (show (3 : Int32) < nI (3 + 1) by decide)]
  have hx3 := lp_for (step := s_X7_openGaps_6_3 (nI a) (nI b)) (fun j => (nI (dlR q x j), nI (j + 1), rlS Y c11 c12 c13 c14 c15 c16 (nI (y + dlC q x j)))) 0 3 (by omega) hstep hend 5000 (by omega)
  have e0 : (nI (dlR q x 0), nI (0 + 1), rlS Y c11 c12 c13 c14 c15 c16 (nI (y + dlC q x 0))) = (nI x, (1 : Int32), rlS Y c11 c12 c13 c14 c15 c16 (nI y)) := rfl
  rw [e0] at hx3
  have b3 := dlR_le q x 3
  have e2 : ar P 3 (1 : Int32).toNatClampNeg = nI (pw p 1) := hP.2.2.2.2.1 1 (by decide)
  unfold f_X7_openGaps
  simp only [bnd, hx3, Option.bind_some, un2, rl_s15, rl_s16, rl_nv, h1, decide_true, gd_T, gd_t (show ix (1 : Int32) 3 = true by decide), rl_i17, rl_s17, e2, nI_sub b3, pk_mul, nI_add]
theorem R_meas2 {Y P : OV} {oP : Nat} {tb : Tb} {p : Pg} (h1 : nv Y 1 = oP) (hY : RRk Y tb p (pn p)) (hP : RP P p) (hs : PgS p) (hT : TbS tb) {a b : Nat} (hab : a ≤ b) (hb : b < pn p) (c13 : Int32) (y : Nat) (hy : y = if msH tb p a b = true then pw p 0 else 0) : j_X7_measure_119_10 oP P (nI a) (nI b) (nI (msA tb p a b) - nI (pd p)) (rlS Y (bo (msH tb p a b)) 0 c13 0 0 0 (nI y)) = some (RLD Y tb p a b) := by
  have h40 := hs.1
  have hd := hs.2.2.2.1
  have hA := msA_le (a := a) hs hT hb
  have e2 : ar P 3 (2 : Int32).toNatClampNeg = nI (pw p 2) := hP.2.2.2.2.1 2 (by decide)
  have xb0 : ix (nI b) 40 = true := ix_nI (by omega) (by decide)
  have cb := nI_clamp (show b < 2 ^ 31 by omega)
  have e10 : ar Y 10 b = bo (lgl p b) := hY.2.2.2.2.2.2.2.2 b hb
  have eab : (nI b = nI a) = (a = b) := by rw [nIe (by omega) (by omega)]; exact propext ⟨Eq.symm, Eq.symm⟩
  have hE : ∀ (hg lo : Bool) (tk pu le y : Nat), j_X7_measure_158_12 oP P (nI a) (nI b) (rlS Y (bo hg) (bo lo) c13 (nI tk) (nI pu) (nI le) (nI y)) = some (rlS Y (bo hg) (bo lo) (bo (!lo || decide (a = b))) (nI tk) (nI pu) (nI le) (nI (y + mbad p b))) := by
    intro hg lo tk pu le y
    simp only [j_X7_measure_158_12, gd_t xb0, cb, rl_ar, e10, bo_0, rl_nv, h1, decide_true, gd_T, gd_t (show ix (2 : Int32) 3 = true by decide), bnd, rl_i17, rl_s17, e2, nI_add, j_X7_measure_185_14, j_X7_measure_198_15, rl_i12, rl_s13, eab, mbad]
    by_cases c : a = b <;> cases lgl p b <;> cases lo <;> simp [c, bo_t, bo_f]
  simp only [j_X7_measure_119_10, sub_le0 (show msA tb p a b < 2 ^ 30 by omega) (show pd p < 2 ^ 30 by omega), sub_ge0 (show msA tb p a b < 2 ^ 30 by omega) (show pd p < 2 ^ 30 by omega), rl_nv, h1, decide_true, gd_T, hP.1, nI_m1 (show 0 < pn p by omega), nIle (show pn p - 1 < 2 ^ 31 by omega) (show b < 2 ^ 31 by omega)]
  by_cases cA : msA tb p a b ≤ pd p
  · have hM0 : msM tb p a b = 0 := by unfold msM; omega
    have hlo : mlong tb p a b = false := by unfold mlong; rw [hM0, dlR_0]; rfl
    rw [if_pos cA]
    have hz : msL tb p a b = 0 → j_X7_measure_158_12 oP P (nI a) (nI b) (rlS Y (bo (msH tb p a b)) 0 c13 0 0 0 (nI y)) = some (RLD Y tb p a b) := by
      intro hL0
      have := hE (msH tb p a b) false 0 0 0 y
      rw [bo_f, nI_0] at this
      rw [this]
      simp [RLD, mhung, hlo, mtake, hM0, mput, mleft, hL0, dlR_0, dlC_0, bo_f, nI_0, mcost, hy]
    by_cases c0 : pd p ≤ msA tb p a b
    · rw [if_pos c0]
      exact hz (by unfold msL; split <;> omega)
    · rw [if_neg c0]
      by_cases cb : pn p - 1 ≤ b
      · rw [if_pos cb]
        exact hz (by unfold msL; rw [if_neg (by omega)])
      · have hL1 : msL tb p a b = pd p - msA tb p a b := by unfold msL; rw [if_pos (by omega)]
        rw [if_neg cb, neg_subI cA, R_openGaps h1 hY hP hs hT hab hb _ _ (by omega)]
        simp only [Option.bind_some, un1]
        rw [← hL1]
        have := hE (msH tb p a b) false 0 (msL tb p a b - dlR (msO tb p a b) (msL tb p a b) 3) (dlR (msO tb p a b) (msL tb p a b) 3) (y + dlC (msO tb p a b) (msL tb p a b) 3 + dlR (msO tb p a b) (msL tb p a b) 3 * pw p 1)
        rw [bo_f, nI_0] at this
        rw [this]
        simp [RLD, mhung, hlo, mtake, hM0, mput, mleft, dlC_0, bo_f, nI_0, mcost, hy]
  · have hL0 : msL tb p a b = 0 := by unfold msL; split <;> omega
    rw [if_neg cA, nI_sub (by omega), R_takeAway h1 hY hP hs hT hab hb _ _ _ (by omega)]
    simp only [Option.bind_some, un1]
    rw [← msQ_q, show msA tb p a b - pd p = msM tb p a b from rfl]
    by_cases cl : 0 < dlR (msQ tb p a b) (msM tb p a b) 3
    · have hlo : mlong tb p a b = true := by unfold mlong; exact decide_eq_true cl
      rw [if_pos cl]
      have := hE false true 0 0 0 (pw p 2)
      rw [bo_f, bo_t, nI_0] at this
      rw [this]
      simp [RLD, mhung, hlo, mtake, mput, mleft, hL0, dlR_0, bo_f, bo_t, nI_0, mcost]
    · have hlo : mlong tb p a b = false := by unfold mlong; exact decide_eq_false cl
      rw [if_neg cl]
      have := hE (msH tb p a b) false (msM tb p a b) 0 0 (y + dlC (msQ tb p a b) (msM tb p a b) 3)
      rw [bo_f, nI_0] at this
      rw [this]
      simp [RLD, mhung, hlo, mtake, mput, mleft, hL0, dlR_0, dlC_0, bo_f, nI_0, mcost, hy]
theorem R_measure {R P : OV} {oP : Nat} {tb : Tb} {p : Pg} (h1 : nv R 1 = oP) (hY : RRk R tb p (pn p)) (hP : RP P p) (hs : PgS p) (hT : TbS tb) (hpt : PgT tb p) {a b : Nat} (hab : a ≤ b) (hb : b < pn p) : f_X7_measure R oP P (nI a) (nI b) = some (RLD R tb p a b) := by
  have h40 := hs.1
  have hd := hs.2.2.2.1
  have b3 : fx tb p 3 b ≤ 1 := (hT _ (hs.2.1 b hb).1).2.1
  have tr := msN_trim hs hT hpt hab hb
  have bN : msN tb p a b ≤ 400 := by
    have := bdW (a := a) hs hT (show b + 1 ≤ pn p by omega)
    rw [msN_sg]
    omega
  have k0 : R = rlS R (iv R 11) (iv R 12) (iv R 13) (iv R 14) (iv R 15) (iv R 16) (iv R 17) := rl_eta R
  have x1 : ix (nI (b + 1)) 41 = true := ix_nI (by omega) (by decide)
  have xa : ix (nI a) 41 = true := ix_nI (by omega) (by decide)
  have xb : ix (nI b) 40 = true := ix_nI (by omega) (by decide)
  have xb1 : ix (nI b) 41 = true := ix_nI (by omega) (by decide)
  have ca := nI_clamp (show a < 2 ^ 31 by omega)
  have cb := nI_clamp (show b < 2 ^ 31 by omega)
  have cb1 := nI_clamp (show b + 1 < 2 ^ 31 by omega)
  have e0 : ar P 3 (0 : Int32).toNatClampNeg = nI (pw p 0) := hP.2.2.2.2.1 0 (by decide)
  have e20 : (nI (fx tb p 3 b) = (0 : Int32)) = (fx tb p 3 b = 0) := nIe (by omega) (by decide)
  have mo := sm_mono (f := fx tb p 0) (show a ≤ b + 1 by omega)
  have mo2 := sm_mono (f := fx tb p 0) hab
  have hN : nI (sm (fx tb p 0) (b + 1)) - nI (sm (fx tb p 0) a) - nI (fx tb p 4 b) = nI (msN tb p a b) := by rw [nI_sub mo]; exact nI_sub tr.2
  have noH : msH tb p a b = false → j_X7_measure_119_10 oP P (nI a) (nI b) (nI (msN tb p a b) - nI (pd p)) (rlS R 0 0 (iv R 13) 0 0 0 0) = some (RLD R tb p a b) := by
    intro hH
    have := R_meas2 h1 hY hP hs hT hab hb (iv R 13) 0 (by rw [hH]; rfl)
    rw [hH, show msA tb p a b = msN tb p a b by unfold msA; rw [hH]; rfl] at this
    exact this
  unfold f_X7_measure
  rw [k0]
  simp only [bnd, rl_s11, rl_s12, rl_s14, rl_s15, rl_s16, rl_s17, rl_rl, rl_nv, rl_ar, rl_i13, nI_1, gd_t x1, gd_t xa, gd_t xb, gd_t xb1, ca, cb, cb1, h1, decide_true, gd_T, hY.1 (b + 1) (by omega), hY.1 a (by omega), hY.1 b (by omega), hY.2.2.2.2.1 b hb, hY.2.2.2.2.2.2.2.1 b hb, hP.2.2.2.2.2.1, hN, gd_t (show ix (0 : Int32) 3 = true by decide), e0]
  simp only [sub_le0 (show msN tb p a b < 2 ^ 30 by omega) (show pd p < 2 ^ 30 by omega), e20, nIle (show b < 2 ^ 31 by omega) (show a < 2 ^ 31 by omega)]
  have fin : RLD (rlS R (iv R 11) (iv R 12) (iv R 13) (iv R 14) (iv R 15) (iv R 16) (iv R 17)) tb p a b = RLD R tb p a b := by rw [← k0]
  rw [fin]
  by_cases c1 : msN tb p a b ≤ pd p
  · rw [if_pos c1]
    exact noH (by unfold msH; exact decide_eq_false (by omega))
  · rw [if_neg c1]
    by_cases c3 : b ≤ a
    · rw [if_pos c3]
      exact noH (by unfold msH; exact decide_eq_false (by omega))
    · rw [if_neg c3]
      by_cases c2 : fx tb p 3 b = 0
      · rw [if_pos c2]
        exact noH (by unfold msH; exact decide_eq_false (by omega))
      · rw [if_neg c2]
        have hH : msH tb p a b = true := by unfold msH; exact decide_eq_true (by omega)
        have := R_meas2 h1 hY hP hs hT hab hb (iv R 13) (pw p 0) (by rw [hH]; rfl)
        rw [hH, show msA tb p a b = sm (fx tb p 0) b - sm (fx tb p 0) a by unfold msA; rw [hH]; rfl] at this
        rw [nI_sub mo2]
        exact this
