theorem INV_q4 {o : Nat → Nat} {a aK : Nat → Nat → Nat} {Z B : Nat → OV} {tb : Tb} {p : Pg} {len : Nat} {v : Nat → Nat} {cnt nx : Nat} {q : Nat → Pg} (hI : INVc o a (Z 0) (Z 1) (Z 3) (Z 5) (Z 6) (Z 7) (Z 9) (Z 10) (Z 24) (Z 25) (Z 26) (Z 27) (Z 28) B tb p len v cnt nx q) {L' R' W' M' : OV} (hL : ∀ k, nv L' k = nv (Z 0) k) (hR0 : R0 R') (hR : iv L' 12 = 0 ∨ RR (o 10) (a 0 2) R' tb p) (hW : WR W' tb p) (hM : KM (Z 28) M') : INV o a aK (va_up (va_up (va_up (va_up Z 0 L') 6 R') 9 W') 28 M') B := by
  obtain ⟨i1, ⟨i2, i2'⟩, i3, i4, i5, i6, i7, i8, i9, i10, i11, i12⟩ := hI
  exact ⟨tb, p, len, v, cnt, nx, q, i1, ⟨(hL 10).trans i2, (hL 11).trans i2'⟩, i3, i4, i5, i6, ⟨hR0, i7.2⟩, hR, i9, Or.inr hW, KM_MOD hM i11, i12⟩
theorem W_total {W : OV} {tb : Tb} {p : Pg} (h : WR W tb p) : f_X8_total W = some (lN (if pn p = 0 then 0 else (wf tb p 0).1)) := by
  unfold f_X8_total
  obtain ⟨h2, h3⟩ := h
  have := (h3 0 (Nat.zero_le _)).1
  have c0 : (0 : Int32).toNatClampNeg = 0 := rfl
  have x0 : ix (0 : Int32) 41 = true := by decide
  by_cases c : pn p = 0
  · rw [h2, decide_eq_true c, if_neg (by decide), if_pos c]
    rfl
  · rw [h2, decide_eq_false c, if_pos (by decide), if_neg c, gd_t x0, c0, this]
    rfl
theorem up4_same (Z : Nat → OV) (i j k l : Nat) : va_up (va_up (va_up (va_up Z i (Z i)) j (Z j)) k (Z k)) l (Z l) = Z := by
  rw [up_same, up_same, up_same, up_same]
theorem nn_or (q : Int32) : q < 0 ∨ ∃ r, r < 2 ^ 31 ∧ q = nI r := by
  by_cases c : q < 0
  · exact Or.inl c
  · right
    have h : ¬ q.toInt < 0 := fun h => c (Int32.lt_iff_toInt_lt.2 h)
    have h2 := Int32.toInt_lt q
    refine ⟨q.toInt.toNat, by omega, ?_⟩
    apply Int32.toInt_inj.1
    rw [nI_toInt (by omega)]
    omega
theorem ok_ways : Ok_ways INV := by
  rintro o a aK Z B hI -
  have hI2 := hI
  obtain ⟨tb, p, len, v, cnt, nx, q, hc⟩ := hI2
  have hc' := hc
  obtain ⟨-, ⟨i2, -⟩, -, hPG, -, ⟨hC, -⟩, ⟨hR0, -⟩, hr, -, hW, ⟨hRT, hM, -⟩, ⟨hT, -, hG, -⟩⟩ := hc'
  have hs := hG.1
  have hpt := hG.2.1
  have hP := hPG.1
  have h40 := hs.1
  obtain ⟨L', R', W', e1, hl, hR0', hR', hW'⟩ := L_ways (a := a) i2 hR0 hr hC hP hs hT hpt hW
  have e2 := W_total hW'
  have hu : ∀ r M', f_X10_ways (Z 28) = some (r, M') → KM (Z 28) M' → r = ((if (1000000000 : Int64) < lN (if pn p = 0 then 0 else (wf tb p 0).1) then (1000000000 : Int64) else lN (if pn p = 0 then 0 else (wf tb p 0).1)).toInt32) → (∃ (u : Int32 × OV × OV × OV) (w : Int32 × OV), f_X9_ways (a 0) (Z 0) (Z 3) (Z 6) (Z 9) (o 10) (Z 10) = some u ∧ f_X10_ways (Z 28) = some w ∧ w.1 = u.1 ∧ INV o a aK (va_up (va_up (va_up (va_up Z 0 u.2.1) 6 u.2.2.1) 9 u.2.2.2) 28 w.2) B) := by
    intro r M' h1 h2 h3
    exact ⟨(_, L', R', W'), (r, M'), by unfold f_X9_ways; rw [e1, Option.bind_some]; simp only [un3, e2, Option.bind_some, un1]; rfl, h1, h3, INV_q4 hc hl hR0' hR' hW' h2⟩
  have x0 : ix (0 : Int32) 41 = true := by decide
  have c0 : (0 : Int32).toNatClampNeg = 0 := rfl
  have e0 : (nI (pn p) = (0 : Int32)) = (pn p = 0) := nIe (by omega) (by decide)
  by_cases c : pn p = 0
  · refine hu 0 (Z 28) ?_ (KM_rf _) ?_
    · unfold f_X10_ways
      simp only [M_many hM, Option.bind_some, un1, e0, if_pos c]
    · rw [if_pos c]
      decide
  · obtain ⟨M', e3, hk, ht⟩ := M_laysWays hM hs hRT hT hpt
    have t0 := (ht 0 (Nat.zero_le _)).1
    have b0 := wf_b62 (tb := tb) hs 0
    have lt0 : (wf tb p 0).1 < 2 ^ 62 := by omega
    have cm : (lg_cmp (lN (wf tb p 0).1) (1000000000 : Int64) ≤ 0) = ((wf tb p 0).1 ≤ 1000000000) := lNle lt0 (show 1000000000 < 2 ^ 62 by decide)
    have cm2 : ((1000000000 : Int64) < lN (wf tb p 0).1) = (1000000000 < (wf tb p 0).1) := by
      have : (1000000000 : Int64) = lN 1000000000 := rfl
      rw [this, Int64.lt_iff_toInt_lt, lN_toI lt0, lN_toI (by decide)]
      exact propext ⟨fun h => by omega, fun h => by omega⟩
    simp only [if_neg c, cm2] at hu
    have hf : f_X10_ways (Z 28) = (if (wf tb p 0).1 ≤ 1000000000 then some ((lN (wf tb p 0).1).toInt32, M') else some (1000000000, M')) := by
      unfold f_X10_ways
      simp only [M_many hM, Option.bind_some, un1, e0, if_neg c, e3, gd_t x0, c0, t0, cm]
    by_cases c2 : (wf tb p 0).1 ≤ 1000000000
    · rw [if_pos c2] at hf
      refine hu _ _ hf hk ?_
      rw [if_neg (by omega)]
    · rw [if_neg c2] at hf
      refine hu _ _ hf hk ?_
      rw [if_pos (by omega)]
      rfl
theorem ok_fewest : Ok_fewest INV := by
  rintro o a aK Z B hI -
  have hI2 := hI
  obtain ⟨tb, p, len, v, cnt, nx, q, hc⟩ := hI2
  have hc' := hc
  obtain ⟨-, ⟨i2, -⟩, -, hPG, -, ⟨hC, -⟩, ⟨hR0, -⟩, hr, -, hW, ⟨hRT, hM, -⟩, ⟨hT, -, hG, -⟩⟩ := hc'
  have hs := hG.1
  have hpt := hG.2.1
  have hP := hPG.1
  have h40 := hs.1
  obtain ⟨L', R', W', e1, hl, hR0', hR', hW'⟩ := L_ways (a := a) i2 hR0 hr hC hP hs hT hpt hW
  have e2 := W_total hW'
  have x0 : ix (0 : Int32) 41 = true := by decide
  have c0 : (0 : Int32).toNatClampNeg = 0 := rfl
  have e0 : (nI (pn p) = (0 : Int32)) = (pn p = 0) := nIe (by omega) (by decide)
  have w0 := (hW'.2 0 (Nat.zero_le _)).2
  have b0 := wf_b62 (tb := tb) hs 0
  have lt0 : (wf tb p 0).1 < 2 ^ 62 := by omega
  have cm : (lg_cmp (lN (wf tb p 0).1) (0 : Int64) = 0) = ((wf tb p 0).1 = 0) := lNe lt0 (show 0 < 2 ^ 62 by decide)
  have hf : f_X9_fewest (a 0) (Z 0) (Z 3) (Z 6) (Z 9) (o 10) (Z 10) = some (if pn p = 0 ∨ (wf tb p 0).1 = 0 then -2 else nI (wf tb p 0).2, L', R', W') := by
    unfold f_X9_fewest
    rw [e1, Option.bind_some]
    simp only [un3, e2, Option.bind_some, un1]
    by_cases c : pn p = 0
    · simp only [if_pos c, if_pos (Or.inl c : pn p = 0 ∨ (wf tb p 0).1 = 0)]
      rfl
    · simp only [if_neg c, cm, gd_t x0, c0, w0]
      by_cases c2 : (wf tb p 0).1 = 0
      · rw [if_pos c2, if_pos (Or.inr c2)]
      · rw [if_neg c2, if_neg (fun h => h.elim c c2)]
  by_cases c : pn p = 0
  · refine ⟨_, (-2, Z 28), hf, ?_, ?_, INV_q4 hc hl hR0' hR' hW' (KM_rf _)⟩
    · unfold f_X10_fewest
      simp only [M_many hM, Option.bind_some, un1, e0, if_pos c]
    · rw [if_pos (Or.inl c)]
  · obtain ⟨M', e3, hk, ht⟩ := M_laysWays hM hs hRT hT hpt
    obtain ⟨t0, t1⟩ := ht 0 (Nat.zero_le _)
    refine ⟨_, (if pn p = 0 ∨ (wf tb p 0).1 = 0 then -2 else nI (wf tb p 0).2, M'), hf, ?_, rfl, INV_q4 hc hl hR0' hR' hW' hk⟩
    unfold f_X10_fewest
    simp only [M_many hM, Option.bind_some, un1, e0, if_neg c, e3, gd_t x0, c0, t0, t1, cm, ew]
    by_cases c2 : (wf tb p 0).1 = 0
    · simp only [if_pos c2, if_pos (Or.inr c2 : pn p = 0 ∨ (wf tb p 0).1 = 0)]
    · simp only [if_neg c2, if_neg (fun h => h.elim c c2 : ¬ (pn p = 0 ∨ (wf tb p 0).1 = 0))]
-- one way, from line to line
theorem wS {tb : Tb} {p : Pg} {a b : Nat} (h : a ≤ b) : (wfin tb p (wf tb p) a (b + 1)).1 = (wfin tb p (wf tb p) a b).1 + (if stp tb p a b = true then (wf tb p (b + 1)).1 else 0) := by
  rw [wfin_s h]
  by_cases c : stp tb p a b = true
  · rw [if_pos c]
    by_cases d : 0 < (wf tb p (b + 1)).1
    · rw [if_pos ⟨c, d⟩]
    · rw [if_neg (fun h => d h.2)]
      omega
  · rw [if_neg (fun h => c h.1), if_neg c]
    rfl
theorem way_to {tb : Tb} {p : Pg} (hs : PgS p) (hT : TbS tb) (hpt : PgT tb p) {a rest : Nat} (ha : a < pn p) (h : rest < (wf tb p a).1) : ∃ t, a ≤ t ∧ t ≤ rch tb p a ∧ (∀ b, a ≤ b → b ≤ t → (wfin tb p (wf tb p) a b).1 ≤ rest) ∧ rest < (wfin tb p (wf tb p) a (t + 1)).1 := by
  have hr := rch_spec (tb := tb) ha
  rw [wf_eq hs ha, wfin_rch hs hT hpt _ ha] at h
  have hm : (fun b => decide ((wfin tb p (wf tb p) a (b + 1)).1 ≤ rest)) (rch tb p a) = false := decide_eq_false (by omega)
  obtain ⟨a1, a2, a3, a4⟩ := scn_spec (c := fun b => decide ((wfin tb p (wf tb p) a (b + 1)).1 ≤ rest)) hm (pn p) a hr.1 (by omega)
  refine ⟨_, a1, a2, fun b b1 b2 => ?_, ?_⟩
  · rcases Nat.lt_or_ge a b with h2 | h2
    · have := of_decide_eq_true (a3 (b - 1) (by omega) (by omega))
      rw [show b - 1 + 1 = b by omega] at this
      exact this
    · rw [wfin_n b (by omega)]
      exact Nat.zero_le _
  · have := of_decide_eq_false a4
    omega
theorem W_line {W R P : OV} {oC oP : Nat} {tb : Tb} {p : Pg} (hR : RR oC oP R tb p) (hP : RP P p) (hs : PgS p) (hT : TbS tb) (hpt : PgT tb p) (hW : WR W tb p) {a rest t : Nat} (ha : a < pn p) (h : rest < (wf tb p a).1) (t1 : a ≤ t) (t2 : t ≤ rch tb p a) (t3 : ∀ b, a ≤ b → b ≤ t → (wfin tb p (wf tb p) a b).1 ≤ rest) (t4 : rest < (wfin tb p (wf tb p) a (t + 1)).1) : ∃ R', lp (s_X8_endOf_55_16 oP W P (nI a) (nI (rch tb p a))) 5000 (lN rest, nI a, R) = some (.inl (lN (rest - (wfin tb p (wf tb p) a t).1), nI t, R')) ∧ RR oC oP R' tb p := by
  have h40 := hs.1
  have hrs := rch_spec (tb := tb) ha
  have hre := wf_b62 (tb := tb) hs a
  have hst : ∀ b R', a ≤ b → b < rch tb p a → RR oC oP R' tb p → ∃ R'', RR oC oP R'' tb p ∧ s_X8_endOf_55_16 oP W P (nI a) (nI (rch tb p a)) (lN (rest - (wfin tb p (wf tb p) a b).1), nI b, R') = (if stp tb p a b = false then some (.inl (lN (rest - (wfin tb p (wf tb p) a b).1), nI (b + 1), R'')) else if (wf tb p (b + 1)).1 ≤ rest - (wfin tb p (wf tb p) a b).1 then some (.inl (lN (rest - (wfin tb p (wf tb p) a b).1) - lN (wf tb p (b + 1)).1, nI (b + 1), R'')) else some (.inr (.inl (lN (rest - (wfin tb p (wf tb p) a b).1), nI b, R'')))) := by
    intro b R' h1 h2 hR'
    have x1 : ix (nI (b + 1)) 41 = true := ix_nI (by omega) (by decide)
    have cb := nI_clamp (show b + 1 < 2 ^ 31 by omega)
    obtain ⟨R'', e3, hR''⟩ := R_isStep hR' hP hs hT hpt h1 (show b < pn p by omega)
    have w0 := (hW.2 (b + 1) (by omega)).1
    have w0' : al W 0 (b + 1) = lN (wf tb p (b + 1)).1 := w0
    have bT := wf_b62 (tb := tb) hs (b + 1)
    refine ⟨R'', hR'', ?_⟩
    simp only [s_X8_endOf_55_16, un3, nIle (show rch tb p a < 2 ^ 31 by omega) (show b < 2 ^ 31 by omega), if_neg (show ¬ rch tb p a ≤ b by omega), e3, Option.bind_some, un2, bo_0, nI_1, gd_t x1, cb, w0', lNge (show rest - (wfin tb p (wf tb p) a b).1 < 2 ^ 62 by omega) (show (wf tb p (b + 1)).1 < 2 ^ 62 by omega), j_X8_endOf_105_24, bnd]
  obtain ⟨r, e, R', rfl, hR'⟩ := lp_inv (step := s_X8_endOf_55_16 oP W P (nI a) (nI (rch tb p a))) (fun b s => ∃ R', s = (lN (rest - (wfin tb p (wf tb p) a b).1), nI b, R') ∧ RR oC oP R' tb p) (fun r => ∃ R', r = .inl (lN (rest - (wfin tb p (wf tb p) a t).1), nI t, R') ∧ RR oC oP R' tb p) a t t1 (by
    rintro b s h1 h2 ⟨R', rfl, hR'⟩
    obtain ⟨R'', hR'', e⟩ := hst b R' h1 (by omega) hR'
    have u := t3 (b + 1) (by omega) (by omega)
    rw [wS h1] at u
    refine ⟨(lN (rest - (wfin tb p (wf tb p) a (b + 1)).1), nI (b + 1), R''), ?_, R'', rfl, hR''⟩
    rw [wS h1]
    cases c : stp tb p a b
    · rw [e, c, if_pos rfl, if_neg (by simp)]
      rfl
    · rw [c, if_pos rfl] at u
      rw [e, c, if_neg (by simp), if_pos (by omega), if_pos rfl, lN_sub (by omega)]
      rw [Nat.sub_sub]) (by
    rintro s ⟨R', rfl, hR'⟩
    by_cases c : rch tb p a ≤ t
    · exact ⟨_, by simp only [s_X8_endOf_55_16, un3, nIle (show rch tb p a < 2 ^ 31 by omega) (show t < 2 ^ 31 by omega), if_pos c], R', rfl, hR'⟩
    · obtain ⟨R'', hR'', e⟩ := hst t R' t1 (by omega) hR'
      rw [wS t1] at t4
      have := t3 t t1 (Nat.le_refl _)
      cases c2 : stp tb p a t
      · rw [c2, if_neg (by simp)] at t4
        omega
      · rw [c2, if_pos rfl] at t4
        rw [c2, if_neg (by simp), if_neg (by omega)] at e
        exact ⟨_, e, R'', rfl, hR''⟩) 5000 (by omega) (lN (rest - (wfin tb p (wf tb p) a a).1), nI a, R) ⟨R, rfl, hR⟩
  rw [wfin_n a (Nat.le_refl _)] at e
  exact ⟨R', e, hR'⟩
theorem M_line {M : OV} {tb : Tb} {p : Pg} (hM : RM (ar M 8) p) (hs : PgS p) (hR : RT M tb) (hT : TbS tb) (hpt : PgT tb p) (hW : ∀ j, j ≤ pn p → al M 33 j = lN (wf tb p j).1) {a rest t : Nat} (ha : a < pn p) (h : rest < (wf tb p a).1) (t1 : a ≤ t) (t2 : t < pn p) (t3 : ∀ b, a ≤ b → b ≤ t → (wfin tb p (wf tb p) a b).1 ≤ rest) (t4 : rest < (wfin tb p (wf tb p) a (t + 1)).1) : ∃ M', lp (s_X10_way_62_16 (nI a)) 5000 (lN rest, nI a, M) = some (lN (rest - (wfin tb p (wf tb p) a t).1), nI t, M') ∧ KL M M' := by
  have h40 := hs.1
  have hre := wf_b62 (tb := tb) hs a
  have hst : ∀ b M', a ≤ b → b < pn p → KL M M' → ∃ M'', KL M M'' ∧ s_X10_way_62_16 (nI a) (lN (rest - (wfin tb p (wf tb p) a b).1), nI b, M') = (if stp tb p a b = false then some (.inl (lN (rest - (wfin tb p (wf tb p) a b).1), nI (b + 1), M'')) else if rest - (wfin tb p (wf tb p) a b).1 < (wf tb p (b + 1)).1 then some (.inr (lN (rest - (wfin tb p (wf tb p) a b).1), nI b, M'')) else some (.inl (lN (rest - (wfin tb p (wf tb p) a b).1) - lN (wf tb p (b + 1)).1, nI (b + 1), M''))) := by
    intro b M' h1 h2 hM'
    have x1 : ix (nI (b + 1)) 41 = true := ix_nI (by omega) (by decide)
    have cb := nI_clamp (show b + 1 < 2 ^ 31 by omega)
    obtain ⟨Ma, e3, hMa⟩ := M_mayBe (KL_RM hM' hM) hs (KL_RT hM' hR) hT hpt h1 h2
    have hMa' := KL_tr hM' hMa
    obtain ⟨Mb, e4, hMb⟩ := M_mayBe (KL_RM hMa' hM) hs (KL_RT hMa' hR) hT hpt h1 h2
    have hMb' := KL_tr hMa' hMb
    have wa : al Ma 33 (b + 1) = lN (wf tb p (b + 1)).1 := by rw [KL_al hMa']; exact hW (b + 1) (by omega)
    have wb : al Mb 33 (b + 1) = lN (wf tb p (b + 1)).1 := by rw [KL_al hMb']; exact hW (b + 1) (by omega)
    have bT := wf_b62 (tb := tb) hs (b + 1)
    have q0 := lNlt (show rest - (wfin tb p (wf tb p) a b).1 < 2 ^ 62 by omega) (show (wf tb p (b + 1)).1 < 2 ^ 62 by omega)
    cases c : stp tb p a b
    · rw [c] at e3 e4
      refine ⟨Mb, hMb', ?_⟩
      rw [if_pos rfl]
      simp only [s_X10_way_62_16, un3, e3, Option.bind_some, un2, bo_f, if_true, j_X10_way_87_23, e4, j_X10_way_110_28, bnd, nI_1]
    · rw [c] at e3 e4
      by_cases c2 : rest - (wfin tb p (wf tb p) a b).1 < (wf tb p (b + 1)).1
      · refine ⟨Ma, hMa', ?_⟩
        rw [if_neg (by simp), if_pos c2]
        simp only [s_X10_way_62_16, un3, e3, Option.bind_some, un2, bo_t, if_neg (show ¬ (1 : Int32) = 0 by decide), nI_1, gd_t x1, cb, wa, q0, if_pos c2]
      · refine ⟨Mb, hMb', ?_⟩
        rw [if_neg (by simp), if_neg c2]
        simp only [s_X10_way_62_16, un3, e3, Option.bind_some, un2, bo_t, if_neg (show ¬ (1 : Int32) = 0 by decide), nI_1, gd_t x1, cb, wa, q0, if_neg c2, j_X10_way_87_23, e4, wb, j_X10_way_110_28, bnd]
  obtain ⟨r, e, R', rfl, hR'⟩ := lp_inv (step := s_X10_way_62_16 (nI a)) (fun b s => ∃ R', s = (lN (rest - (wfin tb p (wf tb p) a b).1), nI b, R') ∧ KL M R') (fun r => ∃ R', r = (lN (rest - (wfin tb p (wf tb p) a t).1), nI t, R') ∧ KL M R') a t t1 (by
    rintro b s h1 h2 ⟨R', rfl, hR'⟩
    obtain ⟨R'', hR'', e⟩ := hst b R' h1 (by omega) hR'
    have u := t3 (b + 1) (by omega) (by omega)
    rw [wS h1] at u
    refine ⟨(lN (rest - (wfin tb p (wf tb p) a (b + 1)).1), nI (b + 1), R''), ?_, R'', rfl, hR''⟩
    rw [wS h1]
    cases c : stp tb p a b
    · rw [e, c, if_pos rfl, if_neg (by simp)]
      rfl
    · rw [c, if_pos rfl] at u
      rw [e, c, if_neg (by simp), if_neg (by omega), if_pos rfl, lN_sub (by omega)]
      rw [Nat.sub_sub]) (by
    rintro s ⟨R', rfl, hR'⟩
    obtain ⟨R'', hR'', e⟩ := hst t R' t1 t2 hR'
    rw [wS t1] at t4
    have := t3 t t1 (Nat.le_refl _)
    cases c2 : stp tb p a t
    · rw [c2, if_neg (by simp)] at t4
      omega
    · rw [c2, if_pos rfl] at t4
      rw [c2, if_neg (by simp), if_pos (by omega)] at e
      exact ⟨_, e, R'', rfl, hR''⟩) 5000 (by omega) (lN (rest - (wfin tb p (wf tb p) a a).1), nI a, M) ⟨M, rfl, KL_rf M⟩
  rw [wfin_n a (Nat.le_refl _)] at e
  exact ⟨R', e, hR'⟩
theorem way_walk {W P : OV} {oC oP : Nat} {tb : Tb} {p : Pg} (hP : RP P p) (hs : PgS p) (hT : TbS tb) (hpt : PgT tb p) (hW : WR W tb p) (q1 : Int32) : ∀ m a rest ln (R M : OV) n1 n2, RR oC oP R tb p → RM (ar M 8) p → RT M tb → (∀ j, j ≤ pn p → al M 33 j = lN (wf tb p j).1) → pn p - a ≤ m → a ≤ pn p → ln ≤ a → rest < (wf tb p a).1 → m < n1 → m < n2 → ∃ r R' M' t, lp (s_X8_endOf_16_7 oP W P q1 (nI (pn p))) n1 (lN rest, nI a, nI ln, R) = some (.inr (r, R')) ∧ RR oC oP R' tb p ∧ lp (s_X10_way_49_8 q1) n2 (lN rest, nI ln, nI a, M) = some t ∧ KL M M' ∧ ((∃ x, t = .inl (x, M') ∧ r = (if q1 = -1 then x else -2)) ∨ t = .inr (r, M'))
  | m, a, rest, ln, R, M, 0, _, _, _, _, _, _, _, _, _, h, _ => by omega
  | m, a, rest, ln, R, M, _ + 1, 0, _, _, _, _, _, _, _, _, _, h => by omega
  | m, a, rest, ln, R, M, n1 + 1, n2 + 1, hR, hM, hRT, hA, h1, h2, h3, h4, h5, h6 => by
    have h40 := hs.1
    have z1 : ¬ (nI (pn p) < nI ln) := by rw [nIlt (by omega) (by omega)]; omega
    rcases Nat.lt_or_ge a (pn p) with ha | ha
    · obtain ⟨t, t1, t2, t3, t4⟩ := way_to hs hT hpt ha h4
      have hrs := rch_spec (tb := tb) ha
      obtain ⟨R', e1, hR'⟩ := W_line hR hP hs hT hpt hW ha h4 t1 t2 t3 t4
      obtain ⟨M', e2, hM'⟩ := M_line hM hs hRT hT hpt hA ha h4 t1 (by omega) t3 t4
      have z2 : nI a < nI (pn p) := by rw [nIlt (by omega) (by omega)]; exact ha
      have z3 : ¬ nI (pn p) ≤ nI a := by rw [nIle (by omega) (by omega)]; omega
      have s1 : s_X8_endOf_16_7 oP W P q1 (nI (pn p)) (lN rest, nI a, nI ln, R) = (if nI ln = q1 then some (.inr (.inr (nI t, R'))) else some (.inl (lN (rest - (wfin tb p (wf tb p) a t).1), nI (t + 1), nI (ln + 1), R'))) := by
        simp only [s_X8_endOf_16_7, un4, if_neg z1, if_pos z2, R_reach hR.2.1 hR.2.2 hP hs hT ha, Option.bind_some, un1, bnd, e1, Sum.elim_inl, un3, nI_1]
      have s2 : s_X10_way_49_8 q1 (lN rest, nI ln, nI a, M) = (if nI ln = q1 then some (.inr (.inr (nI t, M'))) else some (.inl (lN (rest - (wfin tb p (wf tb p) a t).1), nI (ln + 1), nI (t + 1), M'))) := by
        simp only [s_X10_way_49_8, un4, M_many hM, Option.bind_some, un1, if_neg z3, bnd, e2, un3, nI_1]
      by_cases c : nI ln = q1
      · rw [if_pos c] at s1 s2
        exact ⟨nI t, R', M', .inr (nI t, M'), lp_r s1, hR', lp_r s2, hM', Or.inr rfl⟩
      · rw [if_neg c] at s1 s2
        rw [lp_l s1, lp_l s2]
        have b1 : rest - (wfin tb p (wf tb p) a t).1 < (wf tb p (t + 1)).1 := by
          have := t3 t t1 (Nat.le_refl _)
          rw [wS t1] at t4
          split at t4 <;> omega
        obtain ⟨r, R2, M2, x, g1, g2, g3, g4, g5⟩ := way_walk hP hs hT hpt hW q1 (m - 1) (t + 1) (rest - (wfin tb p (wf tb p) a t).1) (ln + 1) R' M' n1 n2 hR' (KL_RM hM' hM) (KL_RT hM' hRT) (fun j hj => by rw [KL_al hM']; exact hA j hj) (by omega) (by omega) (by omega) b1 (by omega) (by omega)
        exact ⟨r, R2, M2, x, g1, g2, g3, KL_tr hM' g4, g5⟩
    · have z2 : ¬ nI a < nI (pn p) := by rw [nIlt (by omega) (by omega)]; omega
      have z3 : nI (pn p) ≤ nI a := by rw [nIle (by omega) (by omega)]; omega
      have s1 : s_X8_endOf_16_7 oP W P q1 (nI (pn p)) (lN rest, nI a, nI ln, R) = some (.inr (.inr (if q1 = -1 then nI ln else -2, R))) := by
        simp only [s_X8_endOf_16_7, un4, if_neg z1, if_neg z2]
        split <;> rfl
      have s2 : s_X10_way_49_8 q1 (lN rest, nI ln, nI a, M) = some (.inr (.inl (nI ln, M))) := by
        simp only [s_X10_way_49_8, un4, M_many hM, Option.bind_some, un1, if_pos z3]
      exact ⟨_, R, M, _, lp_r s1, hR, lp_r s2, KL_rf M, Or.inl ⟨_, rfl, rfl⟩⟩
theorem ok_way : Ok_way INV := by
  intro o a aK Z B hI q0 q1
  have hI2 := hI
  obtain ⟨tb, p, len, v, cnt, nx, q, hc⟩ := hI2
  have hc' := hc
  obtain ⟨-, ⟨i2, -⟩, -, hPG, -, ⟨hC, -⟩, ⟨hR0, -⟩, hr, -, hW, ⟨hRT, hM, -⟩, ⟨hT, -, hG, -⟩⟩ := hc'
  have hs := hG.1
  have hpt := hG.2.1
  have hP := hPG.1
  have h40 := hs.1
  have same : ∀ r, f_X9_way (a 0) (Z 0) (Z 3) (Z 6) (Z 9) (o 10) (Z 10) q0 q1 = some (r, Z 0, Z 6, Z 9) → f_X10_way (Z 28) q0 q1 = some (r, Z 28) → (∃ (u : Int32 × OV × OV × OV) (w : Int32 × OV), f_X9_way (a 0) (Z 0) (Z 3) (Z 6) (Z 9) (o 10) (Z 10) q0 q1 = some u ∧ f_X10_way (Z 28) q0 q1 = some w ∧ w.1 = u.1 ∧ INV o a aK (va_up (va_up (va_up (va_up Z 0 u.2.1) 6 u.2.2.1) 9 u.2.2.2) 28 w.2) B) := by
    intro r h1 h2
    refine ⟨_, _, h1, h2, rfl, ?_⟩
    show INV o a aK (va_up (va_up (va_up (va_up Z 0 (Z 0)) 6 (Z 6)) 9 (Z 9)) 28 (Z 28)) B
    rw [up4_same]
    exact hI
  rcases nn_or q0 with h0 | ⟨r0, hr0, rfl⟩
  · exact same (-1) (by unfold f_X9_way; rw [if_pos h0]) (by unfold f_X10_way; rw [if_pos h0])
  have h0 : ¬ nI r0 < 0 := nI_pos hr0
  by_cases h1 : (-1 : Int32) ≤ q1
  · obtain ⟨L', R', W', e1, hl, hR0', hR', hW'⟩ := L_ways (a := a) i2 hR0 hr hC hP hs hT hpt hW
    have e2 := W_total hW'
    have x0 : ix (0 : Int32) 41 = true := by decide
    have c0 : (0 : Int32).toNatClampNeg = 0 := rfl
    have e0 : (nI (pn p) = (0 : Int32)) = (pn p = 0) := nIe (by omega) (by decide)
    have b0 := wf_b62 (tb := tb) hs 0
    have ltr : r0 < 2 ^ 62 := by omega
    have lt0 : (wf tb p 0).1 < 2 ^ 62 := by omega
    by_cases c : pn p = 0
    · refine ⟨(-2, L', R', W'), (-2, Z 28), ?_, ?_, rfl, INV_q4 hc hl hR0' hR' hW' (KM_rf _)⟩
      · unfold f_X9_way
        rw [if_neg h0, if_pos h1, e1, Option.bind_some]
        simp only [un3, e2, Option.bind_some, un1, if_pos c, nI_l hr0, lNlt ltr (show 0 < 2 ^ 62 by decide), if_neg (Nat.not_lt_zero r0)]
      · unfold f_X10_way
        rw [if_neg h0, if_pos h1]
        simp only [M_many hM, Option.bind_some, un1, e0, if_pos c]
    · obtain ⟨M', e3, hk, ht⟩ := M_laysWays hM hs hRT hT hpt
      have t0 := (ht 0 (Nat.zero_le _)).1
      by_cases c2 : r0 < (wf tb p 0).1
      · obtain ⟨L2, R2, e4, hR2, hl2⟩ := L_ruler (a := a) ((hl 10).trans i2) hR0' hR' hC hP hs hT hpt
        obtain ⟨r, R3, M3, t, g1, g2, g3, g4, g5⟩ := way_walk hP hs hT hpt hW' q1 (pn p) 0 r0 0 R2 M' 5000 5000 hR2 (KM_RM hk hM) (KM_RT hk hRT) (fun j hj => (ht j hj).1) (by omega) (by omega) (by omega) c2 (by omega) (by omega)
        refine ⟨(r, L2, R3, W'), (r, M3), ?_, ?_, rfl, INV_q4 hc (fun k => (hl2 k).trans (hl k)) (RR_0 g2) (Or.inr g2) hW' (KM_tr hk (KL_KM g4))⟩
        · have g1' : lp (s_X8_endOf_16_7 (a 0 2) W' (Z 3) q1 (nI (pn p))) 5000 (lN r0, 0, 0, R2) = some (.inr (r, R3)) := g1
          unfold f_X9_way
          rw [if_neg h0, if_pos h1, e1, Option.bind_some]
          simp only [un3, e2, Option.bind_some, un1, if_neg c, nI_l hr0, lNlt ltr lt0, if_pos c2, e4, un2, f_X8_endOf, N_signs hR2 hP, bnd, g1', Sum.elim_inr]
        · have g3' : lp (s_X10_way_49_8 q1) 5000 (lN r0, 0, 0, M') = some t := g3
          unfold f_X10_way
          rw [if_neg h0, if_pos h1]
          simp only [M_many hM, Option.bind_some, un1, e0, if_neg c, e3, gd_t x0, c0, t0, nI_l hr0, lNlt ltr lt0, if_pos c2, bnd, g3']
          rcases g5 with ⟨x, rfl, rfl⟩ | rfl
          · simp only [Sum.elim_inl, un2]
            split <;> rfl
          · simp only [Sum.elim_inr]
      · refine ⟨(-2, L', R', W'), (-2, M'), ?_, ?_, rfl, INV_q4 hc hl hR0' hR' hW' hk⟩
        · unfold f_X9_way
          rw [if_neg h0, if_pos h1, e1, Option.bind_some]
          simp only [un3, e2, Option.bind_some, un1, if_neg c, nI_l hr0, lNlt ltr lt0, if_neg c2]
        · unfold f_X10_way
          rw [if_neg h0, if_pos h1]
          simp only [M_many hM, Option.bind_some, un1, e0, if_neg c, e3, gd_t x0, c0, t0, nI_l hr0, lNlt ltr lt0, if_neg c2]
  · exact same (-1) (by unfold f_X9_way; rw [if_neg h0, if_neg h1]) (by unfold f_X10_way; rw [if_neg h0, if_neg h1])
