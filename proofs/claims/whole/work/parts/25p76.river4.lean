-- river
def rvF (tb : Tb) (p : Pg) (kd : Nat) : Nat → Nat → Nat
  | 0 => fun _ => 0
  | k + 1 => nxF (wN tb p kd) (puA tb p kd) (stt (EK tb p kd) k) (EK tb p kd (stt (EK tb p kd) k)) (rvF tb p kd k)
def rvL (tb : Tb) (p : Pg) (kd : Nat) : Nat → Nat
  | 0 => 0
  | k + 1 => max (rvL tb p kd k) (mxr (rvF tb p kd (k + 1)) 0 500)
theorem rvF_le (tb : Tb) (p : Pg) (kd : Nat) : ∀ k x, rvF tb p kd k x ≤ k
  | 0, _ => Nat.le_refl _
  | k + 1, x => nxF_le (rvF_le tb p kd k) x
theorem rvL_le (tb : Tb) (p : Pg) (kd : Nat) : ∀ k, rvL tb p kd k ≤ k
  | 0 => Nat.le_refl _
  | k + 1 => by
    have h1 := rvL_le tb p kd k
    have h2 := mxr_le (s := 0) (rvF_le tb p kd (k + 1)) 500
    rw [rvL]
    omega
theorem rvF_s (tb : Tb) (p : Pg) (kd k : Nat) : rvF tb p kd (k + 1) = nxF (wN tb p kd) (puA tb p kd) (stt (EK tb p kd) k) (EK tb p kd (stt (EK tb p kd) k)) (rvF tb p kd k) := by rw [rvF]
theorem rvL_s (tb : Tb) (p : Pg) (kd k : Nat) : rvL tb p kd (k + 1) = max (rvL tb p kd k) (mxr (nxF (wN tb p kd) (puA tb p kd) (stt (EK tb p kd) k) (EK tb p kd (stt (EK tb p kd) k)) (rvF tb p kd k)) 0 500) := by rw [rvL, rvF_s]
theorem Y_river {tb : Tb} {p : Pg} {kd : Nat} {Y R C P : OV} {oC oP : Nat} (hY : YR Y tb p kd) (hR : RR oC oP R tb p) (hC : RC C tb) (hP : RP P p) (hs : PgS p) (hT : TbS tb) (hpt : PgT tb p) : ∃ Y2, f_X3_longestRiver Y R oC C oP P = some (nI (rvL tb p kd (LN (EK tb p kd) (pn p))), Y2) ∧ KY Y Y2 := by
  have h40 := hs.1
  have hE : ∀ a, a ≤ EK tb p kd a := fun a => (EK_in hs kd a).1
  have hn : ∀ a, a < pn p → EK tb p kd a < pn p := fun a => (EK_in hs kd a).2
  obtain ⟨L1, L2, L3⟩ := LN_spec hE hn
  generalize hln : LN (EK tb p kd) (pn p) = ln at *
  have hY0 : KY Y (sW Y 5 (fillF 80 0 (ar Y 5))) := ⟨fun k hk => by rw [arW, if_neg hk], fun _ _ => rfl, fun _ => rfl⟩
  obtain ⟨r1, c1, Y2, rfl, ky⟩ := lp_inv (step := s_X3_longestRiver_12_4 oC oP R C P) (fun k s => ∃ Y2, s = (nI (rvL tb p kd k), nI k, Y2) ∧ KY Y Y2 ∧ ∀ x, x < 80 → ar Y2 5 x = nI (rvF tb p kd k x)) (fun r => ∃ Y2, r = (nI (rvL tb p kd ln), Y2) ∧ KY Y Y2) 0 ln (Nat.zero_le _) (by
    rintro k s - hk ⟨Y2, rfl, ky, h5⟩
    have b1 := rvL_le tb p kd k
    obtain ⟨Y3, d1, d2, d3⟩ := Y_rline (L0 := rvL tb p kd k) (f := rvF tb p kd k) (YR_KY hY ky) hR hC hP hs hT hpt (show k < LN (EK tb p kd) (pn p) by rw [hln]; exact hk) h5 (fun x => by have := rvF_le tb p kd k x; omega) (by omega)
    rw [← rvL_s] at d1
    rw [← rvF_s] at d3
    exact ⟨_, d1, Y3, rfl, KY_tr ky d2, d3⟩) (by
    rintro s ⟨Y2, rfl, ky, h5⟩
    refine ⟨(nI (rvL tb p kd ln), Y2), ?_, Y2, rfl, ky⟩
    rw [RA1_eq]
    unfold RA1
    simp only [un3]
    rw [(YR_KY hY ky).1, hln, if_pos (Int32.le_refl _)]) 5000 (by omega) (0, 0, sW Y 5 (fillF 80 0 (ar Y 5))) ⟨_, rfl, hY0, fun x hx => by rw [arW, if_pos rfl]; unfold fillF; rw [if_pos hx, rvF]; rfl⟩
  exact ⟨Y2, by rw [RA2_eq]; exact RA2_at c1, ky⟩
theorem M_river {tb : Tb} {p : Pg} {kd : Nat} {M0 M : OV} (hM : RM (ar M0 8) p) (hs : PgS p) (hRT : RT M0 tb) (hT : TbS tb) (hpt : PgT tb p) (km0 : KM M0 M) (ml0 : ML M tb p kd) (h0 : ∀ x, x < 500 → ar M 29 x = 0) : ∃ M3, lp s_X10_river_40_14 5000 (0, 0, M) = some (nI (rvL tb p kd (LN (EK tb p kd) (pn p))), M3) ∧ KM M0 M3 := by
  have h40 := hs.1
  have hE : ∀ a, a ≤ EK tb p kd a := fun a => (EK_in hs kd a).1
  have hn : ∀ a, a < pn p → EK tb p kd a < pn p := fun a => (EK_in hs kd a).2
  obtain ⟨L1, L2, L3⟩ := LN_spec hE hn
  generalize hln : LN (EK tb p kd) (pn p) = ln at *
  obtain ⟨r2, c2, M3, rfl, km3⟩ := lp_inv (step := s_X10_river_40_14) (fun k s => ∃ M3, s = (nI (rvL tb p kd k), nI k, M3) ∧ KM M0 M3 ∧ ML M3 tb p kd ∧ ∀ x, x < 500 → ar M3 29 x = nI (rvF tb p kd k x)) (fun r => ∃ M3, r = (nI (rvL tb p kd ln), M3) ∧ KM M0 M3) 0 ln (Nat.zero_le _) (by
    rintro k s - hk ⟨M3, rfl, km, ml, h5⟩
    have b1 := rvL_le tb p kd k
    obtain ⟨M4, d1, d2, d3, d4⟩ := M_rline (L0 := rvL tb p kd k) (f := rvF tb p kd k) (KM_RM km hM) hs (KM_RT km hRT) hT hpt ml (show k < LN (EK tb p kd) (pn p) by rw [hln]; exact hk) h5 (fun x => by have := rvF_le tb p kd k x; omega) (by omega)
    rw [← rvL_s] at d1
    rw [← rvF_s] at d4
    exact ⟨_, d1, M4, rfl, KM_tr km d2, d3, d4⟩) (by
    rintro s ⟨M3, rfl, km, ml, h5⟩
    refine ⟨(nI (rvL tb p kd ln), M3), ?_, M3, rfl, km⟩
    rw [RB3_eq]
    unfold RB3
    simp only [un3]
    rw [ml.1, hln, if_pos (Int32.le_refl _)]) 5000 (by omega) (0, 0, M) ⟨M, rfl, km0, ml0, fun x hx => by rw [rvF]; exact h0 x hx⟩
  exact ⟨M3, c2, km3⟩
def RB4 (L1 : Int32 × OV → Option OV) (L2 : Int32 × Int32 × OV → Option (Int32 × OV)) (M : OV) (p0 : Int32) : Option (Int32 × OV) := (f_X10_isKind p0).bind (un1 (fun r_1 => (if r_1 = 0 then some ((-1 : Int32), M) else (f_X10_laysLines M p0).bind (un1 (fun M_3 => bnd (0 : Int32) (fun v2_5 => ((L1 (v2_5, M_3)).bind (un1 (fun M_11 => bnd (0 : Int32) (fun v2_12 => bnd (0 : Int32) (fun v3_13 => ((L2 (v2_12, v3_13, M_11)).bind (un2 (fun v2_70 M_71 => some (v2_70, M_71)))))))))))))))
theorem RB4_eq (M : OV) (p0 : Int32) : f_X10_river M p0 = RB4 (lp s_X10_river_16_6 5000) (lp s_X10_river_40_14 5000) M p0 := rfl
theorem RB4_at {L1 : Int32 × OV → Option OV} {L2 : Int32 × Int32 × OV → Option (Int32 × OV)} {M M1 M2 M3 : OV} {p0 x : Int32} (e1 : f_X10_isKind p0 = some 1) (e2 : f_X10_laysLines M p0 = some M1) (e3 : L1 (0, M1) = some M2) (e4 : L2 (0, 0, M2) = some (x, M3)) : RB4 L1 L2 M p0 = some (x, M3) := by
  unfold RB4
  rw [e1, Option.bind_some]
  simp only [un1, bnd_e]
  rw [if_neg (by decide), e2, Option.bind_some, e3, Option.bind_some, e4, Option.bind_some]
  rfl
theorem ok_river : Ok_river INV := by
  rintro o a aK Z B ⟨tb, p, len, v, cnt, nx, q, hc⟩ q0
  have hc' := hc
  obtain ⟨-, ⟨i2, -⟩, -, ⟨hP, -⟩, -, ⟨hC, -⟩, ⟨hR0, -⟩, hr, -, -, ⟨hRT, hM, -⟩, ⟨hT, -, ⟨hs, hpt, -⟩, -⟩⟩ := hc'
  have h40 := hs.1
  refine ok4 hc (fun oY Y k => f_X9_river (a 0) (Z 0) (Z 3) (Z 6) (Z 8) (o 10) (Z 10) oY Y k) (fun k => f_X10_river (Z 28) k) q0 ?_ ?_
  · intro e1 e2
    refine ⟨-1, ?_, ?_⟩
    · show f_X9_river (a 0) (Z 0) (Z 3) (Z 6) (Z 8) (o 10) (Z 10) (a 0 (900 + 0)) (Z (24 + 0)) q0 = _
      unfold f_X9_river
      rw [e1, Option.bind_some]
      rfl
    · show f_X10_river (Z 28) q0 = _
      unfold f_X10_river
      rw [e2, Option.bind_some]
      rfl
  · intro kd hkd e1 e2 hy
    have hE : ∀ a, a ≤ EK tb p kd a := fun a => (EK_in hs kd a).1
    have hn : ∀ a, a < pn p → EK tb p kd a < pn p := fun a => (EK_in hs kd a).2
    obtain ⟨L1, L2, L3⟩ := LN_spec hE hn
    obtain ⟨L', R', N', Y', e5, hL', hR0', hr', hY'⟩ := L_layout (N := Z 8) hkd i2 hR0 hr hC hP hs hT hpt hy
    obtain ⟨La, Ra, e6, hRa, hLa⟩ := L_ruler (a := a) (L := L') (R := R') ((hL' 10).trans i2) hR0' hr' hC hP hs hT hpt
    obtain ⟨M1, m1, k1, ml1⟩ := M_laysLines hM hs hRT hT hpt hkd
    have km1 := KO_KM k1
    obtain ⟨M2, m2, k2, z2⟩ := M_f29 M1
    have ml2 := ML_KV ml1 k2
    have km2 : KM (Z 28) M2 := KM_tr km1 (KV_KM k2)
    obtain ⟨Y2, c1, ky⟩ := Y_river hY' hRa hC hP hs hT hpt
    obtain ⟨M3, c2, km3⟩ := M_river (kd := kd) hM hs hRT hT hpt km2 ml2 z2
    refine ⟨nI (rvL tb p kd (LN (EK tb p kd) (pn p))), La, Ra, N', Y2, M3, ?_, ?_, fun k => (hLa k).trans (hL' k), RR_0 hRa, Or.inr hRa, Or.inr (YR_KY hY' ky), km3⟩
    · show f_X9_river (a 0) (Z 0) (Z 3) (Z 6) (Z 8) (o 10) (Z 10) (a 0 (900 + kd)) (Z (24 + kd)) (nI kd) = _
      unfold f_X9_river
      rw [e1, Option.bind_some]
      simp only [un1]
      rw [if_neg (by decide), e5, Option.bind_some]
      simp only [un4]
      rw [e6, Option.bind_some]
      simp only [un2]
      rw [c1, Option.bind_some]
      simp only [un2]
    · show f_X10_river (Z 28) (nI kd) = _
      rw [RB4_eq]
      exact RB4_at e2 m1 m2 c2
