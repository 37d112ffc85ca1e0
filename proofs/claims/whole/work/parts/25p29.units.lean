theorem ok_units : Ok_units INV := by
  rintro o a aK Z B ⟨tb, p, len, v, cnt, nx, q, hc⟩ q0 q1 q2
  have hc' := hc
  obtain ⟨-, ⟨i2, -⟩, -, ⟨hP, -⟩, -, ⟨hC, -⟩, ⟨hR0, -⟩, hr, -, -, ⟨hRT, hM, -⟩, ⟨hT, -, ⟨hs, hpt, -⟩, -⟩⟩ := hc'
  have h40 := hs.1
  refine ok4 hc (fun oY Y k => f_X9_units (a 0) (Z 0) (Z 3) (Z 6) (Z 8) (o 10) (Z 10) oY Y k q1 q2) (fun k => f_X10_units (Z 28) k q1 q2) q0 ?_ ?_
  · intro e1 e2
    exact ⟨-1, by simp only [f_X9_units, e1, Option.bind_some, un1, if_true], by simp only [f_X10_units, e2, Option.bind_some, un1, if_true]⟩
  · intro kd hkd e1 e2 hy
    rcases rank_or q1 with ⟨c1, e3⟩ | ⟨c1, c2, e3⟩ | ⟨r, hr1, hr3, rfl, c1, c2, e3⟩
    · exact ⟨-1, _, _, Z 8, _, _, by simp only [f_X9_units, e1, Option.bind_some, un1, if_neg (show ¬ (1 : Int32) = 0 by decide), if_pos c1], by simp only [f_X10_units, e2, e3, Option.bind_some, un1, if_true, if_neg (show ¬ (1 : Int32) = 0 by decide)], QP_same hc hy (KM_rf _)⟩
    · exact ⟨-1, _, _, Z 8, _, _, by simp only [f_X9_units, e1, Option.bind_some, un1, if_neg (show ¬ (1 : Int32) = 0 by decide), if_neg c1, if_neg c2], by simp only [f_X10_units, e2, e3, Option.bind_some, un1, if_true, if_neg (show ¬ (1 : Int32) = 0 by decide)], QP_same hc hy (KM_rf _)⟩
    · have hE : ∀ a, a ≤ EK tb p kd a := fun a => (EK_in hs kd a).1
      have hn : ∀ a, a < pn p → EK tb p kd a < pn p := fun a => (EK_in hs kd a).2
      obtain ⟨L1, L2, L3⟩ := LN_spec hE hn
      obtain ⟨L', R', N', Y', e5, hL', hR0', hr', hY'⟩ := L_layout (N := Z 8) hkd i2 hR0 hr hC hP hs hT hpt hy
      obtain ⟨M1, e6, k6, m6⟩ := M_laysLines hM hs hRT hT hpt hkd
      have km6 := KO_KM k6
      obtain ⟨g, hg⟩ : ∃ g : Nat → Nat, g = fun i => if q2 = 0 then (if fx tb p 8 i = r then puA tb p kd i else 0) else (if fx tb p 6 i = r then tkA tb p kd i else 0) := ⟨_, rfl⟩
      obtain ⟨z, e7, M2, rfl, l2⟩ := lp_inv (step := s_X10_units_29_9 (nI r) q2) (fun k s => ∃ M', s = (nI (sg g 0 (stt (EK tb p kd) k)), nI k, M') ∧ KD M1 M') (fun z => ∃ M', z = (nI (sg g 0 (pn p)), M') ∧ KD M1 M') 0 (LN (EK tb p kd) (pn p)) (Nat.zero_le _) (by
        rintro k s - hk ⟨M', rfl, l'⟩
        have hM' := KM_RM (KD_KM l') (KM_RM km6 hM)
        have hRT' := KM_RT (KD_KM l') (KM_RT km6 hRT)
        have ml' := ML_KD m6 l'
        obtain ⟨M2, e8, k8, dd, -⟩ := M_dealK hM' hs hRT' hT hpt ml' hk
        have ml2 := ML_KD ml' k8
        have hM2 := KM_RM (KD_KM k8) hM'
        have hRT2 := KM_RT (KD_KM k8) hRT'
        have mlk : ML (LKD M' tb p (stt (EK tb p kd) k) (EK tb p kd (stt (EK tb p kd) k))) tb p kd := ml'
        have hb := stt_ln hE hn hk
        have xk : ix (nI k) 41 = true := ix_nI (by omega) (by decide)
        have ck := nI_clamp (show k < 2 ^ 31 by omega)
        have h24 := ml2.2 k hk
        obtain ⟨a', ha'⟩ : ∃ a', a' = stt (EK tb p kd) k := ⟨_, rfl⟩
        obtain ⟨b', hb'⟩ : ∃ b', b' = EK tb p kd (stt (EK tb p kd) k) := ⟨_, rfl⟩
        rw [← hb'] at h24
        have hin : lp (s_X10_units_80_24 M2 (nI r) q2 (nI k)) 5000 (nI (sg g 0 a'), nI a') = some (nI (sg g 0 (b' + 1))) := by
          have hstep : ∀ i, a' ≤ i → i < b' + 1 → s_X10_units_80_24 M2 (nI r) q2 (nI k) ((fun i => (nI (sg g 0 i), nI i)) i) = some (.inl ((fun i => (nI (sg g 0 i), nI i)) (i + 1))) := by
            intro i u1 u2
            have hi : i < pn p := by omega
            have l0 := (hs.2.1 i hi).1
            have tt := hT _ l0
            have rr := (hRT2 _ l0).2 (hpt i hi)
            have e5' : ar M2 5 (ps p i) = nI (fx tb p 6 i) := rr.2.2.2.1
            have e7' : ar M2 7 (ps p i) = nI (fx tb p 8 i) := rr.2.2.2.2.2
            have b6 : fx tb p 6 i ≤ 3 := tt.2.2.2.2.1
            have b8 : fx tb p 8 i ≤ 3 := tt.2.2.2.2.2.2.1
            obtain ⟨d1, d2⟩ := dd i (by omega) (by omega)
            show s_X10_units_80_24 M2 (nI r) q2 (nI k) (nI (sg g 0 i), nI i) = some (.inl (nI (sg g 0 (i + 1)), nI (i + 1)))
            simp only [s_X10_units_80_24, un2, gd_t xk, ck, h24, nIlt (show b' < 2 ^ 31 by omega) (show i < 2 ^ 31 by omega), if_neg (show ¬ b' < i by omega), j_X10_units_123_28, M_class hM2 hs hi, Option.bind_some, un1, gd_t (ix_nI l0 (show 26 < 2 ^ 31 by decide)), nI_clamp (show ps p i < 2 ^ 31 by omega), e5', e7', nIe (show fx tb p 6 i < 2 ^ 31 by omega) (show r < 2 ^ 31 by omega), nIe (show fx tb p 8 i < 2 ^ 31 by omega) (show r < 2 ^ 31 by omega), gd_t (ix_nI (show i < 40 by omega) (show 40 < 2 ^ 31 by decide)), nI_clamp (show i < 2 ^ 31 by omega), d1, d2, j_X10_units_154_30, bnd, nI_1, nI_add, sg_succ (Nat.zero_le i)]
            rw [hg]
            by_cases z : q2 = 0
            · by_cases c : fx tb p 8 i = r <;> simp [z, c]
            · by_cases c : fx tb p 6 i = r <;> simp [z, c]
          have hend : s_X10_units_80_24 M2 (nI r) q2 (nI k) ((fun i => (nI (sg g 0 i), nI i)) (b' + 1)) = some (.inr (nI (sg g 0 (b' + 1)))) := by
            simp only [s_X10_units_80_24, un2, gd_t xk, ck, h24, nIlt (show b' < 2 ^ 31 by omega) (show b' + 1 < 2 ^ 31 by omega), if_pos (show b' < b' + 1 by omega)]
          exact lp_for (step := s_X10_units_80_24 M2 (nI r) q2 (nI k)) (fun i => (nI (sg g 0 i), nI i)) a' (b' + 1) (by omega) hstep hend 5000 (by omega)
        refine ⟨(nI (sg g 0 (stt (EK tb p kd) (k + 1))), nI (k + 1), M2), ?_, M2, rfl, KD_tr l' k8⟩
        rw [ha'] at hin
        simp only [s_X10_units_29_9, un3, ml'.1, nIle (show LN (EK tb p kd) (pn p) < 2 ^ 31 by omega) (show k < 2 ^ 31 by omega), if_neg (show ¬ LN (EK tb p kd) (pn p) ≤ k by omega), M_first ml' hs hk, Option.bind_some, un1, gd_t xk, ck, M_lookK hM' hs hRT' hT hpt ml' hk, M_first mlk hs hk, mlk.2 k hk, e8, M_first ml2 hs hk, bnd, hin, nI_1, stt, hb']) (by
        rintro s ⟨M', rfl, l'⟩
        refine ⟨(nI (sg g 0 (stt (EK tb p kd) (LN (EK tb p kd) (pn p)))), M'), by simp only [s_X10_units_29_9, un3, (ML_KD m6 l').1, if_pos (Int32.le_refl _)], M', ?_, l'⟩
        rw [L3]) 5000 (by omega) (nI (sg g 0 (stt (EK tb p kd) 0)), nI 0, M1) ⟨M1, rfl, KD_rf M1⟩
      have h10 : f_X10_units (Z 28) (nI kd) (nI r) q2 = some (nI (sg g 0 (pn p)), M2) := by
        simp only [f_X10_units, e2, e3, Option.bind_some, un1, if_neg (show ¬ (1 : Int32) = 0 by decide), e6, bnd]
        rw [show lp (s_X10_units_29_9 (nI r) q2) 5000 (0, 0, M1) = some (nI (sg g 0 (pn p)), M2) from e7]
        rfl
      have qp : QP o a Z tb p kd L' R' Y' M2 := ⟨hL', hR0', hr', Or.inr hY', KM_tr km6 (KD_KM l2)⟩
      refine ⟨nI (sg g 0 (pn p)), L', R', N', Y', M2, ?_, h10, qp⟩
      show f_X9_units (a 0) (Z 0) (Z 3) (Z 6) (Z 8) (o 10) (Z 10) (a 0 (900 + kd)) (Z (24 + kd)) (nI kd) (nI r) q2 = _
      unfold f_X9_units
      rw [e1, Option.bind_some]
      simp only [un1]
      rw [if_neg (show ¬ (1 : Int32) = 0 by decide), if_neg c1, if_pos c2, e5, Option.bind_some]
      simp only [un4]
      rw [gd_t (decide_eq_true ((hL' 10).trans i2))]
      by_cases z : q2 = 0
      · rw [if_pos z]
        unfold j_X9_units_44_9
        rw [gd_t (show ix (8 : Int32) 9 = true by decide), if_pos z]
        have h1 : ∀ i, 0 ≤ i → i < pn p → ∀ x, s_X9_units_72_13 (Z 3) (Z 10) Y' (nI r) 8 (nI x, nI i) = some (.inl (nI (x + g i), nI (i + 1))) := by
          intro i _ hi x
          have l0 := (hs.2.1 i hi).1
          have b8 : fx tb p 8 i ≤ 3 := (hT _ l0).2.2.2.2.2.2.1
          have e8 : gr (Z 10) 0 8 (ps p i) = nI (fx tb p 8 i) := hC 8 (by decide) _ l0
          obtain ⟨d1, d2⟩ := YR_dealt hY' hs hi
          simp only [s_X9_units_72_13, un2, hP.1, nIle (show pn p < 2 ^ 31 by omega) (show i < 2 ^ 31 by omega), if_neg (show ¬ pn p ≤ i by omega), gd_t (ix_nI (show i < 40 by omega) (show 40 < 2 ^ 31 by decide)), nI_clamp (show i < 2 ^ 31 by omega), hP.2.1 i hi, gd_t (ix_nI l0 (show 26 < 2 ^ 31 by decide)), nI_clamp (show ps p i < 2 ^ 31 by omega), show (8 : Int32).toNatClampNeg = 8 by decide, e8, nIe (show fx tb p 8 i < 2 ^ 31 by omega) (show r < 2 ^ 31 by omega), d2, j_X9_units_111_17, bnd, nI_1, nI_add]
          rw [hg]
          by_cases c : fx tb p 8 i = r <;> simp [z, c]
        have h2 : ∀ x, s_X9_units_72_13 (Z 3) (Z 10) Y' (nI r) 8 (nI x, nI (pn p)) = some (.inr (nI x)) := by
          intro x
          simp only [s_X9_units_72_13, un2, hP.1, if_pos (Int32.le_refl _)]
        have h3 := lp_sum (step := s_X9_units_72_13 (Z 3) (Z 10) Y' (nI r) 8) g 0 (pn p) (Nat.zero_le _) h1 h2 5000 (by omega)
        simp only [bnd]
        rw [show lp (s_X9_units_72_13 (Z 3) (Z 10) Y' (nI r) 8) 5000 (0, 0) = some (nI (sg g 0 (pn p))) from h3]
        rfl
      · rw [if_neg z]
        unfold j_X9_units_44_9
        rw [gd_t (show ix (6 : Int32) 9 = true by decide), if_neg z]
        have h1 : ∀ i, 0 ≤ i → i < pn p → ∀ x, s_X9_units_72_23 (Z 3) (Z 10) Y' (nI r) 6 (nI x, nI i) = some (.inl (nI (x + g i), nI (i + 1))) := by
          intro i _ hi x
          have l0 := (hs.2.1 i hi).1
          have b6 : fx tb p 6 i ≤ 3 := (hT _ l0).2.2.2.2.1
          have e6' : gr (Z 10) 0 6 (ps p i) = nI (fx tb p 6 i) := hC 6 (by decide) _ l0
          obtain ⟨d1, d2⟩ := YR_dealt hY' hs hi
          simp only [s_X9_units_72_23, un2, hP.1, nIle (show pn p < 2 ^ 31 by omega) (show i < 2 ^ 31 by omega), if_neg (show ¬ pn p ≤ i by omega), gd_t (ix_nI (show i < 40 by omega) (show 40 < 2 ^ 31 by decide)), nI_clamp (show i < 2 ^ 31 by omega), hP.2.1 i hi, gd_t (ix_nI l0 (show 26 < 2 ^ 31 by decide)), nI_clamp (show ps p i < 2 ^ 31 by omega), show (6 : Int32).toNatClampNeg = 6 by decide, e6', nIe (show fx tb p 6 i < 2 ^ 31 by omega) (show r < 2 ^ 31 by omega), d1, j_X9_units_111_27, bnd, nI_1, nI_add]
          rw [hg]
          by_cases c : fx tb p 6 i = r <;> simp [z, c]
        have h2 : ∀ x, s_X9_units_72_23 (Z 3) (Z 10) Y' (nI r) 6 (nI x, nI (pn p)) = some (.inr (nI x)) := by
          intro x
          simp only [s_X9_units_72_23, un2, hP.1, if_pos (Int32.le_refl _)]
        have h3 := lp_sum (step := s_X9_units_72_23 (Z 3) (Z 10) Y' (nI r) 6) g 0 (pn p) (Nat.zero_le _) h1 h2 5000 (by omega)
        simp only [bnd]
        rw [show lp (s_X9_units_72_23 (Z 3) (Z 10) Y' (nI r) 6) 5000 (0, 0) = some (nI (sg g 0 (pn p))) from h3]
        rfl
