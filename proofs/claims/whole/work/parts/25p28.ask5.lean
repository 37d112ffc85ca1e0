theorem at_last (S w t u tr : Int32) (h : u = 0) : S + (w - t + u) - tr = S + (w - t + -tr) := by
  subst h
  rw [Int32.add_zero, Int32.sub_eq_add_neg (S + (w - t)), Int32.add_assoc]
theorem rank_or (q : Int32) : (q < 1 ∧ f_X10_in q 1 3 = some 0) ∨ (¬ q < 1 ∧ ¬ q ≤ 3 ∧ f_X10_in q 1 3 = some 0) ∨ ∃ r, 1 ≤ r ∧ r ≤ 3 ∧ q = nI r ∧ ¬ q < 1 ∧ q ≤ 3 ∧ f_X10_in q 1 3 = some 1 := by
  by_cases c1 : q < 1
  · exact Or.inl ⟨c1, by simp only [f_X10_in, if_pos c1, j_X10_in_14_1]⟩
  · by_cases c2 : q ≤ 3
    · right; right
      rcases pk_ix q (show 4 < 2 ^ 31 by decide) with h | h | ⟨j, hj, rfl⟩
      · exact absurd (Int32.lt_trans h (show (0 : Int32) < 1 by decide)) c1
      · exact absurd (Int32.le_trans h c2) (by decide)
      · refine ⟨j, ?_, by omega, rfl, c1, c2, by simp only [f_X10_in, if_neg c1, if_neg (Int32.not_lt.mpr c2)]⟩
        rcases Nat.eq_zero_or_pos j with h | h
        · subst h; exact absurd (show nI 0 < (1 : Int32) by decide) c1
        · exact h
    · exact Or.inr (Or.inl ⟨c1, c2, by simp only [f_X10_in, if_neg c1, if_pos (Int32.not_le.mp c2), j_X10_in_14_1]⟩)
theorem ok_at : Ok_at INV := by
  rintro o a aK Z B ⟨tb, p, len, v, cnt, nx, q, hc⟩ q0 q1 q2
  have hc' := hc
  obtain ⟨-, ⟨i2, -⟩, -, ⟨hP, -⟩, -, ⟨hC, -⟩, ⟨hR0, -⟩, hr, -, -, ⟨hRT, hM, -⟩, ⟨hT, -, ⟨hs, hpt, -⟩, -⟩⟩ := hc'
  have h40 := hs.1
  refine ok4 hc (fun oY Y k => f_X9_at (a 0) (Z 0) (Z 3) (Z 6) (Z 8) (o 10) (Z 10) oY Y k q1 q2) (fun k => f_X10_at (Z 28) k q1 q2) q0 ?_ ?_
  · intro e1 e2
    have e3 : f_X10_looksAt (Z 28) q0 q1 = some (0, Z 28) := by simp only [f_X10_looksAt, e2, Option.bind_some, un1, if_true]
    have e4 : f_X9_hasLine (a 0) (Z 0) (Z 3) (Z 6) (Z 8) (o 10) (Z 10) (a 0 (900 + 0)) (Z (24 + 0)) q0 q1 = some (0, Z 0, Z 6, Z 8, Z (24 + 0)) := by simp only [f_X9_hasLine, e1, Option.bind_some, un1, if_true, j_X9_hasLine_27_7]
    refine ⟨-1, ?_, ?_⟩
    · simp only [f_X9_at, e4, Option.bind_some, un5, if_true, ite_self]
    · simp only [f_X10_at, e3, Option.bind_some, un2, if_true, ite_self]
  · intro kd hkd e1 e2 hy
    have hE : ∀ a, a ≤ EK tb p kd a := fun a => (EK_in hs kd a).1
    have hn : ∀ a, a < pn p → EK tb p kd a < pn p := fun a => (EK_in hs kd a).2
    obtain ⟨L1, L2, L3⟩ := LN_spec hE hn
    by_cases cx : q2 < 0
    · exact ⟨-1, _, _, Z 8, _, _, by simp only [f_X9_at, if_pos cx], by simp only [f_X10_at, if_pos cx], QP_same hc hy (KM_rf _)⟩
    · have hhl := L_hasLine hc hkd e1 hy q1
      rcases M_looksAt hM hs hRT hT hpt hkd e2 q1 with ⟨h1, M', e3, km⟩ | ⟨k, M', hk', rfl, e3, km, ml⟩
      · obtain ⟨L', R', N', Y', e4, hq⟩ := hhl.1 h1
        exact ⟨-1, L', R', N', Y', M', by simp only [f_X9_at, if_neg cx, e4, Option.bind_some, un5, if_true], by simp only [f_X10_at, if_neg cx, e3, Option.bind_some, un2, if_true], hq M' km⟩
      · have hM' := KM_RM km hM
        have hRT' := KM_RT km hRT
        obtain ⟨M2, e5, k5, dd, -⟩ := M_dealK hM' hs hRT' hT hpt ml hk'
        obtain ⟨a', ha'⟩ : ∃ a', a' = stt (EK tb p kd) k := ⟨_, rfl⟩
        obtain ⟨b', hb'⟩ : ∃ b', b' = EK tb p kd (stt (EK tb p kd) k) := ⟨_, rfl⟩
        have hb := stt_ln hE hn hk'
        have kl : KL M' (LKD M' tb p a' b') := KL_lk _ _ _ _ _ _ _ _
        have ml2 := ML_KL ml kl
        obtain ⟨L', R', N', Y', e4, hY', hq⟩ := hhl.2 k hk' rfl
        have yl := (hY'.2.2 k hk').1
        have hlw : ∀ i, a' ≤ i → i ≤ b' → lnW (EK tb p kd) i = k := fun i u1 u2 => lnW_at hE hn h40 hk' (by omega) (by omega)
        have hfi : f_X10_firstOf (LKD M' tb p a' b') (nI k) = some (nI a') := by rw [ha']; exact M_first ml2 hs hk'
        have h24 : ar (LKD M' tb p a' b') 24 k = nI b' := by rw [hb']; exact ml2.2 k hk'
        rw [← hb', ← ha'] at e3 hb dd yl e5
        have h0Y := yl.1
        have h1Y := yl.2.1
        have hM2 := KM_RM (KD_KM k5) hM'
        have hRT2 := KM_RT (KD_KM k5) hRT'
        -- the edges
        obtain ⟨g, hg⟩ : ∃ g : Nat → Int32, g = fun i => if i = b' then nI (fx tb p 0 i) - nI (tkA tb p kd i) + -(nI (fx tb p 4 i)) else adv tb p kd i := ⟨_, rfl⟩
        obtain ⟨c, hcc⟩ : ∃ c : Nat → Bool, c = fun i => decide (i ≤ b' ∧ iS g a' (i + 1) ≤ q2) := ⟨_, rfl⟩
        have hm : c (b' + 1) = false := by rw [hcc]; exact decide_eq_false (by omega)
        obtain ⟨r1, r2, r3, r4⟩ := scn_spec hm 50 a' (by omega) (by omega)
        obtain ⟨r, hrr⟩ : ∃ r, r = scn c 50 a' := ⟨_, rfl⟩
        rw [← hrr] at r1 r2 r3 r4
        have s3 : ∀ i, a' ≤ i → i < r → i ≤ b' ∧ iS g a' (i + 1) ≤ q2 := fun i u1 u2 => by have := r3 i u1 u2; rw [hcc] at this; exact of_decide_eq_true this
        have s4 : r ≤ b' → ¬ iS g a' (r + 1) ≤ q2 := fun u z => by rw [hcc] at r4; exact (of_decide_eq_false r4) ⟨u, z⟩
        -- the class
        have hl2 := L_layout2 (a := a) (L := L') (P := Z 3) (R := R') (N := N') (C := Z 10) (oC := o 10) hkd hY'
        have qp0 := hq (Z 28) (KM_rf _)
        have cstep : ∀ i (L1 R1 : OV), a' ≤ i → i ≤ b' → (∀ k, nv L1 k = nv (Z 0) k) → R0 R1 → (iv L1 12 = 0 ∨ RR (o 10) (a 0 2) R1 tb p) → ∃ L2 R2, (s_X9_at_47_17 (o 10) (a 0) (Z 3) (Z 10) N' Y' q2 (nI b') (iS g a' i, nI i, L1, R1) = j_X9_at_102_29 N' Y' L2 R2 q2 (nI i) (iS g a' (i + 1))) ∧ (∀ k, nv L2 k = nv (Z 0) k) ∧ RR (o 10) (a 0 2) R2 tb p := by
          intro i L1 R1 u1 u2 hL1 hR01 hr1
          have hin : i < pn p := by omega
          obtain ⟨L2, R2, e9, hR2, hL2⟩ := L_ruler (a := a) (L := L1) (R := R1) ((hL1 10).trans i2) hR01 hr1 hC hP hs hT hpt
          refine ⟨L2, R2, ?_, fun k => (hL2 k).trans (hL1 k), hR2⟩
          have l0 := (hs.2.1 i hin).1
          have hn10 : nv L2 10 = o 10 := (hL2 10).trans ((hL1 10).trans i2)
          simp only [s_X9_at_47_17, un4, nIlt (show b' < 2 ^ 31 by omega) (show i < 2 ^ 31 by omega), if_neg (show ¬ b' < i by omega), e9, Option.bind_some, un2, Y_adv hY' hR2 hC hP hs hin, un1, bnd, nIe (show i < 2 ^ 31 by omega) (show b' < 2 ^ 31 by omega)]
          by_cases cb : i = b'
          · rw [if_pos cb, gd_t (decide_eq_true hn10), gd_t (show ix (4 : Int32) 9 = true by decide), gd_t (ix_nI (show i < 40 by omega) (by decide)), nI_clamp (show i < 2 ^ 31 by omega), hP.2.1 i hin, gd_t (ix_nI l0 (by decide)), nI_clamp (show ps p i < 2 ^ 31 by omega), show (4 : Int32).toNatClampNeg = 4 by decide, hC 4 (by decide) _ l0]
            have hpu : nI (puA tb p kd i) = 0 := by
              have h1 := hlw i u1 u2
              unfold puA
              rw [h1, ← ha', ← show b' = EK tb p kd a' by rw [ha']; exact hb', cb, pu_last]
              rfl
            have hgi : g i = nI (fx tb p 0 i) - nI (tkA tb p kd i) + -(nI (fx tb p 4 i)) := by rw [hg]; exact if_pos cb
            rw [iS_s u1, hgi, adv, at_last _ _ _ _ _ hpu]
            rfl
          · rw [if_neg cb]
            have hgi : g i = adv tb p kd i := by rw [hg]; exact if_neg cb
            rw [iS_s u1, hgi]
        obtain ⟨rr, e10, L3, R3, hL3, hR03, hr3, hrr3⟩ := lp_inv (step := s_X9_at_47_17 (o 10) (a 0) (Z 3) (Z 10) N' Y' q2 (nI b')) (fun i s => ∃ L1 R1, s = (iS g a' i, nI i, L1, R1) ∧ (∀ k, nv L1 k = nv (Z 0) k) ∧ R0 R1 ∧ (iv L1 12 = 0 ∨ RR (o 10) (a 0 2) R1 tb p)) (fun z => ∃ L1 R1, (∀ k, nv L1 k = nv (Z 0) k) ∧ R0 R1 ∧ (iv L1 12 = 0 ∨ RR (o 10) (a 0 2) R1 tb p) ∧ ((r = b' + 1 ∧ z = .inl (L1, R1)) ∨ (r ≤ b' ∧ z = .inr (nI r, L1, R1, N', Y')))) a' r r1 (by
          rintro i s u1 u2 ⟨L1, R1, rfl, hL1, hR01, hr1⟩
          obtain ⟨t1, t2⟩ := s3 i u1 u2
          obtain ⟨L2, R2, e, hL2, hR2⟩ := cstep i L1 R1 u1 t1 hL1 hR01 hr1
          refine ⟨(iS g a' (i + 1), nI (i + 1), L2, R2), ?_, L2, R2, rfl, hL2, RR_0 hR2, Or.inr hR2⟩
          rw [e]
          simp only [j_X9_at_102_29, if_pos t2, bnd, nI_1]) (by
          rintro s ⟨L1, R1, rfl, hL1, hR01, hr1⟩
          by_cases cr : r ≤ b'
          · obtain ⟨L2, R2, e, hL2, hR2⟩ := cstep r L1 R1 r1 cr hL1 hR01 hr1
            refine ⟨.inr (nI r, L2, R2, N', Y'), ?_, L2, R2, hL2, RR_0 hR2, Or.inr hR2, Or.inr ⟨cr, rfl⟩⟩
            rw [e]
            simp only [j_X9_at_102_29, if_neg (s4 cr)]
          · refine ⟨.inl (L1, R1), ?_, L1, R1, hL1, hR01, hr1, Or.inl ⟨by omega, rfl⟩⟩
            simp only [s_X9_at_47_17, un4, nIlt (show b' < 2 ^ 31 by omega) (show r < 2 ^ 31 by omega), if_pos (show b' < r by omega)]) 5000 (by omega) (0, nI a', L', R') ⟨L', R', by rw [iS_n a' (Nat.le_refl _)], qp0.1, qp0.2.1, qp0.2.2.1⟩
        -- the model
        have mstep : ∀ i, a' ≤ i → i ≤ b' → s_X10_at_45_12 M2 q2 (nI b') (iS g a' i, nI i) = (if iS g a' (i + 1) ≤ q2 then some (.inl (iS g a' (i + 1), nI (i + 1))) else some (.inr (.inr (nI i, M2)))) := by
          intro i u1 u2
          have hin : i < pn p := by omega
          have l0 := (hs.2.1 i hin).1
          have e1' : ar M2 1 (ps p i) = nI (fx tb p 0 i) := (hRT2 _ l0).1
          have e3' : ar M2 3 (ps p i) = nI (fx tb p 4 i) := ((hRT2 _ l0).2 (hpt i hin)).2.1
          obtain ⟨d1, d2⟩ := dd i u1 u2
          simp only [s_X10_at_45_12, un2, nIlt (show b' < 2 ^ 31 by omega) (show i < 2 ^ 31 by omega), if_neg (show ¬ b' < i by omega), M_class hM2 hs hin, Option.bind_some, un1, bnd, gd_t (ix_nI l0 (show 26 < 2 ^ 31 by decide)), gd_t (ix_nI (show i < 40 by omega) (by decide)), nIle (show b' < 2 ^ 31 by omega) (show i < 2 ^ 31 by omega), nI_clamp (show ps p i < 2 ^ 31 by omega), nI_clamp (show i < 2 ^ 31 by omega), e3', d2, j_X10_at_102_19, e1', d1, nI_1, iS_s u1]
          by_cases cb : i = b'
          · have hgi : g i = nI (fx tb p 0 i) - nI (tkA tb p kd i) + -(nI (fx tb p 4 i)) := by rw [hg]; exact if_pos cb
            rw [if_pos (show b' ≤ i by omega), hgi]
          · have hgi : g i = adv tb p kd i := by rw [hg]; exact if_neg cb
            rw [if_neg (show ¬ b' ≤ i by omega), hgi]
            rfl
        have m10 : lp (s_X10_at_45_12 M2 q2 (nI b')) 5000 (0, nI a') = some (if r ≤ b' then .inr (nI r, M2) else .inl ()) := by
          have h := lp_for (step := s_X10_at_45_12 M2 q2 (nI b')) (fun i => (iS g a' i, nI i)) a' r (r := if r ≤ b' then .inr (nI r, M2) else .inl ()) r1 (fun i u1 u2 => by
            obtain ⟨t1, t2⟩ := s3 i u1 u2
            show s_X10_at_45_12 M2 q2 (nI b') (iS g a' i, nI i) = _
            rw [mstep i u1 t1, if_pos t2]) (by
            show s_X10_at_45_12 M2 q2 (nI b') (iS g a' r, nI r) = _
            by_cases cr : r ≤ b'
            · rw [mstep r r1 cr, if_neg (s4 cr), if_pos cr]
            · rw [if_neg cr]
              simp only [s_X10_at_45_12, un2, nIlt (show b' < 2 ^ 31 by omega) (show r < 2 ^ 31 by omega), if_pos (show b' < r by omega)]) 5000 (by omega)
          rw [iS_n a' (Nat.le_refl _)] at h
          exact h
        have km2 : KM (Z 28) M2 := KM_tr km (KD_KM k5)
        have h10 : f_X10_at (Z 28) (nI kd) (nI k) q2 = some (if r ≤ b' then nI r else -2, M2) := by
          simp only [f_X10_at, if_neg cx, e3, Option.bind_some, un2, if_neg (show ¬ (1 : Int32) = 0 by decide), hfi, un1, bnd, gd_t (ix_nI (show k < 41 by omega) (by decide)), nI_clamp (show k < 2 ^ 31 by omega), h24, e5, m10]
          by_cases cr : r ≤ b'
          · simp only [if_pos cr]; rfl
          · simp only [if_neg cr]; rfl
        have h9 : f_X9_at (a 0) (Z 0) (Z 3) (Z 6) (Z 8) (o 10) (Z 10) (a 0 (900 + kd)) (Z (24 + kd)) (nI kd) (nI k) q2 = some (if r ≤ b' then nI r else -2, L3, R3, N', Y') := by
          unfold f_X9_at
          rw [if_neg cx, e4, Option.bind_some]
          simp only [un5]
          rw [if_neg (show ¬ (1 : Int32) = 0 by decide), hl2, Option.bind_some]
          simp only [un4, bnd, gd_t (show ix (1 : Int32) 11 = true by decide), gd_t (show ix (0 : Int32) 11 = true by decide), gd_t (ix_nI (show k < 40 by omega) (show 40 < 2 ^ 31 by decide)), nI_clamp (show k < 2 ^ 31 by omega), show (1 : Int32).toNatClampNeg = 1 by decide, show (0 : Int32).toNatClampNeg = 0 by decide, h0Y, h1Y, e10, Option.bind_some]
          rcases hrr3 with ⟨t, rfl⟩ | ⟨t, rfl⟩
          · rw [if_neg (by omega)]; rfl
          · rw [if_pos t]; rfl
        exact ⟨_, L3, R3, N', Y', M2, h9, h10, hL3, hR03, hr3, Or.inr hY', km2⟩
