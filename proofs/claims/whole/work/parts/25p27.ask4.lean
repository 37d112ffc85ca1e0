-- what the model's dealing leaves alone
def KD (M M' : OV) : Prop := ∀ k, k ≤ 11 ∨ k = 24 ∨ k = 25 ∨ 28 ≤ k → ar M' k = ar M k ∧ iv M' k = iv M k
theorem KD_rf (M : OV) : KD M M := fun _ _ => ⟨rfl, rfl⟩
theorem KD_tr {M M' M'' : OV} (h : KD M M') (h2 : KD M' M'') : KD M M'' := fun k hk => ⟨(h2 k hk).1.trans (h k hk).1, (h2 k hk).2.trans (h k hk).2⟩
theorem KL_KD {M M' : OV} (h : KL M M') : KD M M' := fun k hk => ⟨KL_ar h k, KL_iv h (by omega)⟩
theorem dk_KD (M : OV) (f f' : Nat → Int32) : KD M (dk M f f') := fun k hk => ⟨dk_ar _ _ _ (by omega) (by omega), rfl⟩
theorem KD_KM {M M' : OV} (h : KD M M') : KM M M' := fun k hk => h k (by omega)
theorem ML_KD {M M' : OV} {tb : Tb} {p : Pg} {kd : Nat} (h : ML M tb p kd) (k : KD M M') : ML M' tb p kd := ⟨by rw [(k 25 (by omega)).2]; exact h.1, by rw [(k 24 (by omega)).1]; exact h.2⟩
theorem inn_le {rm rk : Nat → Nat} {r a e : Nat} : ∀ x g, (∀ i, g i ≤ rm i) → ∀ i, (inn rm rk r a e x g).2 i ≤ rm i
  | 0, g, h, i => h i
  | x + 1, g, h, i => by
    cases ho : lsO rm rk g r a e with
    | none => rw [inn_n ho]; exact h i
    | some k =>
      rw [inn_s ho]
      refine inn_le x _ (fun j => ?_) i
      have := (lsO_in _ ho).2.2
      unfold va_up
      split
      · rename_i c; rw [c]; omega
      · exact h j
theorem remJ_le {rm rk : Nat → Nat} {a e : Nat} : ∀ j x g, (∀ i, g i ≤ rm i) → ∀ i, remJ rm rk a e j x g i ≤ rm i
  | 0, _, g, h, i => h i
  | j + 1, x, g, h, i => remJ_le j _ _ (inn_le x g h) i
theorem tk_le (tb : Tb) (p : Pg) (a b i : Nat) : tk tb p a b i ≤ rmT tb p b (mhung tb p a b) i := remJ_le _ _ _ (fun _ => Nat.zero_le _) i
theorem pu_le (tb : Tb) (p : Pg) (a b i : Nat) : pu tb p a b i ≤ rmP tb p b i := remJ_le _ _ _ (fun _ => Nat.zero_le _) i
theorem pu_last (tb : Tb) (p : Pg) (a b : Nat) : pu tb p a b b = 0 := by
  have := pu_le tb p a b b
  unfold rmP at this
  rw [if_neg (Nat.lt_irrefl _)] at this
  omega
theorem lnW_at {E : Nat → Nat} {n : Nat} (hE : ∀ a, a ≤ E a) (hn : ∀ a, a < n → E a < n) (hn40 : n ≤ 40) {k i : Nat} (hk : k < LN E n) (h1 : stt E k ≤ i) (h2 : i ≤ E (stt E k)) : lnW E i = k := by
  have hb := stt_ln hE hn hk
  obtain ⟨w1, w2, w3, w4⟩ := lnW_spec hE hn hn40 (show i < n by omega)
  rcases Nat.lt_trichotomy (lnW E i) k with h | h | h
  · have := stt_lt hE h
    omega
  · exact h
  · have := w4 k h
    omega
/-- units of the sign i, of its gap, in the lines of a kind -/
def tkA (tb : Tb) (p : Pg) (kd i : Nat) : Nat := tk tb p (stt (EK tb p kd) (lnW (EK tb p kd) i)) (EK tb p kd (stt (EK tb p kd) (lnW (EK tb p kd) i))) i
def puA (tb : Tb) (p : Pg) (kd i : Nat) : Nat := pu tb p (stt (EK tb p kd) (lnW (EK tb p kd) i)) (EK tb p kd (stt (EK tb p kd) (lnW (EK tb p kd) i))) i
theorem YR_dealt {Y : OV} {tb : Tb} {p : Pg} {kd i : Nat} (hY : YR Y tb p kd) (hs : PgS p) (hi : i < pn p) : ar Y 1 i = nI (tkA tb p kd i) ∧ ar Y 2 i = nI (puA tb p kd i) := by
  have hE : ∀ a, a ≤ EK tb p kd a := fun a => (EK_in hs kd a).1
  have hn : ∀ a, a < pn p → EK tb p kd a < pn p := fun a => (EK_in hs kd a).2
  obtain ⟨w1, w2, w3, w4⟩ := lnW_spec hE hn hs.1 hi
  exact (hY.2.2 _ w1).2 i w2 w3
/-- the model looks at the k-th line and deals its units -/
theorem M_dealK {M : OV} {tb : Tb} {p : Pg} {kd k : Nat} (hM : RM (ar M 8) p) (hs : PgS p) (hR : RT M tb) (hT : TbS tb) (hpt : PgT tb p) (ml : ML M tb p kd) (hk : k < LN (EK tb p kd) (pn p)) : ∃ M', f_X10_deals (LKD M tb p (stt (EK tb p kd) k) (EK tb p kd (stt (EK tb p kd) k))) (nI (stt (EK tb p kd) k)) (nI (EK tb p kd (stt (EK tb p kd) k))) = some M' ∧ KD M M' ∧ (∀ i, stt (EK tb p kd) k ≤ i → i ≤ EK tb p kd (stt (EK tb p kd) k) → ar M' 26 i = nI (tkA tb p kd i) ∧ ar M' 27 i = nI (puA tb p kd i)) ∧ iv M' 13 = bo (mhung tb p (stt (EK tb p kd) k) (EK tb p kd (stt (EK tb p kd) k))) := by
  have hE : ∀ a, a ≤ EK tb p kd a := fun a => (EK_in hs kd a).1
  have hn : ∀ a, a < pn p → EK tb p kd a < pn p := fun a => (EK_in hs kd a).2
  have hb := stt_ln hE hn hk
  have kl : KL M (LKD M tb p (stt (EK tb p kd) k) (EK tb p kd (stt (EK tb p kd) k))) := KL_lk _ _ _ _ _ _ _ _
  obtain ⟨f, f', e, hf⟩ := M_deals (KL_RM kl hM) hs (KL_RT kl hR) hT hpt hb.1 hb.2 rfl rfl rfl
  refine ⟨_, e, KD_tr (KL_KD kl) (dk_KD _ _ _), fun i u1 u2 => ?_, rfl⟩
  have hw := lnW_at hE hn hs.1 hk u1 u2
  rw [dk_1, dk_2]
  unfold tkA puA
  rw [hw]
  exact hf i u1 u2
-- sums of ints
def iS (g : Nat → Int32) (a : Nat) : Nat → Int32
  | 0 => 0
  | k + 1 => if a ≤ k then iS g a k + g k else 0
theorem iS_s {g : Nat → Int32} {a k : Nat} (h : a ≤ k) : iS g a (k + 1) = iS g a k + g k := by rw [iS, if_pos h]
theorem iS_n {g : Nat → Int32} {a : Nat} : ∀ k, k ≤ a → iS g a k = 0
  | 0, _ => rfl
  | k + 1, h => by rw [iS, if_neg (by omega)]
def adv (tb : Tb) (p : Pg) (kd i : Nat) : Int32 := nI (fx tb p 0 i) - nI (tkA tb p kd i) + nI (puA tb p kd i)
theorem Y_adv {Y R C P : OV} {oC oP : Nat} {tb : Tb} {p : Pg} {kd i : Nat} (hY : YR Y tb p kd) (hR : RR oC oP R tb p) (hC : RC C tb) (hP : RP P p) (hs : PgS p) (hi : i < pn p) : f_X3_advanceOf Y R oC C oP P (nI i) = some (adv tb p kd i) := by
  have h40 := hs.1
  have e0 : f_X7_factOf R oC C oP P (0 : Int32) (nI i) = some (nI (fx tb p 0 i)) := R_fact (k := 0) hR.1 hR.2.1 hC hP hs (by decide) hi
  obtain ⟨d1, d2⟩ := YR_dealt hY hs hi
  unfold f_X3_advanceOf
  simp only [e0, Option.bind_some, un1, gd_t (ix_nI (show i < 40 by omega) (by decide)), nI_clamp (show i < 2 ^ 31 by omega), d1, d2]
  rfl
theorem Y_leftEdge {Y R C P : OV} {oC oP : Nat} {tb : Tb} {p : Pg} {kd i : Nat} (hY : YR Y tb p kd) (hR : RR oC oP R tb p) (hC : RC C tb) (hP : RP P p) (hs : PgS p) (hi : i < pn p) : f_X3_leftEdge Y R oC C oP P (nI i) = some (iS (adv tb p kd) (stt (EK tb p kd) (lnW (EK tb p kd) i)) i) := by
  have h40 := hs.1
  have hE : ∀ a, a ≤ EK tb p kd a := fun a => (EK_in hs kd a).1
  have hn : ∀ a, a < pn p → EK tb p kd a < pn p := fun a => (EK_in hs kd a).2
  obtain ⟨L1, L2, L3⟩ := LN_spec hE hn
  obtain ⟨w1, w2, w3, w4⟩ := lnW_spec hE hn h40 hi
  obtain ⟨a, ha⟩ : ∃ a, a = stt (EK tb p kd) (lnW (EK tb p kd) i) := ⟨_, rfl⟩
  have hg : gr Y 0 0 (lnW (EK tb p kd) i) = nI a := by rw [ha]; exact (hY.2.2 _ w1).1.1
  rw [← ha] at w2 ⊢
  have hstep : ∀ k, a ≤ k → k < i → s_X3_leftEdge_24_7 oC oP Y R C P (nI i) ((fun k => (iS (adv tb p kd) a k, nI k)) k) = some (.inl ((fun k => (iS (adv tb p kd) a k, nI k)) (k + 1))) := by
    intro k h1 h2
    simp only [s_X3_leftEdge_24_7, un2, nIle (show i < 2 ^ 31 by omega) (show k < 2 ^ 31 by omega), if_neg (show ¬ i ≤ k by omega), Y_adv hY hR hC hP hs (show k < pn p by omega), Option.bind_some, un1, bnd, nI_1, iS_s h1]
  have hend : s_X3_leftEdge_24_7 oC oP Y R C P (nI i) ((fun k => (iS (adv tb p kd) a k, nI k)) i) = some (.inr (iS (adv tb p kd) a i)) := by
    simp only [s_X3_leftEdge_24_7, un2, if_pos (Int32.le_refl _)]
  have h := lp_for (step := s_X3_leftEdge_24_7 oC oP Y R C P (nI i)) (fun k => (iS (adv tb p kd) a k, nI k)) a i w2 hstep hend 5000 (by omega)
  rw [iS_n a (Nat.le_refl _)] at h
  unfold f_X3_leftEdge
  simp only [Y_lineWith hY hs hi, Option.bind_some, un1, bnd, if_neg (nI_ne1 (show lnW (EK tb p kd) i < 2 ^ 31 by omega)), gd_t (show ix (0 : Int32) 11 = true by decide), gd_t (ix_nI (show lnW (EK tb p kd) i < 40 by omega) (by decide)), nI_clamp (show lnW (EK tb p kd) i < 2 ^ 31 by omega), show (0 : Int32).toNatClampNeg = 0 by decide, hg, h]
theorem M_edge {M : OV} {tb : Tb} {p : Pg} {kd a i : Nat} (hM : RM (ar M 8) p) (hs : PgS p) (hR : RT M tb) (hai : a ≤ i) (hi : i < pn p) (hd : ∀ k, a ≤ k → k < i → ar M 26 k = nI (tkA tb p kd k) ∧ ar M 27 k = nI (puA tb p kd k)) : f_X10_edgeOf M (nI a) (nI i) = some (iS (adv tb p kd) a i) := by
  have h40 := hs.1
  have hstep : ∀ k, a ≤ k → k < i → s_X10_edgeOf_5_3 M (nI i) ((fun k => (iS (adv tb p kd) a k, nI k)) k) = some (.inl ((fun k => (iS (adv tb p kd) a k, nI k)) (k + 1))) := by
    intro k h1 h2
    have hk : k < pn p := by omega
    have l0 := (hs.2.1 k hk).1
    have e : ar M 1 (ps p k) = nI (fx tb p 0 k) := (hR _ l0).1
    obtain ⟨d1, d2⟩ := hd k h1 h2
    simp only [s_X10_edgeOf_5_3, un2, nIle (show i < 2 ^ 31 by omega) (show k < 2 ^ 31 by omega), if_neg (show ¬ i ≤ k by omega), M_class hM hs hk, Option.bind_some, un1, gd_t (ix_nI l0 (show 26 < 2 ^ 31 by decide)), gd_t (ix_nI (show k < 40 by omega) (by decide)), nI_clamp (show ps p k < 2 ^ 31 by omega), nI_clamp (show k < 2 ^ 31 by omega), e, d1, d2, bnd, nI_1, iS_s h1]
    rfl
  have hend : s_X10_edgeOf_5_3 M (nI i) ((fun k => (iS (adv tb p kd) a k, nI k)) i) = some (.inr (iS (adv tb p kd) a i)) := by
    simp only [s_X10_edgeOf_5_3, un2, if_pos (Int32.le_refl _)]
  have h := lp_for (step := s_X10_edgeOf_5_3 M (nI i)) (fun k => (iS (adv tb p kd) a k, nI k)) a i hai hstep hend 5000 (by omega)
  rw [iS_n a (Nat.le_refl _)] at h
  unfold f_X10_edgeOf
  simp only [bnd, h, Option.bind_some, un1]
theorem ok_place : Ok_place INV := by
  rintro o a aK Z B ⟨tb, p, len, v, cnt, nx, q, hc⟩ q0 q1 q2
  have hc' := hc
  obtain ⟨-, ⟨i2, -⟩, -, ⟨hP, -⟩, -, ⟨hC, -⟩, ⟨hR0, -⟩, hr, -, -, ⟨hRT, hM, -⟩, ⟨hT, -, ⟨hs, hpt, -⟩, -⟩⟩ := hc'
  have h40 := hs.1
  refine ok4 hc (fun oY Y k => f_X9_place (a 0) (Z 0) (Z 3) (Z 6) (Z 8) (o 10) (Z 10) oY Y k q1 q2) (fun k => f_X10_place (Z 28) k q1 q2) q0 ?_ ?_
  · intro e1 e2
    exact ⟨-1, by simp only [f_X9_place, e1, Option.bind_some, un1, if_true], by simp only [f_X10_place, e2, Option.bind_some, un1, if_true]⟩
  · intro kd hkd e1 e2 hy
    rcases has_or hP hM hs q1 with ⟨e3, e4⟩ | ⟨i, hi, rfl, e3, e4⟩
    · exact ⟨-1, _, _, Z 8, _, _, by simp only [f_X9_place, e1, e3, Option.bind_some, un1, if_true, if_neg (show ¬ (1 : Int32) = 0 by decide)], by simp only [f_X10_place, e2, e4, Option.bind_some, un1, if_true, if_neg (show ¬ (1 : Int32) = 0 by decide)], QP_same hc hy (KM_rf _)⟩
    · have hE : ∀ a, a ≤ EK tb p kd a := fun a => (EK_in hs kd a).1
      have hn : ∀ a, a < pn p → EK tb p kd a < pn p := fun a => (EK_in hs kd a).2
      obtain ⟨L1, L2, L3⟩ := LN_spec hE hn
      obtain ⟨w1, w2, w3, w4⟩ := lnW_spec hE hn h40 hi
      obtain ⟨L', R', N', Y', e5, hL', hR0', hr', hY'⟩ := L_layout (N := Z 8) hkd i2 hR0 hr hC hP hs hT hpt hy
      obtain ⟨d1, d2⟩ := YR_dealt hY' hs hi
      rcases in_or q2 (show 3 < 2 ^ 31 by decide) (by decide) with ⟨e6, h⟩ | ⟨w, hw, rfl, e6⟩
      · have e6' : f_X10_in q2 0 2 = some 0 := e6
        refine ⟨-1, L', R', N', Y', Z 28, ?_, by simp only [f_X10_place, e2, e4, e6', Option.bind_some, un1, if_true, if_neg (show ¬ (1 : Int32) = 0 by decide)], hL', hR0', hr', Or.inr hY', KM_rf _⟩
        have hne : ∀ j, j < 3 → ¬ q2 = nI j := fun j hj => out_ne (by decide) h hj
        simp only [f_X9_place, e1, e3, Option.bind_some, un1, if_neg (show ¬ (1 : Int32) = 0 by decide), e5, un4]
        rw [if_neg (show ¬ q2 = (0 : Int32) from hne 0 (by decide)), if_neg (show ¬ q2 = (1 : Int32) from hne 1 (by decide)), if_neg (show ¬ q2 = (2 : Int32) from hne 2 (by decide))]
      · have e6' : f_X10_in (nI w) 0 2 = some 1 := e6
        obtain ⟨M1, e7, k7, m7⟩ := M_laysLines hM hs hRT hT hpt hkd
        have km7 := KO_KM k7
        have hM1 := KM_RM km7 hM
        have hRT1 := KM_RT km7 hRT
        obtain ⟨M2, e8, k8, dd, -⟩ := M_dealK hM1 hs hRT1 hT hpt m7 w1
        have m8 := ML_KD m7 k8
        have ml7 : ML (LKD M1 tb p (stt (EK tb p kd) (lnW (EK tb p kd) i)) (EK tb p kd (stt (EK tb p kd) (lnW (EK tb p kd) i)))) tb p kd := m7
        have xk : ix (nI (lnW (EK tb p kd) i)) 41 = true := ix_nI (by omega) (by decide)
        have ck := nI_clamp (show lnW (EK tb p kd) i < 2 ^ 31 by omega)
        have xi : ix (nI i) 40 = true := ix_nI (by omega) (by decide)
        have ci := nI_clamp (show i < 2 ^ 31 by omega)
        have h10 : f_X10_place (Z 28) (nI kd) (nI i) (nI w) = (if nI w = 0 then some (iS (adv tb p kd) (stt (EK tb p kd) (lnW (EK tb p kd) i)) i, M2) else if nI w = 1 then some (nI (tkA tb p kd i), M2) else some (nI (puA tb p kd i), M2)) := by
          simp only [f_X10_place, e2, e4, e6', Option.bind_some, un1, if_neg (show ¬ (1 : Int32) = 0 by decide), e7, M_lineWith m7 hs hi, bnd, M_first m7 hs w1, gd_t xk, ck, M_lookK hM1 hs hRT1 hT hpt m7 w1, M_first ml7 hs w1, ml7.2 _ w1, e8, M_first m8 hs w1, gd_t xi, ci, M_edge (KM_RM (KD_KM k8) hM1) hs (KM_RT (KD_KM k8) hRT1) w2 hi (fun k u1 u2 => dd k u1 (by omega)), (dd i w2 w3).1, (dd i w2 w3).2]
        have km2 : KM (Z 28) M2 := KM_tr km7 (KD_KM k8)
        have w3' : w = 0 ∨ w = 1 ∨ w = 2 := by omega
        rcases w3' with rfl | rfl | rfl
        · obtain ⟨L'', R'', e9, hR'', hL''⟩ := L_ruler (a := a) (L := L') (R := R') ((hL' 10).trans i2) hR0' hr' hC hP hs hT hpt
          refine ⟨iS (adv tb p kd) (stt (EK tb p kd) (lnW (EK tb p kd) i)) i, L'', R'', N', Y', M2, ?_, h10, fun k => (hL'' k).trans (hL' k), RR_0 hR'', Or.inr hR'', Or.inr hY', km2⟩
          simp only [f_X9_place, e1, e3, Option.bind_some, un1, if_neg (show ¬ (1 : Int32) = 0 by decide), e5, un4, if_pos (show nI 0 = (0 : Int32) from rfl), e9, un2, Y_leftEdge hY' hR'' hC hP hs hi]
        · refine ⟨nI (tkA tb p kd i), L', R', N', Y', M2, ?_, h10, hL', hR0', hr', Or.inr hY', km2⟩
          simp only [f_X9_place, e1, e3, Option.bind_some, un1, if_neg (show ¬ (1 : Int32) = 0 by decide), e5, un4, if_neg (show ¬ nI 1 = (0 : Int32) by decide), if_pos (show nI 1 = (1 : Int32) from rfl), gd_t xi, ci, d1]
        · refine ⟨nI (puA tb p kd i), L', R', N', Y', M2, ?_, h10, hL', hR0', hr', Or.inr hY', km2⟩
          simp only [f_X9_place, e1, e3, Option.bind_some, un1, if_neg (show ¬ (1 : Int32) = 0 by decide), e5, un4, if_neg (show ¬ nI 2 = (0 : Int32) by decide), if_neg (show ¬ nI 2 = (1 : Int32) by decide), if_pos (show nI 2 = (2 : Int32) from rfl), gd_t xi, ci, d2]
