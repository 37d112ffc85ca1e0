-- river: a line, the class
def RA1 (L : Int32 → Int32 × Int32 × Int32 × Int32 × OV → Option (Int32 × Int32 × OV)) : (Int32 × Int32 × OV) → Option ((Int32 × Int32 × OV) ⊕ (Int32 × OV)) := un3 (fun v2_5 v3_6 Y_7 => (if (iv Y_7 6) ≤ v3_6 then some (.inr (v2_5, Y_7)) else bnd (0 : Int32) (fun v4_8 => bnd (0 : Int32) (fun v5_9 => gd (ix (0 : Int32) 11) (gd (ix v3_6 40) (bnd (gr Y_7 0 (0 : Int32).toNatClampNeg v3_6.toNatClampNeg) (fun v6_11 => ((L v3_6 (v2_5, v4_8, v5_9, v6_11, Y_7)).bind (un3 (fun v2_34 v4_35 Y_36 => (f_X3_dryUp Y_36 v4_35 (80 : Int32)).bind (un1 (fun Y_37 => bnd (v3_6 + 1) (fun v3_39 => some (.inl (v2_34, v3_39, Y_37)))))))))))))))
theorem RA1_eq (oC oP : Nat) (R C P : OV) : s_X3_longestRiver_12_4 oC oP R C P = RA1 (fun v => lp (s_X3_longestRiver_36_12 oC oP R C P v) 5000) := rfl
theorem RA1_at {L : Int32 → Int32 × Int32 × Int32 × Int32 × OV → Option (Int32 × Int32 × OV)} {x y z a q : Int32} {k : Nat} {Y Y1 Y2 : OV} (hk : k < 40) (h6 : ¬ iv Y 6 ≤ nI k) (h0 : gr Y 0 0 k = a) (e1 : L (nI k) (x, 0, 0, a, Y) = some (y, z, Y1)) (e2 : f_X3_dryUp Y1 z (80 : Int32) = some Y2) : RA1 L (x, nI k, Y) = some (.inl (y, nI (k + 1), Y2)) := by
  unfold RA1
  simp only [un3, bnd_e]
  rw [if_neg h6, gd_t (by decide), gd_t (ix_nI hk (by decide)), nI_clamp (by omega), show (0 : Int32).toNatClampNeg = 0 from rfl, h0, e1, Option.bind_some]
  simp only [un3]
  rw [e2, Option.bind_some]
  simp only [un1, nI_1]
def RA2 (L : Int32 × Int32 × OV → Option (Int32 × OV)) (Y : OV) : Option (Int32 × OV) := bnd (sW Y 5 (fillF 80 (0 : Int32) (ar Y 5))) (fun Y_1 => bnd (0 : Int32) (fun v2_2 => bnd (0 : Int32) (fun v3_3 => ((L (v2_2, v3_3, Y_1)).bind (un2 (fun v2_40 Y_41 => some (v2_40, Y_41)))))))
theorem RA2_eq (Y R : OV) (oC : Nat) (C : OV) (oP : Nat) (P : OV) : f_X3_longestRiver Y R oC C oP P = RA2 (lp (s_X3_longestRiver_12_4 oC oP R C P) 5000) Y := rfl
theorem RA2_at {L : Int32 × Int32 × OV → Option (Int32 × OV)} {Y Y1 : OV} {x : Int32} (e : L (0, 0, sW Y 5 (fillF 80 0 (ar Y 5))) = some (x, Y1)) : RA2 L Y = some (x, Y1) := by
  unfold RA2
  simp only [bnd_e]
  rw [e, Option.bind_some]
  rfl
section
variable {tb : Tb} {p : Pg} {kd : Nat}
theorem line_80 (hs : PgS p) (hT : TbS tb) (hpt : PgT tb p) {k i : Nat} (hk : k < LN (EK tb p kd) (pn p)) (h1 : stt (EK tb p kd) k ≤ i) (h2 : i < EK tb p kd (stt (EK tb p kd) k)) (hu : 0 < puA tb p kd i) : sg (wN tb p kd) (stt (EK tb p kd) k) (EK tb p kd (stt (EK tb p kd) k)) ≤ 80 := by
  have hE : ∀ a, a ≤ EK tb p kd a := fun a => (EK_in hs kd a).1
  have hn : ∀ a, a < pn p → EK tb p kd a < pn p := fun a => (EK_in hs kd a).2
  have hb := stt_ln hE hn hk
  have et : ∀ j, stt (EK tb p kd) k ≤ j → j ≤ EK tb p kd (stt (EK tb p kd) k) → tkA tb p kd j = tk tb p (stt (EK tb p kd) k) (EK tb p kd (stt (EK tb p kd) k)) j ∧ puA tb p kd j = pu tb p (stt (EK tb p kd) k) (EK tb p kd (stt (EK tb p kd) k)) j := fun j u1 u2 => by
    unfold tkA puA
    rw [lnW_at hE hn hs.1 hk u1 u2]
    exact ⟨rfl, rfl⟩
  rw [(et i h1 (by omega)).2] at hu
  have := gap_80 hs hT hpt hb.2 h1 h2 hu
  rw [sg_congr (g := fun j => fx tb p 0 j - tk tb p (stt (EK tb p kd) k) (EK tb p kd (stt (EK tb p kd) k)) j + pu tb p (stt (EK tb p kd) k) (EK tb p kd (stt (EK tb p kd) k)) j) _ (fun j u1 u2 => by unfold wN; rw [(et j u1 (by omega)).1, (et j u1 (by omega)).2])]
  exact this
theorem nxF_free {w u f : Nat → Nat} {a b i β x : Nat} (hw : ∀ j, a ≤ j → j < b → u j ≤ w j) (hi : a ≤ i) (hib : i < b) (st : ∀ j, a ≤ j → j < i → 0 < u j → sg w a (j + 1) ≤ β) (h1 : β ≤ x) (h2 : x + u i < sg w a (i + 1)) : nxF w u a b f x = 0 := by
  unfold nxF
  rw [if_neg]
  intro h
  obtain ⟨j, j1, j2, j3, j4⟩ := (gpB_iff b).1 h
  rcases Nat.lt_or_ge j i with c | c
  · have := st j j1 c (by omega)
    omega
  · by_cases d : j = i
    · subst d; omega
    · have m1 : sg w a (i + 1) ≤ sg w a j := sg_mono (by omega)
      have m2 := hw j j1 j2
      rw [sg_succ j1] at j3
      omega
theorem nxF_end {w u f : Nat → Nat} {a b β x : Nat} (st : ∀ j, a ≤ j → j < b → 0 < u j → sg w a (j + 1) ≤ β) (h1 : β ≤ x) : nxF w u a b f x = 0 := by
  unfold nxF
  rw [if_neg]
  intro h
  obtain ⟨j, j1, j2, j3, j4⟩ := (gpB_iff b).1 h
  have := st j j1 j2 (by omega)
  omega
theorem nxF_hit {w u f : Nat → Nat} {a b i x : Nat} (hi : a ≤ i) (hib : i < b) (h1 : sg w a (i + 1) ≤ x + u i) (h2 : x < sg w a (i + 1)) : nxF w u a b f x = f x + 1 := by
  unfold nxF
  rw [if_pos ((gpB_iff b).2 ⟨i, hi, hib, h1, h2⟩)]
theorem nxF_le {w u f : Nat → Nat} {a b c : Nat} (h : ∀ x, f x ≤ c) (x : Nat) : nxF w u a b f x ≤ c + 1 := by
  have := h x
  unfold nxF
  split <;> omega
theorem Y_rline {Y R C P : OV} {oC oP : Nat} (hY : YR Y tb p kd) (hR : RR oC oP R tb p) (hC : RC C tb) (hP : RP P p) (hs : PgS p) (hT : TbS tb) (hpt : PgT tb p) {k : Nat} (hk : k < LN (EK tb p kd) (pn p)) {f : Nat → Nat} {L0 : Nat} (hf : ∀ x, x < 80 → ar Y 5 x = nI (f x)) (h99 : ∀ x, f x ≤ 99) (hL : L0 ≤ 1000) : ∃ Y', s_X3_longestRiver_12_4 oC oP R C P (nI L0, nI k, Y) = some (.inl (nI (max L0 (mxr (nxF (wN tb p kd) (puA tb p kd) (stt (EK tb p kd) k) (EK tb p kd (stt (EK tb p kd) k)) f) 0 500)), nI (k + 1), Y')) ∧ KY Y Y' ∧ ∀ x, x < 80 → ar Y' 5 x = nI (nxF (wN tb p kd) (puA tb p kd) (stt (EK tb p kd) k) (EK tb p kd (stt (EK tb p kd) k)) f x) := by
  have h40 := hs.1
  have hE : ∀ a, a ≤ EK tb p kd a := fun a => (EK_in hs kd a).1
  have hn : ∀ a, a < pn p → EK tb p kd a < pn p := fun a => (EK_in hs kd a).2
  obtain ⟨l1, l2, l3⟩ := LN_spec hE hn
  have hb := stt_ln hE hn hk
  have g80 : ∀ i, stt (EK tb p kd) k ≤ i → i < EK tb p kd (stt (EK tb p kd) k) → 0 < puA tb p kd i → sg (wN tb p kd) (stt (EK tb p kd) k) (EK tb p kd (stt (EK tb p kd) k)) ≤ 80 := fun i u1 u2 u3 => line_80 hs hT hpt hk u1 u2 u3
  obtain ⟨⟨y0, y1, -⟩, -⟩ := hY.2.2 k hk
  generalize EK tb p kd (stt (EK tb p kd) k) = b at *
  generalize stt (EK tb p kd) k = a at *
  obtain ⟨w, hw⟩ : ∃ w, w = wN tb p kd := ⟨_, rfl⟩
  obtain ⟨u, hu⟩ : ∃ u, u = puA tb p kd := ⟨_, rfl⟩
  rw [← hw, ← hu] at g80 ⊢
  obtain ⟨F, hF⟩ : ∃ F, F = nxF w u a b f := ⟨_, rfl⟩
  rw [← hF]
  have uw : ∀ j, a ≤ j → j < b → u j ≤ w j := fun j j1 j2 => by rw [hu, hw]; exact (tkA_w hs hT hpt kd (by omega)).2.2
  have w18 : ∀ j, a ≤ j → j < b → w j ≤ 18 := fun j j1 j2 => by rw [hw]; exact (tkA_w hs hT hpt kd (by omega)).2.1
  have sB : ∀ i, i ≤ b → sg w a i ≤ 18 * 40 := fun i hi => by
    have := sg_le (f := w) (c := 18) (a := a) i (fun j j1 j2 => w18 j j1 (by omega))
    have : 18 * (i - a) ≤ 18 * 40 := Nat.mul_le_mul_left 18 (by omega)
    omega
  have F100 : ∀ x, F x ≤ 100 := fun x => by rw [hF]; exact nxF_le h99 x
  have mB : ∀ e, mxr F 0 e ≤ 100 := fun e => mxr_le F100 e
  have xk : ix (nI k) 40 = true := ix_nI (by omega) (by decide)
  have ck := nI_clamp (show k < 2 ^ 31 by omega)
  obtain ⟨r, e1, β, Y1, rfl, k1, b80, st1, c1⟩ := lp_inv (step := s_X3_longestRiver_36_12 oC oP R C P (nI k)) (fun i s => ∃ β Y', s = (nI (max L0 (mxr F 0 β)), nI β, nI (sg w a i), nI i, Y') ∧ KY Y Y' ∧ β ≤ 80 ∧ β ≤ sg w a i ∧ (∀ j, a ≤ j → j < i → 0 < u j → sg w a (j + 1) ≤ β) ∧ ∀ x, x < 80 → ar Y' 5 x = nI (if x < β then F x else f x)) (fun r => ∃ β Y', r = (nI (max L0 (mxr F 0 β)), nI β, Y') ∧ KY Y Y' ∧ β ≤ 80 ∧ (∀ j, a ≤ j → j < b → 0 < u j → sg w a (j + 1) ≤ β) ∧ ∀ x, x < 80 → ar Y' 5 x = nI (if x < β then F x else f x)) a b hb.1 (by
    rintro i s a1 a2 ⟨β, Y', rfl, kk, b1, b2, b3, b4⟩
    have hin : i < pn p := by omega
    have hY' := YR_KY hY kk
    have d2 : ar Y' 2 i = nI (u i) := by rw [hu]; exact (YR_dealt hY' hs hin).2
    have xi : ix (nI i) 40 = true := ix_nI (by omega) (by decide)
    have ci := nI_clamp (show i < 2 ^ 31 by omega)
    have gb : gr Y' 0 1 k = nI b := by rw [kk.2.1]; exact y1
    have ad : f_X3_advanceOf Y' R oC C oP P (nI i) = some (nI (w i)) := by rw [Y_adv hY' hR hC hP hs hin, adv_nI hs hT hpt kd hin, hw]
    have ed : nI (sg w a i) + nI (w i) = nI (sg w a (i + 1)) := by rw [nI_add, sg_succ a1]
    have sb := sB (i + 1) (by omega)
    have uwi := uw i a1 a2
    have u18 := w18 i a1 a2
    have z0 : (nI (u i) ≤ (0 : Int32)) = (u i ≤ 0) := nIle (b := 0) (by omega) (by decide)
    have sm1 : sg w a (i + 1) = sg w a i + w i := sg_succ a1
    unfold s_X3_longestRiver_36_12
    simp only [un5]
    rw [gd_t (by decide), gd_t xk, show (1 : Int32).toNatClampNeg = 1 from rfl, ck, gb, if_neg (by rw [nIle (by omega) (by omega)]; omega), ad, Option.bind_some]
    simp only [un1, bnd_e]
    rw [ed, gd_t xi, ci, d2]
    simp only [z0]
    by_cases c : u i ≤ 0
    · rw [if_pos c]
      refine ⟨(nI (max L0 (mxr F 0 β)), nI β, nI (sg w a (i + 1)), nI (i + 1), Y'), ?_, β, Y', rfl, kk, b1, by omega, fun j j1 j2 j3 => ?_, b4⟩
      · unfold j_X3_longestRiver_112_25
        rw [bnd_e, nI_1]
      · by_cases d : j = i
        · subst d; omega
        · exact b3 j j1 (by omega) j3
    · rw [if_neg c, gd_t xi, nI_sub (show u i ≤ sg w a (i + 1) by omega)]
      have e80 : sg w a (i + 1) ≤ 80 := Nat.le_trans (sg_mono (by omega)) (g80 i a1 a2 (by omega))
      obtain ⟨Y1, q1, q2, q3⟩ := Y_dry (Y := Y') (s := β) (e := sg w a (i + 1) - u i) (by omega) (by omega)
      have d2' : ar Y1 2 i = nI (u i) := by rw [q2.1 2 (by decide)]; exact d2
      obtain ⟨Y2, r1, r2, r3⟩ := Y_flow (Y := Y1) (f := f) (s := sg w a (i + 1) - u i) (e := sg w a (i + 1)) (by omega) e80 (fun x x1 x2 => by rw [q3 x, if_neg (by omega), b4 x (by omega), if_neg (by omega)]) (fun x => by have := h99 x; omega)
      rw [q1, Option.bind_some]
      rw [gd_t xi, d2', nI_sub (show u i ≤ sg w a (i + 1) by omega), r1, Option.bind_some]
      simp only [un2]
      have mm : mxr (fun x => f x + 1) (sg w a (i + 1) - u i) (sg w a (i + 1)) = mxr F (sg w a (i + 1) - u i) (sg w a (i + 1)) := mxr_congr _ (fun x x1 x2 => by rw [hF]; exact (nxF_hit a1 a2 (by omega) x2).symm)
      have m0 : mxr F 0 (sg w a (i + 1) - u i) = mxr F 0 β := by
        rw [← mxr_cat (s := β) (sg w a (i + 1) - u i) (by omega), mxr_z (s := β) _ (fun x x1 x2 => by rw [hF]; exact nxF_free uw a1 a2 b3 x1 (by omega))]
        omega
      have m1 : max (max L0 (mxr F 0 β)) (mxr F (sg w a (i + 1) - u i) (sg w a (i + 1))) = max L0 (mxr F 0 (sg w a (i + 1))) := by
        rw [← mxr_cat (s := sg w a (i + 1) - u i) (sg w a (i + 1)) (by omega), m0]
        omega
      have bb := mB β
      have bb2 := mxr_le F100 (s := sg w a (i + 1) - u i) (sg w a (i + 1))
      rw [mm, nI_max (by omega) (by omega), m1]
      refine ⟨(nI (max L0 (mxr F 0 (sg w a (i + 1)))), nI (sg w a (i + 1)), nI (sg w a (i + 1)), nI (i + 1), Y2), ?_, sg w a (i + 1), Y2, rfl, KY_tr kk (KY_tr q2 r2), e80, Nat.le_refl _, fun j j1 j2 j3 => sg_mono (by omega), fun x hx => ?_⟩
      · unfold j_X3_longestRiver_112_25
        rw [bnd_e, nI_1]
      · rw [r3 x]
        by_cases d1 : sg w a (i + 1) - u i ≤ x ∧ x < sg w a (i + 1)
        · rw [if_pos d1, if_pos d1.2, hF, nxF_hit a1 a2 (by omega) d1.2]
        · rw [if_neg d1, q3 x]
          by_cases d3 : β ≤ x ∧ x < sg w a (i + 1) - u i
          · rw [if_pos d3, if_pos (by omega), hF, nxF_free uw a1 a2 b3 d3.1 (by omega)]
            rfl
          · rw [if_neg d3, b4 x hx]
            by_cases d4 : x < β
            · rw [if_pos d4, if_pos (by omega)]
            · rw [if_neg d4, if_neg (by omega)]) (by
    rintro s ⟨β, Y', rfl, kk, b1, b2, b3, b4⟩
    refine ⟨(nI (max L0 (mxr F 0 β)), nI β, Y'), ?_, β, Y', rfl, kk, b1, b3, b4⟩
    have gb : gr Y' 0 1 k = nI b := by rw [kk.2.1]; exact y1
    unfold s_X3_longestRiver_36_12
    simp only [un5]
    rw [gd_t (by decide), gd_t xk, show (1 : Int32).toNatClampNeg = 1 from rfl, ck, gb, if_pos (Int32.le_refl _)]) 5000 (by omega) (nI L0, 0, 0, nI a, Y) ⟨0, Y, by rw [sg_0 (Nat.le_refl a), mxr_n 0 (Nat.le_refl _), Nat.max_eq_left (Nat.zero_le L0)]; rfl, KY_rf Y, Nat.zero_le _, Nat.zero_le _, fun j j1 j2 => by omega, fun x hx => by rw [if_neg (by omega)]; exact hf x hx⟩
  obtain ⟨Y2, q1, q2, q3⟩ := Y_dry (Y := Y1) (s := β) (e := 80) b80 (by decide)
  have q1' : f_X3_dryUp Y1 (nI β) (80 : Int32) = some Y2 := q1
  have m5 : mxr F 0 500 = mxr F 0 β := by
    rw [← mxr_cat (s := β) 500 (by omega), mxr_z (s := β) _ (fun x x1 x2 => by rw [hF]; exact nxF_end st1 x1)]
    omega
  refine ⟨Y2, ?_, KY_tr k1 q2, fun x hx => ?_⟩
  · rw [RA1_eq, m5]
    exact RA1_at (q := 0) (by omega) (by rw [hY.1, nIle (by omega) (by omega)]; omega) y0 e1 q1'
  · rw [q3 x, c1 x hx]
    by_cases d : x < β
    · rw [if_neg (by omega), if_pos d]
    · rw [if_pos ⟨by omega, hx⟩, hF, nxF_end st1 (by omega)]
      rfl
end
