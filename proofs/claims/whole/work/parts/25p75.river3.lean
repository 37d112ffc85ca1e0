-- river: the model
def KV (M M' : OV) : Prop := (∀ k, k ≠ 29 → k ≠ 30 → ar M' k = ar M k) ∧ ∀ k, iv M' k = iv M k
theorem KV_rf (M : OV) : KV M M := ⟨fun _ _ _ => rfl, fun _ => rfl⟩
theorem KV_tr {M M' M'' : OV} (h : KV M M') (h2 : KV M' M'') : KV M M'' := ⟨fun k a b => (h2.1 k a b).trans (h.1 k a b), fun k => (h2.2 k).trans (h.2 k)⟩
theorem KV_29 (M : OV) (j : Nat) (x : Int32) : KV M (sA M 29 j x) := ⟨fun k a _ => by rw [arA, if_neg a], fun _ => rfl⟩
theorem KV_30 (M : OV) (j : Nat) (x : Int32) : KV M (sA M 30 j x) := ⟨fun k _ b => by rw [arA, if_neg b], fun _ => rfl⟩
theorem KV_KM {M M' : OV} (h : KV M M') : KM M M' := fun k hk => ⟨h.1 k (by omega) (by omega), h.2 k⟩
theorem ML_KV {M M' : OV} {tb : Tb} {p : Pg} {kd : Nat} (h : ML M tb p kd) (k : KV M M') : ML M' tb p kd := ⟨by rw [k.2]; exact h.1, by rw [k.1 24 (by decide) (by decide)]; exact h.2⟩
theorem nar_0 : vp_nar .boolean (0 : Int32) = 0 := by decide
theorem nar_1 : vp_nar .boolean (1 : Int32) = 1 := by decide
theorem M_f29 (M : OV) : ∃ M', lp s_X10_river_16_6 5000 (0, M) = some M' ∧ KV M M' ∧ ∀ x, x < 500 → ar M' 29 x = 0 := by
  refine lp_inv (step := s_X10_river_16_6) (fun i s => ∃ M', s = (nI i, M') ∧ KV M M' ∧ ∀ x, x < i → ar M' 29 x = 0) (fun M' => KV M M' ∧ ∀ x, x < 500 → ar M' 29 x = 0) 0 500 (by decide) ?_ ?_ 5000 (by decide) (0, M) ⟨M, rfl, KV_rf M, fun x hx => absurd hx (Nat.not_lt_zero x)⟩
  · rintro i s - hi ⟨M', rfl, k, h⟩
    have xi : ix (nI i) 500 = true := ix_nI hi (by decide)
    have ci := nI_clamp (show i < 2 ^ 31 by omega)
    refine ⟨(nI (i + 1), sA M' 29 i 0), ?_, _, rfl, KV_tr k (KV_29 _ _ _), fun x hx => ?_⟩
    · simp only [s_X10_river_16_6, un2, show ((500 : Int32) ≤ nI i) = (500 ≤ i) from nIle (a := 500) (by decide) (by omega), if_neg (show ¬ 500 ≤ i by omega), gd_t xi, ci, bnd_e, nI_1]
    · rw [arA, if_pos rfl, updE]
      by_cases c : x = i
      · rw [if_pos c]
      · rw [if_neg c]; exact h x (by omega)
  · rintro s ⟨M', rfl, k, h⟩
    exact ⟨M', by simp only [s_X10_river_16_6, un2, if_pos (show (500 : Int32) ≤ nI 500 by decide)], k, h⟩
theorem M_f30 (M : OV) : ∃ M', lp s_X10_river_81_27 5000 (0, M) = some M' ∧ KV M M' ∧ ar M' 29 = ar M 29 ∧ ∀ x, x < 500 → ar M' 30 x = 0 := by
  refine lp_inv (step := s_X10_river_81_27) (fun i s => ∃ M', s = (nI i, M') ∧ KV M M' ∧ ar M' 29 = ar M 29 ∧ ∀ x, x < i → ar M' 30 x = 0) (fun M' => KV M M' ∧ ar M' 29 = ar M 29 ∧ ∀ x, x < 500 → ar M' 30 x = 0) 0 500 (by decide) ?_ ?_ 5000 (by decide) (0, M) ⟨M, rfl, KV_rf M, rfl, fun x hx => absurd hx (Nat.not_lt_zero x)⟩
  · rintro i s - hi ⟨M', rfl, k, h9, h⟩
    have xi : ix (nI i) 500 = true := ix_nI hi (by decide)
    have ci := nI_clamp (show i < 2 ^ 31 by omega)
    refine ⟨(nI (i + 1), sA M' 30 i 0), ?_, _, rfl, KV_tr k (KV_30 _ _ _), by rw [arA, if_neg (by decide)]; exact h9, fun x hx => ?_⟩
    · simp only [s_X10_river_81_27, un2, show ((500 : Int32) ≤ nI i) = (500 ≤ i) from nIle (a := 500) (by decide) (by omega), if_neg (show ¬ 500 ≤ i by omega), gd_t xi, ci, bnd_e, nI_1, nar_0]
    · rw [arA, if_pos rfl, updE]
      by_cases c : x = i
      · rw [if_pos c]
      · rw [if_neg c]; exact h x (by omega)
  · rintro s ⟨M', rfl, k, h⟩
    exact ⟨M', by simp only [s_X10_river_81_27, un2, if_pos (show (500 : Int32) ≤ nI 500 by decide)], k, h⟩
theorem M_gap {M : OV} {i s n : Nat} {g : Nat → Bool} (hi : i < 40) (h27 : ar M 27 i = nI n) (hn : n ≤ 9) (hs : 0 < n → s + n ≤ 500) (h30 : ∀ x, x < 500 → ar M 30 x = bo (g x)) : ∃ M', lp (s_X10_river_157_47 (nI i) (nI s)) 5000 (0, M) = some M' ∧ KV M M' ∧ ar M' 29 = ar M 29 ∧ ∀ x, x < 500 → ar M' 30 x = bo (decide (s ≤ x ∧ x < s + n) || g x) := by
  have xi : ix (nI i) 40 = true := ix_nI hi (by decide)
  have ci := nI_clamp (show i < 2 ^ 31 by omega)
  refine lp_inv (step := s_X10_river_157_47 (nI i) (nI s)) (fun m t => ∃ M', t = (nI m, M') ∧ KV M M' ∧ ar M' 29 = ar M 29 ∧ ∀ x, x < 500 → ar M' 30 x = bo (decide (s ≤ x ∧ x < s + m) || g x)) (fun M' => KV M M' ∧ ar M' 29 = ar M 29 ∧ ∀ x, x < 500 → ar M' 30 x = bo (decide (s ≤ x ∧ x < s + n) || g x)) 0 n (Nat.zero_le _) ?_ ?_ 5000 (by omega) (0, M) ⟨M, rfl, KV_rf M, rfl, fun x hx => by rw [decide_eq_false (by omega), Bool.false_or]; exact h30 x hx⟩
  · rintro m t - hm ⟨M', rfl, k, h9, h⟩
    have hs' := hs (by omega)
    have g27 : ar M' 27 i = nI n := by rw [k.1 27 (by decide) (by decide)]; exact h27
    have xs : ix (nI (s + m)) 500 = true := ix_nI (by omega) (by decide)
    have cs := nI_clamp (show s + m < 2 ^ 31 by omega)
    refine ⟨(nI (m + 1), sA M' 30 (s + m) 1), ?_, _, rfl, KV_tr k (KV_30 _ _ _), by rw [arA, if_neg (by decide)]; exact h9, fun x hx => ?_⟩
    · simp only [s_X10_river_157_47, un2, gd_t xi, ci, g27, nIle (show n < 2 ^ 31 by omega) (show m < 2 ^ 31 by omega), if_neg (show ¬ n ≤ m by omega), nI_add, gd_t xs, cs, bnd_e, nI_1, nar_1]
    · rw [arA, if_pos rfl, updE]
      by_cases c : x = s + m
      · rw [if_pos c, decide_eq_true (by omega), Bool.true_or]; rfl
      · rw [if_neg c, h x hx]
        by_cases d : s ≤ x ∧ x < s + m
        · rw [decide_eq_true d, decide_eq_true (by omega)]
        · rw [decide_eq_false d, decide_eq_false (by omega)]
  · rintro t ⟨M', rfl, k, h9, h⟩
    have g27 : ar M' 27 i = nI n := by rw [k.1 27 (by decide) (by decide)]; exact h27
    exact ⟨M', by simp only [s_X10_river_157_47, un2, gd_t xi, ci, g27, if_pos (Int32.le_refl _)], k, h9, h⟩
theorem M_runs {M : OV} {f : Nat → Nat} {g : Nat → Bool} {L0 : Nat} (hL : L0 ≤ 1000) (h99 : ∀ x, f x ≤ 99) (h29 : ∀ x, x < 500 → ar M 29 x = nI (f x)) (h30 : ∀ x, x < 500 → ar M 30 x = bo (g x)) : ∃ M', lp s_X10_river_195_56 5000 (nI L0, 0, M) = some (nI (max L0 (mxr (fun x => if g x = true then f x + 1 else 0) 0 500)), M') ∧ KV M M' ∧ ∀ x, x < 500 → ar M' 29 x = nI (if g x = true then f x + 1 else 0) := by
  obtain ⟨F, hF⟩ : ∃ F : Nat → Nat, F = fun x => if g x = true then f x + 1 else 0 := ⟨_, rfl⟩
  have F100 : ∀ x, F x ≤ 100 := fun x => by
    have := h99 x
    rw [hF]
    show (if g x = true then f x + 1 else 0) ≤ 100
    split <;> omega
  obtain ⟨r, e, M2, rfl, k, h⟩ := lp_inv (step := s_X10_river_195_56) (fun i t => ∃ M', t = (nI (max L0 (mxr F 0 i)), nI i, M') ∧ KV M M' ∧ ar M' 30 = ar M 30 ∧ (∀ x, x < 500 → ar M' 29 x = nI (if x < i then F x else f x))) (fun r => ∃ M', r = (nI (max L0 (mxr F 0 500)), M') ∧ KV M M' ∧ ∀ x, x < 500 → ar M' 29 x = nI (F x)) 0 500 (by decide) (by
    rintro i t - hi ⟨M', rfl, k, h3, h⟩
    have xi : ix (nI i) 500 = true := ix_nI hi (by decide)
    have ci := nI_clamp (show i < 2 ^ 31 by omega)
    have g30 : ar M' 30 i = bo (g i) := by rw [h3]; exact h30 i hi
    have g29 : ar M' 29 i = nI (f i) := by rw [h i hi, if_neg (by omega)]
    have bF := F100 i
    have bm := mxr_le F100 (s := 0) i
    have fi := h99 i
    obtain ⟨M3, hM3⟩ : ∃ X, X = sA M' 29 i (nI (F i)) := ⟨_, rfl⟩
    have a29 : ar M3 29 i = nI (F i) := by rw [hM3, arA, if_pos rfl, updE, if_pos rfl]
    have jn : ∀ t, t = nI (F i) → j_X10_river_232_61 M' (nI (max L0 (mxr F 0 i))) (nI i) t = some (.inl (nI (max L0 (mxr F 0 (i + 1))), nI (i + 1), M3)) := by
      intro t ht
      unfold j_X10_river_232_61
      rw [gd_t xi, bnd_e, ci, ht, ← hM3, gd_t xi, a29, gd_t xi]
      simp only [bnd_e, j_X10_river_252_64, nI_1, nIle (show F i < 2 ^ 31 by omega) (show max L0 (mxr F 0 i) < 2 ^ 31 by omega)]
      rw [mxr_s (Nat.zero_le i)]
      by_cases c : F i ≤ max L0 (mxr F 0 i)
      · rw [if_pos c, show max L0 (max (mxr F 0 i) (F i)) = max L0 (mxr F 0 i) by omega]
      · rw [if_neg c, show max L0 (max (mxr F 0 i) (F i)) = F i by omega]
    refine ⟨(nI (max L0 (mxr F 0 (i + 1))), nI (i + 1), M3), ?_, M3, rfl, KV_tr k (by rw [hM3]; exact KV_29 _ _ _), by rw [hM3, arA, if_neg (by decide)]; exact h3, fun x hx => ?_⟩
    · unfold s_X10_river_195_56
      simp only [un3]
      rw [if_neg (show ¬ (500 : Int32) ≤ nI i by rw [show ((500 : Int32) ≤ nI i) = (500 ≤ i) from nIle (a := 500) (by decide) (by omega)]; omega), gd_t xi, ci, g30, gd_t xi, g29, nI_1]
      simp only [bo_0]
      cases c : g i
      · rw [if_pos rfl]
        exact jn 0 (by rw [hF]; show (0 : Int32) = nI (if g i = true then f i + 1 else 0); rw [if_neg (by rw [c]; simp)]; rfl)
      · rw [if_neg (by simp)]
        exact jn _ (by rw [hF]; show nI (f i + 1) = nI (if g i = true then f i + 1 else 0); rw [if_pos c])
    · rw [hM3, arA, if_pos rfl, updE]
      by_cases c : x = i
      · rw [if_pos c, if_pos (by omega), c]
      · rw [if_neg c, h x hx]
        by_cases d : x < i
        · rw [if_pos d, if_pos (by omega)]
        · rw [if_neg d, if_neg (by omega)]) (by
    rintro t ⟨M', rfl, k, h3, h⟩
    refine ⟨(nI (max L0 (mxr F 0 500)), M'), ?_, M', rfl, k, fun x hx => by rw [h x hx, if_pos hx]⟩
    unfold s_X10_river_195_56
    simp only [un3]
    rw [if_pos (show (500 : Int32) ≤ nI 500 by decide)]) 5000 (by decide) (nI L0, 0, M) ⟨M, by rw [mxr_n 0 (Nat.le_refl _), Nat.max_eq_left (Nat.zero_le L0)]; rfl, KV_rf M, rfl, fun x hx => by rw [if_neg (by omega)]; exact h29 x hx⟩
  rw [← hF]
  refine ⟨M2, e, k, fun x hx => ?_⟩
  have := h x hx
  rw [hF] at this
  exact this
def RB5 (L : Int32 → Int32 → Int32 × OV → Option OV) (v3_16 : Int32) : (Int32 × OV) → Option ((Int32 × OV) ⊕ (OV)) := un2 (fun v4_37 M_38 => gd (ix v3_16 41) ((if (ar M_38 24 v3_16.toNatClampNeg) ≤ v4_37 then some (.inr M_38) else (f_X10_firstOf M_38 v3_16).bind (un1 (fun r_39 => (f_X10_edgeOf M_38 r_39 v4_37).bind (un1 (fun r_41 => (f_X10_classOf M_38 v4_37).bind (un1 (fun r_43 => gd (ix r_43 26) (gd (ix v4_37 40) (bnd ((r_41 + (ar M_38 1 r_43.toNatClampNeg)) - (ar M_38 26 v4_37.toNatClampNeg)) (fun v5_45 => bnd (0 : Int32) (fun v6_46 => ((L v4_37 v5_45 (v6_46, M_38)).bind (un1 (fun M_52 => bnd (v4_37 + 1) (fun v4_53 => some (.inl (v4_53, M_52)))))))))))))))))))
theorem RB5_eq (v : Int32) : s_X10_river_110_36 v = RB5 (fun x y => lp (s_X10_river_157_47 x y) 5000) v := rfl
section
variable {tb : Tb} {p : Pg} {kd : Nat}
theorem RB5_at {L : Int32 → Int32 → Int32 × OV → Option OV} {M M' : OV} {k i a b s : Nat} (hk : k < 41) (hi : i < pn p) (hs : PgS p) (h24 : ar M 24 k = nI b) (hib : i < b) (hb : b < 2 ^ 31) (hM : RM (ar M 8) p) {x y t : Int32} (e1 : f_X10_firstOf M (nI k) = some (nI a)) (e2 : f_X10_edgeOf M (nI a) (nI i) = some x) (e3 : ar M 1 (ps p i) = y) (e4 : ar M 26 i = t) (e5 : x + y - t = nI s) (e6 : L (nI i) (nI s) (0, M) = some M') : RB5 L (nI k) (nI i, M) = some (.inl (nI (i + 1), M')) := by
  have h40 := hs.1
  have l0 := (hs.2.1 i hi).1
  unfold RB5
  simp only [un2]
  rw [gd_t (ix_nI hk (by decide)), nI_clamp (by omega), h24, if_neg (by rw [nIle hb (by omega)]; omega), e1, Option.bind_some]
  simp only [un1]
  rw [e2, Option.bind_some, M_class hM hs hi, Option.bind_some]
  rw [gd_t (ix_nI l0 (by decide)), gd_t (ix_nI (by omega) (by decide)), nI_clamp (by omega), nI_clamp (by omega), e3, e4, e5]
  simp only [bnd_e]
  rw [e6, Option.bind_some, nI_1]
theorem M_marks {M : OV} (hM : RM (ar M 8) p) (hs : PgS p) (hR : RT M tb) (hT : TbS tb) (hpt : PgT tb p) (ml : ML M tb p kd) {k : Nat} (hk : k < LN (EK tb p kd) (pn p)) (dd : ∀ i, stt (EK tb p kd) k ≤ i → i ≤ EK tb p kd (stt (EK tb p kd) k) → ar M 26 i = nI (tkA tb p kd i) ∧ ar M 27 i = nI (puA tb p kd i)) (h30 : ∀ x, x < 500 → ar M 30 x = 0) : ∃ M', lp (s_X10_river_110_36 (nI k)) 5000 (nI (stt (EK tb p kd) k), M) = some M' ∧ KV M M' ∧ ar M' 29 = ar M 29 ∧ ∀ x, x < 500 → ar M' 30 x = bo (gpB (wN tb p kd) (puA tb p kd) (stt (EK tb p kd) k) x (EK tb p kd (stt (EK tb p kd) k))) := by
  have h40 := hs.1
  have hE : ∀ a, a ≤ EK tb p kd a := fun a => (EK_in hs kd a).1
  have hn : ∀ a, a < pn p → EK tb p kd a < pn p := fun a => (EK_in hs kd a).2
  obtain ⟨l1, l2, l3⟩ := LN_spec hE hn
  have hb := stt_ln hE hn hk
  have g80 : ∀ i, stt (EK tb p kd) k ≤ i → i < EK tb p kd (stt (EK tb p kd) k) → 0 < puA tb p kd i → sg (wN tb p kd) (stt (EK tb p kd) k) (EK tb p kd (stt (EK tb p kd) k)) ≤ 80 := fun i u1 u2 u3 => line_80 hs hT hpt hk u1 u2 u3
  have h24 := ml.2 k hk
  have fi : ∀ M', KV M M' → f_X10_firstOf M' (nI k) = some (nI (stt (EK tb p kd) k)) := fun M' kv => M_first (ML_KV ml kv) hs hk
  generalize EK tb p kd (stt (EK tb p kd) k) = b at *
  generalize stt (EK tb p kd) k = a at *
  refine lp_inv (step := s_X10_river_110_36 (nI k)) (fun i s => ∃ M', s = (nI i, M') ∧ KV M M' ∧ ar M' 29 = ar M 29 ∧ ∀ x, x < 500 → ar M' 30 x = bo (gpB (wN tb p kd) (puA tb p kd) a x i)) (fun M' => KV M M' ∧ ar M' 29 = ar M 29 ∧ ∀ x, x < 500 → ar M' 30 x = bo (gpB (wN tb p kd) (puA tb p kd) a x b)) a b hb.1 ?_ ?_ 5000 (by omega) (nI a, M) ⟨M, rfl, KV_rf M, rfl, fun x hx => ?_⟩
  · rintro i s a1 a2 ⟨M', rfl, kv, h9, h⟩
    have hin : i < pn p := by omega
    have l0 := (hs.2.1 i hin).1
    have hM' := KM_RM (KV_KM kv) hM
    have hR' := KM_RT (KV_KM kv) hR
    have tw := tkA_w hs hT hpt kd hin
    have d26 : ∀ j, a ≤ j → j ≤ b → ar M' 26 j = nI (tkA tb p kd j) ∧ ar M' 27 j = nI (puA tb p kd j) := fun j j1 j2 => by
      rw [kv.1 26 (by decide) (by decide), kv.1 27 (by decide) (by decide)]; exact dd j j1 j2
    have ee : f_X10_edgeOf M' (nI a) (nI i) = some (nI (sg (wN tb p kd) a i)) := by
      rw [M_edge hM' hs hR' a1 hin (fun j j1 j2 => d26 j j1 (by omega)), iS_nI (n := pn p) (fun j _ j2 => adv_nI hs hT hpt kd j2) i (by omega)]
    have s1 : sg (wN tb p kd) a (i + 1) = sg (wN tb p kd) a i + wN tb p kd i := sg_succ a1
    have wu : wN tb p kd i = fx tb p 0 i - tkA tb p kd i + puA tb p kd i := rfl
    obtain ⟨M2, q1, q2, q3, q4⟩ := M_gap (M := M') (i := i) (s := sg (wN tb p kd) a (i + 1) - puA tb p kd i) (n := puA tb p kd i) (g := fun x => gpB (wN tb p kd) (puA tb p kd) a x i) (by omega) (d26 i a1 (by omega)).2 (tkA_8 hs hT kd hin).2 (fun hu => by
      have := g80 i a1 a2 hu
      have : sg (wN tb p kd) a (i + 1) ≤ sg (wN tb p kd) a b := sg_mono (by omega)
      omega) h
    refine ⟨(nI (i + 1), M2), ?_, M2, rfl, KV_tr kv q2, q3.trans h9, fun x hx => ?_⟩
    · rw [RB5_eq]
      refine RB5_at (p := p) (a := a) (b := b) (s := sg (wN tb p kd) a (i + 1) - puA tb p kd i) (by omega) hin hs (by rw [kv.1 24 (by decide) (by decide)]; exact h24) a2 (by omega) hM' (fi M' kv) ee (hR' _ l0).1 (d26 i a1 (by omega)).1 ?_ q1
      show nI (sg (wN tb p kd) a i) + nI (fx tb p 0 i) - nI (tkA tb p kd i) = _
      rw [nI_add, nI_sub (by omega)]
      congr 1
      omega
    · rw [q4 x hx, gpB]
      by_cases c : a ≤ i ∧ sg (wN tb p kd) a (i + 1) ≤ x + puA tb p kd i ∧ x < sg (wN tb p kd) a (i + 1)
      · rw [if_pos c, decide_eq_true (by omega), Bool.true_or]
      · rw [if_neg c, decide_eq_false (by omega), Bool.false_or]
  · rintro s ⟨M', rfl, kv, h⟩
    refine ⟨M', ?_, kv, h⟩
    unfold s_X10_river_110_36
    simp only [un2]
    rw [gd_t (ix_nI (show k < 41 by omega) (by decide)), nI_clamp (by omega), kv.1 24 (by decide) (by decide), h24, if_pos (Int32.le_refl _)]
  · have : gpB (wN tb p kd) (puA tb p kd) a x a = false := by
      rw [Bool.eq_false_iff]
      intro h
      obtain ⟨j, j1, j2, -⟩ := (gpB_iff a).1 h
      omega
    rw [this]
    exact h30 x hx
def RB3 (L1 : Int32 × OV → Option OV) (L2 : Int32 → Int32 × OV → Option OV) (L3 : Int32 × Int32 × OV → Option (Int32 × OV)) : (Int32 × Int32 × OV) → Option ((Int32 × Int32 × OV) ⊕ (Int32 × OV)) := un3 (fun v2_15 v3_16 M_17 => (if (iv M_17 25) ≤ v3_16 then some (.inr (v2_15, M_17)) else (f_X10_firstOf M_17 v3_16).bind (un1 (fun r_18 => gd (ix v3_16 41) ((f_X10_looks M_17 r_18 (ar M_17 24 v3_16.toNatClampNeg)).bind (un1 (fun M_20 => (f_X10_firstOf M_20 v3_16).bind (un1 (fun r_22 => gd (ix v3_16 41) ((f_X10_deals M_20 r_22 (ar M_20 24 v3_16.toNatClampNeg)).bind (un1 (fun M_24 => bnd (0 : Int32) (fun v4_26 => ((L1 (v4_26, M_24)).bind (un1 (fun M_32 => (f_X10_firstOf M_32 v3_16).bind (un1 (fun r_33 => bnd r_33 (fun v4_35 => ((L2 v3_16 (v4_35, M_32)).bind (un1 (fun M_54 => bnd (0 : Int32) (fun v4_55 => ((L3 (v2_15, v4_55, M_54)).bind (un2 (fun v2_67 M_68 => bnd (v3_16 + 1) (fun v3_69 => some (.inl (v2_67, v3_69, M_68)))))))))))))))))))))))))))))
theorem RB3_eq : s_X10_river_40_14 = RB3 (lp s_X10_river_81_27 5000) (fun v => lp (s_X10_river_110_36 v) 5000) (lp s_X10_river_195_56 5000) := rfl
theorem RB3_at {L1 : Int32 × OV → Option OV} {L2 : Int32 → Int32 × OV → Option OV} {L3 : Int32 × Int32 × OV → Option (Int32 × OV)} {M M1 M2 M3 M4 M5 : OV} {k : Nat} {x y a b c d e : Int32} (hk : k < 41) (h25 : ¬ iv M 25 ≤ nI k) (e1 : f_X10_firstOf M (nI k) = some a) (e2 : f_X10_looks M a (ar M 24 k) = some M1) (e3 : f_X10_firstOf M1 (nI k) = some b) (e4 : f_X10_deals M1 b (ar M1 24 k) = some M2) (e5 : L1 (0, M2) = some M3) (e6 : f_X10_firstOf M3 (nI k) = some c) (e7 : L2 (nI k) (c, M3) = some M4) (e8 : L3 (x, 0, M4) = some (y, M5)) : RB3 L1 L2 L3 (x, nI k, M) = some (.inl (y, nI (k + 1), M5)) := by
  have xk : ix (nI k) 41 = true := ix_nI hk (by decide)
  have ck := nI_clamp (show k < 2 ^ 31 by omega)
  unfold RB3
  simp only [un3]
  rw [if_neg h25, e1, Option.bind_some]
  simp only [un1, bnd_e]
  rw [gd_t xk, ck, e2, Option.bind_some, e3, Option.bind_some, gd_t xk, e4, Option.bind_some, e5, Option.bind_some, e6, Option.bind_some, e7, Option.bind_some, e8, Option.bind_some]
  simp only [un2, nI_1]
theorem M_rline {M : OV} (hM : RM (ar M 8) p) (hs : PgS p) (hR : RT M tb) (hT : TbS tb) (hpt : PgT tb p) (ml : ML M tb p kd) {k : Nat} (hk : k < LN (EK tb p kd) (pn p)) {f : Nat → Nat} {L0 : Nat} (hf : ∀ x, x < 500 → ar M 29 x = nI (f x)) (h99 : ∀ x, f x ≤ 99) (hL : L0 ≤ 1000) : ∃ M', s_X10_river_40_14 (nI L0, nI k, M) = some (.inl (nI (max L0 (mxr (nxF (wN tb p kd) (puA tb p kd) (stt (EK tb p kd) k) (EK tb p kd (stt (EK tb p kd) k)) f) 0 500)), nI (k + 1), M')) ∧ KM M M' ∧ ML M' tb p kd ∧ ∀ x, x < 500 → ar M' 29 x = nI (nxF (wN tb p kd) (puA tb p kd) (stt (EK tb p kd) k) (EK tb p kd (stt (EK tb p kd) k)) f x) := by
  have h40 := hs.1
  have hE : ∀ a, a ≤ EK tb p kd a := fun a => (EK_in hs kd a).1
  have hn : ∀ a, a < pn p → EK tb p kd a < pn p := fun a => (EK_in hs kd a).2
  obtain ⟨l1, l2, l3⟩ := LN_spec hE hn
  have mlk : ML (LKD M tb p (stt (EK tb p kd) k) (EK tb p kd (stt (EK tb p kd) k))) tb p kd := ml
  obtain ⟨M2, e4, k4, dd, -⟩ := M_dealK hM hs hR hT hpt ml hk
  have ml2 := ML_KD ml k4
  obtain ⟨M3, e5, k5, n5, z5⟩ := M_f30 M2
  have ml3 := ML_KV ml2 k5
  have km3 : KM M M3 := KM_tr (KD_KM k4) (KV_KM k5)
  obtain ⟨M4, e7, k7, n7, z7⟩ := M_marks (KM_RM km3 hM) hs (KM_RT km3 hR) hT hpt ml3 hk (fun i i1 i2 => by
    rw [k5.1 26 (by decide) (by decide), k5.1 27 (by decide) (by decide)]; exact dd i i1 i2) z5
  have f4 : ∀ x, x < 500 → ar M4 29 x = nI (f x) := fun x hx => by rw [n7, n5, (k4 29 (by omega)).1]; exact hf x hx
  obtain ⟨M5, e8, k8, z8⟩ := M_runs hL h99 f4 z7
  refine ⟨M5, ?_, KM_tr km3 (KM_tr (KV_KM k7) (KV_KM k8)), ML_KV (ML_KV ml3 k7) k8, z8⟩
  rw [RB3_eq]
  have e4' : f_X10_deals (LKD M tb p (stt (EK tb p kd) k) (EK tb p kd (stt (EK tb p kd) k))) (nI (stt (EK tb p kd) k)) (ar (LKD M tb p (stt (EK tb p kd) k) (EK tb p kd (stt (EK tb p kd) k))) 24 k) = some M2 := by rw [mlk.2 k hk]; exact e4
  exact RB3_at (d := 0) (e := 0) (by omega) (by rw [ml.1, nIle (by omega) (by omega)]; omega) (M_first ml hs hk) (M_lookK hM hs hR hT hpt ml hk) (M_first mlk hs hk) e4' e5 (M_first ml3 hs hk) e7 e8
end
