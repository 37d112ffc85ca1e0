/-- what the model's laying of lines leaves alone -/
def KO (M M' : OV) : Prop := (∀ k, k ≤ 11 ∨ 26 ≤ k → ar M' k = ar M k ∧ iv M' k = iv M k) ∧ ∀ k, al M' k = al M k
theorem KO_rf (M : OV) : KO M M := ⟨fun _ _ => ⟨rfl, rfl⟩, fun _ => rfl⟩
theorem KO_tr {M M' M'' : OV} (h : KO M M') (h2 : KO M' M'') : KO M M'' := ⟨fun k hk => ⟨(h2.1 k hk).1.trans (h.1 k hk).1, (h2.1 k hk).2.trans (h.1 k hk).2⟩, fun k => (h2.2 k).trans (h.2 k)⟩
theorem KO_arA {M M' : OV} {k j : Nat} {v : Int32} (h : KO M M') (hk : 12 ≤ k ∧ k < 26) : KO M (sA M' k j v) := KO_tr h ⟨fun q hq => ⟨by rw [arA, if_neg (by omega)], rfl⟩, fun _ => rfl⟩
theorem KO_I (M : OV) (k : Nat) (v : Int32) (hk : 12 ≤ k ∧ k < 26) : KO M (sI M k v) := ⟨fun q hq => ⟨rfl, by rw [ivI, if_neg (by omega)]⟩, fun _ => rfl⟩
theorem KO_KM {M M' : OV} (h : KO M M') : KM M M' := fun k hk => h.1 k (by omega)
theorem KN_KO {M M' : OV} (h : KN M M') : KO M M' := ⟨fun k hk => h.1 k (by omega), h.2⟩
theorem KL_KO {M M' : OV} (h : KL M M') : KO M M' := ⟨fun k hk => ⟨KL_ar h k, KL_iv h (by omega)⟩, KL_al h⟩
theorem KO_RM {M M' : OV} {p : Pg} (h : KO M M') (hr : RM (ar M 8) p) : RM (ar M' 8) p := KM_RM (KO_KM h) hr
theorem KO_RT {M M' : OV} {tb : Tb} (h : KO M M') (hr : RT M tb) : RT M' tb := KM_RT (KO_KM h) hr
theorem lmK_ge {tb : Tb} {p : Pg} (hs : PgS p) (kd : Nat) : pk tb p 0 ≤ lmK tb p kd := by
  unfold lmK
  split
  · exact pk_lej hs 0
  · exact Nat.le_refl _
theorem lmK_le {tb : Tb} {p : Pg} (hs : PgS p) (kd : Nat) : lmK tb p kd ≤ 1000000000 := by
  unfold lmK
  split
  · exact Nat.le_refl _
  · exact pk_lej hs 0
theorem path_some {tb : Tb} {p : Pg} (hs : PgS p) (hT : TbS tb) {kd : Nat} (h0 : kd ≠ 0) (h2 : kd ≠ 2) : ∀ k, ∃ t, best (lmK tb p kd) tb p (stt (EK tb p kd) k) = some t
  | 0 => best_ex hs hT _ 0 (Nat.le_refl _) (lmK_ge hs kd)
  | k + 1 => by
    obtain ⟨t, ht⟩ := path_some hs hT h0 h2 k
    simp only [stt]
    by_cases hn : pn p ≤ stt (EK tb p kd) k
    · refine ⟨_, best_n ?_⟩
      have := (EK_in (tb := tb) hs kd (stt (EK tb p kd) k)).1
      omega
    · have e : EK tb p kd (stt (EK tb p kd) k) = t.2.2 := by
        rw [EK, if_neg hn, if_neg h0, if_neg h2, ht]
        rfl
      rw [e]
      rw [best_eq hs (by omega)] at ht
      obtain ⟨b, c, t', u2, u3, u4, u5, u6, rfl⟩ := bin_some _ ht
      exact ⟨t', u6⟩
/-- one line more in the model's row -/
theorem M_layStep {M M' : OV} {k : Nat} {t : Int32} (hk : k < 41) (h25 : iv M 25 = nI k) (h25' : iv M' 25 = nI k) : j_X10_laysLines_83_15 M t M' = some (.inl (t + 1, sI (sA M' 24 k t) 25 (nI (k + 1)))) := by
  have xk : ix (nI k) 41 = true := ix_nI hk (by decide)
  have ck := nI_clamp (show k < 2 ^ 31 by omega)
  simp only [j_X10_laysLines_83_15, h25, gd_t xk, ck, bnd, ivA, h25', arA, updE, if_true, nI_1]
theorem M_layLoop {M : OV} {tb : Tb} {p : Pg} (h : RM (ar M 8) p) (hs : PgS p) (hR : RT M tb) (hT : TbS tb) (hpt : PgT tb p) {kd : Nat} (v : Int32) (hv : (v ≠ 0 ∧ ((kd = 0 ∨ kd = 2))) ∨ (v = 0 ∧ kd ≠ 0 ∧ kd ≠ 2 ∧ ∀ j, j < pn p → ME M (best (lmK tb p kd) tb p j) j)) (h25 : iv M 25 = 0) : ∃ M', j_X10_laysLines_46_6 (nI kd) v M = some M' ∧ KO M M' ∧ ML M' tb p kd := by
  have h40 := hs.1
  have hE : ∀ a, a ≤ EK tb p kd a := fun a => (EK_in hs kd a).1
  have hn : ∀ a, a < pn p → EK tb p kd a < pn p := fun a => (EK_in hs kd a).2
  obtain ⟨L1, L2, L3⟩ := LN_spec hE hn
  obtain ⟨r, e, hr⟩ := lp_inv (step := s_X10_laysLines_48_8 (nI kd) v) (fun k s => ∃ M', s = (nI (stt (EK tb p kd) k), M') ∧ KO M M' ∧ iv M' 25 = nI k ∧ ar M' 22 = ar M 22 ∧ ∀ i, i < k → ar M' 24 i = nI (EK tb p kd (stt (EK tb p kd) i))) (fun r => KO M r ∧ ML r tb p kd) 0 (LN (EK tb p kd) (pn p)) (Nat.zero_le _) (by
    rintro k s - hk ⟨M1, rfl, k1, i1, a1, c1⟩
    have h1 := L2 k hk
    have h2 := stt_ge hE k
    have hM1 := KO_RM k1 h
    have xa : ix (nI (stt (EK tb p kd) k)) 41 = true := ix_nI (by omega) (by decide)
    have ca := nI_clamp (show stt (EK tb p kd) k < 2 ^ 31 by omega)
    have fin : ∀ M2, KO M M2 → iv M2 25 = nI k → ar M2 22 = ar M 22 → (∀ i, i < k → ar M2 24 i = nI (EK tb p kd (stt (EK tb p kd) i))) → ∃ s', j_X10_laysLines_83_15 M1 (nI (EK tb p kd (stt (EK tb p kd) k))) M2 = some (.inl s') ∧ ∃ M', s' = (nI (stt (EK tb p kd) (k + 1)), M') ∧ KO M M' ∧ iv M' 25 = nI (k + 1) ∧ ar M' 22 = ar M 22 ∧ ∀ i, i < k + 1 → ar M' 24 i = nI (EK tb p kd (stt (EK tb p kd) i)) := by
      intro M2 k2 i2 a2 c2
      refine ⟨_, M_layStep (by omega) i1 i2, _, by rw [nI_1]; rfl, KO_tr (KO_arA k2 (by omega)) (KO_I _ _ _ (by omega)), by rw [ivI, if_pos rfl], by rw [arI, arA, if_neg (by decide)]; exact a2, fun i hi => ?_⟩
      rw [arI, arA, if_pos rfl, updE]
      by_cases c : i = k
      · subst c; rw [if_pos rfl]
      · rw [if_neg c]; exact c2 i (by omega)
    simp only [s_X10_laysLines_48_8, un2, M_many hM1, Option.bind_some, un1, nIle (show pn p < 2 ^ 31 by omega) (show stt (EK tb p kd) k < 2 ^ 31 by omega), if_neg (show ¬ pn p ≤ stt (EK tb p kd) k by omega), gd_t xa, ca]
    rcases hv with ⟨v1, v2⟩ | ⟨v1, v2, v3, v4⟩
    · rw [if_neg v1]
      obtain ⟨pl, hpl, hpe⟩ : ∃ pl : Bool, nI kd = (if pl = true then 2 else 0) ∧ EK tb p kd (stt (EK tb p kd) k) = fe tb p pl (stt (EK tb p kd) k) := by
        rcases v2 with rfl | rfl
        · exact ⟨false, rfl, by rw [EK, if_neg (by omega), if_pos rfl]⟩
        · exact ⟨true, rfl, by rw [EK, if_neg (by omega), if_neg (by decide), if_pos rfl]⟩
      obtain ⟨M2, e2, l2⟩ := M_oneEnd hM1 hs (KO_RT k1 hR) hT hpt h1 pl
      rw [hpl, e2, ← hpe]
      exact fin M2 (KO_tr k1 (KL_KO l2)) (by rw [KL_iv l2 (by omega)]; exact i1) (by rw [KL_ar l2]; exact a1) (fun i hi => by rw [KL_ar l2]; exact c1 i hi)
    · rw [if_pos v1]
      obtain ⟨t, ht⟩ := path_some hs hT v2 v3 k
      have e : EK tb p kd (stt (EK tb p kd) k) = t.2.2 := by
        rw [EK, if_neg (by omega), if_neg v2, if_neg v3, ht]
        rfl
      have := v4 _ h1 t ht
      rw [a1, this, ← e]
      exact fin M1 k1 i1 a1 c1) (by
    rintro s ⟨M1, rfl, k1, i1, a1, c1⟩
    exact ⟨M1, by simp only [s_X10_laysLines_48_8, un2, M_many (KO_RM k1 h), Option.bind_some, un1, L3, if_pos (Int32.le_refl _)], k1, i1, c1⟩) 5000 (by omega) (nI (stt (EK tb p kd) 0), M) ⟨M, rfl, KO_rf M, by rw [h25]; rfl, rfl, fun i h => by omega⟩
  refine ⟨r, ?_, hr⟩
  unfold j_X10_laysLines_46_6
  simp only [bnd]
  rw [show lp (s_X10_laysLines_48_8 (nI kd) v) 5000 (0, M) = some r from e]
  rfl
theorem M_laysLines {M : OV} {tb : Tb} {p : Pg} (h : RM (ar M 8) p) (hs : PgS p) (hR : RT M tb) (hT : TbS tb) (hpt : PgT tb p) {kd : Nat} (hkd : kd < 4) : ∃ M', f_X10_laysLines M (nI kd) = some M' ∧ KO M M' ∧ ML M' tb p kd := by
  have kI : KO M (sI M 25 0) := KO_I _ _ _ (by omega)
  have hI := KO_RM kI h
  have hRI := KO_RT kI hR
  have i25 : iv (sI M 25 0) 25 = 0 := by rw [ivI, if_pos rfl]
  unfold f_X10_laysLines
  simp only [bnd]
  have one : (kd = 0 ∨ kd = 2) → ∃ M', j_X10_laysLines_14_33 (sI M 25 0) (nI kd) = some M' ∧ KO M M' ∧ ML M' tb p kd := by
    intro hk
    obtain ⟨M', e, k, m⟩ := M_layLoop hI hs hRI hT hpt (kd := kd) 1 (Or.inl ⟨by decide, hk⟩) i25
    exact ⟨M', by simp only [j_X10_laysLines_14_33, j_X10_laysLines_19_3, bnd, if_neg (show ¬ (1 : Int32) = 0 by decide)]; exact e, KO_tr kI k, m⟩
  have two : kd ≠ 0 → kd ≠ 2 → ∀ M2, KN (sI M 25 0) M2 → LC M2 tb p → ∃ M', j_X10_laysLines_43_27 (nI kd) 0 (nI (lmK tb p kd)) M2 = some M' ∧ KO M M' ∧ ML M' tb p kd := by
    intro u0 u2 M2 k2 c2
    obtain ⟨M3, e3, k3, -, m3⟩ := M_laysBest (KN_RM k2 hI) hs hT c2 (lm := lmK tb p kd) (lmK_le hs kd)
    have k23 := KN_tr k2 k3
    obtain ⟨M', e, k, m⟩ := M_layLoop (KN_RM k23 hI) hs (KN_RT k23 hRI) hT hpt (kd := kd) 0 (Or.inr ⟨rfl, u0, u2, m3⟩) (by rw [(k23.1 25 (by omega)).2]; exact i25)
    exact ⟨M', by simp only [j_X10_laysLines_43_27, e3, Option.bind_some, un1]; exact e, KO_tr kI (KO_tr (KN_KO k23) k), m⟩
  obtain ⟨M1, e1, k1, c1⟩ := M_laysCosts hI hs hRI hT hpt
  have hk4 : kd = 0 ∨ kd = 1 ∨ kd = 2 ∨ kd = 3 := by omega
  rcases hk4 with rfl | rfl | rfl | rfl
  · rw [if_pos (show nI 0 = (0 : Int32) by decide)]
    exact one (Or.inl rfl)
  · rw [if_neg (show ¬ nI 1 = (0 : Int32) by decide), if_neg (show ¬ nI 1 = (2 : Int32) by decide)]
    simp only [j_X10_laysLines_19_3, bnd, if_true, e1, Option.bind_some, un1, if_pos (show nI 1 = (1 : Int32) by decide)]
    exact two (by decide) (by decide) M1 k1 c1
  · rw [if_neg (show ¬ nI 2 = (0 : Int32) by decide), if_pos (show nI 2 = (2 : Int32) by decide)]
    exact one (Or.inr rfl)
  · rw [if_neg (show ¬ nI 3 = (0 : Int32) by decide), if_neg (show ¬ nI 3 = (2 : Int32) by decide)]
    obtain ⟨M2, e2, k2, c2⟩ := M_leastGreatest (KN_RM k1 hI) hs hT c1
    simp only [j_X10_laysLines_19_3, bnd, if_true, e1, Option.bind_some, un1, if_neg (show ¬ nI 3 = (1 : Int32) by decide), e2, un2]
    exact two (by decide) (by decide) M2 (KN_tr k1 k2) c2
