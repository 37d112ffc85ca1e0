theorem M_mayBe {M : OV} {tb : Tb} {p : Pg} (hM : RM (ar M 8) p) (hs : PgS p) (hR : RT M tb) (hT : TbS tb) (hpt : PgT tb p) {a b : Nat} (hab : a ≤ b) (hb : b < pn p) : ∃ M', f_X10_mayBe M (nI a) (nI b) = some (bo (stp tb p a b), M') ∧ KL M M' := by
  have hl := M_legal hM hs hb
  have hm := M_looks hM hs hR hT hpt hab hb
  have i14 : iv (LKD M tb p a b) 14 = bo (mlong tb p a b) := Eq.trans rfl rfl
  unfold f_X10_mayBe stp
  rw [hl, Option.bind_some]
  simp only [un1, bo_0, hm, Option.bind_some, i14]
  cases lgl p b
  · exact ⟨M, rfl, KL_rf M⟩
  · refine ⟨LKD M tb p a b, ?_, KL_lk M _ _ _ _ _ _ _⟩
    cases mlong tb p a b <;> rfl
theorem KM_L (M : OV) (k j : Nat) (v : Int64) : KM M (sL M k j v) := fun _ _ => ⟨rfl, rfl⟩
/-- how the model keeps the fewest lines -/
def ew (x : Nat × Nat) : Int32 := if x.1 = 0 then -1 else nI x.2
theorem M_laysWays {M : OV} {tb : Tb} {p : Pg} (hM : RM (ar M 8) p) (hs : PgS p) (hR : RT M tb) (hT : TbS tb) (hpt : PgT tb p) : ∃ M', f_X10_laysWays M = some M' ∧ KM M M' ∧ ∀ j, j ≤ pn p → al M' 33 j = lN (wf tb p j).1 ∧ ar M' 34 j = ew (wf tb p j) := by
  have h40 := hs.1
  have xn : ix (nI (pn p)) 41 = true := ix_nI (by omega) (by decide)
  have cn := nI_clamp (show pn p < 2 ^ 31 by omega)
  obtain ⟨M1, hM1⟩ : ∃ M1, M1 = sA (sL M 33 (pn p) 1) 34 (pn p) 0 := ⟨_, rfl⟩
  have k1 : KM M M1 := by rw [hM1]; exact KM_tr (KM_L M 33 (pn p) 1) (KM_A _ 34 (pn p) 0 (by omega))
  obtain ⟨r, e, hK2, hW2⟩ := lp_inv (step := s_X10_laysWays_27_10) (fun k s => ∃ M', s = (nI (pn p - k) - 1, M') ∧ KM M M' ∧ ∀ j, pn p - k ≤ j → j ≤ pn p → al M' 33 j = lN (wf tb p j).1 ∧ ar M' 34 j = ew (wf tb p j)) (fun r => KM M r ∧ ∀ j, j ≤ pn p → al r 33 j = lN (wf tb p j).1 ∧ ar r 34 j = ew (wf tb p j)) 0 (pn p) (Nat.zero_le _) (by
    rintro k s - hk ⟨Wa, rfl, hKa, hWa⟩
    obtain ⟨a, ha⟩ : ∃ a, a = pn p - k - 1 := ⟨_, rfl⟩
    have han : a < pn p := by omega
    have xa : ix (nI a) 41 = true := ix_nI (by omega) (by decide)
    have ca := nI_clamp (show a < 2 ^ 31 by omega)
    have hls := lim_spec han
    obtain ⟨Wb, hWb⟩ : ∃ Wb, Wb = sA (sL Wa 33 a 0) 34 a (-1) := ⟨_, rfl⟩
    have kb : KM M Wb := by rw [hWb]; exact KM_tr hKa (KM_tr (KM_L Wa 33 a 0) (KM_A _ 34 a (-1) (by omega)))
    obtain ⟨Wc, e2, hKc, hc0, hc1, hfr⟩ := lp_inv (step := s_X10_laysWays_53_19 (nI a) (nI (lim p a))) (fun b s => ∃ W', s = (nI b, W') ∧ KM M W' ∧ al W' 33 a = lN (wfin tb p (wf tb p) a b).1 ∧ ar W' 34 a = ew (wfin tb p (wf tb p) a b) ∧ ∀ j, j ≠ a → al W' 33 j = al Wa 33 j ∧ ar W' 34 j = ar Wa 34 j) (fun W' => KM M W' ∧ al W' 33 a = lN (wf tb p a).1 ∧ ar W' 34 a = ew (wf tb p a) ∧ ∀ j, j ≠ a → al W' 33 j = al Wa 33 j ∧ ar W' 34 j = ar Wa 34 j) a (lim p a + 1) (by omega) (by
      rintro b s h1 h2 ⟨W', rfl, hK', g0, g1, g2⟩
      have hbn : b < pn p := by omega
      have x1 : ix (nI (b + 1)) 41 = true := ix_nI (by omega) (by decide)
      have cb := nI_clamp (show b + 1 < 2 ^ 31 by omega)
      obtain ⟨w0, w1⟩ := hWa (b + 1) (by omega) (by omega)
      obtain ⟨f0, f1⟩ := g2 (b + 1) (by omega)
      rw [w0] at f0
      rw [w1] at f1
      have bT := wf_b62 (tb := tb) hs (b + 1)
      have bT2 := (wf_bd (tb := tb) hs _ (b + 1) (Nat.le_refl _)).2
      have bI := wfin_b (tb := tb) hs (a := a) b
      have bP := wfin_pos (tb := tb) (p := p) (T := wf tb p) (a := a) b
      obtain ⟨W'', e3, hL⟩ := M_mayBe (KM_RM hK' hM) hs (KM_RT hK' hR) hT hpt h1 hbn
      have lt0 : (wf tb p (b + 1)).1 < 2 ^ 62 := by omega
      rw [wfin_s h1]
      by_cases c1 : (wf tb p (b + 1)).1 = 0
      · rw [if_neg (by omega)]
        refine ⟨(nI (b + 1), W'), ?_, W', rfl, hK', g0, g1, g2⟩
        simp only [s_X10_laysWays_53_19, un2, nIlt (show lim p a < 2 ^ 31 by omega) (show b < 2 ^ 31 by omega), if_neg (show ¬ lim p a < b by omega), nI_1, gd_t x1, cb, f0, show (0 : Int64) = lN 0 from rfl, lNe lt0 (show 0 < 2 ^ 62 by decide), if_pos c1, j_X10_laysWays_141_23, bnd]
      · have q0 : ∀ r M'', f_X10_mayBe W' (nI a) (nI b) = some (r, M'') → s_X10_laysWays_53_19 (nI a) (nI (lim p a)) (nI b, W') = (if r = 0 then some (.inl (nI (b + 1), M'')) else (gd (ix (nI a) 41) (gd (ix (nI (b + 1)) 41) (gd (ix (nI a) 41) (bnd (sL M'' 33 (nI a).toNatClampNeg ((al M'' 33 (nI a).toNatClampNeg) + (al M'' 33 (nI (b + 1)).toNatClampNeg))) (fun M_28 => gd (ix (nI (b + 1)) 41) (bnd ((1 : Int32) + (ar M_28 34 (nI (b + 1)).toNatClampNeg)) (fun v4_29 => gd (ix (nI a) 41) ((if (ar M_28 34 (nI a).toNatClampNeg) = (-1 : Int32) then j_X10_laysWays_133_30 M_28 (nI a) (nI b) v4_29 else gd (ix (nI a) 41) ((if (ar M_28 34 (nI a).toNatClampNeg) ≤ v4_29 then j_X10_laysWays_141_23 (nI b) M_28 else j_X10_laysWays_133_30 M_28 (nI a) (nI b) v4_29)))))))))))) := by
          intro r M'' hr
          simp only [s_X10_laysWays_53_19, un2, nIlt (show lim p a < 2 ^ 31 by omega) (show b < 2 ^ 31 by omega), if_neg (show ¬ lim p a < b by omega), nI_1, gd_t x1, cb, f0, show (0 : Int64) = lN 0 from rfl, lNe lt0 (show 0 < 2 ^ 62 by decide), if_neg c1, hr, Option.bind_some, j_X10_laysWays_141_23, bnd]
        have q1 := q0 _ _ e3
        cases hst : stp tb p a b
        · rw [if_neg (by simp)]
          rw [hst, if_pos (show bo false = 0 from rfl)] at q1
          exact ⟨_, q1, W'', rfl, KM_tr hK' (KL_KM hL), by rw [KL_al hL]; exact g0, by rw [KL_ar hL]; exact g1, fun j hj => by rw [KL_al hL, KL_ar hL]; exact g2 j hj⟩
        · rw [if_pos ⟨rfl, by omega⟩]
          rw [hst, if_neg (show ¬ bo true = 0 by decide)] at q1
          have a0 : al W'' 33 a = lN (wfin tb p (wf tb p) a b).1 := by rw [KL_al hL]; exact g0
          have a1 : al W'' 33 (b + 1) = lN (wf tb p (b + 1)).1 := by rw [KL_al hL]; exact f0
          have r0 : ar W'' 34 a = ew (wfin tb p (wf tb p) a b) := by rw [KL_ar hL]; exact g1
          have r1 : ar W'' 34 (b + 1) = nI (wf tb p (b + 1)).2 := by
            rw [KL_ar hL, f1]
            unfold ew
            rw [if_neg c1]
          have kL := KM_tr hK' (KL_KM hL)
          obtain ⟨V, hV⟩ : ∃ V, V = sL W'' 33 a (lN ((wfin tb p (wf tb p) a b).1 + (wf tb p (b + 1)).1)) := ⟨_, rfl⟩
          have kV : KM M V := by rw [hV]; exact KM_tr kL (KM_L _ _ _ _)
          have v0 : al V 33 a = lN ((wfin tb p (wf tb p) a b).1 + (wf tb p (b + 1)).1) := by rw [hV, alL, if_pos rfl, vp_updL, if_pos rfl]
          have v1 : ∀ j, j ≠ a → al V 33 j = al Wa 33 j := by
            intro j hj
            rw [hV, alL, if_pos rfl]
            simp only [vp_updL, if_neg hj]
            rw [KL_al hL]
            exact (g2 j hj).1
          have v2 : ar V 34 = ar W'' 34 := by rw [hV]; rfl
          have v3 : ∀ j, j ≠ a → ar V 34 j = ar Wa 34 j := by
            intro j hj
            rw [v2, KL_ar hL]
            exact (g2 j hj).2
          simp only [gd_t xa, gd_t x1, ca, cb, a0, a1, lN_add, ← hV, bnd, v2, r0, r1, nI_1l, j_X10_laysWays_133_30, j_X10_laysWays_141_23, nI_1] at q1
          have ne0 : ¬ (wfin tb p (wf tb p) a b).1 + (wf tb p (b + 1)).1 = 0 := by omega
          have hset : min (wfin tb p (wf tb p) a b).2 ((wf tb p (b + 1)).2 + 1) = 1 + (wf tb p (b + 1)).2 → ∃ s', some (Sum.inl (nI (b + 1), sA V 34 a (nI (1 + (wf tb p (b + 1)).2)))) = (some (Sum.inl s') : Option ((Int32 × OV) ⊕ OV)) ∧ ∃ W', s' = (nI (b + 1), W') ∧ KM M W' ∧ al W' 33 a = lN ((wfin tb p (wf tb p) a b).1 + (wf tb p (b + 1)).1) ∧ ar W' 34 a = ew ((wfin tb p (wf tb p) a b).1 + (wf tb p (b + 1)).1, min (wfin tb p (wf tb p) a b).2 ((wf tb p (b + 1)).2 + 1)) ∧ ∀ j, j ≠ a → al W' 33 j = al Wa 33 j ∧ ar W' 34 j = ar Wa 34 j := by
            intro hmn
            refine ⟨_, rfl, _, rfl, KM_tr kV (KM_A _ 34 a _ (by omega)), by rw [alA]; exact v0, ?_, fun j hj => ⟨by rw [alA]; exact v1 j hj, ?_⟩⟩
            · rw [arA, if_pos rfl, updE, if_pos rfl]
              unfold ew
              rw [if_neg ne0, hmn]
            · rw [arA, if_pos rfl, updE, if_neg hj]
              exact v3 j hj
          by_cases c2 : (wfin tb p (wf tb p) a b).1 = 0
          · have b40 := bP c2
            have := bT2.2 (by omega)
            have ee : ew (wfin tb p (wf tb p) a b) = -1 := by unfold ew; rw [if_pos c2]
            rw [ee, if_pos rfl] at q1
            rw [q1]
            exact hset (by omega)
          · have ee : ew (wfin tb p (wf tb p) a b) = nI (wfin tb p (wf tb p) a b).2 := by unfold ew; rw [if_neg c2]
            rw [ee, if_neg (nI_ne1 (by omega))] at q1
            simp only [nIle (show (wfin tb p (wf tb p) a b).2 < 2 ^ 31 by omega) (show 1 + (wf tb p (b + 1)).2 < 2 ^ 31 by omega)] at q1
            by_cases c3 : (wfin tb p (wf tb p) a b).2 ≤ 1 + (wf tb p (b + 1)).2
            · rw [if_pos c3] at q1
              refine ⟨_, q1, V, rfl, kV, v0, ?_, fun j hj => ⟨v1 j hj, v3 j hj⟩⟩
              rw [v2, r0, ee]
              unfold ew
              rw [if_neg ne0]
              show _ = nI (min _ _)
              rw [Nat.min_eq_left (by omega)]
            · rw [if_neg c3] at q1
              rw [q1]
              exact hset (by omega)) (by
      rintro s ⟨W', rfl, hK', g0, g1, g2⟩
      rw [← wf_eq hs han] at g0 g1
      exact ⟨_, by simp only [s_X10_laysWays_53_19, un2, nIlt (show lim p a < 2 ^ 31 by omega) (show lim p a + 1 < 2 ^ 31 by omega), if_pos (show lim p a < lim p a + 1 by omega)], hK', g0, g1, g2⟩) 5000 (by omega) (nI a, Wb) ⟨Wb, rfl, kb, by rw [wfin_n a (Nat.le_refl _), hWb, alA, alL, if_pos rfl, vp_updL, if_pos rfl]; rfl, by rw [wfin_n a (Nat.le_refl _), hWb, arA, if_pos rfl, updE, if_pos rfl]; rfl, fun j hj => ⟨by rw [hWb, alA, alL, if_pos rfl]; simp only [vp_updL, if_neg hj], by rw [hWb, arA, if_pos rfl, updE, if_neg hj, arLg]⟩⟩
    refine ⟨(nI (pn p - (k + 1)) - 1, Wc), ?_, Wc, rfl, hKc, fun j h1 h2 => ?_⟩
    · rw [nI_sm1 hk, ← ha]
      simp only [s_X10_laysWays_27_10, un2, if_neg (nI_pos (show a < 2 ^ 31 by omega)), gd_t xa, bnd, ca, ← hWb, M_limit (KM_RM kb hM) hs han, Option.bind_some, un1, e2, add_m1]
      rw [show pn p - (k + 1) = a by omega]
    · by_cases c : j = a
      · subst c; exact ⟨hc0, hc1⟩
      · rw [(hfr j c).1, (hfr j c).2]; exact hWa j (by omega) h2) (by
    rintro s ⟨Wa, rfl, hKa, hWa⟩
    exact ⟨_, by simp only [s_X10_laysWays_27_10, un2, Nat.sub_self, if_pos (show nI 0 - 1 < (0 : Int32) by decide)], hKa, fun j h => hWa j (by omega) h⟩) 5000 (by omega) (nI (pn p - 0) - 1, M1) ⟨M1, rfl, k1, fun j h1 h2 => by
      have : j = pn p := by omega
      subst this
      rw [wf_n (Nat.le_refl _), hM1]
      exact ⟨by rw [alA, alL, if_pos rfl, vp_updL, if_pos rfl]; rfl, by rw [arA, if_pos rfl, updE, if_pos rfl]; rfl⟩⟩
  rw [Nat.sub_zero] at e
  refine ⟨r, ?_, hK2, hW2⟩
  unfold f_X10_laysWays
  have m2 : f_X10_many (sL M 33 (pn p) 1) = some (nI (pn p)) := M_many (KM_RM (KM_L M 33 (pn p) 1) hM)
  have m3 : f_X10_many M1 = some (nI (pn p)) := M_many (KM_RM k1 hM)
  simp only [M_many hM, Option.bind_some, un1, gd_t xn, bnd, cn, m2, ← hM1, m3, e]
theorem L_ways {o : Nat → Nat} {a : Nat → Nat → Nat} {L P R W C : OV} {tb : Tb} {p : Pg} (hL : nv L 10 = o 10) (hR0 : R0 R) (hr : iv L 12 = 0 ∨ RR (o 10) (a 0 2) R tb p) (hC : RC C tb) (hP : RP P p) (hs : PgS p) (hT : TbS tb) (hpt : PgT tb p) (hW : iv W 3 = 0 ∨ WR W tb p) : ∃ L' R' W', f_X9_currentWays (a 0) L P R W (o 10) C = some (L', R', W') ∧ (∀ k, nv L' k = nv L k) ∧ R0 R' ∧ (iv L' 12 = 0 ∨ RR (o 10) (a 0 2) R' tb p) ∧ WR W' tb p := by
  unfold f_X9_currentWays
  by_cases c : iv W 3 = 0
  · obtain ⟨L', R1, e, hR1, hl⟩ := L_ruler (a := a) hL hR0 hr hC hP hs hT hpt
    obtain ⟨W', R', e2, hR', i3, hW'⟩ := W_reckon (W := W) hR1 hP hs hT hpt
    refine ⟨L', R', W', ?_, hl, RR_0 hR', Or.inr hR', hW'⟩
    simp only [if_pos c, e, Option.bind_some, un2, e2]
  · rcases hW with h | h
    · exact absurd h c
    · exact ⟨L, R, W, by rw [if_neg c], fun _ => rfl, hR0, hr, h⟩
