-- a class whole, a pair, on both sides
theorem tw_0 {M : OV} (h : iv M 42 = 1) (p : Int32) : f_X10_takesWord M p = some (0, M) := by
  unfold f_X10_takesWord
  rw [if_neg (by rw [h]; decide)]
def KF (M M' : OV) : Prop := KM M M' ∧ iv M' 42 = 1 ∧ iv M' 40 = iv M 40
theorem KF_A {M M' : OV} {k j : Nat} {x : Int32} (hk : 12 ≤ k ∧ (k < 35 ∨ 37 < k)) (h : KF (sA M k j x) M') : KF M M' := ⟨KM_tr (KM_A _ _ _ _ hk) h.1, h.2.1, h.2.2⟩
theorem F6 {M : OV} {l : Nat} (hl : l < 26) (h : iv M 42 = 1) (w y : Int32) : ∃ M', j_X10_readsClass_230_52 (nI l) w y M = some M' ∧ KF M M' := by
  have xl : ix (nI l) 26 = true := ix_nI hl (by decide)
  have cl := nI_clamp (show l < 2 ^ 31 by omega)
  obtain ⟨M1, h1⟩ : ∃ M1, M1 = sA M 49 l y := ⟨_, rfl⟩
  have k1 : KM M M1 := by rw [h1]; exact KM_A _ _ _ _ (by omega)
  have i1 : ∀ k, iv M1 k = iv M k := fun k => by rw [h1]; rfl
  have nc : f_X10_needsClose M1 = some (sI M1 42 1) := by
    unfold f_X10_needsClose
    rw [if_neg (by rw [i1, h]; decide)]
    rfl
  obtain ⟨M2, h2⟩ : ∃ M2, M2 = sA (sI M1 42 1) 43 l w := ⟨_, rfl⟩
  have k2 : KM M1 M2 := by rw [h2]; exact KM_tr (KM_I _ 42 1 (by omega)) (KM_A _ _ _ _ (by omega))
  refine ⟨sI M2 52 (iv M2 52 + 1), ?_, KM_tr k1 (KM_tr k2 (KM_I _ _ _ (by omega))), ?_, ?_⟩
  · unfold j_X10_readsClass_230_52
    rw [gd_t xl, bnd_e, cl, ← h1, nc, Option.bind_some]
    simp only [un1]
    rw [gd_t xl, bnd_e, bnd_e, ← h2]
  · rw [ivn _ _ (by decide), h2, ivA, ivs]
  · rw [ivn _ _ (by decide), h2, ivA, ivn _ _ (by decide), i1]
theorem F5 {M : OV} {l : Nat} (hl : l < 26) (h : iv M 42 = 1) (w y : Int32) : ∃ M', j_X10_readsClass_184_40 (nI l) w y M = some M' ∧ KF M M' := by
  have xl : ix (nI l) 26 = true := ix_nI hl (by decide)
  have cl := nI_clamp (show l < 2 ^ 31 by omega)
  obtain ⟨M', e, k⟩ := F6 (M := sA (sA M 47 l y) 48 l 0) hl h w 1
  refine ⟨M', ?_, KF_A (by omega) (KF_A (by omega) k)⟩
  unfold j_X10_readsClass_184_40
  rw [gd_t xl, bnd_e, cl, tw_0 (M := sA M 47 l y) h, Option.bind_some]
  simp only [un2, bnd_e]
  rw [if_pos trivial]
  unfold j_X10_readsClass_212_48
  rw [gd_t xl, bnd_e, cl, if_pos rfl]
  exact e
theorem F4 {M : OV} {l : Nat} (hl : l < 26) (h : iv M 42 = 1) (w y : Int32) : ∃ M', j_X10_readsClass_137_28 (nI l) w y M = some M' ∧ KF M M' := by
  have xl : ix (nI l) 26 = true := ix_nI hl (by decide)
  have cl := nI_clamp (show l < 2 ^ 31 by omega)
  obtain ⟨M', e, k⟩ := F5 (M := sA (sA M 45 l y) 46 l 0) hl h w 1
  refine ⟨M', ?_, KF_A (by omega) (KF_A (by omega) k)⟩
  unfold j_X10_readsClass_137_28
  rw [gd_t xl, bnd_e, cl, tw_0 (M := sA M 45 l y) h, Option.bind_some]
  simp only [un2, bnd_e]
  rw [if_pos trivial]
  unfold j_X10_readsClass_166_36
  rw [gd_t xl, bnd_e, cl, if_pos rfl]
  exact e
theorem F2 {M : OV} {l : Nat} (hl : l < 26) (h : iv M 42 = 1) (w : Int32) : ∃ M', shyM (nI l) w M = some M' ∧ KF M M' := by
  have xl : ix (nI l) 26 = true := ix_nI hl (by decide)
  have cl := nI_clamp (show l < 2 ^ 31 by omega)
  obtain ⟨M', e, k⟩ := F4 (M := sA M 44 l (vp_nar .boolean 0)) hl h w 0
  refine ⟨M', ?_, KF_A (by omega) k⟩
  unfold shyM
  rw [tw_0 h, Option.bind_some]
  simp only [un2]
  rw [if_pos trivial]
  unfold j_X10_readsClass_100_18
  rw [tw_0 h, Option.bind_some]
  simp only [un2]
  rw [gd_t xl, bnd_e, cl, tw_0 (M := sA M 44 l (vp_nar .boolean 0)) h, Option.bind_some]
  simp only [un2]
  rw [if_pos trivial]
  exact e
def lth (v : Nat → Nat) (k f b : Nat) : Int32 := if k = 1 ∧ b = f + 1 then nI (v f - 97) else -1
theorem E_lh {E B : OV} {aB : Nat → Nat} {len : Nat} {v : Nat → Nat} {k f b : Nat} (hN : aB 98 = 500) (hB : TPc B len v) (h5 : len ≤ 500) (h : RE E k f b) (hV : VS v len k f b) : f_X6_letterHere E aB B = some (lth v k f b) := by
  obtain ⟨v1, v2, v3, v4, -⟩ := hV
  have z1 : (nI k = (1 : Int32)) = (k = 1) := nIe (by omega) (by decide)
  unfold f_X6_letterHere lth
  rw [h.1, h.2.1, h.2.2, hB.1, nI_1]
  simp only [z1, nIe (show b < 2 ^ 31 by omega) (show f + 1 < 2 ^ 31 by omega), nIle (show len < 2 ^ 31 by omega) (show f < 2 ^ 31 by omega), j_X6_letterHere_39_4, j_X6_letterHere_40_2, bnd_e]
  by_cases c : k = 1
  · rw [if_pos c]
    by_cases d : b = f + 1
    · have l1 := (v4 c).2 f (Nat.le_refl _) (by omega)
      rw [if_pos d, if_neg (by omega), if_neg (by decide), if_pos ⟨c, d⟩, h.2.1, gd_t (by rw [hN]; exact ix_nI (by omega) (by decide)), nI_clamp (by omega), hB.2 f (by omega)]
      exact congrArg some (pk_sub (a := v f) (b := 97) (by omega))
    · rw [if_neg d, if_pos trivial, if_neg (fun h => d h.2)]
  · rw [if_neg c, if_pos trivial, if_neg (fun h => c h.1)]
theorem M_lh {M : OV} {len : Nat} {v : Nat → Nat} {k f b : Nat} (hM : EM len v M) (h5 : len ≤ 500) (h : RK v M k f b) (hV : VS v len k f b) : f_X10_letterHere M = some (lth v k f b) := by
  obtain ⟨v1, v2, v3, v4, -⟩ := hV
  unfold f_X10_letterHere lth
  rw [h.1, h.2.1, h.2.2.1, nI_1]
  simp only [tkk_1 v1, nIe (show b < 2 ^ 31 by omega) (show f + 1 < 2 ^ 31 by omega), j_X10_letterHere_36_1]
  by_cases c : k = 1
  · rw [if_pos c]
    by_cases d : b = f + 1
    · have l1 := (v4 c).2 f (Nat.le_refl _) (by omega)
      rw [if_pos d, if_pos ⟨c, d⟩, gd_t (ix_nI (by omega) (by decide)), nI_clamp (by omega), hM.2.1 f (by omega)]
      exact congrArg some (pk_sub (a := v f) (b := 97) (by omega))
    · rw [if_neg d, if_neg (fun h => d h.2)]
  · rw [if_neg c, if_neg (fun h => c h.1)]
theorem lth_or {v : Nat → Nat} {len k f b : Nat} (hV : VS v len k f b) : lth v k f b = -1 ∨ ∃ l, l < 26 ∧ lth v k f b = nI l := by
  unfold lth
  by_cases c : k = 1 ∧ b = f + 1
  · right
    have l1 := (hV.2.2.2.1 c.1).2 f (Nat.le_refl _) (by omega)
    exact ⟨v f - 97, by omega, if_pos c⟩
  · left
    exact if_neg c
theorem C_has {C : OV} {tb : Tb} (hC : RC C tb) (hT : TbS tb) {l : Nat} (hl : l < 26) : f_X1_has C (nI l) = some (bo (decide (0 < tb 0 l))) := by
  have t0 := (hT l hl).1
  have z : (nI (tb 0 l) ≤ (0 : Int32)) = (tb 0 l ≤ 0) := nIle (b := 0) (by omega) (by decide)
  unfold f_X1_has
  rw [if_neg (nI_pos (by omega)), if_neg (show ¬ (26 : Int32) ≤ nI l by rw [show ((26 : Int32) ≤ nI l) = (26 ≤ l) from nIle (by decide) (by omega)]; omega), gd_t (by decide), gd_t (ix_nI hl (by decide)), nI_clamp (by omega), show (0 : Int32).toNatClampNeg = 0 from rfl, hC 0 (by decide) l hl]
  simp only [z, j_X1_has_25_1]
  by_cases c : tb 0 l ≤ 0
  · rw [if_pos c, decide_eq_false (by omega)]; rfl
  · rw [if_neg c, decide_eq_true (by omega)]; rfl
theorem C_hasm (C : OV) : f_X1_has C (-1 : Int32) = some 0 := by
  unfold f_X1_has
  rw [if_pos (by decide)]
  rfl
theorem C_hasx (C : OV) {l : Nat} (hl : l < 26) : ∃ r, f_X1_has C (nI l) = some (bo r) := by
  unfold f_X1_has
  rw [if_neg (nI_pos (by omega)), if_neg (show ¬ (26 : Int32) ≤ nI l by rw [show ((26 : Int32) ≤ nI l) = (26 ≤ l) from nIle (by decide) (by omega)]; omega), gd_t (by decide), gd_t (ix_nI hl (by decide))]
  by_cases c : gr C 0 (0 : Int32).toNatClampNeg (nI l).toNatClampNeg ≤ 0
  · exact ⟨false, by rw [if_pos c]; rfl⟩
  · exact ⟨true, by rw [if_neg c]; rfl⟩
theorem cls_new {tb : Tb} {l w : Nat} (hl : l < 26) (h : tb 0 l = 0) (hw : 1 ≤ w) : cls (tset tb 0 l w) = cls tb + 1 := by
  have := sm_flip (f := fun j => if 0 < tset tb 0 l w 0 j then 1 else 0) (g := fun j => if 0 < tb 0 j then 1 else 0) (k := l) 26 hl (fun j hj => by rw [tset_l _ _ _ _ hj])
  simp only [tset_s, h] at this
  rw [if_neg (by omega), if_pos (by omega)] at this
  unfold cls
  omega
theorem RC_fail {E E1 E2 E3 E4 B C : OV} {aB : Nat → Nat} {x y : Int32} (e0 : f_X6_next E aB B = some E1) (e1 : f_X6_readNewLetter E1 aB B C = some (x, E2)) (e2 : f_X6_expect E2 aB B 1 = some E3) (e3 : f_X6_readNumber E3 aB B 1 9 = some (y, E4)) (h : ¬ iv E4 5 = -1) : f_X6_readClass E aB B C = some (E4, C) := by
  unfold f_X6_readClass
  rw [e0, Option.bind_some]
  simp only [un1, bnd_e]
  rw [e1, Option.bind_some]
  simp only [un2]
  rw [e2, Option.bind_some]
  rw [e3, Option.bind_some]
  simp only [un2]
  rw [if_neg h]
section
variable {B : OV} {aB : Nat → Nat} {len : Nat} {v : Nat → Nat} {t : Nat → Int32} {np : Nat}
theorem R_class {E E1 C M : OV} {tb : Tb} {k f b n : Nat} (hN : aB 98 = 500) (hB : TPc B len v) (h5 : len ≤ 500) (hv : ∀ i, i < len → v i < 256) (hM : EM len v M) (e0 : f_X6_next E aB B = some E1) (h : TS len v E1 M k f b) (hn : k = 5 ∨ n ≤ b) (hR : RD C M tb t np) : OUT len v t np n (f_X6_readClass E aB B C) (f_X10_readsClass M) M := by
  have h' := h
  obtain ⟨a1, a2, a3, a4, a5⟩ := h'
  obtain ⟨t1, t2, t3, t4, t7, t8, t9, t10, t11⟩ := hR
  have hR : RD C M tb t np := ⟨t1, t2, t3, t4, t7, t8, t9, t10, t11⟩
  obtain ⟨g1, g2, g3, g4⟩ := J_fail h5 h
  have elh := E_lh hN hB h5 a1 a3
  have mlh := M_lh hM h5 a2 a3
  have fl : j_X6_readNewLetter_33_4 E1 = some (0, sI E1 5 (nI f)) := by
    unfold j_X6_readNewLetter_33_4
    rw [g1]
    rfl
  have bad : f_X6_readNewLetter E1 aB B C = some (0, sI E1 5 (nI f)) → f_X10_readsClass M = some (sI M 42 1) → OUT len v t np n (f_X6_readClass E aB B C) (f_X10_readsClass M) M := by
    intro b1 b2
    obtain ⟨E3, e3, f3⟩ := FE_expect g4 hN hB h5 hv txt_1 wrd_1 g2
    obtain ⟨x, E4, e4, -, -, f4⟩ := FE_num (lo := 1) (hi := 9) (by decide) (by decide) g4 hN hB h5 hv f3
    have e4' : f_X6_readNumber E3 aB B (1 : Int32) (9 : Int32) = some (nI x, E4) := e4
    exact ⟨E4, C, sI M 42 1, tb, RC_fail e0 b1 e3 e4' (by rw [f4.2]; exact nI_ne1 (by omega)), b2, KQ_KM (KQ_I _ (by decide) _), Or.inr ⟨f, g4, f4, g3⟩⟩
  rcases lth_or a3 with c | ⟨l, hl, c⟩
  · rw [c] at elh mlh
    refine bad ?_ ?_
    · unfold f_X6_readNewLetter
      rw [elh, Option.bind_some]
      simp only [un1, bnd_e]
      rw [if_pos trivial, fl]
    · unfold f_X10_readsClass
      rw [mlh, Option.bind_some]
      simp only [un1, bnd_e]
      rw [if_pos trivial]
  · rw [c] at elh mlh
    have xl : ix (nI l) 26 = true := ix_nI hl (by decide)
    have cl := nI_clamp (show l < 2 ^ 31 by omega)
    have tl := t2 l hl
    have t0 := (t3 l hl).1
    have z0 : ((0 : Int32) < nI (tb 0 l)) = (0 < tb 0 l) := nIlt (a := 0) (by decide) (by omega)
    have n1 : ¬ nI l = (-1 : Int32) := nI_ne1 (by omega)
    have FE1 : f_X6_readNewLetter E1 aB B C = if 0 < tb 0 l then some (0, sI E1 5 (nI f)) else if cls tb < 10 then (f_X6_next E1 aB B).bind (un1 (fun E_9 => some (nI l, E_9))) else some (0, sI E1 5 (nI f)) := by
      unfold f_X6_readNewLetter
      rw [elh, Option.bind_some]
      simp only [un1, bnd_e]
      rw [if_neg n1, C_has t1 t3 hl, Option.bind_some]
      simp only [bo_0, decide_eq_false_iff_not]
      rw [t9, fl]
      simp only [show (nI (cls tb) < (10 : Int32)) = (cls tb < 10) from nIlt (b := 10) (by omega) (by decide)]
      by_cases d : 0 < tb 0 l
      · rw [if_neg (fun h => h d), if_pos d]
      · rw [if_pos d, if_neg d]
    by_cases d : 0 < tb 0 l
    · refine bad (by rw [FE1, if_pos d]) ?_
      unfold f_X10_readsClass
      rw [mlh, Option.bind_some]
      simp only [un1, bnd_e]
      rw [if_neg n1, gd_t xl, cl, tl.1]
      simp only [z0]
      rw [if_pos d]
    · by_cases d2 : cls tb < 10
      · have d3 : tb 0 l = 0 := by omega
        obtain ⟨E2, M2, e2, m2, q2, hj2⟩ := J_next (T := RD C M tb t np) hN hB h5 hv hM h hn hR
        have hM2 := EM_KQ hM q2
        obtain ⟨E3, M3, e3, m3, q3, hj3⟩ := J_expect hN hB h5 hv hM2 txt_1 wrd_1 hj2
        have m3' : f_X10_needs M2 (1 : Int32) = some M3 := m3
        have hM3 := EM_KQ hM2 q3
        obtain ⟨x, y, E4, M4, e4, m4, bx, by4, q4, hj4⟩ := J_num (lo := 1) (hi := 9) (by decide) (by decide) hN hB h5 hv hM3 hj3
        have e4' : f_X6_readNumber E3 aB B (1 : Int32) (9 : Int32) = some (nI x, E4) := e4
        have m4' : f_X10_needsNumber M3 (1 : Int32) (9 : Int32) = some (nI y, M4) := m4
        have hM4 := EM_KQ hM3 q4
        have kk : KQ M M4 := KQ_tr q2 (KQ_tr q3 q4)
        have rn : f_X6_readNewLetter E1 aB B C = some (nI l, E2) := by rw [FE1, if_neg d, if_pos d2, e2]; rfl
        have mm : f_X10_readsClass M = shyM (nI l) (nI y) M4 := by
          unfold f_X10_readsClass
          rw [mlh, Option.bind_some]
          simp only [un1, bnd_e]
          rw [if_neg n1, gd_t xl, cl, tl.1]
          simp only [z0]
          rw [if_neg d, t10, if_neg (by rw [show (nI (cls tb) = (10 : Int32)) = (cls tb = 10) from nIe (b := 10) (by omega) (by decide)]; omega), m2, Option.bind_some]
          rw [m3', Option.bind_some]
          rw [m4', Option.bind_some]
          rfl
        rw [mm]
        refine OUT_k (KQ_KM kk) ?_
        rcases hj4 with ⟨k4, f4, b4, s1, s2, s3, s4⟩ | ⟨ft, u1, u2, u3⟩
        · subst s4
          have hw : 1 ≤ x ∧ x ≤ 9 := bx
          obtain ⟨C1, hC1⟩ : ∃ C1, C1 = sI (sG C 0 0 l (nI x)) 5 (nI (cls tb) + 1) := ⟨_, rfl⟩
          have ht : TT C1 M4 (tset tb 0 l x) l x 0 0 t np := by
            obtain ⟨r1, r2, r3, r4, r7, r8, r9, r10, r11⟩ := RD_q s3 kk
            have cn := cls_new hl d3 hw.1
            have dn : ∀ k', k' ≠ 0 → ∀ l', tset tb 0 l x k' l' = tb k' l' := fun k' hk' l' => tset_k _ _ _ _ hk'
            refine ⟨?_, ⟨fun l' a b => ?_, fun j hj => absurd hj (Nat.not_lt_zero j)⟩, fun j a b => ?_, fun l' hl' => ?_, fun l' hl' g j a b => ?_, ⟨tset_s _ _ _ _, hw⟩, ?_, ?_, ?_, ?_, ?_, ?_⟩
            · rw [hC1]; exact RC_set r1 0 l x
            · rw [tset_l _ _ _ _ b]
              exact ⟨(r2 l' a).1, fun g j hj => by rw [dn _ (by omega)]; exact (r2 l' a).2 g j hj⟩
            · rw [dn _ (by omega)]; exact r4 l hl d3 j a b
            · have := r3 l' hl'
              by_cases c : l' = l
              · subst c
                have u := r4 l' hl d3
                have u1 := u 1 (by decide) (by decide)
                have u2 := u 2 (by decide) (by decide)
                have u3 := u 3 (by decide) (by decide)
                have u5 := u 5 (by decide) (by decide)
                simp only [Dd] at u1 u2 u3 u5
                rw [tset_s, dn 3 (by decide), dn 4 (by decide), dn 5 (by decide), dn 6 (by decide), dn 7 (by decide), dn 8 (by decide)]
                simp at u1 u2 u3 u5
                omega
              · rw [tset_l _ _ _ _ c, dn 3 (by decide), dn 4 (by decide), dn 5 (by decide), dn 6 (by decide), dn 7 (by decide), dn 8 (by decide)]
                exact this
            · by_cases c : l' = l
              · rw [c, tset_s] at g; omega
              · rw [tset_l _ _ _ _ c] at g ⊢
                exact r4 l' hl' g j a b
            · rw [hC1]
              unfold PQ
              rw [ivn _ _ (by decide)]
              exact r7
            · rw [hC1]
              unfold SH
              rw [ivn _ _ (by decide), ivn _ _ (by decide)]
              exact r8
            · rw [hC1, ivs, nI_1, cn]
            · rw [cn]; exact r10
            · omega
            · omega
          obtain ⟨E5, C5, M5, e5, m5, k5, hj5⟩ := LSy (w := x) hN hB h5 hv hM4 (Or.inl ⟨k4, f4, b4, s1, s2, ht⟩ : JR len v (n + 1 + 1) E4 M4 _)
          rw [m5]
          refine OUT_k k5 ?_
          have fin := L2 hN hB h5 hv (EM_KM hM4 k5) hl hw hj5
          refine OUT_n (show n ≤ n + 1 + 1 by omega) ?_
          have cc : f_X6_readClass E aB B C = (f_X6_takes E5 aB B 5).bind (un2 (fun r_19 E_20 => (if r_19 = 0 then j_X6_readClass_83_23 aB B E_20 (nI l) (nI x) C5 else gd (ix (3 : Int32) 9) (gd (ix (nI l) 26) (bnd (sG C5 0 (3 : Int32).toNatClampNeg (nI l).toNatClampNeg (1 : Int32)) (fun C_74 => j_X6_readClass_83_23 aB B E_20 (nI l) (nI x) C_74)))))) := by
            unfold f_X6_readClass
            rw [e0, Option.bind_some]
            simp only [un1, bnd_e]
            rw [rn, Option.bind_some]
            simp only [un2]
            rw [e3, Option.bind_some]
            rw [e4', Option.bind_some]
            simp only [un2]
            rw [if_pos s1.2.2.2.1, gd_t (by decide), gd_t xl, cl, ivG, t9, show (0 : Int32).toNatClampNeg = 0 from rfl, ← hC1, e5, Option.bind_some]
            rfl
          rw [cc]
          exact fin
        · obtain ⟨M', m5, k5, i5, i6⟩ := F2 (M := M4) hl u3.1 (nI y)
          exact ⟨E4, C, M', tb, RC_fail e0 rn e3 e4' (by rw [u2.2]; exact nI_ne1 (by omega)), m5, k5, Or.inr ⟨ft, u1, u2, i5, i6.trans u3.2⟩⟩
      · refine bad (by rw [FE1, if_neg d, if_neg d2]) ?_
        unfold f_X10_readsClass
        rw [mlh, Option.bind_some]
        simp only [un1, bnd_e]
        rw [if_neg n1, gd_t xl, cl, tl.1]
        simp only [z0]
        rw [if_neg d, t10, if_pos (by rw [show (nI (cls tb) = (10 : Int32)) = (cls tb = 10) from nIe (b := 10) (by omega) (by decide)]; omega)]
end
