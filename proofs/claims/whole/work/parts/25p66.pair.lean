-- a pair read, on both sides
theorem one_sh {j k : Nat} (hj : j < 32) (hk : k < 32) : ((1 : Int32) <<< (nI k &&& 31)).toBitVec.getLsbD j = decide (j = k) := by
  rw [Int32.toBitVec_shiftLeft, BitVec.getLsbD_shiftLeft', sh_k k hk]
  have h1 : ∀ i, (1 : Int32).toBitVec.getLsbD i = decide (i = 0) := by
    intro i
    show (1#32).getLsbD i = _
    rw [BitVec.getLsbD_one]
    simp
  rw [h1]
  by_cases c : j = k
  · subst c; simp [hj]
  · rcases Nat.lt_or_ge j k with h | h
    · simp [c, h]
    · simp [c, show ¬ j - k = 0 by omega]
theorem or_xor {w : Int32} {k : Nat} (hk : k < 32) (h : bt w k = false) : w ||| ((1 : Int32) <<< (nI k &&& 31)) = w ^^^ ((1 : Int32) <<< (nI k &&& 31)) := by
  apply Int32.toBitVec_inj.mp
  apply BitVec.eq_of_getLsbD_eq
  intro j hj
  rw [Int32.toBitVec_or, Int32.toBitVec_xor, BitVec.getLsbD_or, BitVec.getLsbD_xor, one_sh hj hk]
  by_cases c : j = k
  · subst c
    rw [bt_lsb w hk] at h
    rw [h]
    simp
  · rw [decide_eq_false c]
    simp
theorem or_self {w : Int32} {k : Nat} (hk : k < 32) (h : bt w k = true) : w ||| ((1 : Int32) <<< (nI k &&& 31)) = w := by
  apply Int32.toBitVec_inj.mp
  apply BitVec.eq_of_getLsbD_eq
  intro j hj
  rw [Int32.toBitVec_or, BitVec.getLsbD_or, one_sh hj hk]
  by_cases c : j = k
  · subst c
    rw [bt_lsb w hk] at h
    rw [h]
    rfl
  · rw [decide_eq_false c]
    simp
def PP (t : Nat → Int32) (np : Nat) : Prop := (∀ a, a < 26 → hib (t a)) ∧ np = sm (fun a => bc (t a)) 26 ∧ np ≤ 12
theorem PP_new {t : Nat → Int32} {np a b : Nat} (h : PP t np) (ha : a < 26) (hb : b < 26) (hn : bt (t a) b = false) (h12 : np < 12) : PP (va_up t a (t a ||| ((1 : Int32) <<< (nI b &&& 31)))) (np + 1) := by
  obtain ⟨h1, h2, h3⟩ := h
  rw [or_xor (by omega) hn]
  refine ⟨fun a' ha' => ?_, ?_, by omega⟩
  · by_cases c : a' = a
    · subst c
      rw [va_up_self]
      exact hib_flip hb (h1 a' ha)
    · rw [va_up_ne _ _ c]
      exact h1 a' ha'
  · have s := sm_flip (f := fun j => bc (va_up t a (t a ^^^ ((1 : Int32) <<< (nI b &&& 31))) j)) (g := fun j => bc (t j)) (k := a) 26 ha (fun j hj => by rw [va_up_ne _ _ hj])
    simp only [va_up_self] at s
    have f := bc_flip (w := t a) hb
    rw [hn] at f
    simp at f
    omega
section
variable {B : OV} {aB : Nat → Nat} {len : Nat} {v : Nat → Nat} {t : Nat → Int32} {np : Nat}
theorem FE_told {E C : OV} {ft : Nat} (hf : ft ≤ 500) (hN : aB 98 = 500) (hB : TPc B len v) (h5 : len ≤ 500) (hv : ∀ i, i < len → v i < 256) (h : FE len v E ft) : ∃ x E', f_X6_readToldLetter E aB B C = some (x, E') ∧ FE len v E' ft := by
  have h' := h
  obtain ⟨⟨k, f, b, h1, h2⟩, h3⟩ := h'
  have elh := E_lh hN hB h5 h1 h2
  have go : ∀ r, f_X1_has C (lth v k f b) = some (bo r) → ∃ x E', f_X6_readToldLetter E aB B C = some (x, E') ∧ FE len v E' ft := by
    intro r hr
    unfold f_X6_readToldLetter
    rw [elh, Option.bind_some]
    simp only [un1, bnd_e]
    rw [hr, Option.bind_some]
    simp only [bo_0]
    cases r
    · rw [if_pos rfl, FE_fail hf h]
      exact ⟨0, E, rfl, h⟩
    · rw [if_neg (by simp)]
      obtain ⟨E', e1, e2⟩ := FE_next hN hB h5 hv h
      exact ⟨_, E', by rw [e1]; rfl, e2⟩
  rcases lth_or h2 with c | ⟨l, hl, c⟩
  · exact go false (by rw [c]; exact C_hasm C)
  · obtain ⟨r, hr⟩ := C_hasx C hl
    exact go r (by rw [c]; exact hr)
theorem J_told {E C M : OV} {tb : Tb} {n : Nat} (hN : aB 98 = 500) (hB : TPc B len v) (h5 : len ≤ 500) (hv : ∀ i, i < len → v i < 256) (hM : EM len v M) (h : JR len v n E M (RD C M tb t np)) : ∃ x y E' M', f_X6_readToldLetter E aB B C = some (x, E') ∧ f_X10_readsLetter M = some (y, M') ∧ KQ M M' ∧ JR len v n E' M' (RD C M' tb t np ∧ ∃ a, a < 26 ∧ x = nI a ∧ y = nI a) := by
  rcases h with ⟨k, f, b, h1, h2, h3⟩ | ⟨ft, h1, h2, h3⟩
  · obtain ⟨a1, a2, a3, a4, a5⟩ := h1
    have h1 : TS len v E M k f b := ⟨a1, a2, a3, a4, a5⟩
    have elh := E_lh hN hB h5 a1 a3
    have mlh := M_lh hM h5 a2 a3
    obtain ⟨g1, g2, g3, g4⟩ := J_fail h5 h1
    have bad : f_X1_has C (lth v k f b) = some 0 → j_X10_readsLetter_15_2 M (lth v k f b) = some (0, sI M 42 1) → ∃ x y E' M', f_X6_readToldLetter E aB B C = some (x, E') ∧ f_X10_readsLetter M = some (y, M') ∧ KQ M M' ∧ JR len v n E' M' (RD C M' tb t np ∧ ∃ a, a < 26 ∧ x = nI a ∧ y = nI a) := by
      intro b1 b2
      refine ⟨0, 0, sI E 5 (nI f), sI M 42 1, ?_, ?_, KQ_I _ (by decide) _, Or.inr ⟨f, g4, g2, g3⟩⟩
      · unfold f_X6_readToldLetter
        rw [elh, Option.bind_some]
        simp only [un1, bnd_e]
        rw [b1, Option.bind_some, if_pos rfl, g1]
        rfl
      · unfold f_X10_readsLetter
        rw [if_pos a5, mlh, Option.bind_some]
        exact b2
    rcases lth_or a3 with c | ⟨l, hl, c⟩
    · rw [c] at bad
      exact bad (C_hasm C) (by unfold j_X10_readsLetter_15_2; rw [bnd_e, if_pos rfl]; rfl)
    · have xl : ix (nI l) 26 = true := ix_nI hl (by decide)
      have cl := nI_clamp (show l < 2 ^ 31 by omega)
      have n1 : ¬ nI l = (-1 : Int32) := nI_ne1 (by omega)
      have t0 := (h3.2.2.1 l hl).1
      have z0 : (nI (tb 0 l) = (0 : Int32)) = (tb 0 l = 0) := nIe (b := 0) (by omega) (by decide)
      have hh := C_has h3.1 h3.2.2.1 hl
      have jm : j_X10_readsLetter_15_2 M (nI l) = if tb 0 l = 0 then some (0, sI M 42 1) else (f_X10_goesOn M).bind (un1 (fun M_6 => some (nI l, M_6))) := by
        unfold j_X10_readsLetter_15_2
        rw [bnd_e, if_neg n1, gd_t xl, cl, (h3.2.1 l hl).1]
        simp only [z0]
        rfl
      by_cases d : tb 0 l = 0
      · rw [c] at bad
        exact bad (by rw [hh, decide_eq_false (by omega)]; rfl) (by rw [jm, if_pos d])
      · obtain ⟨E', M', e1, m1, q, hj⟩ := J_next (T := RD C M tb t np) hN hB h5 hv hM h1 h2 h3
        refine ⟨nI l, nI l, E', M', ?_, ?_, q, JR_T hj (Nat.le_succ n) (fun g => ⟨RD_q g q, l, hl, rfl, rfl⟩)⟩
        · unfold f_X6_readToldLetter
          rw [elh, c, Option.bind_some]
          simp only [un1, bnd_e]
          rw [hh, decide_eq_true (by omega), Option.bind_some, if_neg (by decide), e1]
          rfl
        · unfold f_X10_readsLetter
          rw [if_pos a5, mlh, c, Option.bind_some]
          simp only [un1]
          rw [jm, if_neg d, m1]
          rfl
  · obtain ⟨x, E', e1, e2⟩ := FE_told (C := C) h1 hN hB h5 hv h2
    refine ⟨x, 0, E', sI M 42 1, e1, ?_, KQ_I _ (by decide) _, Or.inr ⟨ft, h1, e2, FM_42 h3⟩⟩
    unfold f_X10_readsLetter
    rw [if_neg (by rw [h3.1]; decide)]
    unfold j_X10_readsLetter_15_2
    rw [bnd_e, if_pos rfl]
    rfl
def OUP (len : Nat) (v : Nat → Nat) (n : Nat) (c : Option (OV × OV)) (m : Option OV) (M : OV) : Prop := ∃ E' C' M', c = some (E', C') ∧ m = some M' ∧ KM M M' ∧ JR len v n E' M' (∃ tb t np, RD C' M' tb t np ∧ PP t np)
theorem OUP_k {n : Nat} {c : Option (OV × OV)} {m : Option OV} {M M' : OV} (k : KM M M') (h : OUP len v n c m M') : OUP len v n c m M := by
  obtain ⟨E', C', M2, h1, h2, h3, h4⟩ := h
  exact ⟨E', C', M2, h1, h2, KM_tr k h3, h4⟩
theorem P_stop {E C M : OV} {n : Nat} (hN : aB 98 = 500) (hB : TPc B len v) (h5 : len ≤ 500) (hv : ∀ i, i < len → v i < 256) (hM : EM len v M) (h : JR len v n E M (∃ tb t np, RD C M tb t np ∧ PP t np)) : OUP len v n (j_X6_readPair_92_15 aB B E C) ((f_X10_needsClose M).bind (un1 (fun M_19 => some M_19))) M := by
  obtain ⟨E', M', e1, m1, q, hj⟩ := J_stop hN hB h5 hv hM h
  refine ⟨E', C, M', ?_, by rw [m1]; rfl, KQ_KM q, JR_T hj (Nat.le_refl _) (fun ⟨tb, t, np, g, g2⟩ => ⟨tb, t, np, RD_q g q, g2⟩)⟩
  unfold j_X6_readPair_92_15
  rw [e1]
  rfl
theorem R_pair {E E1 C M : OV} {tb : Tb} {k f b n : Nat} (hN : aB 98 = 500) (hB : TPc B len v) (h5 : len ≤ 500) (hv : ∀ i, i < len → v i < 256) (hM : EM len v M) (e0 : f_X6_expect E aB B 10 = some E1) (h : TS len v E1 M k f b) (hn : k = 5 ∨ n ≤ b) (hR : RD C M tb t np) (hP : PP t np) : OUP len v n (f_X6_readPair E aB B C) (f_X10_readsKeep M) M := by
  have h' := h
  obtain ⟨a1, a2, a3, a4, a5⟩ := h'
  have f500 : f ≤ 500 := by have := a3.2.1; have := a3.2.2.1; omega
  obtain ⟨x, y, E2, M2, e2, m2, q2, hj2⟩ := J_told hN hB h5 hv hM (Or.inl ⟨k, f, b, h, hn, hR⟩)
  have hM2 := EM_KQ hM q2
  have pick : ∃ x2 y2 E3 M3, f_X6_readToldLetter E2 aB B C = some (x2, E3) ∧ f_X10_readsLetter M2 = some (y2, M3) ∧ KQ M2 M3 ∧ JR len v n E3 M3 (RD C M3 tb t np ∧ (∃ a, a < 26 ∧ x = nI a ∧ y = nI a) ∧ ∃ a, a < 26 ∧ x2 = nI a ∧ y2 = nI a) := by
    rcases hj2 with ⟨k2, f2, b2, s1, s2, s3, s4⟩ | ⟨ft, u1, u2, u3⟩
    · obtain ⟨x2, y2, E3, M3, p1, p2, p3, p4⟩ := J_told hN hB h5 hv hM2 (Or.inl ⟨k2, f2, b2, s1, s2, s3⟩)
      exact ⟨x2, y2, E3, M3, p1, p2, p3, JR_T p4 (Nat.le_refl _) (fun g => ⟨g.1, s4, g.2⟩)⟩
    · obtain ⟨x2, y2, E3, M3, p1, p2, p3, p4⟩ := J_told (n := n) (C := C) (tb := tb) (t := t) (np := np) hN hB h5 hv hM2 (Or.inr ⟨ft, u1, u2, u3⟩)
      rcases p4 with ⟨k2, f2, b2, s1, -⟩ | g
      · exfalso
        have : iv M3 42 = 1 := by
          unfold f_X10_readsLetter at p2
          rw [if_neg (by rw [u3.1]; decide)] at p2
          unfold j_X10_readsLetter_15_2 at p2
          rw [bnd_e, if_pos rfl] at p2
          have : some ((0 : Int32), sI M2 42 1) = some (y2, M3) := p2
          have h2 := (Prod.mk.inj (Option.some.inj this)).2
          rw [← h2, ivs]
        rw [s1.2.2.2.2] at this
        exact absurd this (by decide)
      · exact ⟨x2, y2, E3, M3, p1, p2, p3, Or.inr g⟩
  obtain ⟨x2, y2, E3, M3, e3, m3, q3, hj3⟩ := pick
  have hM3 := EM_KQ hM2 q3
  have kk : KM M M3 := KM_tr (KQ_KM q2) (KQ_KM q3)
  have cc : f_X6_readPair E aB B C = if iv E3 5 = (-1 : Int32) then gd (ix x 26) ((f_X9_bitOf (ar C 1 x.toNatClampNeg) x2).bind (un1 (fun r_12 => (if r_12 = 0 then (if (iv C 4) = (12 : Int32) then some (sI E3 5 (nI f), C) else gd (ix x 26) (gd (ix x 26) (j_X6_readPair_92_15 aB B E3 (sI (sA C 1 x.toNatClampNeg ((ar C 1 x.toNatClampNeg) ||| ((1 : Int32) <<< (x2 &&& 31)))) 4 ((iv C 4) + (1 : Int32)))))) else j_X6_readPair_92_15 aB B E3 C)))) else some (E3, C) := by
    unfold f_X6_readPair
    rw [e0, Option.bind_some]
    simp only [un1, bnd_e]
    rw [e2, Option.bind_some]
    simp only [un2]
    rw [e3, Option.bind_some]
    simp only [un2]
    rw [a1.2.1]
    rfl
  have mm : f_X10_readsKeep M = if iv M3 42 = 0 then gd (ix y 26) ((f_X10_isIn (ar M3 50 y.toNatClampNeg) y2).bind (un1 (fun r_10 => (if r_10 = 0 then j_X10_readsKeep_41_13 M3 (nI f) y y2 (1 : Int32) else j_X10_readsKeep_41_13 M3 (nI f) y y2 (0 : Int32))))) else some M3 := by
    unfold f_X10_readsKeep
    simp only [bnd_e]
    rw [m2, Option.bind_some]
    simp only [un2]
    rw [m3, Option.bind_some]
    simp only [un2]
    rw [a2.2.2.1]
  rw [cc, mm]
  refine OUP_k kk ?_
  rcases hj3 with ⟨k2, f2, b2, s1, s2, s3, ⟨l, hl, rfl, rfl⟩, m, hm, rfl, rfl⟩ | ⟨ft, u1, u2, u3⟩
  · have xl : ix (nI l) 26 = true := ix_nI hl (by decide)
    have cl := nI_clamp (show l < 2 ^ 31 by omega)
    obtain ⟨⟨w1, w2, w3, w4, ⟨w5, w6, w7⟩, w8, w9, w10⟩⟩ : RD C M3 tb t np ∧ True := ⟨s3, trivial⟩
    have p1 := (w5 l hl).1
    have p2 := (w5 l hl).2
    have n12 := hP.2.2
    have z12 : (nI np = (12 : Int32)) = (np = 12) := nIe (b := 12) (by omega) (by decide)
    rw [if_pos s1.2.2.2.1, if_pos s1.2.2.2.2, gd_t xl, gd_t xl, cl, p1, p2, M_isIn]
    simp only [f_X9_bitOf, bit_bo, Option.bind_some, un1, bo_0, gd_t xl, w6, z12]
    cases c : bt (t l) m
    · rw [if_pos rfl, if_pos rfl]
      unfold j_X10_readsKeep_41_13
      rw [bnd_e, if_neg (show ¬ (1 : Int32) = 0 by decide), w7]
      simp only [z12]
      by_cases d : np = 12
      · rw [if_pos d, if_pos d]
        refine ⟨_, _, _, rfl, rfl, KM_tr (KM_I _ 40 _ (by omega)) (KM_I _ 42 _ (by omega)), Or.inr ⟨f, f500, ⟨⟨k2, f2, b2, RE_5 s1.1 _, s1.2.2.1⟩, ivs _ _ _⟩, ivs _ _ _, ?_⟩⟩
        rw [ivn _ _ (by decide), ivs]
      · rw [if_neg d, if_neg d]
        unfold j_X10_readsKeep_68_15
        rw [if_neg (show ¬ (1 : Int32) = 0 by decide), bnd_e]
        unfold j_X10_readsKeep_83_17
        rw [gd_t xl, gd_t xl, bnd_e, cl, arI, p2, w7, nI_1]
        have k4 : KM M3 (sA (sI M3 53 (nI (np + 1))) 50 l (t l ||| ((1 : Int32) <<< (nI m &&& 31)))) := KM_tr (KM_I _ _ _ (by omega)) (KM_A _ _ _ _ (by omega))
        refine OUP_k k4 ?_
        refine P_stop hN hB h5 hv (EM_KM hM3 k4) (JR_iv (Or.inl ⟨k2, f2, b2, s1, s2, tb, va_up t l (t l ||| ((1 : Int32) <<< (nI m &&& 31))), np + 1, ?_, PP_new hP hl hm c (by omega)⟩ : JR len v n E3 M3 _) (fun k h1 h2 => by rw [ivA, ivn _ _ (by omega)]))
        refine ⟨w1, fun l' hl' => ?_, w3, w4, ⟨fun a ha => ?_, ?_, ?_⟩, ?_, ?_, ?_⟩
        · rw [arA, if_neg (by decide)]
          exact ⟨(w2 l' hl').1, fun g j hj => by rw [arA, if_neg (by omega)]; exact (w2 l' hl').2 g j hj⟩
        · rw [arI, arA, if_pos rfl, arA, if_pos rfl, updE, updE]
          by_cases e : a = l
          · rw [if_pos e, if_pos e, e, va_up_self]; exact ⟨rfl, rfl⟩
          · rw [if_neg e, if_neg e, va_up_ne _ _ e]; exact w5 a ha
        · rw [ivs]
        · rw [ivA, ivs]
        · unfold SH
          rw [ivn _ _ (by decide), ivn _ _ (by decide), ivA, ivA, arA, if_neg (by decide)]
          exact w8
        · rw [ivn _ _ (by decide)]; exact w9
        · rw [ivA, ivn _ _ (by decide)]; exact w10
    · rw [if_neg (by simp), if_neg (by simp)]
      unfold j_X10_readsKeep_41_13
      rw [bnd_e, if_pos rfl]
      unfold j_X10_readsKeep_68_15
      rw [if_pos rfl]
      unfold j_X10_readsKeep_83_17
      rw [gd_t xl, gd_t xl, bnd_e, cl, p2, or_self (by omega) c]
      have k4 : KM M3 (sA M3 50 l (t l)) := KM_A _ _ _ _ (by omega)
      refine OUP_k k4 ?_
      refine P_stop hN hB h5 hv (EM_KM hM3 k4) (JR_iv (Or.inl ⟨k2, f2, b2, s1, s2, tb, t, np, ?_, hP⟩ : JR len v n E3 M3 _) (fun k h1 h2 => rfl))
      refine ⟨w1, fun l' hl' => ?_, w3, w4, ⟨fun a ha => ?_, w6, w7⟩, ?_, w9, w10⟩
      · rw [arA, if_neg (by decide)]
        exact ⟨(w2 l' hl').1, fun g j hj => by rw [arA, if_neg (by omega)]; exact (w2 l' hl').2 g j hj⟩
      · rw [arA, if_pos rfl, updE]
        by_cases e : a = l
        · rw [if_pos e, e]; exact ⟨p1, rfl⟩
        · rw [if_neg e]; exact w5 a ha
      · unfold SH
        rw [arA, if_neg (by decide)]
        exact w8
  · rw [if_neg (by rw [u2.2]; exact nI_ne1 (by omega)), if_neg (by rw [u3.1]; decide)]
    exact ⟨E3, C, M3, rfl, rfl, KM_rf _, Or.inr ⟨ft, u1, u2, u3⟩⟩
end
