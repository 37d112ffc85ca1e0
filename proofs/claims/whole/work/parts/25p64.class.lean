-- a class read, on both sides
section
variable {B : OV} {aB : Nat → Nat} {len : Nat} {v : Nat → Nat} {t : Nat → Int32} {np l w : Nat}
theorem L3 {E C M : OV} {tb : Tb} {n : Nat} (hN : aB 98 = 500) (hB : TPc B len v) (h5 : len ≤ 500) (hv : ∀ i, i < len → v i < 256) (hM : EM len v M) (hl : l < 26) (hw : 1 ≤ w ∧ w ≤ 9) (h : JR len v n E M (TT C M tb l w 1 1 t np)) : OUT len v t np n (j_X6_readClass_83_23 aB B E (nI l) (nI w) C) ((f_X10_takesWord M (6 : Int32)).bind (un2 (fun r_23 M_24 => (if r_23 = 0 then j_X10_readsClass_137_28 (nI l) (nI w) (0 : Int32) M_24 else (f_X10_needsNumber M_24 (0 : Int32) (nI w - (1 : Int32))).bind (un2 (fun r_70 M_71 => j_X10_readsClass_137_28 (nI l) (nI w) r_70 M_71)))))) M := by
  have xl : ix (nI l) 26 = true := ix_nI hl (by decide)
  have cl := nI_clamp (show l < 2 ^ 31 by omega)
  have w1 : nI w - (1 : Int32) = nI (w - 1) := nI_m1 hw.1
  obtain ⟨r, E1, M2, e1, m1, q, hj⟩ := J_takes hN hB h5 hv hM txt_6 wrd_6 h
  have m1' : f_X10_takesWord M (6 : Int32) = some (bo r, M2) := m1
  replace hj := JR_T (m := n) hj (by split <;> omega) id
  have hM2 := EM_KQ hM q
  unfold j_X6_readClass_83_23
  rw [e1, m1', Option.bind_some, Option.bind_some]
  simp only [un2]
  refine OUT_k (KQ_KM q) ?_
  cases r
  · rw [if_pos (show bo false = 0 from rfl), if_pos (show bo false = 0 from rfl)]
    exact L4 (y := 0) (tb := tb) hN hB h5 hv hM2 hl hw (JR_T hj (Nat.le_refl _) (fun g => ⟨TT_up (TT_q g q) (by decide), (g.2.2.1 1 (by decide) (by decide)).symm⟩))
  · rw [if_neg (show ¬ bo true = 0 by decide), if_neg (show ¬ bo true = 0 by decide), w1]
    obtain ⟨x1, y1, E2, M3, e2, m2, bx, by1, q2, hj2⟩ := J_num (lo := 0) (hi := w - 1) (by omega) (by omega) hN hB h5 hv hM2 hj
    have e2' : f_X6_readNumber E1 aB B (0 : Int32) (nI (w - 1)) = some (nI x1, E2) := e2
    have m2' : f_X10_needsNumber M2 (0 : Int32) (nI (w - 1)) = some (nI y1, M3) := m2
    rw [gd_t (by decide), e2', Option.bind_some, m2', Option.bind_some]
    simp only [un2]
    rw [gd_t xl, show (4 : Int32).toNatClampNeg = 4 from rfl, cl, bnd_e]
    refine OUT_k (KQ_KM q2) ?_
    exact L4 (tb := tset tb 4 l x1) hN hB h5 hv (EM_KQ hM2 q2) hl hw (JR_T hj2 (Nat.le_refl _) (fun g => ⟨TT_c (j := 1) (x := x1) (TT_q g.1 (KQ_tr q q2)) hl (by decide) (by decide) (Or.inr (Or.inl ⟨Or.inl rfl, by omega⟩)), by rw [← g.2]; exact (tset_s _ _ _ _).symm⟩))
theorem L2 {E C M : OV} {tb : Tb} {n : Nat} (hN : aB 98 = 500) (hB : TPc B len v) (h5 : len ≤ 500) (hv : ∀ i, i < len → v i < 256) (hM : EM len v M) (hl : l < 26) (hw : 1 ≤ w ∧ w ≤ 9) (h : JR len v n E M (TT C M tb l w 0 0 t np)) : OUT len v t np n ((f_X6_takes E aB B 5).bind (un2 (fun r_19 E_20 => (if r_19 = 0 then j_X6_readClass_83_23 aB B E_20 (nI l) (nI w) C else gd (ix (3 : Int32) 9) (gd (ix (nI l) 26) (bnd (sG C 0 (3 : Int32).toNatClampNeg (nI l).toNatClampNeg (1 : Int32)) (fun C_74 => j_X6_readClass_83_23 aB B E_20 (nI l) (nI w) C_74))))))) (j_X10_readsClass_100_18 (nI l) (nI w) M) M := by
  have xl : ix (nI l) 26 = true := ix_nI hl (by decide)
  have cl := nI_clamp (show l < 2 ^ 31 by omega)
  obtain ⟨r, E1, M2, e1, m1, q, hj⟩ := J_takes hN hB h5 hv hM txt_5 wrd_5 h
  have m1' : f_X10_takesWord M (5 : Int32) = some (bo r, M2) := m1
  replace hj := JR_T (m := n) hj (by split <;> omega) id
  have hM2 := EM_KQ hM q
  unfold j_X10_readsClass_100_18
  rw [e1, m1', Option.bind_some, Option.bind_some]
  simp only [un2, nar_bo, gd_t xl, bnd_e, cl]
  have k3 : KM M2 (sA M2 44 l (bo r)) := KM_A _ _ _ _ (by omega)
  have hM3 := EM_KM hM2 k3
  refine OUT_k (KM_tr (KQ_KM q) k3) ?_
  cases r
  · rw [if_pos (show bo false = 0 from rfl)]
    exact L3 (M := sA M2 44 l (nI 0)) (tb := tb) hN hB h5 hv hM3 hl hw (JR_iv (JR_T hj (Nat.le_refl _) (fun g => TT_m (j := 0) (x := 0) (TT_up (TT_q g q) (by decide)) (by decide) (g.2.2.1 0 (by decide) (by decide)).symm)) (fun k _ _ => rfl))
  · rw [if_neg (show ¬ bo true = 0 by decide), gd_t (by decide)]
    exact L3 (C := sG C 0 3 l (nI 1)) (M := sA M2 44 l (nI 1)) (tb := tset tb 3 l 1) hN hB h5 hv hM3 hl hw (JR_iv (JR_T hj (Nat.le_refl _) (fun g => TT_m (j := 0) (x := 1) (TT_c (j := 0) (x := 1) (TT_q g q) hl (by decide) (by decide) (Or.inl ⟨rfl, by decide⟩)) (by decide) (tset_s _ _ _ _).symm)) (fun k _ _ => rfl))
/-- shy of begins, of ends -/
theorem TT_s0 {C M : OV} {tb : Tb} {sC : Nat} (h : TT C M tb l w sC 0 t np) (s : Int32) : TT (sI C 2 (iv C 2 ||| s)) (sA M 51 0 (ar M 51 0 ||| s)) tb l w sC 0 t np := by
  obtain ⟨t1, t2, t3, t4, t5, t6, t7, t8, t9, t10⟩ := h
  have an : ∀ k, k ≠ 51 → ar (sA M 51 0 (ar M 51 0 ||| s)) k = ar M k := fun k hk => by rw [arA, if_neg hk]
  refine ⟨t1, ⟨fun l' a b => ?_, fun j hj => absurd hj (Nat.not_lt_zero j)⟩, t3, t4, t5, t6, ?_, ⟨?_, ?_⟩, by rw [ivn _ _ (by decide)]; exact t9, t10⟩
  · rw [an 43 (by decide)]
    exact ⟨(t2.1 l' a b).1, fun g j hj => by rw [an _ (by omega)]; exact (t2.1 l' a b).2 g j hj⟩
  · unfold PQ; rw [an 50 (by decide), ivn _ _ (by decide)]; exact t7
  · rw [ivs, arA, if_pos rfl, updE, if_pos rfl, t8.1]
  · rw [ivn _ _ (by decide), arA, if_pos rfl, updE, if_neg (by decide)]; exact t8.2
theorem TT_s1 {C M : OV} {tb : Tb} {sC : Nat} (h : TT C M tb l w sC 0 t np) (s : Int32) : TT (sI C 3 (iv C 3 ||| s)) (sA M 51 1 (ar M 51 1 ||| s)) tb l w sC 0 t np := by
  obtain ⟨t1, t2, t3, t4, t5, t6, t7, t8, t9, t10⟩ := h
  have an : ∀ k, k ≠ 51 → ar (sA M 51 1 (ar M 51 1 ||| s)) k = ar M k := fun k hk => by rw [arA, if_neg hk]
  refine ⟨t1, ⟨fun l' a b => ?_, fun j hj => absurd hj (Nat.not_lt_zero j)⟩, t3, t4, t5, t6, ?_, ⟨?_, ?_⟩, by rw [ivn _ _ (by decide)]; exact t9, t10⟩
  · rw [an 43 (by decide)]
    exact ⟨(t2.1 l' a b).1, fun g j hj => by rw [an _ (by omega)]; exact (t2.1 l' a b).2 g j hj⟩
  · unfold PQ; rw [an 50 (by decide), ivn _ _ (by decide)]; exact t7
  · rw [ivn _ _ (by decide), arA, if_pos rfl, updE, if_neg (by decide)]; exact t8.1
  · rw [ivs, arA, if_pos rfl, updE, if_pos rfl, t8.2]
theorem LE {E C M : OV} {tb : Tb} {n : Nat} (hN : aB 98 = 500) (hB : TPc B len v) (h5 : len ≤ 500) (hv : ∀ i, i < len → v i < 256) (hM : EM len v M) (h : JR len v n E M (TT C M tb l w 0 0 t np)) : ∃ E' C' M', j_X6_readShy_43_11 aB B (nI l) (1 : Int32) E C = some (E', C') ∧ f_X10_readsShyEnd M (nI l) = some M' ∧ KM M M' ∧ JR len v n E' M' (TT C' M' tb l w 0 0 t np) := by
  obtain ⟨E1, M2, e1, m1, q, hj⟩ := J_expect hN hB h5 hv hM txt_4 wrd_4 h
  have m1' : f_X10_needs M (4 : Int32) = some M2 := m1
  refine ⟨E1, sI C 3 (iv C 3 ||| ((1 : Int32) <<< (nI l &&& 31))), sA M2 51 1 (ar M2 51 1 ||| ((1 : Int32) <<< (nI l &&& 31))), ?_, ?_, KM_tr (KQ_KM q) (KM_A _ _ _ _ (by omega)), JR_iv (JR_T hj (Nat.le_succ n) (fun g => TT_s1 (TT_q g q) _)) (fun k _ _ => rfl)⟩
  · unfold j_X6_readShy_43_11
    rw [if_neg (by decide), e1, Option.bind_some]
    rfl
  · unfold f_X10_readsShyEnd
    rw [m1', Option.bind_some]
    simp only [un1]
    rw [gd_t (by decide), gd_t (by decide), bnd_e]
    rfl
def shyM (p q : Int32) (M : OV) : Option OV := (f_X10_takesWord M (2 : Int32)).bind (un2 (fun r_14 M_15 => (if r_14 = 0 then j_X10_readsClass_100_18 p q M_15 else (f_X10_takesWord M_15 (3 : Int32)).bind (un2 (fun r_73 M_74 => (if r_73 = 0 then (f_X10_readsShyEnd M_74 p).bind (un1 (fun M_76 => j_X10_readsClass_100_18 p q M_76)) else gd (ix (0 : Int32) 2) (gd (ix (0 : Int32) 2) (bnd (sA M_74 51 (0 : Int32).toNatClampNeg ((ar M_74 51 (0 : Int32).toNatClampNeg) ||| ((1 : Int32) <<< (p &&& 31)))) (fun M_78 => (f_X10_takesWord M_78 (2 : Int32)).bind (un2 (fun r_79 M_80 => (if r_79 = 0 then j_X10_readsClass_100_18 p q M_80 else (f_X10_readsShyEnd M_80 p).bind (un1 (fun M_82 => j_X10_readsClass_100_18 p q M_82))))))))))))))
theorem LSy {E C M : OV} {tb : Tb} {n : Nat} (hN : aB 98 = 500) (hB : TPc B len v) (h5 : len ≤ 500) (hv : ∀ i, i < len → v i < 256) (hM : EM len v M) (h : JR len v n E M (TT C M tb l w 0 0 t np)) : ∃ E' C' M', f_X6_readShy E aB B C (nI l) = some (E', C') ∧ shyM (nI l) (nI w) M = j_X10_readsClass_100_18 (nI l) (nI w) M' ∧ KM M M' ∧ JR len v n E' M' (TT C' M' tb l w 0 0 t np) := by
  obtain ⟨r, E1, M1, e1, m1, q, hj⟩ := J_takes hN hB h5 hv hM txt_2 wrd_2 h
  have m1' : f_X10_takesWord M (2 : Int32) = some (bo r, M1) := m1
  replace hj := JR_T (m := n) hj (by split <;> omega) id
  have hM1 := EM_KQ hM q
  have hj1 : JR len v n E1 M1 (TT C M1 tb l w 0 0 t np) := JR_T hj (Nat.le_refl _) (fun g => TT_q g q)
  unfold f_X6_readShy shyM
  rw [e1, m1', Option.bind_some, Option.bind_some]
  simp only [un2]
  cases r
  · rw [if_pos (show bo false = 0 from rfl), if_pos (show bo false = 0 from rfl)]
    exact ⟨E1, C, M1, rfl, rfl, KQ_KM q, hj1⟩
  · rw [if_neg (show ¬ bo true = 0 by decide), if_neg (show ¬ bo true = 0 by decide), bnd_e]
    obtain ⟨r2, E2, M2, e2, m2, q2, hj2⟩ := J_takes hN hB h5 hv hM1 txt_3 wrd_3 hj1
    have m2' : f_X10_takesWord M1 (3 : Int32) = some (bo r2, M2) := m2
    replace hj2 := JR_T (m := n) hj2 (by split <;> omega) id
    have hM2 := EM_KQ hM1 q2
    have hj3 : JR len v n E2 M2 (TT C M2 tb l w 0 0 t np) := JR_T hj2 (Nat.le_refl _) (fun g => TT_q g q2)
    rw [e2, m2', Option.bind_some, Option.bind_some]
    have kk : KM M M2 := KM_tr (KQ_KM q) (KQ_KM q2)
    simp only [un2]
    cases r2
    · rw [if_pos (show bo false = 0 from rfl), if_pos (show bo false = 0 from rfl)]
      obtain ⟨E', C', M', e3, m3, k3, hj4⟩ := LE hN hB h5 hv hM2 hj3
      exact ⟨E', C', M', e3, by rw [m3, Option.bind_some]; rfl, KM_tr kk k3, hj4⟩
    · rw [if_neg (show ¬ bo true = 0 by decide), if_neg (show ¬ bo true = 0 by decide), bnd_e, gd_t (by decide), gd_t (by decide), bnd_e]
      obtain ⟨M3, hM3⟩ : ∃ M3, M3 = sA M2 51 0 (ar M2 51 0 ||| ((1 : Int32) <<< (nI l &&& 31))) := ⟨_, rfl⟩
      have k3 : KM M2 M3 := by rw [hM3]; exact KM_A _ _ _ _ (by omega)
      have hj4 : JR len v n E2 M3 (TT (sI C 2 (iv C 2 ||| ((1 : Int32) <<< (nI l &&& 31)))) M3 tb l w 0 0 t np) := by
        rw [hM3]
        exact JR_iv (JR_T hj3 (Nat.le_refl _) (fun g => TT_s0 g _)) (fun k _ _ => rfl)
      rw [show (0 : Int32).toNatClampNeg = 0 from rfl, ← hM3]
      obtain ⟨r3, E4, M4, e4, m4, q4, hj5⟩ := J_takes hN hB h5 hv (EM_KM hM2 k3) txt_2 wrd_2 hj4
      have m4' : f_X10_takesWord M3 (2 : Int32) = some (bo r3, M4) := m4
      replace hj5 := JR_T (m := n) hj5 (by split <;> omega) id
      have hj6 : JR len v n E4 M4 (TT (sI C 2 (iv C 2 ||| ((1 : Int32) <<< (nI l &&& 31)))) M4 tb l w 0 0 t np) := JR_T hj5 (Nat.le_refl _) (fun g => TT_q g q4)
      have k5 : KM M M4 := KM_tr kk (KM_tr k3 (KQ_KM q4))
      rw [e4, m4', Option.bind_some, Option.bind_some]
      simp only [un2, bnd_e]
      cases r3
      · rw [if_pos (show bo false = 0 from rfl)]
        refine ⟨E4, _, M4, ?_, rfl, k5, hj6⟩
        unfold j_X6_readShy_43_11
        rw [if_pos (show bo false = 0 from rfl)]
      · rw [if_neg (show ¬ bo true = 0 by decide)]
        obtain ⟨E', C', M', e7, m7, k7, hj7⟩ := LE hN hB h5 hv (EM_KQ (EM_KM hM2 k3) q4) hj6
        exact ⟨E', C', M', e7, by rw [m7, Option.bind_some]; rfl, KM_tr k5 k7, hj7⟩
end
