-- what is read of a table, on both sides
def tset (tb : Tb) (k l x : Nat) : Tb := fun k' l' => if k' = k ∧ l' = l then x else tb k' l'
theorem tset_s (tb : Tb) (k l x : Nat) : tset tb k l x k l = x := if_pos ⟨rfl, rfl⟩
theorem tset_k (tb : Tb) {k k' : Nat} (l x l' : Nat) (h : k' ≠ k) : tset tb k l x k' l' = tb k' l' := if_neg (fun g => h g.1)
theorem tset_l (tb : Tb) {l l' : Nat} (k x k' : Nat) (h : l' ≠ l) : tset tb k l x k' l' = tb k' l' := if_neg (fun g => h g.2)
theorem RC_set {C : OV} {tb : Tb} (h : RC C tb) (k l x : Nat) : RC (sG C 0 k l (nI x)) (tset tb k l x) := by
  intro k' hk l' hl
  rw [grG, if_pos rfl]
  by_cases c : k' = k
  · subst c
    rw [if_pos rfl, updE]
    by_cases d : l' = l
    · subst d
      rw [if_pos rfl, tset_s]
    · rw [if_neg d, tset_l _ _ _ _ d]; exact h k' hk l' hl
  · rw [if_neg c, tset_k _ _ _ _ c]; exact h k' hk l' hl
def Dd (j : Nat) : Nat := if j = 3 ∨ j = 5 then 1 else 0
def MS (M : OV) (tb : Tb) (l s : Nat) : Prop := (∀ l', l' < 26 → l' ≠ l → ar M 43 l' = nI (tb 0 l') ∧ (0 < tb 0 l' → ∀ j, j < 6 → ar M (44 + j) l' = nI (tb (3 + j) l'))) ∧ ∀ j, j < s → ar M (44 + j) l = nI (tb (3 + j) l)
def DF (tb : Tb) (l s : Nat) : Prop := ∀ j, s ≤ j → j < 6 → tb (3 + j) l = Dd j
def UD (tb : Tb) : Prop := ∀ l, l < 26 → tb 0 l = 0 → DF tb l 0
def PQ (C M : OV) (t : Nat → Int32) (np : Nat) : Prop := (∀ a, a < 26 → ar C 1 a = t a ∧ ar M 50 a = t a) ∧ iv C 4 = nI np ∧ iv M 53 = nI np
def SH (C M : OV) : Prop := iv C 2 = ar M 51 0 ∧ iv C 3 = ar M 51 1
def TT (C M : OV) (tb : Tb) (l w sC sM : Nat) (t : Nat → Int32) (np : Nat) : Prop := RC C tb ∧ MS M tb l sM ∧ DF tb l sC ∧ TbS tb ∧ UD tb ∧ (tb 0 l = w ∧ 1 ≤ w ∧ w ≤ 9) ∧ PQ C M t np ∧ SH C M ∧ iv C 5 = nI (cls tb) ∧ (iv M 52 = nI (cls tb - 1) ∧ 1 ≤ cls tb ∧ cls tb ≤ 10)
def RDm (M : OV) (tb : Tb) : Prop := ∀ l, l < 26 → ar M 43 l = nI (tb 0 l) ∧ (0 < tb 0 l → ∀ j, j < 6 → ar M (44 + j) l = nI (tb (3 + j) l))
def RD (C M : OV) (tb : Tb) (t : Nat → Int32) (np : Nat) : Prop := RC C tb ∧ RDm M tb ∧ TbS tb ∧ UD tb ∧ PQ C M t np ∧ SH C M ∧ iv C 5 = nI (cls tb) ∧ (iv M 52 = nI (cls tb) ∧ cls tb ≤ 10)
theorem TbS_set {tb : Tb} {l w j x : Nat} (h : TbS tb) (hl : l < 26) (hw : tb 0 l = w) (hb : (j = 0 ∧ x ≤ 1) ∨ ((j = 1 ∨ j = 2) ∧ x < w) ∨ ((j = 3 ∨ j = 5) ∧ 1 ≤ x ∧ x ≤ 3) ∨ (j = 4 ∧ x ≤ 9)) : TbS (tset tb (3 + j) l x) := by
  intro l' hl'
  have := h l' hl'
  by_cases c : l' = l
  · subst c
    rcases hb with ⟨rfl, hb⟩ | ⟨rfl | rfl, hb⟩ | ⟨rfl | rfl, hb⟩ | ⟨rfl, hb⟩ <;> simp [tset] <;> omega
  · rw [tset_l _ _ _ _ c, tset_l _ _ _ _ c, tset_l _ _ _ _ c, tset_l _ _ _ _ c, tset_l _ _ _ _ c, tset_l _ _ _ _ c, tset_l _ _ _ _ c]
    exact this
theorem cls_set {tb : Tb} {k : Nat} (l x : Nat) (h : k ≠ 0) : cls (tset tb k l x) = cls tb := sm_congr 26 (fun j _ => by rw [tset_k _ _ _ _ (fun g => h g.symm)])
theorem UD_set {tb : Tb} {l j x : Nat} (h : UD tb) (hw : 1 ≤ tb 0 l) : UD (tset tb (3 + j) l x) := by
  intro l' hl' h0 j' a b
  rw [tset_k _ _ _ _ (by omega)] at h0
  have c : l' ≠ l := fun g => by rw [g] at h0; omega
  rw [tset_l _ _ _ _ c]
  exact h l' hl' h0 j' a b
theorem TT_c {C M : OV} {tb : Tb} {l w sC sM np j x : Nat} {t : Nat → Int32} (h : TT C M tb l w sC sM t np) (hl : l < 26) (hj : sM ≤ j) (hC : sC ≤ j + 1) (hb : (j = 0 ∧ x ≤ 1) ∨ ((j = 1 ∨ j = 2) ∧ x < w) ∨ ((j = 3 ∨ j = 5) ∧ 1 ≤ x ∧ x ≤ 3) ∨ (j = 4 ∧ x ≤ 9)) : TT (sG C 0 (3 + j) l (nI x)) M (tset tb (3 + j) l x) l w (j + 1) sM t np := by
  obtain ⟨t1, t2, t3, t4, t5, t6, t7, t8, t9, t10⟩ := h
  refine ⟨RC_set t1 _ _ _, ⟨fun l' a b => ?_, fun j' a => ?_⟩, fun j' a b => ?_, TbS_set t4 hl t6.1 hb, UD_set t5 (by omega), ⟨by rw [tset_k _ _ _ _ (by omega)]; exact t6.1, t6.2⟩, t7, t8, ?_, ?_⟩
  · have := t2.1 l' a b
    rw [tset_l _ _ _ _ b]
    refine ⟨this.1, fun g j' hj' => ?_⟩
    rw [tset_l _ _ _ _ b]
    exact this.2 g j' hj'
  · rw [tset_k _ _ _ _ (by omega)]
    exact t2.2 j' a
  · rw [tset_k _ _ _ _ (by omega)]
    exact t3 j' (by omega) b
  · rw [cls_set _ _ (by omega)]; exact t9
  · rw [cls_set _ _ (by omega)]; exact t10
theorem TT_up {C M : OV} {tb : Tb} {l w sC sM np s : Nat} {t : Nat → Int32} (h : TT C M tb l w sC sM t np) (hs : sC ≤ s) : TT C M tb l w s sM t np := by
  obtain ⟨t1, t2, t3, t4⟩ := h
  exact ⟨t1, t2, fun j a b => t3 j (by omega) b, t4⟩
theorem TT_m {C M : OV} {tb : Tb} {l w sC np j x : Nat} {t : Nat → Int32} (h : TT C M tb l w sC j t np) (hj : j < 6) (hx : x = tb (3 + j) l) : TT C (sA M (44 + j) l (nI x)) tb l w sC (j + 1) t np := by
  obtain ⟨t1, t2, t3, t4, t5, t6, t7, t8, t9, t10⟩ := h
  have a43 : ar (sA M (44 + j) l (nI x)) 43 = ar M 43 := by rw [arA, if_neg (by omega)]
  have a50 : ar (sA M (44 + j) l (nI x)) 50 = ar M 50 := by rw [arA, if_neg (by omega)]
  have a51 : ar (sA M (44 + j) l (nI x)) 51 = ar M 51 := by rw [arA, if_neg (by omega)]
  refine ⟨t1, ⟨fun l' a b => ?_, fun j' a => ?_⟩, t3, t4, t5, t6, ?_, ?_, t9, t10⟩
  · have := t2.1 l' a b
    rw [a43]
    refine ⟨this.1, fun g j' hj' => ?_⟩
    rw [arA]
    by_cases c : 44 + j' = 44 + j
    · rw [if_pos c, updE, if_neg b, ← c]; exact this.2 g j' hj'
    · rw [if_neg c]; exact this.2 g j' hj'
  · rw [arA]
    by_cases c : 44 + j' = 44 + j
    · rw [if_pos c, updE, if_pos rfl, hx, show j' = j by omega]
    · rw [if_neg c]; exact t2.2 j' (by omega)
  · unfold PQ; rw [a50]; exact t7
  · unfold SH; rw [a51]; exact t8
theorem TT_q {C M M' : OV} {tb : Tb} {l w sC sM np : Nat} {t : Nat → Int32} (h : TT C M tb l w sC sM t np) (q : KQ M M') : TT C M' tb l w sC sM t np := by
  obtain ⟨t1, t2, t3, t4, t5, t6, t7, t8, t9, t10⟩ := h
  refine ⟨t1, ?_, t3, t4, t5, t6, ?_, ?_, t9, ?_⟩
  · unfold MS; rw [q.1 43]
    exact ⟨fun l' a b => ⟨(t2.1 l' a b).1, fun g j hj => by rw [q.1]; exact (t2.1 l' a b).2 g j hj⟩, fun j hj => by rw [q.1]; exact t2.2 j hj⟩
  · unfold PQ; rw [q.1, q.2 53 (by omega)]; exact t7
  · unfold SH; rw [q.1]; exact t8
  · rw [q.2 52 (by omega)]; exact t10
theorem RD_q {C M M' : OV} {tb : Tb} {np : Nat} {t : Nat → Int32} (h : RD C M tb t np) (q : KQ M M') : RD C M' tb t np := by
  obtain ⟨t1, t2, t3, t4, t7, t8, t9, t10⟩ := h
  refine ⟨t1, ?_, t3, t4, ?_, ?_, t9, ?_⟩
  · intro l hl
    rw [q.1 43]
    exact ⟨(t2 l hl).1, fun g j hj => by rw [q.1]; exact (t2 l hl).2 g j hj⟩
  · unfold PQ; rw [q.1, q.2 53 (by omega)]; exact t7
  · unfold SH; rw [q.1]; exact t8
  · rw [q.2 52 (by omega)]; exact t10
theorem JR_iv {len : Nat} {v : Nat → Nat} {n : Nat} {E M M' : OV} {T : Prop} (h : JR len v n E M T) (g : ∀ k, 38 ≤ k → k ≤ 42 → iv M' k = iv M k) : JR len v n E M' T := by
  have g38 := g 38 (by decide) (by decide)
  have g39 := g 39 (by decide) (by decide)
  have g40 := g 40 (by decide) (by decide)
  have g41 := g 41 (by decide) (by decide)
  have g42 := g 42 (by decide) (by decide)
  rcases h with ⟨k, f, b, ⟨h1, h2, h3, h4, h6⟩, hn, t⟩ | ⟨ft, h1, h2, h3⟩
  · refine Or.inl ⟨k, f, b, ⟨h1, ?_, h3, h4, g42.trans h6⟩, hn, t⟩
    unfold RK
    rw [g38, g39, g40, g41]
    exact h2
  · exact Or.inr ⟨ft, h1, h2, g42.trans h3.1, g40.trans h3.2⟩
section
variable {B : OV} {aB : Nat → Nat} {len : Nat} {v : Nat → Nat} {t : Nat → Int32} {np l w : Nat}
def OUT (len : Nat) (v : Nat → Nat) (t : Nat → Int32) (np n : Nat) (c : Option (OV × OV)) (m : Option OV) (M : OV) : Prop := ∃ E' C' M' tb', c = some (E', C') ∧ m = some M' ∧ KM M M' ∧ JR len v n E' M' (RD C' M' tb' t np)
theorem OUT_k {n : Nat} {c : Option (OV × OV)} {m : Option OV} {M M' : OV} (k : KM M M') (h : OUT len v t np n c m M') : OUT len v t np n c m M := by
  obtain ⟨E', C', M2, tb', h1, h2, h3, h4⟩ := h
  exact ⟨E', C', M2, tb', h1, h2, KM_tr k h3, h4⟩
theorem OUT_n {n n' : Nat} {c : Option (OV × OV)} {m : Option OV} {M : OV} (k : n ≤ n') (h : OUT len v t np n' c m M) : OUT len v t np n c m M := by
  obtain ⟨E', C', M2, tb', h1, h2, h3, h4⟩ := h
  exact ⟨E', C', M2, tb', h1, h2, h3, JR_T h4 k id⟩
theorem L6 {E C M : OV} {tb : Tb} {n y : Nat} (hN : aB 98 = 500) (hB : TPc B len v) (h5 : len ≤ 500) (hv : ∀ i, i < len → v i < 256) (hM : EM len v M) (hl : l < 26) (h : JR len v n E M (TT C M tb l w 6 5 t np ∧ y = tb 8 l)) : OUT len v t np n (j_X6_readClass_215_41 aB B E C) (j_X10_readsClass_230_52 (nI l) (nI w) (nI y) M) M := by
  have xl : ix (nI l) 26 = true := ix_nI hl (by decide)
  have cl := nI_clamp (show l < 2 ^ 31 by omega)
  have k1 : KM M (sA M 49 l (nI y)) := KM_A _ _ _ _ (by omega)
  have h1 : JR len v n E (sA M 49 l (nI y)) (TT C (sA M 49 l (nI y)) tb l w 6 6 t np) := JR_iv (JR_T h (Nat.le_refl _) (fun g => TT_m (j := 5) g.1 (by decide) g.2)) (fun k _ _ => rfl)
  obtain ⟨E', M2, e1, m1, q, hj⟩ := J_stop hN hB h5 hv (EM_KM hM k1) h1
  obtain ⟨M4, hM4⟩ : ∃ M4, M4 = sI (sA M2 43 l (nI w)) 52 (iv (sA M2 43 l (nI w)) 52 + 1) := ⟨_, rfl⟩
  have a43 : ar M4 43 = upd (ar M2 43) l (nI w) := by rw [hM4]; show ar (sA M2 43 l (nI w)) 43 = _; rw [arA, if_pos rfl]
  have an : ∀ k, k ≠ 43 → ar M4 k = ar M2 k := fun k hk => by rw [hM4]; show ar (sA M2 43 l (nI w)) k = _; rw [arA, if_neg hk]
  have i52 : iv M4 52 = iv M2 52 + 1 := by rw [hM4, ivs]; rfl
  have iN : ∀ k, k ≠ 52 → iv M4 k = iv M2 k := fun k hk => by rw [hM4, ivn _ _ hk]; rfl
  have k4 : KM M2 M4 := fun k hk => ⟨an k (by omega), iN k (by omega)⟩
  refine ⟨E', C, M4, tb, ?_, ?_, KM_tr k1 (KM_tr (KQ_KM q) k4), JR_iv (JR_T hj (Nat.le_refl _) (fun g => ?_)) (fun k _ _ => iN k (by omega))⟩
  · unfold j_X6_readClass_215_41
    rw [e1]
    rfl
  · unfold j_X10_readsClass_230_52
    rw [gd_t xl, bnd_e, cl, m1, Option.bind_some]
    simp only [un1]
    rw [gd_t xl, bnd_e, bnd_e, hM4]
  · obtain ⟨t1, t2, t3, t4, t5, t6, t7, t8, t9, t10⟩ := TT_q g q
    refine ⟨t1, fun l' hl' => ?_, t4, t5, ?_, ?_, t9, ?_, t10.2.2⟩
    · rw [a43, updE]
      by_cases c : l' = l
      · rw [if_pos c, c, t6.1]
        exact ⟨rfl, fun _ j hj => by rw [an _ (by omega)]; exact t2.2 j hj⟩
      · rw [if_neg c]
        exact ⟨(t2.1 l' hl' c).1, fun g j hj => by rw [an _ (by omega)]; exact (t2.1 l' hl' c).2 g j hj⟩
    · unfold PQ; rw [an 50 (by decide), iN 53 (by decide)]; exact t7
    · unfold SH; rw [an 51 (by decide)]; exact t8
    · rw [i52, t10.1, nI_1]
      congr 1
      omega
theorem L5 {E C M : OV} {tb : Tb} {n y : Nat} (hN : aB 98 = 500) (hB : TPc B len v) (h5 : len ≤ 500) (hv : ∀ i, i < len → v i < 256) (hM : EM len v M) (hl : l < 26) (h : JR len v n E M (TT C M tb l w 4 3 t np ∧ y = tb 6 l)) : OUT len v t np n (j_X6_readClass_163_35 aB B (nI l) E C) (j_X10_readsClass_184_40 (nI l) (nI w) (nI y) M) M := by
  have xl : ix (nI l) 26 = true := ix_nI hl (by decide)
  have cl := nI_clamp (show l < 2 ^ 31 by omega)
  have k1 : KM M (sA M 47 l (nI y)) := KM_A _ _ _ _ (by omega)
  have h1 : JR len v n E (sA M 47 l (nI y)) (TT C (sA M 47 l (nI y)) tb l w 4 4 t np) := JR_iv (JR_T h (Nat.le_refl _) (fun g => TT_m (j := 3) g.1 (by decide) g.2)) (fun k _ _ => rfl)
  have hM1 := EM_KM hM k1
  obtain ⟨r, E1, M2, e1, m1, q, hj⟩ := J_takes hN hB h5 hv hM1 txt_9 wrd_9 h1
  have m1' : f_X10_takesWord (sA M 47 l (nI y)) (9 : Int32) = some (bo r, M2) := m1
  replace hj := JR_T (m := n) hj (by split <;> omega) id
  have hM2 := EM_KQ hM1 q
  unfold j_X6_readClass_163_35 j_X10_readsClass_184_40
  rw [e1, gd_t xl, bnd_e, cl, m1', Option.bind_some, Option.bind_some]
  simp only [un2, bnd_e]
  refine OUT_k (KM_tr k1 (KQ_KM q)) ?_
  cases r
  · rw [if_pos (show bo false = 0 from rfl), if_pos (show bo false = 0 from rfl)]
    unfold j_X10_readsClass_212_48
    rw [gd_t xl, bnd_e, if_pos (show bo false = 0 from rfl), cl]
    refine OUT_k (KM_A _ 48 l 0 (by omega)) ?_
    exact L6 (M := sA M2 48 l 0) (y := 1) (tb := tb) hN hB h5 hv (EM_KM hM2 (KM_A _ 48 l 0 (by omega))) hl (JR_iv (JR_T hj (Nat.le_refl _) (fun g => ⟨TT_m (j := 4) (x := 0) (TT_up (TT_q g q) (by decide)) (by decide) (g.2.2.1 4 (by decide) (by decide)).symm, (g.2.2.1 5 (by decide) (by decide)).symm⟩)) (fun k _ _ => rfl))
  · rw [if_neg (show ¬ bo true = 0 by decide), if_neg (show ¬ bo true = 0 by decide)]
    obtain ⟨x1, y1, E2, M3, e2, m2, bx, by1, q2, hj2⟩ := J_num (lo := 0) (hi := 9) (by decide) (by decide) hN hB h5 hv hM2 hj
    have e2' : f_X6_readNumber E1 aB B (0 : Int32) (9 : Int32) = some (nI x1, E2) := e2
    have m2' : f_X10_needsNumber M2 (0 : Int32) (9 : Int32) = some (nI y1, M3) := m2
    rw [gd_t (by decide), e2', Option.bind_some, m2', Option.bind_some]
    simp only [un2]
    rw [gd_t xl, show (7 : Int32).toNatClampNeg = 7 from rfl]
    unfold j_X10_readsClass_212_48
    rw [gd_t xl, bnd_e, if_neg (show ¬ bo true = 0 by decide), cl]
    have k3 : KM M2 (sA M3 48 l (nI y1)) := KM_tr (KQ_KM q2) (KM_A _ 48 l _ (by omega))
    have hM4 := EM_KM hM2 k3
    have hj3 : JR len v n E2 (sA M3 48 l (nI y1)) (TT (sG C 0 7 l (nI x1)) (sA M3 48 l (nI y1)) (tset tb 7 l x1) l w 5 5 t np) := JR_iv (JR_T hj2 (Nat.le_refl _) (fun g => TT_m (j := 4) (TT_c (j := 4) (x := x1) (TT_q g.1 (KQ_tr q q2)) hl (by decide) (by decide) (Or.inr (Or.inr (Or.inr ⟨rfl, bx.2⟩)))) (by decide) (by rw [← g.2]; exact (tset_s _ _ _ _).symm))) (fun k _ _ => rfl)
    obtain ⟨E3, M5, e3, m3, q3, hj4⟩ := J_expect hN hB h5 hv hM4 txt_8 wrd_8 hj3
    have m3' : f_X10_needs (sA M3 48 l (nI y1)) (8 : Int32) = some M5 := m3
    have hM5 := EM_KQ hM4 q3
    obtain ⟨x2, y2, E4, M6, e4, m4, bx2, by2, q4, hj5⟩ := J_num (lo := 1) (hi := 3) (by decide) (by decide) hN hB h5 hv hM5 hj4
    have e4' : f_X6_readNumber E3 aB B (1 : Int32) (3 : Int32) = some (nI x2, E4) := e4
    have m4' : f_X10_needsNumber M5 (1 : Int32) (3 : Int32) = some (nI y2, M6) := m4
    unfold f_X10_readsRank
    rw [e3, m3', Option.bind_some, Option.bind_some]
    simp only [un1]
    rw [gd_t (by decide), e4', Option.bind_some, m4', Option.bind_some]
    simp only [un2, Option.bind_some]
    rw [gd_t xl, show (8 : Int32).toNatClampNeg = 8 from rfl]
    refine OUT_k (KM_tr k3 (KM_tr (KQ_KM q3) (KQ_KM q4))) ?_
    refine OUT_n (Nat.le_succ n) (L6 (tb := tset (tset tb 7 l x1) 8 l x2) hN hB h5 hv (EM_KQ hM5 q4) hl (JR_T hj5 (Nat.le_refl _) (fun g => ⟨TT_c (j := 5) (x := x2) (TT_q g.1 (KQ_tr q3 q4)) hl (by decide) (by decide) (Or.inr (Or.inr (Or.inl ⟨Or.inr rfl, bx2⟩))), by rw [← g.2]; exact (tset_s _ _ _ _).symm⟩)))
theorem L4 {E C M : OV} {tb : Tb} {n y : Nat} (hN : aB 98 = 500) (hB : TPc B len v) (h5 : len ≤ 500) (hv : ∀ i, i < len → v i < 256) (hM : EM len v M) (hl : l < 26) (hw : 1 ≤ w ∧ w ≤ 9) (h : JR len v n E M (TT C M tb l w 2 1 t np ∧ y = tb 4 l)) : OUT len v t np n (j_X6_readClass_111_29 aB B (nI l) (nI w) E C) (j_X10_readsClass_137_28 (nI l) (nI w) (nI y) M) M := by
  have xl : ix (nI l) 26 = true := ix_nI hl (by decide)
  have cl := nI_clamp (show l < 2 ^ 31 by omega)
  have w1 : nI w - (1 : Int32) = nI (w - 1) := nI_m1 hw.1
  have k1 : KM M (sA M 45 l (nI y)) := KM_A _ _ _ _ (by omega)
  have h1 : JR len v n E (sA M 45 l (nI y)) (TT C (sA M 45 l (nI y)) tb l w 2 2 t np) := JR_iv (JR_T h (Nat.le_refl _) (fun g => TT_m (j := 1) g.1 (by decide) g.2)) (fun k _ _ => rfl)
  have hM1 := EM_KM hM k1
  obtain ⟨r, E1, M2, e1, m1, q, hj⟩ := J_takes hN hB h5 hv hM1 txt_7 wrd_7 h1
  have m1' : f_X10_takesWord (sA M 45 l (nI y)) (7 : Int32) = some (bo r, M2) := m1
  replace hj := JR_T (m := n) hj (by split <;> omega) id
  have hM2 := EM_KQ hM1 q
  unfold j_X6_readClass_111_29 j_X10_readsClass_137_28
  rw [e1, gd_t xl, bnd_e, cl, m1', Option.bind_some, Option.bind_some]
  simp only [un2, bnd_e]
  refine OUT_k (KM_tr k1 (KQ_KM q)) ?_
  cases r
  · rw [if_pos (show bo false = 0 from rfl), if_pos (show bo false = 0 from rfl)]
    unfold j_X10_readsClass_166_36
    rw [gd_t xl, bnd_e, if_pos (show bo false = 0 from rfl), cl]
    refine OUT_k (KM_A _ 46 l 0 (by omega)) ?_
    exact L5 (M := sA M2 46 l 0) (y := 1) (tb := tb) hN hB h5 hv (EM_KM hM2 (KM_A _ 46 l 0 (by omega))) hl (JR_iv (JR_T hj (Nat.le_refl _) (fun g => ⟨TT_m (j := 2) (x := 0) (TT_up (TT_q g q) (by decide)) (by decide) (g.2.2.1 2 (by decide) (by decide)).symm, (g.2.2.1 3 (by decide) (by decide)).symm⟩)) (fun k _ _ => rfl))
  · rw [if_neg (show ¬ bo true = 0 by decide), if_neg (show ¬ bo true = 0 by decide), w1]
    obtain ⟨x1, y1, E2, M3, e2, m2, bx, by1, q2, hj2⟩ := J_num (lo := 0) (hi := w - 1) (by omega) (by omega) hN hB h5 hv hM2 hj
    have e2' : f_X6_readNumber E1 aB B (0 : Int32) (nI (w - 1)) = some (nI x1, E2) := e2
    have m2' : f_X10_needsNumber M2 (0 : Int32) (nI (w - 1)) = some (nI y1, M3) := m2
    rw [gd_t (by decide), e2', Option.bind_some, m2', Option.bind_some]
    simp only [un2]
    rw [gd_t xl, show (5 : Int32).toNatClampNeg = 5 from rfl]
    unfold j_X10_readsClass_166_36
    rw [gd_t xl, bnd_e, if_neg (show ¬ bo true = 0 by decide), cl]
    have k3 : KM M2 (sA M3 46 l (nI y1)) := KM_tr (KQ_KM q2) (KM_A _ 46 l _ (by omega))
    have hM4 := EM_KM hM2 k3
    have hj3 : JR len v n E2 (sA M3 46 l (nI y1)) (TT (sG C 0 5 l (nI x1)) (sA M3 46 l (nI y1)) (tset tb 5 l x1) l w 3 3 t np) := JR_iv (JR_T hj2 (Nat.le_refl _) (fun g => TT_m (j := 2) (TT_c (j := 2) (x := x1) (TT_q g.1 (KQ_tr q q2)) hl (by decide) (by decide) (Or.inr (Or.inl ⟨Or.inr rfl, by omega⟩))) (by decide) (by rw [← g.2]; exact (tset_s _ _ _ _).symm))) (fun k _ _ => rfl)
    obtain ⟨E3, M5, e3, m3, q3, hj4⟩ := J_expect hN hB h5 hv hM4 txt_8 wrd_8 hj3
    have m3' : f_X10_needs (sA M3 46 l (nI y1)) (8 : Int32) = some M5 := m3
    have hM5 := EM_KQ hM4 q3
    obtain ⟨x2, y2, E4, M6, e4, m4, bx2, by2, q4, hj5⟩ := J_num (lo := 1) (hi := 3) (by decide) (by decide) hN hB h5 hv hM5 hj4
    have e4' : f_X6_readNumber E3 aB B (1 : Int32) (3 : Int32) = some (nI x2, E4) := e4
    have m4' : f_X10_needsNumber M5 (1 : Int32) (3 : Int32) = some (nI y2, M6) := m4
    unfold f_X10_readsRank
    rw [e3, m3', Option.bind_some, Option.bind_some]
    simp only [un1]
    rw [gd_t (by decide), e4', Option.bind_some, m4', Option.bind_some]
    simp only [un2, Option.bind_some]
    rw [gd_t xl, show (6 : Int32).toNatClampNeg = 6 from rfl]
    refine OUT_k (KM_tr k3 (KM_tr (KQ_KM q3) (KQ_KM q4))) ?_
    refine OUT_n (Nat.le_succ n) (L5 (tb := tset (tset tb 5 l x1) 6 l x2) hN hB h5 hv (EM_KQ hM5 q4) hl (JR_T hj5 (Nat.le_refl _) (fun g => ⟨TT_c (j := 3) (x := x2) (TT_q g.1 (KQ_tr q3 q4)) hl (by decide) (by decide) (Or.inr (Or.inr (Or.inl ⟨Or.inl rfl, bx2⟩))), by rw [← g.2]; exact (tset_s _ _ _ _).symm⟩)))
end
