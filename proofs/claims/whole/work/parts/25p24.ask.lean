theorem QP_same {o : Nat → Nat} {a : Nat → Nat → Nat} {Z B : Nat → OV} {tb : Tb} {p : Pg} {len : Nat} {v : Nat → Nat} {cnt nx : Nat} {q : Nat → Pg} (hI : INVc o a (Z 0) (Z 1) (Z 3) (Z 5) (Z 6) (Z 7) (Z 9) (Z 10) (Z 24) (Z 25) (Z 26) (Z 27) (Z 28) B tb p len v cnt nx q) {kd : Nat} (hy : YC (Z (24 + kd)) tb p kd) {M' : OV} (hM : KM (Z 28) M') : QP o a Z tb p kd (Z 0) (Z 6) (Z (24 + kd)) M' := ⟨fun _ => rfl, hI.2.2.2.2.2.2.1.1, hI.2.2.2.2.2.2.2.1, hy, hM⟩
theorem out_ne {q : Int32} {n : Nat} (hn : n < 2 ^ 31) (h : q < 0 ∨ nI n ≤ q) {j : Nat} (hj : j < n) : ¬ q = nI j := by
  intro e
  subst e
  rcases h with h | h
  · exact nI_pos (by omega) h
  · exact nI_ge hj hn h
theorem told_or {C M : OV} {tb : Tb} (hC : RC C tb) (hR : RT M tb) (hT : TbS tb) (q : Int32) : (f_X1_has C q = some 0 ∧ f_X10_isTold M q = some 0) ∨ ∃ l, l < 26 ∧ q = nI l ∧ 0 < tb 0 l ∧ f_X1_has C q = some 1 ∧ f_X10_isTold M q = some 1 := by
  have x0 : ix (0 : Int32) 9 = true := by decide
  have c0 : (0 : Int32).toNatClampNeg = 0 := by decide
  rcases in_or q (show 26 < 2 ^ 31 by decide) (by decide) with ⟨e, h⟩ | ⟨l, hl, rfl, e⟩
  · left
    have e' : f_X10_in q 0 25 = some 0 := e
    constructor
    · unfold f_X1_has
      rcases h with h | h
      · rw [if_pos h]; rfl
      · by_cases c : q < 0
        · rw [if_pos c]; rfl
        · rw [if_neg c, if_pos (show (26 : Int32) ≤ q from h)]; rfl
    · unfold f_X10_isTold
      rw [e']
      rfl
  · have e' : f_X10_in (nI l) 0 25 = some 1 := e
    have b9 := (hT l hl).1
    have xl : ix (nI l) 26 = true := ix_nI hl (by decide)
    have cl := nI_clamp (show l < 2 ^ 31 by omega)
    have e0 : (nI (tb 0 l) ≤ (0 : Int32)) = (tb 0 l ≤ 0) := nIle (by omega) (by decide)
    have e1 : f_X1_has C (nI l) = if tb 0 l ≤ 0 then some 0 else some 1 := by
      unfold f_X1_has
      rw [if_neg (nI_pos (by omega)), if_neg (show ¬ (26 : Int32) ≤ nI l from nI_ge hl (by decide)), gd_t x0, gd_t xl, c0, cl, hC 0 (by decide) l hl]
      simp only [e0, j_X1_has_25_1]
    have e2 : f_X10_isTold M (nI l) = if tb 0 l ≤ 0 then some 0 else some 1 := by
      unfold f_X10_isTold
      rw [e']
      simp only [Option.bind_some, un1, if_neg (show ¬ (1 : Int32) = 0 by decide), gd_t xl, cl, (hR l hl).1, e0, j_X10_isTold_23_3]
    by_cases c : tb 0 l ≤ 0
    · left
      rw [e1, e2, if_pos c]
      exact ⟨rfl, rfl⟩
    · right
      rw [e1, e2, if_neg c]
      exact ⟨l, hl, rfl, by omega, rfl, rfl⟩
/-- a line of a kind is looked at, or there is none -/
theorem M_looksAt {M : OV} {tb : Tb} {p : Pg} (hM : RM (ar M 8) p) (hs : PgS p) (hR : RT M tb) (hT : TbS tb) (hpt : PgT tb p) {kd : Nat} (hkd : kd < 4) (hk : f_X10_isKind (nI kd) = some 1) (q : Int32) : ((q < 0 ∨ nI (LN (EK tb p kd) (pn p)) ≤ q) ∧ ∃ M', f_X10_looksAt M (nI kd) q = some (0, M') ∧ KM M M') ∨ ∃ k M', k < LN (EK tb p kd) (pn p) ∧ q = nI k ∧ f_X10_looksAt M (nI kd) q = some (1, LKD M' tb p (stt (EK tb p kd) k) (EK tb p kd (stt (EK tb p kd) k))) ∧ KM M M' ∧ ML M' tb p kd := by
  have h40 := hs.1
  have hE : ∀ a, a ≤ EK tb p kd a := fun a => (EK_in hs kd a).1
  have hn : ∀ a, a < pn p → EK tb p kd a < pn p := fun a => (EK_in hs kd a).2
  obtain ⟨L1, L2, L3⟩ := LN_spec hE hn
  obtain ⟨M', e, ko, ml⟩ := M_laysLines hM hs hR hT hpt hkd
  have km := KO_KM ko
  rcases pk_ix q (show LN (EK tb p kd) (pn p) < 2 ^ 31 by omega) with h | h | ⟨k, hk', rfl⟩
  · left
    refine ⟨Or.inl h, M, ?_, KM_rf M⟩
    unfold f_X10_looksAt
    simp only [hk, Option.bind_some, un1, if_neg (show ¬ (1 : Int32) = 0 by decide), if_neg (Int32.not_le.mpr h)]
  · left
    have h0 : 0 ≤ q := Int32.le_trans (nI_pos' (by omega)) h
    refine ⟨Or.inr h, M', ?_, km⟩
    unfold f_X10_looksAt
    simp only [hk, Option.bind_some, un1, if_neg (show ¬ (1 : Int32) = 0 by decide), if_pos h0, e, ml.1, if_neg (Int32.not_lt.mpr h)]
  · right
    refine ⟨k, M', hk', rfl, ?_, km, ml⟩
    have hb := stt_ln hE hn hk'
    unfold f_X10_looksAt
    simp only [hk, Option.bind_some, un1, if_neg (show ¬ (1 : Int32) = 0 by decide), if_pos (nI_pos' (show k < 2 ^ 31 by omega)), e, ml.1, if_pos (nI_lt hk' (by omega)), M_first ml hs hk', gd_t (ix_nI (show k < 41 by omega) (by decide)), nI_clamp (show k < 2 ^ 31 by omega), ml.2 k hk', M_looks (KM_RM km hM) hs (KM_RT km hR) hT hpt hb.1 hb.2]
theorem L_hasLine {o : Nat → Nat} {a : Nat → Nat → Nat} {Z B : Nat → OV} {tb : Tb} {p : Pg} {len : Nat} {v : Nat → Nat} {cnt nx : Nat} {q : Nat → Pg} (hI : INVc o a (Z 0) (Z 1) (Z 3) (Z 5) (Z 6) (Z 7) (Z 9) (Z 10) (Z 24) (Z 25) (Z 26) (Z 27) (Z 28) B tb p len v cnt nx q) {kd : Nat} (hkd : kd < 4) (hk : f_X9_isKind (nI kd) = some 1) (hy : YC (Z (24 + kd)) tb p kd) (i : Int32) : ((i < 0 ∨ nI (LN (EK tb p kd) (pn p)) ≤ i) → ∃ L' R' N' Y', f_X9_hasLine (a 0) (Z 0) (Z 3) (Z 6) (Z 8) (o 10) (Z 10) (a 0 (900 + kd)) (Z (24 + kd)) (nI kd) i = some (0, L', R', N', Y') ∧ ∀ M', KM (Z 28) M' → QP o a Z tb p kd L' R' Y' M') ∧ ∀ k, k < LN (EK tb p kd) (pn p) → i = nI k → ∃ L' R' N' Y', f_X9_hasLine (a 0) (Z 0) (Z 3) (Z 6) (Z 8) (o 10) (Z 10) (a 0 (900 + kd)) (Z (24 + kd)) (nI kd) i = some (1, L', R', N', Y') ∧ YR Y' tb p kd ∧ ∀ M', KM (Z 28) M' → QP o a Z tb p kd L' R' Y' M' := by
  have hI' := hI
  obtain ⟨-, ⟨i2, -⟩, -, ⟨hP, -⟩, -, ⟨hC, -⟩, ⟨hR0, -⟩, hr, -, -, ⟨hRT, hM, -⟩, ⟨hT, -, ⟨hs, hpt, -⟩, -⟩⟩ := hI'
  have h40 := hs.1
  have hE : ∀ a, a ≤ EK tb p kd a := fun a => (EK_in hs kd a).1
  have hn : ∀ a, a < pn p → EK tb p kd a < pn p := fun a => (EK_in hs kd a).2
  obtain ⟨L1, L2, L3⟩ := LN_spec hE hn
  obtain ⟨L', R', N', Y', e5, hL', hR0', hr', hY'⟩ := L_layout (N := Z 8) hkd i2 hR0 hr hC hP hs hT hpt hy
  constructor
  · intro h
    by_cases c : i < 0
    · exact ⟨Z 0, Z 6, Z 8, Z (24 + kd), by simp only [f_X9_hasLine, hk, Option.bind_some, un1, if_neg (show ¬ (1 : Int32) = 0 by decide), if_pos c, j_X9_hasLine_27_7], fun M' hM' => QP_same hI hy hM'⟩
    · have h2 : nI (LN (EK tb p kd) (pn p)) ≤ i := by
        rcases h with h | h
        · exact absurd h c
        · exact h
      exact ⟨L', R', N', Y', by simp only [f_X9_hasLine, hk, Option.bind_some, un1, if_neg (show ¬ (1 : Int32) = 0 by decide), if_neg c, e5, un4, hY'.1, if_pos h2, j_X9_hasLine_27_7], fun M' hM' => ⟨hL', hR0', hr', Or.inr hY', hM'⟩⟩
  · rintro k hk' rfl
    exact ⟨L', R', N', Y', by simp only [f_X9_hasLine, hk, Option.bind_some, un1, if_neg (show ¬ (1 : Int32) = 0 by decide), if_neg (nI_pos (show k < 2 ^ 31 by omega)), e5, un4, hY'.1, if_neg (nI_ge hk' (show LN (EK tb p kd) (pn p) < 2 ^ 31 by omega))], hY', fun M' hM' => ⟨hL', hR0', hr', Or.inr hY', hM'⟩⟩
theorem ok_lineOf : Ok_lineOf INV := by
  rintro o a aK Z B ⟨tb, p, len, v, cnt, nx, q, hc⟩ q0 q1
  have hc' := hc
  obtain ⟨-, ⟨i2, -⟩, -, ⟨hP, -⟩, -, ⟨hC, -⟩, ⟨hR0, -⟩, hr, -, -, ⟨hRT, hM, -⟩, ⟨hT, -, ⟨hs, hpt, -⟩, -⟩⟩ := hc'
  refine ok4 hc (fun oY Y k => f_X9_lineOf (a 0) (Z 0) (Z 3) (Z 6) (Z 8) (o 10) (Z 10) oY Y k q1) (fun k => f_X10_lineOf (Z 28) k q1) q0 ?_ ?_
  · intro e1 e2
    exact ⟨-1, by simp only [f_X9_lineOf, e1, Option.bind_some, un1, if_true], by simp only [f_X10_lineOf, e2, Option.bind_some, un1, if_true]⟩
  · intro kd hkd e1 e2 hy
    rcases has_or hP hM hs q1 with ⟨e3, e4⟩ | ⟨i, hi, rfl, e3, e4⟩
    · exact ⟨-1, _, _, Z 8, _, _, by simp only [f_X9_lineOf, e1, e3, Option.bind_some, un1, if_true, if_neg (show ¬ (1 : Int32) = 0 by decide)], by simp only [f_X10_lineOf, e2, e4, Option.bind_some, un1, if_true, if_neg (show ¬ (1 : Int32) = 0 by decide)], QP_same hc hy (KM_rf _)⟩
    · obtain ⟨L', R', N', Y', e5, hL', hR0', hr', hY'⟩ := L_layout (N := Z 8) hkd i2 hR0 hr hC hP hs hT hpt hy
      obtain ⟨M', e6, k6, m6⟩ := M_laysLines hM hs hRT hT hpt hkd
      exact ⟨nI (lnW (EK tb p kd) i), L', R', N', Y', M', by simp only [f_X9_lineOf, e1, e3, Option.bind_some, un1, if_neg (show ¬ (1 : Int32) = 0 by decide), e5, un4, Y_lineWith hY' hs hi], by simp only [f_X10_lineOf, e2, e4, Option.bind_some, un1, if_neg (show ¬ (1 : Int32) = 0 by decide), e6, M_lineWith m6 hs hi], hL', hR0', hr', Or.inr hY', KO_KM k6⟩
theorem ok_line : Ok_line INV := by
  rintro o a aK Z B ⟨tb, p, len, v, cnt, nx, q, hc⟩ q0 q1 q2
  have hc' := hc
  obtain ⟨-, ⟨i2, -⟩, -, ⟨hP, -⟩, -, ⟨hC, -⟩, ⟨hR0, -⟩, hr, -, -, ⟨hRT, hM, -⟩, ⟨hT, -, ⟨hs, hpt, -⟩, -⟩⟩ := hc'
  have h40 := hs.1
  refine ok4 hc (fun oY Y k => f_X9_line (a 0) (Z 0) (Z 3) (Z 6) (Z 8) (o 10) (Z 10) oY Y k q1 q2) (fun k => f_X10_line (Z 28) k q1 q2) q0 ?_ ?_
  · intro e1 e2
    have e3 : f_X10_looksAt (Z 28) q0 q1 = some (0, Z 28) := by simp only [f_X10_looksAt, e2, Option.bind_some, un1, if_true]
    have e4 : f_X9_hasLine (a 0) (Z 0) (Z 3) (Z 6) (Z 8) (o 10) (Z 10) (a 0 (900 + 0)) (Z (24 + 0)) q0 q1 = some (0, Z 0, Z 6, Z 8, Z (24 + 0)) := by simp only [f_X9_hasLine, e1, Option.bind_some, un1, if_true, j_X9_hasLine_27_7]
    refine ⟨if q2 = 4 then -100 else -1, ?_, ?_⟩
    · simp only [f_X9_line]
      by_cases c1 : q2 < 0
      · have : ¬ q2 = 4 := by
          intro e
          subst e
          exact absurd c1 (by decide)
        simp only [if_pos c1, if_neg this]
      · simp only [if_neg c1]
        by_cases c2 : q2 < 11
        · simp only [if_pos c2, e4, Option.bind_some, un5, if_true]
          by_cases c3 : q2 = 4
          · simp only [if_pos c3]
          · simp only [if_neg c3]
        · have : ¬ q2 = 4 := by
            intro e
            subst e
            exact absurd (show (4 : Int32) < 11 by decide) c2
          simp only [if_neg c2, if_neg this]
    · simp only [f_X10_line, e3, Option.bind_some, un2, if_true]
      by_cases c3 : q2 = 4
      · simp only [if_pos c3]
      · simp only [if_neg c3]
  · intro kd hkd e1 e2 hy
    have hE : ∀ a, a ≤ EK tb p kd a := fun a => (EK_in hs kd a).1
    have hn : ∀ a, a < pn p → EK tb p kd a < pn p := fun a => (EK_in hs kd a).2
    obtain ⟨L1, L2, L3⟩ := LN_spec hE hn
    have hhl := L_hasLine hc hkd e1 hy q1
    -- what isn't asked for
    have hout : (q2 < 0 ∨ nI 11 ≤ q2) → f_X9_line (a 0) (Z 0) (Z 3) (Z 6) (Z 8) (o 10) (Z 10) (a 0 (900 + kd)) (Z (24 + kd)) (nI kd) q1 q2 = some (-1, Z 0, Z 6, Z 8, Z (24 + kd)) := by
      intro h
      unfold f_X9_line
      by_cases c1 : q2 < 0
      · rw [if_pos c1]
      · rcases h with h | h
        · exact absurd h c1
        · rw [if_neg c1, if_neg (Int32.not_lt.mpr (show (11 : Int32) ≤ q2 from h))]
    rcases M_looksAt hM hs hRT hT hpt hkd e2 q1 with ⟨h1, M', e3, km⟩ | ⟨k, M', hk', rfl, e3, km, ml⟩
    · obtain ⟨L', R', N', Y', e4, hq⟩ := hhl.1 h1
      rcases pk_ix q2 (show 11 < 2 ^ 31 by decide) with h | h | ⟨w, hw, rfl⟩
      · refine ⟨-1, _, _, _, _, M', hout (Or.inl h), ?_, QP_same hc hy km⟩
        simp only [f_X10_line, e3, Option.bind_some, un2, if_true, if_neg (out_ne (j := 4) (by decide) (Or.inl h : q2 < 0 ∨ nI 11 ≤ q2) (by decide))]
        exact if_neg (out_ne (j := 4) (by decide) (Or.inl h : q2 < 0 ∨ nI 11 ≤ q2) (by decide))
      · refine ⟨-1, _, _, _, _, M', hout (Or.inr h), ?_, QP_same hc hy km⟩
        simp only [f_X10_line, e3, Option.bind_some, un2, if_true]
        exact if_neg (out_ne (j := 4) (by decide) (Or.inr h : q2 < 0 ∨ nI 11 ≤ q2) (by decide))
      · refine ⟨if nI w = 4 then -100 else -1, L', R', N', Y', M', ?_, ?_, hq M' km⟩
        · simp only [f_X9_line, if_neg (nI_pos (show w < 2 ^ 31 by omega)), if_pos (show nI w < 11 from nI_lt hw (by decide)), e4, Option.bind_some, un5, if_true]
          by_cases c3 : nI w = 4
          · simp only [if_pos c3]
          · simp only [if_neg c3]
        · simp only [f_X10_line, e3, Option.bind_some, un2, if_true]
          by_cases c3 : nI w = 4
          · simp only [if_pos c3]
          · simp only [if_neg c3]
    · have hb := stt_ln hE hn hk'
      obtain ⟨a', ha'⟩ : ∃ a', a' = stt (EK tb p kd) k := ⟨_, rfl⟩
      obtain ⟨b', hb'⟩ : ∃ b', b' = EK tb p kd (stt (EK tb p kd) k) := ⟨_, rfl⟩
      have kl : KL M' (LKD M' tb p a' b') := KL_lk _ _ _ _ _ _ _ _
      have km2 := KM_tr km (KL_KM kl)
      have ml2 := ML_KL ml kl
      rw [← hb', ← ha'] at e3 hb
      obtain ⟨L', R', N', Y', e4, hY', hq⟩ := hhl.2 k hk' rfl
      have yl := (hY'.2.2 k hk').1
      rw [← hb', ← ha'] at yl
      have h24 : ar (LKD M' tb p a' b') 24 k = nI b' := by rw [hb']; exact ml2.2 k hk'
      have h8 : ar (LKD M' tb p a' b') 8 (81 : Int32).toNatClampNeg = nI (pd p) := (KM_RM km2 hM).2.2.2.2.2.1
      have hfi : f_X10_firstOf (LKD M' tb p a' b') (nI k) = some (nI a') := by rw [ha']; exact M_first ml2 hs hk'
      have hle := M_legal (KM_RM km2 hM) hs hb.2
      have xk : ix (nI k) 41 = true := ix_nI (by omega) (by decide)
      have ck := nI_clamp (show k < 2 ^ 31 by omega)
      have i12 : iv (LKD M' tb p a' b') 12 = nI (msN tb p a' b') := Eq.trans rfl rfl
      have i13 : iv (LKD M' tb p a' b') 13 = bo (mhung tb p a' b') := Eq.trans rfl rfl
      have i14 : iv (LKD M' tb p a' b') 14 = bo (mlong tb p a' b') := Eq.trans rfl rfl
      have i15 : iv (LKD M' tb p a' b') 15 = nI (mtake tb p a' b') := Eq.trans rfl rfl
      have i16 : iv (LKD M' tb p a' b') 16 = nI (mput tb p a' b') := Eq.trans rfl rfl
      have i17 : iv (LKD M' tb p a' b') 17 = nI (mleft tb p a' b') := Eq.trans rfl rfl
      have i18 : iv (LKD M' tb p a' b') 18 = nI (mcost tb p a' b') := Eq.trans rfl rfl
      have hm10 : ∀ (q2 : Int32), f_X10_line (Z 28) (nI kd) (nI k) q2 = (if q2 = 0 then some (nI a', LKD M' tb p a' b') else if q2 = 1 then some (nI b', LKD M' tb p a' b') else if q2 = 2 then some (nI (mcost tb p a' b'), LKD M' tb p a' b') else if q2 = 3 then some (nI (msN tb p a' b'), LKD M' tb p a' b') else if q2 = 4 then some (nI (msN tb p a' b') - nI (pd p), LKD M' tb p a' b') else if q2 = 5 then some (bo (mhung tb p a' b'), LKD M' tb p a' b') else if q2 = 6 then some (nI (mtake tb p a' b'), LKD M' tb p a' b') else if q2 = 7 then some (nI (mput tb p a' b'), LKD M' tb p a' b') else if q2 = 8 then some (nI (mleft tb p a' b'), LKD M' tb p a' b') else if q2 = 9 then some (bo (lgl p b'), LKD M' tb p a' b') else if q2 = 10 then some (bo (mlong tb p a' b'), LKD M' tb p a' b') else some (-1, LKD M' tb p a' b')) := by
        intro q2
        simp only [f_X10_line, e3, Option.bind_some, un2, if_neg (show ¬ (1 : Int32) = 0 by decide), hfi, un1, gd_t xk, ck, h24, i12, i13, i14, i15, i16, i17, i18, gd_t (show ix (81 : Int32) 113 = true by decide), h8, hle, bo_0]
        cases mhung tb p a' b' <;> cases mlong tb p a' b' <;> cases lgl p b' <;> simp [bo_t, bo_f]
      rcases pk_ix q2 (show 11 < 2 ^ 31 by decide) with h | h | ⟨w, hw, rfl⟩
      · refine ⟨-1, _, _, _, _, _, hout (Or.inl h), ?_, QP_same hc hy km2⟩
        rw [hm10]
        have hne : ∀ j, j < 11 → ¬ q2 = nI j := fun j hj => out_ne (by decide) (Or.inl h : q2 < 0 ∨ nI 11 ≤ q2) hj
        rw [if_neg (show ¬ q2 = (0 : Int32) from hne 0 (by decide)), if_neg (show ¬ q2 = (1 : Int32) from hne 1 (by decide)), if_neg (show ¬ q2 = (2 : Int32) from hne 2 (by decide)), if_neg (show ¬ q2 = (3 : Int32) from hne 3 (by decide)), if_neg (show ¬ q2 = (4 : Int32) from hne 4 (by decide)), if_neg (show ¬ q2 = (5 : Int32) from hne 5 (by decide)), if_neg (show ¬ q2 = (6 : Int32) from hne 6 (by decide)), if_neg (show ¬ q2 = (7 : Int32) from hne 7 (by decide)), if_neg (show ¬ q2 = (8 : Int32) from hne 8 (by decide)), if_neg (show ¬ q2 = (9 : Int32) from hne 9 (by decide)), if_neg (show ¬ q2 = (10 : Int32) from hne 10 (by decide))]
      · refine ⟨-1, _, _, _, _, _, hout (Or.inr h), ?_, QP_same hc hy km2⟩
        rw [hm10]
        have hne : ∀ j, j < 11 → ¬ q2 = nI j := fun j hj => out_ne (by decide) (Or.inr h : q2 < 0 ∨ nI 11 ≤ q2) hj
        rw [if_neg (show ¬ q2 = (0 : Int32) from hne 0 (by decide)), if_neg (show ¬ q2 = (1 : Int32) from hne 1 (by decide)), if_neg (show ¬ q2 = (2 : Int32) from hne 2 (by decide)), if_neg (show ¬ q2 = (3 : Int32) from hne 3 (by decide)), if_neg (show ¬ q2 = (4 : Int32) from hne 4 (by decide)), if_neg (show ¬ q2 = (5 : Int32) from hne 5 (by decide)), if_neg (show ¬ q2 = (6 : Int32) from hne 6 (by decide)), if_neg (show ¬ q2 = (7 : Int32) from hne 7 (by decide)), if_neg (show ¬ q2 = (8 : Int32) from hne 8 (by decide)), if_neg (show ¬ q2 = (9 : Int32) from hne 9 (by decide)), if_neg (show ¬ q2 = (10 : Int32) from hne 10 (by decide))]
      · have hl2 := L_layout2 (a := a) (L := L') (P := Z 3) (R := R') (N := N') (C := Z 10) (oC := o 10) hkd hY'
        have h9 : f_X9_line (a 0) (Z 0) (Z 3) (Z 6) (Z 8) (o 10) (Z 10) (a 0 (900 + kd)) (Z (24 + kd)) (nI kd) (nI k) (nI w) = some (gr Y' 0 w k, L', R', N', Y') := by
          simp only [f_X9_line, if_neg (nI_pos (show w < 2 ^ 31 by omega)), if_pos (show nI w < 11 from nI_lt hw (by decide)), e4, Option.bind_some, un5, if_neg (show ¬ (1 : Int32) = 0 by decide), hl2, un4, gd_t (ix_nI hw (show 11 < 2 ^ 31 by decide)), gd_t (ix_nI (show k < 40 by omega) (by decide)), nI_clamp (show w < 2 ^ 31 by omega), ck]
        refine ⟨gr Y' 0 w k, L', R', N', Y', LKD M' tb p a' b', h9, ?_, hq _ km2⟩
        rw [hm10]
        have e : ∀ j, j < 11 → (nI w = nI j) = (w = j) := fun j hj => nIe (by omega) (by omega)
        have w11 : w = 0 ∨ w = 1 ∨ w = 2 ∨ w = 3 ∨ w = 4 ∨ w = 5 ∨ w = 6 ∨ w = 7 ∨ w = 8 ∨ w = 9 ∨ w = 10 := by omega
        obtain ⟨y0, y1, y2, y3, y4, y5, y6, y7, y8, y9, y10⟩ := yl
        rcases w11 with rfl | rfl | rfl | rfl | rfl | rfl | rfl | rfl | rfl | rfl | rfl
        · rw [y0]; rfl
        · rw [y1]; rfl
        · rw [y2]; rfl
        · rw [y3]; rfl
        · rw [y4]; rfl
        · rw [y5]; rfl
        · rw [y6]; rfl
        · rw [y7]; rfl
        · rw [y8]; rfl
        · rw [y9]; rfl
        · rw [y10]; rfl
