-- table, the end
def TBX (L1 : Int32 × OV → Option OV) (L2 : OV → Option OV) (L3 : Int32 × OV → Option OV) (M : OV) : Option (Int32 × OV) := bnd (0 : Int32) (fun v1_1 => ((L1 (v1_1, M)).bind (un1 (fun M_8 => gd (ix (0 : Int32) 2) (bnd (sA M_8 51 (0 : Int32).toNatClampNeg (0 : Int32)) (fun M_9 => gd (ix (1 : Int32) 2) (bnd (sA M_9 51 (1 : Int32).toNatClampNeg (0 : Int32)) (fun M_10 => bnd (sI M_10 52 (0 : Int32)) (fun M_11 => bnd (sI M_11 53 (0 : Int32)) (fun M_12 => bnd (sI M_12 38 (0 : Int32)) (fun M_13 => bnd (sI M_13 39 (3 : Int32)) (fun M_14 => bnd (sI M_14 42 (0 : Int32)) (fun M_15 => (f_X10_goesOn M_15).bind (un1 (fun M_16 => ((L2 M_16).bind (un1 (fun M_29 => bnd (sI M_29 36 (0 : Int32)) (fun M_30 => (if (iv M_30 42) = 0 then bnd (0 : Int32) (fun v1_31 => ((L3 (v1_31, M_30)).bind (un1 (fun M_44 => gd (ix (0 : Int32) 2) (gd (ix (82 : Int32) 113) (bnd (sA M_44 8 (82 : Int32).toNatClampNeg (ar M_44 51 (0 : Int32).toNatClampNeg)) (fun M_45 => gd (ix (1 : Int32) 2) (gd (ix (83 : Int32) 113) (bnd (sA M_45 8 (83 : Int32).toNatClampNeg (ar M_45 51 (1 : Int32).toNatClampNeg)) (fun M_46 => gd (ix (0 : Int32) 113) (bnd (sA M_46 8 (0 : Int32).toNatClampNeg (0 : Int32)) (fun M_47 => bnd (sI M_47 11 (0 : Int32)) (fun M_48 => some ((iv M_48 52), M_48)))))))))))))) else some (((-4 : Int32) - (iv M_30 40)), M_30)))))))))))))))))))))
theorem TBX_eq (M : OV) : f_X10_table M = TBX (lp s_X10_table_2_2 5000) (lp s_X10_table_71_18 5000) (lp s_X10_table_142_32 5000) M := rfl
def iniM (M : OV) : OV := sI (sI (sI (sI (sI (sA (sA M 51 0 0) 51 1 0) 52 0) 53 0) 38 0) 39 3) 42 0
theorem TBX_at {L1 : Int32 × OV → Option OV} {L2 : OV → Option OV} {L3 : Int32 × OV → Option OV} {M M8 M16 M29 : OV} (e1 : L1 (0, M) = some M8) (e2 : f_X10_goesOn (iniM M8) = some M16) (e3 : L2 M16 = some M29) : (∀ x, ¬ iv M29 42 = 0 → iv M29 40 = x → TBX L1 L2 L3 M = some (-4 - x, sI M29 36 0)) ∧ (∀ M44, iv M29 42 = 0 → L3 (0, sI M29 36 0) = some M44 → TBX L1 L2 L3 M = some (iv M44 52, sI (sA (sA (sA M44 8 82 (ar M44 51 0)) 8 83 (ar M44 51 1)) 8 0 0) 11 0)) := by
  have e2' : f_X10_goesOn (sI (sI (sI (sI (sI (sA (sA M8 51 0 0) 51 1 0) 52 0) 53 0) 38 0) 39 3) 42 0) = some M16 := e2
  have c0 : (0 : Int32).toNatClampNeg = 0 := rfl
  have c1 : (1 : Int32).toNatClampNeg = 1 := rfl
  have c82 : (82 : Int32).toNatClampNeg = 82 := rfl
  have c83 : (83 : Int32).toNatClampNeg = 83 := rfl
  have i42 : iv (sI M29 36 0) 42 = iv M29 42 := ivn _ _ (by decide)
  have i40 : iv (sI M29 36 0) 40 = iv M29 40 := ivn _ _ (by decide)
  constructor
  · intro x h1 h2
    unfold TBX
    simp only [bnd_e]
    rw [e1, Option.bind_some]
    simp only [un1]
    rw [gd_t (by decide), gd_t (by decide), c0, c1, e2', Option.bind_some, e3, Option.bind_some, i42, i40, if_neg h1, h2]
  · intro M44 h1 h2
    unfold TBX
    simp only [bnd_e]
    rw [e1, Option.bind_some]
    simp only [un1]
    rw [gd_t (by decide), gd_t (by decide), c0, c1, e2', Option.bind_some, e3, Option.bind_some, i42, if_pos h1, h2, Option.bind_some]
    rw [gd_t (by decide), gd_t (by decide), gd_t (by decide), gd_t (by decide), gd_t (by decide), c82, c83]
    have a51 : ar (sA M44 8 82 (ar M44 51 0)) 51 = ar M44 51 := by rw [arA, if_neg (by decide)]
    rw [a51]
    rfl
def RTX (L : Int32 × OV × OV → Option (OV × OV)) (E : OV) (aB : Nat → Nat) (B : OV) (C : OV) : Option (Int32 × OV × OV) := (f_X1_clear C).bind (un1 (fun C_1 => (f_X6_next E aB B).bind (un1 (fun E_3 => bnd (0 : Int32) (fun v1_5 => ((L (v1_5, E_3, C_1)).bind (un2 (fun E_22 C_23 => some ((iv E_22 5), E_22, C_23)))))))))
theorem RTX_eq (E : OV) (aB : Nat → Nat) (B : OV) (C : OV) : f_X6_readTable E aB B C = RTX (lp (s_X6_readTable_13_6 aB B) 5000) E aB B C := rfl
theorem RTX_at {L : Int32 × OV × OV → Option (OV × OV)} {E B C C1 E1 E' C' : OV} {aB : Nat → Nat} (e1 : f_X1_clear C = some C1) (e2 : f_X6_next E aB B = some E1) (e3 : L (0, E1, C1) = some (E', C')) : RTX L E aB B C = some (iv E' 5, E', C') := by
  unfold RTX
  rw [e1, Option.bind_some]
  simp only [un1, bnd_e]
  rw [e2, Option.bind_some, e3, Option.bind_some]
  rfl
theorem T_read {T F M : OV} {aT : Nat → Nat} {len : Nat} {v : Nat → Nat} (hN : aT 98 = 500) (hT : TPc T len v) (h5 : len ≤ 500) (hv : ∀ i, i < len → v i < 256) (hM : EM len v M) : ∃ E' C' M8 M16 M29, f_X6_readTable RD0 aT T F = some (iv E' 5, E', C') ∧ lp s_X10_table_2_2 5000 (0, M) = some M8 ∧ f_X10_goesOn (iniM M8) = some M16 ∧ lp s_X10_table_71_18 5000 M16 = some M29 ∧ KM M M29 ∧ FIN E' C' M29 := by
  obtain ⟨C1, c1, g1, g2, i2, i3, i4, i5⟩ := C_clear F
  obtain ⟨M8, m8, w1, w2, w3⟩ := M_init M
  obtain ⟨k', f', b', hx⟩ := NX_ex v (len := len) 0 (Nat.zero_le len)
  have hE0 : RE RD0 0 0 0 := ⟨rfl, rfl, rfl⟩
  obtain ⟨E1, e1, e2, e3⟩ := E_next hN hT h5 hv hE0 (by decide) (Nat.zero_le _) hx
  have n51 : ∀ k, k ≠ 51 → ar (iniM M8) k = ar M8 k := fun k hk => by
    show ar (sA (sA M8 51 0 0) 51 1 0) k = _
    rw [arA, if_neg hk, arA, if_neg hk]
  have niv : ∀ k, k < 38 → iv (iniM M8) k = iv M8 k := fun k hk => by
    unfold iniM
    rw [ivn _ _ (by omega), ivn _ _ (by omega), ivn _ _ (by omega), ivn _ _ (by omega), ivn _ _ (by omega)]
    rfl
  have k1 : KM M (iniM M8) := fun k hk => ⟨by rw [n51 k (by omega)]; exact w2 k (by omega) (by omega), by rw [niv k (by omega)]; exact w3 k⟩
  have h38 : iv (iniM M8) 38 = nI 0 := by unfold iniM; rw [ivn _ _ (by decide), ivn _ _ (by decide), ivs]; rfl
  have h39 : iv (iniM M8) 39 = nI (tkk 0) := by unfold iniM; rw [ivn _ _ (by decide), ivs]; rfl
  have h42 : iv (iniM M8) 42 = 0 := by unfold iniM; rw [ivs]
  have h52 : iv (iniM M8) 52 = 0 := by unfold iniM; rw [ivn _ _ (by decide), ivn _ _ (by decide), ivn _ _ (by decide), ivn _ _ (by decide), ivs]
  have h53 : iv (iniM M8) 53 = 0 := by unfold iniM; rw [ivn _ _ (by decide), ivn _ _ (by decide), ivn _ _ (by decide), ivs]
  have a51 : ar (iniM M8) 51 = upd (upd (ar M8 51) 0 0) 1 0 := by
    show ar (sA (sA M8 51 0 0) 51 1 0) 51 = _
    rw [arA, if_pos rfl, arA, if_pos rfl]
  have hM1 := EM_KM hM k1
  obtain ⟨M16, m16, r1, q, r2⟩ := M_goes hM1 h5 hv (Nat.zero_le len) (by decide) h38 h39 hx
  have hRD : RD C1 (iniM M8) tbN (fun _ => 0) 0 := RD_0 g1 g2 i2 i3 i4 i5 (fun l hl => by rw [n51 43 (by decide), n51 50 (by decide)]; exact w1 l hl) (by rw [a51, updE, if_neg (by decide), updE, if_pos rfl]) (by rw [a51, updE, if_pos rfl]) h52 h53
  obtain ⟨E', C', M29, c2, m2, km, hf⟩ := R_loop hN hT h5 hv (len + 1) 0 5000 5000 E1 C1 M16 (by omega) (by omega) (by omega) (by decide) (EM_KQ hM1 q) (Or.inl ⟨k', f', b', ⟨e2, r1, (NX_VS hx).1, e3, r2.trans h42⟩, Or.inr (Nat.zero_le _), tbN, fun _ => 0, 0, RD_q hRD q, PP_0⟩)
  refine ⟨E', C', M8, M16, M29, ?_, m8, m16, m2, KM_tr k1 (KM_tr (KQ_KM q) km), hf⟩
  rw [RTX_eq]
  exact RTX_at c1 e1 c2
def pTab (p : Pg) (t : Nat → Int32) (x y : Int32) : Pg := (0, fun i => ps p i, fun i => pm p i, t, fun k => pw p k, pd p, x, y)
theorem ok_table : Ok_table INV := by
  rintro o a aK Z B hI -
  obtain ⟨tb, p, len, v, cnt, nx, q, hc⟩ := hI
  obtain ⟨i1, ⟨i2, i2'⟩, i3, i4, i5, i6, i7, i8, i9, i10, ⟨hRT, hM, h36, h35, m5, m6, m7⟩, ⟨hT, u2, hG, h500, hv, u6⟩⟩ := hc
  have hEM : EM len v (Z 28) := ⟨h36, h35, m7⟩
  obtain ⟨E', C', M8, M16, M29, c1, m8, m16, m29, km, hf⟩ := T_read (F := Z 11) i1.1 i3 h500 hv hEM
  have at1 := TBX_at (L3 := lp s_X10_table_142_32 5000) m8 m16 m29
  rw [← TBX_eq] at at1
  rcases hf with ⟨f1, f2, tb', t, np, hRD, hPP⟩ | ⟨ft, f0, f1, f2, f3⟩
  · obtain ⟨M44, m44, w1, w2, w3, w4⟩ := M_copy (sI M29 36 0)
    have e2 := at1.2 M44 f2 m44
    obtain ⟨r1, r2, r3, r4, ⟨r5, r6, r7⟩, r8, r9, r10, r11⟩ := hRD
    obtain ⟨M48, h48⟩ : ∃ X, X = sI (sA (sA (sA M44 8 82 (ar M44 51 0)) 8 83 (ar M44 51 1)) 8 0 0) 11 0 := ⟨_, rfl⟩
    rw [← h48] at e2
    have a8 : ar M48 8 = upd (upd (upd (ar M44 8) 82 (ar M44 51 0)) 83 (ar M44 51 1)) 0 0 := by
      rw [h48]
      show ar (sA (sA (sA M44 8 82 (ar M44 51 0)) 8 83 (ar M44 51 1)) 8 0 0) 8 = _
      rw [arA, if_pos rfl, arA, if_pos rfl, arA, if_pos rfl]
    have an : ∀ k, k ≠ 8 → ar M48 k = ar M44 k := fun k hk => by
      rw [h48]
      show ar (sA (sA (sA M44 8 82 (ar M44 51 0)) 8 83 (ar M44 51 1)) 8 0 0) k = _
      rw [arA, if_neg hk, arA, if_neg hk, arA, if_neg hk]
    have in11 : ∀ k, k ≠ 11 → iv M48 k = iv M44 k := fun k hk => by rw [h48, ivn _ _ hk]; rfl
    have i11 : iv M48 11 = 0 := by rw [h48, ivs]
    have a51 : ar M44 51 = ar M29 51 := w3 51 (by decide)
    have e52 : iv M44 52 = nI (cls tb') := by rw [w4 52, ivn _ _ (by decide)]; exact r10
    have sub8 : ∀ j, j < 87 → ar M44 8 j = ar (Z 28) 8 j := fun j hj => by rw [w2 j hj]; exact congrFun (km 8 (by omega)).1 j
    obtain ⟨hs, hpt, hpr, hhi⟩ := hG
    have hPr : prs (pTab p t (ar M29 51 0) (ar M29 51 1)) = np := hPP.2.1.symm
    refine ⟨(nI (cls tb'), sI (sN (sN (Z 0) 10 (o 11)) 11 (o 10)) 12 0, sI (Z 1) 1 0, sI (sI (sI (sI (sW (Z 3) 2 (va_cpy (ar C' 1) (ar (Z 3) 2) (0 : Int32).toNatClampNeg (0 : Int32).toNatClampNeg (26 : Int32).toNatClampNeg)) 6 (iv C' 2)) 7 (iv C' 3)) 8 (iv C' 4)) 4 0, sI (Z 5) 2 0, sI (Z 9) 3 0, C', sI (Z (24 + 0)) 7 0, sI (Z (24 + 1)) 7 0, sI (Z (24 + 2)) 7 0, sI (Z (24 + 3)) 7 0), (nI (cls tb'), M48), ?_, ?_, rfl, Or.inr ?_⟩
    · unfold f_X9_table
      rw [gd_t (decide_eq_true i2'), c1, Option.bind_some]
      simp only [un3, bnd_e]
      have n10 : nv (sN (sN (Z 0) 10 (o 11)) 11 (o 10)) 10 = o 11 := by rw [nvN, if_neg (by decide), nvN, if_pos rfl]
      rw [if_pos f1, gd_t (decide_eq_true i2), gd_t (decide_eq_true i2'), gd_t (decide_eq_true n10)]
      have hb : f_X4_beginTable (Z 3) C' = some (sI (sI (sI (sI (sW (Z 3) 2 (va_cpy (ar C' 1) (ar (Z 3) 2) (0 : Int32).toNatClampNeg (0 : Int32).toNatClampNeg (26 : Int32).toNatClampNeg)) 6 (iv C' 2)) 7 (iv C' 3)) 8 (iv C' 4)) 4 0) := rfl
      have hf : f_X9_forget (sN (sN (Z 0) 10 (o 11)) 11 (o 10)) (Z 9) (Z (24 + 0)) (Z (24 + 1)) (Z (24 + 2)) (Z (24 + 3)) = some (sI (sN (sN (Z 0) 10 (o 11)) 11 (o 10)) 12 0, sI (Z 9) 3 0, sI (Z (24 + 0)) 7 0, sI (Z (24 + 1)) 7 0, sI (Z (24 + 2)) 7 0, sI (Z (24 + 3)) 7 0) := rfl
      rw [hb, Option.bind_some]
      simp only [un1, f_X2_clear, bnd_e, Option.bind_some]
      rw [hf, Option.bind_some]
      simp only [un6]
      rw [gd_t (decide_eq_true (show nv (sI (sN (sN (Z 0) 10 (o 11)) 11 (o 10)) 12 0) 10 = o 11 from n10)), r9]
    · rw [e2, e52]
    · refine ⟨tb', pTab p t (ar M29 51 0) (ar M29 51 1), 0, v, 0, nx, q, i1, ⟨?_, ?_⟩, ⟨rfl, fun i hi => absurd hi (Nat.not_lt_zero i)⟩, ⟨⟨rfl, fun i hi => absurd hi (Nat.not_lt_zero i), fun i hi => absurd hi (Nat.not_lt_zero i), fun l hl => ?_, fun k hk => ?_, ?_, ?_, ?_⟩, ?_⟩, ⟨i5.1, rfl, i5.2.2.1, by decide, fun j hj => absurd hj (Nat.not_lt_zero j)⟩, ⟨r1, r9⟩, i7, Or.inl rfl, ⟨Or.inl rfl, Or.inl rfl, Or.inl rfl, Or.inl rfl⟩, Or.inl rfl, ⟨?_, ⟨?_, fun i hi => absurd hi (Nat.not_lt_zero i), fun i hi => absurd hi (Nat.not_lt_zero i), fun l hl => ?_, fun k hk => ?_, ?_, ?_, ?_⟩, ?_, fun i hi => absurd hi (Nat.not_lt_zero i), ?_, fun j hj => absurd hj (Nat.not_lt_zero j), ?_⟩, ⟨r3, r11, ⟨⟨by show (0 : Nat) ≤ 40; decide, fun i hi => absurd hi (Nat.not_lt_zero i), hs.2.2⟩, fun i hi => absurd hi (Nat.not_lt_zero i), ?_, hPP.1⟩, by decide, fun i hi => absurd hi (Nat.not_lt_zero i), fun j hj => absurd hj (Nat.not_lt_zero j)⟩⟩
      · show nv (sN (sN (Z 0) 10 (o 11)) 11 (o 10)) 10 = o 11
        rw [nvN, if_neg (by decide), nvN, if_pos rfl]
      · show nv (sN (sN (Z 0) 10 (o 11)) 11 (o 10)) 11 = o 10
        rw [nvN, if_pos rfl]
      · show ar (sW (Z 3) 2 (va_cpy (ar C' 1) (ar (Z 3) 2) (0 : Int32).toNatClampNeg (0 : Int32).toNatClampNeg (26 : Int32).toNatClampNeg)) 2 l = t l
        rw [arW, if_pos rfl]
        have c26 : (26 : Int32).toNatClampNeg = 26 := rfl
        have c0 : (0 : Int32).toNatClampNeg = 0 := rfl
        simp [va_cpy, c26, c0, hl, (r5 l hl).1]
      · exact i4.1.2.2.2.2.1 k hk
      · exact i4.1.2.2.2.2.2.1
      · show iv C' 2 = ar M29 51 0
        exact r8.1
      · show iv C' 3 = ar M29 51 1
        exact r8.2
      · show iv C' 4 = nI (prs (pTab p t (ar M29 51 0) (ar M29 51 1)))
        rw [hPr]; exact r6
      · show RT M48 tb'
        intro l hl
        obtain ⟨x1, x2, x3, x4, x5, x6, x7, x8⟩ := w1 l hl
        have y := r2 l hl
        rw [an 1 (by decide), an 2 (by decide), an 3 (by decide), an 4 (by decide), an 5 (by decide), an 6 (by decide), an 7 (by decide), x1, x2, x3, x4, x5, x6, x7]
        refine ⟨y.1, fun g => ⟨?_, y.2 g 1 (by decide), y.2 g 2 (by decide), y.2 g 3 (by decide), y.2 g 4 (by decide), y.2 g 5 (by decide)⟩⟩
        have z : ar (sI M29 36 0) 44 l = nI (tb' 3 l) := y.2 g 0 (by decide)
        have t3 := (r3 l hl).2.1
        rw [z]
        exact (by decide : ∀ u, u < 2 → vp_nar .boolean (nI u) = nI u) _ (by omega)
      · show ar M48 8 0 = nI 0
        rw [a8, updE, if_pos rfl]; rfl
      · show ar M48 8 (87 + l) = t l
        rw [a8, updE, if_neg (by omega), updE, if_neg (by omega), updE, if_neg (by omega), (w1 l hl).2.2.2.2.2.2.2]
        exact (r5 l hl).2
      · show ar M48 8 (84 + k) = nI (pw p k)
        rw [a8, updE, if_neg (by omega), updE, if_neg (by omega), updE, if_neg (by omega), sub8 _ (by omega)]
        exact hM.2.2.2.2.1 k hk
      · show ar M48 8 81 = nI (pd p)
        rw [a8, updE, if_neg (by decide), updE, if_neg (by decide), updE, if_neg (by decide), sub8 _ (by decide)]
        exact hM.2.2.2.2.2.1
      · show ar M48 8 82 = ar M29 51 0
        rw [a8, updE, if_neg (by decide), updE, if_neg (by decide), updE, if_pos rfl, a51]
      · show ar M48 8 83 = ar M29 51 1
        rw [a8, updE, if_neg (by decide), updE, if_pos rfl, a51]
      · show iv M48 36 = nI 0
        rw [in11 36 (by decide), w4 36, ivs]; rfl
      · show iv M48 11 = nI 0
        exact i11
      · show ∀ i, i < 58 → ar M48 37 i = nI (wds.getD i 0)
        rw [an 37 (by decide), w3 37 (by decide)]
        show ∀ i, i < 58 → ar M29 37 i = nI (wds.getD i 0)
        rw [(km 37 (by omega)).1]
        exact m7
      · rw [hPr]; exact hPP.2.2
  · have e2 := at1.1 (nI ft) (by rw [f2]; decide) f3
    have n1 : ¬ nI ft = (-1 : Int32) := nI_ne1 (by omega)
    refine ⟨(-4 - nI ft, Z 0, sI (Z 1) 1 0, Z 3, Z 5, Z 9, C', Z (24 + 0), Z (24 + 1), Z (24 + 2), Z (24 + 3)), (-4 - nI ft, sI M29 36 0), ?_, e2, rfl, Or.inl ?_⟩
    · unfold f_X9_table
      rw [gd_t (decide_eq_true i2'), c1, Option.bind_some]
      simp only [un3, bnd_e]
      rw [f1, if_neg n1]
    · refine ⟨tb, p, 0, v, cnt, nx, q, i1, ⟨i2, i2'⟩, ⟨rfl, fun i hi => absurd hi (Nat.not_lt_zero i)⟩, i4, i5, i6, i7, i8, i9, i10, ⟨?_, ?_, rfl, fun i hi => absurd hi (Nat.not_lt_zero i), ?_, ?_, ?_⟩, ⟨hT, u2, hG, by decide, fun i hi => absurd hi (Nat.not_lt_zero i), u6⟩⟩
      · show RT M29 tb
        exact KM_RT km hRT
      · show RM (ar M29 8) p
        exact KM_RM km hM
      · show iv (sI M29 36 0) 11 = nI cnt
        rw [ivn _ _ (by decide), (km 11 (by omega)).2]
        exact m5
      · show ∀ j, j < cnt → RM (fun i => ar M29 10 (113 * (cnt - 1 - j) + i)) (q j)
        rw [(km 10 (by omega)).1]
        exact m6
      · show ∀ i, i < 58 → ar M29 37 i = nI (wds.getD i 0)
        rw [(km 37 (by omega)).1]
        exact m7
