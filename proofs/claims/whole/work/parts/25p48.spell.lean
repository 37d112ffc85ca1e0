theorem MX_times {M0 M : OV} {l : List Nat} (h : MX M0 M l) {x n i : Nat} {step : (Int32 × OV) → Option ((Int32 × OV) ⊕ OV)} (hn : n ≤ 9) (hl : l.length + n < 1200) (hs : ∀ j M', KW M0 M' → step (nI j, M') = (if nI n ≤ nI j then some (.inr M') else (f_X10_writes M' (nI x)).bind (un1 (fun M_25 => some (.inl (nI j + 1, M_25)))))) : ∃ M', lp step 5000 (0, M) = some M' ∧ MX M0 M' (rp l x n) := by
  obtain ⟨r, e, hr⟩ := lp_inv (step := step) (fun i s => ∃ M', s = (nI i, M') ∧ MX M0 M' (rp l x i)) (fun r => MX M0 r (rp l x n)) 0 n (Nat.zero_le _) (by
    rintro i s - hi ⟨M', rfl, h'⟩
    obtain ⟨M2, e2, h2⟩ := MX_add h' (by rw [rp_len]; omega) x
    refine ⟨(nI (i + 1), M2), ?_, M2, rfl, h2⟩
    rw [hs i M' h'.1]
    simp only [nIle (show n < 2 ^ 31 by omega) (show i < 2 ^ 31 by omega), if_neg (show ¬ n ≤ i by omega), e2, Option.bind_some, un1, nI_1]) (by
    rintro s ⟨M', rfl, h'⟩
    exact ⟨M', by rw [hs n M' h'.1, if_pos (Int32.le_refl _)], h'⟩) 5000 (by omega) (0, M) ⟨M, rfl, h⟩
  exact ⟨r, e, hr⟩
theorem MX_line {M0 : OV} {p : Pg} {hg : Bool} {t u : Nat → Nat} {a b : Nat} (hM : RM (ar M0 8) p) (hs : PgS p) (ab : a ≤ b) (bn : b < pn p) (h13 : iv M0 13 = bo hg) (hd : ∀ i, a ≤ i → i ≤ b → ar M0 26 i = nI (t i) ∧ ar M0 27 i = nI (u i)) (ht : ∀ i, i < pn p → t i ≤ 8) (hu : ∀ i, i < pn p → u i ≤ 9) : ∃ M1, lp (s_X10_spell_48_12 (nI b)) 5000 (nI a, sI M0 32 0) = some M1 ∧ MX M0 M1 (spl p hg t u a b (b + 1 - a)) := by
  have h40 := hs.1
  obtain ⟨r, e, hr⟩ := lp_inv (step := s_X10_spell_48_12 (nI b)) (fun i s => ∃ M', s = (nI i, M') ∧ MX M0 M' (spl p hg t u a b (i - a))) (fun r => MX M0 r (spl p hg t u a b (b + 1 - a))) a (b + 1) (by omega) (by
    rintro i s u1 u2 ⟨M', rfl, h'⟩
    have hin : i < pn p := by omega
    have xi : ix (nI i) 40 = true := ix_nI (by omega) (by decide)
    have ci := nI_clamp (show i < 2 ^ 31 by omega)
    have hlen := spl_len (p := p) (hg := hg) (a := a) (b := b) ht hu (i - a) (by omega)
    have t1 := ht i hin
    have t2 := hu i hin
    obtain ⟨d1, d2⟩ := hd i u1 (by omega)
    have hM' : RM (ar M' 8) p := KM_RM (KW_KM h'.1) hM
    have k13 : iv M' 13 = bo hg := by rw [h'.1.2 13 (by decide)]; exact h13
    obtain ⟨Ma, ea, ha⟩ := MX_add h' (by omega) (lt1 p hg b i)
    have la : (spl p hg t u a b (i - a) ++ [lt1 p hg b i]).length = (spl p hg t u a b (i - a)).length + 1 := by rw [List.length_append]; rfl
    obtain ⟨Mb, eb, hb⟩ := MX_times (x := 44) (n := t i) (i := i) (step := s_X10_spell_90_22 (nI i)) ha (by omega) (by omega) (by
      intro j M2 k2
      simp only [s_X10_spell_90_22, un2, gd_t xi, ci, k2.1 26 (by decide), d1, bnd]
      rfl)
    obtain ⟨Mc, ec, hc⟩ := MX_times (x := 46) (n := u i) (i := i) (step := s_X10_spell_117_30 (nI i)) hb (by omega) (by rw [rp_len]; omega) (by
      intro j M2 k2
      simp only [s_X10_spell_117_30, un2, gd_t xi, ci, k2.1 27 (by decide), d2, bnd]
      rfl)
    have hst : ∀ x, f_X10_writes M' (x + nI (ps p i)) = some Ma → j_X10_spell_77_16 M' (nI i) x = some (.inl (nI (i + 1), Mc)) := by
      intro x het
      simp only [j_X10_spell_77_16, M_class hM' hs hin, Option.bind_some, un1, het, bnd, eb, ec, nI_1]
    have s65 : (65 : Int32) + nI (ps p i) = nI (ps p i + 65) := by rw [Nat.add_comm]; exact nI_add 65 _
    have s97 : (97 : Int32) + nI (ps p i) = nI (ps p i + 97) := by rw [Nat.add_comm]; exact nI_add 97 _
    refine ⟨(nI (i + 1), Mc), ?_, Mc, rfl, ?_⟩
    · simp only [s_X10_spell_48_12, un2, nIlt (show b < 2 ^ 31 by omega) (show i < 2 ^ 31 by omega), if_neg (show ¬ b < i by omega), k13, bo_0, nIe (show i < 2 ^ 31 by omega) (show b < 2 ^ 31 by omega), j_X10_spell_75_38]
      unfold lt1 at ea
      cases hg
      · rw [if_pos rfl]
        rw [if_neg (by simp), ← s97] at ea
        exact hst _ ea
      · rw [if_neg (by simp)]
        by_cases cb : i = b
        · rw [if_pos cb]
          rw [if_pos ⟨rfl, cb⟩, ← s65] at ea
          exact hst _ ea
        · rw [if_neg cb]
          rw [if_neg (fun h => cb h.2), ← s97] at ea
          exact hst _ ea
    · rw [show i + 1 - a = (i - a) + 1 by omega, spl, show a + (i - a) = i by omega]
      exact hc) (by
    rintro s ⟨M', rfl, h'⟩
    exact ⟨M', by simp only [s_X10_spell_48_12, un2, nIlt (show b < 2 ^ 31 by omega) (show b + 1 < 2 ^ 31 by omega), if_pos (show b < b + 1 by omega)], h'⟩) 5000 (by omega) (nI a, sI M0 32 0) ⟨_, rfl, by rw [Nat.sub_self]; exact MX_0 M0⟩
  exact ⟨r, e, hr⟩
theorem MX_end {M0 M1 : OV} {p : Pg} {hg : Bool} {t u : Nat → Nat} {a b : Nat} {q2 : Int32} (hM : RM (ar M0 8) p) (hs : PgS p) (ab : a ≤ b) (bn : b < pn p) (ht : ∀ i, i < pn p → t i ≤ 8) (hu : ∀ i, i < pn p → u i ≤ 9) (h1 : MX M0 M1 (spl p hg t u a b (b + 1 - a))) : ∃ M3, MX M0 M3 (spE p hg t u a b) ∧ (f_X10_isLegal M1 (nI b)).bind (un1 (fun r_40 => (if r_40 = 0 then (f_X10_writes M1 (33 : Int32)).bind (un1 (fun M_52 => j_X10_spell_162_43 q2 (nI b) M_52)) else j_X10_spell_162_43 q2 (nI b) M1))) = (f_X10_told M3 q2).bind (un1 (fun r_48 => some (r_48, M3))) := by
  have h40 := hs.1
  have hlen := spl_len (p := p) (hg := hg) (a := a) (b := b) ht hu (b + 1 - a) (by omega)
  have fin : ∀ M2 l, MX M0 M2 l → l.length < 1200 → ∃ M3, MX M0 M3 (l ++ (if pm p b = 1 then [47] else [])) ∧ j_X10_spell_162_43 q2 (nI b) M2 = (f_X10_told M3 q2).bind (un1 (fun r_48 => some (r_48, M3))) := by
    intro M2 l h2 hl
    obtain ⟨M3, e3, h3⟩ := MX_add h2 hl 47
    have e3' : f_X10_writes M2 (47 : Int32) = some M3 := e3
    have hM2 : RM (ar M2 8) p := KM_RM (KW_KM h2.1) hM
    have z : (nI (pm p b) = (1 : Int32)) = (pm p b = 1) := nIe (by have := (hs.2.1 b bn).2; omega) (by decide)
    simp only [j_X10_spell_162_43, M_mark hM2 hs bn, Option.bind_some, un1, z, e3', j_X10_spell_178_47]
    by_cases c : pm p b = 1
    · rw [if_pos c, if_pos c]; exact ⟨M3, h3, rfl⟩
    · rw [if_neg c, if_neg c, List.append_nil]; exact ⟨M2, h2, rfl⟩
  have hM1 : RM (ar M1 8) p := KM_RM (KW_KM h1.1) hM
  unfold spE
  rw [M_legal hM1 hs bn, Option.bind_some]
  cases hl : lgl p b
  · obtain ⟨M2, e2, h2⟩ := MX_add h1 (by omega) 33
    have e2' : f_X10_writes M1 (33 : Int32) = some M2 := e2
    rw [if_neg (by simp)]
    obtain ⟨M3, g1, g2⟩ := fin M2 _ h2 (by rw [List.length_append]; show _ + 1 < _; omega)
    refine ⟨M3, g1, ?_⟩
    rw [← g2]
    show (if bo false = 0 then (f_X10_writes M1 (33 : Int32)).bind (un1 (fun M_52 => j_X10_spell_162_43 q2 (nI b) M_52)) else j_X10_spell_162_43 q2 (nI b) M1) = _
    rw [if_pos (by decide), e2', Option.bind_some]
    rfl
  · rw [if_pos rfl]
    obtain ⟨M3, g1, g2⟩ := fin M1 _ h1 (by omega)
    refine ⟨M3, g1, ?_⟩
    rw [← g2]
    show (if bo true = 0 then (f_X10_writes M1 (33 : Int32)).bind (un1 (fun M_52 => j_X10_spell_162_43 q2 (nI b) M_52)) else j_X10_spell_162_43 q2 (nI b) M1) = _
    rw [if_neg (by decide)]
theorem INV_q6 {o : Nat → Nat} {a aK : Nat → Nat → Nat} {Z B : Nat → OV} {tb : Tb} {p : Pg} {len : Nat} {v : Nat → Nat} {cnt nx : Nat} {q : Nat → Pg} (hI : INVc o a (Z 0) (Z 1) (Z 3) (Z 5) (Z 6) (Z 7) (Z 9) (Z 10) (Z 24) (Z 25) (Z 26) (Z 27) (Z 28) B tb p len v cnt nx q) {kd : Nat} (hkd : kd < 4) {L' S' R' N' Y' M' : OV} (h : QP o a Z tb p kd L' R' Y' M') : INV o a aK (va_up (va_up (va_up (va_up (va_up (va_up Z 0 L') 2 S') 6 R') 8 N') (24 + kd) Y') 28 M') B := by
  obtain ⟨i1, ⟨i2, i2'⟩, i3, i4, i5, i6, i7, i8, ⟨y0, y1, y2, y3⟩, i10, i11, i12⟩ := hI
  obtain ⟨hL, hR0, hR, hY, hM⟩ := h
  have hk4 : kd = 0 ∨ kd = 1 ∨ kd = 2 ∨ kd = 3 := by omega
  rcases hk4 with rfl | rfl | rfl | rfl
  · exact ⟨tb, p, len, v, cnt, nx, q, i1, ⟨(hL 10).trans i2, (hL 11).trans i2'⟩, i3, i4, i5, i6, ⟨hR0, i7.2⟩, hR, ⟨hY, y1, y2, y3⟩, i10, KM_MOD hM i11, i12⟩
  · exact ⟨tb, p, len, v, cnt, nx, q, i1, ⟨(hL 10).trans i2, (hL 11).trans i2'⟩, i3, i4, i5, i6, ⟨hR0, i7.2⟩, hR, ⟨y0, hY, y2, y3⟩, i10, KM_MOD hM i11, i12⟩
  · exact ⟨tb, p, len, v, cnt, nx, q, i1, ⟨(hL 10).trans i2, (hL 11).trans i2'⟩, i3, i4, i5, i6, ⟨hR0, i7.2⟩, hR, ⟨y0, y1, hY, y3⟩, i10, KM_MOD hM i11, i12⟩
  · exact ⟨tb, p, len, v, cnt, nx, q, i1, ⟨(hL 10).trans i2, (hL 11).trans i2'⟩, i3, i4, i5, i6, ⟨hR0, i7.2⟩, hR, ⟨y0, y1, y2, hY⟩, i10, KM_MOD hM i11, i12⟩
theorem tkA_8 {tb : Tb} {p : Pg} (hs : PgS p) (hT : TbS tb) (kd : Nat) {i : Nat} (hi : i < pn p) : tkA tb p kd i ≤ 8 ∧ puA tb p kd i ≤ 9 := by
  have l0 := (hs.2.1 i hi).1
  obtain ⟨-, -, -, t5, -, t7, -⟩ := hT _ l0
  constructor
  · refine Nat.le_trans (tk_le _ _ _ _ _) ?_
    unfold rmT fx
    split
    · exact t5
    · split
      · exact Nat.zero_le _
      · exact Nat.le_trans (Nat.sub_le _ _) t5
  · refine Nat.le_trans (pu_le _ _ _ _ _) ?_
    unfold rmP fx
    split
    · exact t7
    · exact Nat.zero_le _
