theorem sg_one : ∀ n, sg (fun _ => 1) 0 n = n
  | 0 => rfl
  | n + 1 => by rw [sg_succ (Nat.zero_le _), sg_one n]
theorem bo_nI (b : Bool) : bo b = nI (if b = true then 1 else 0) := by cases b <;> rfl
/-- what is summed up over lines -/
def lnV (tb : Tb) (p : Pg) (kd w k : Nat) : Nat :=
  if w = 0 then 1 else if w = 1 then mcost tb p (stt (EK tb p kd) k) (EK tb p kd (stt (EK tb p kd) k))
  else if w = 2 then (if lgl p (EK tb p kd (stt (EK tb p kd) k)) = true then 0 else 1)
  else if w = 3 then (if mhung tb p (stt (EK tb p kd) k) (EK tb p kd (stt (EK tb p kd) k)) = true then 1 else 0)
  else if w = 4 then mtake tb p (stt (EK tb p kd) k) (EK tb p kd (stt (EK tb p kd) k))
  else if w = 5 then mput tb p (stt (EK tb p kd) k) (EK tb p kd (stt (EK tb p kd) k))
  else if w = 6 then mleft tb p (stt (EK tb p kd) k) (EK tb p kd (stt (EK tb p kd) k))
  else if w = 7 then (if mlong tb p (stt (EK tb p kd) k) (EK tb p kd (stt (EK tb p kd) k)) = true then 1 else 0)
  else (if pm p (EK tb p kd (stt (EK tb p kd) k)) = 1 then 1 else 0)
theorem Y_sum {Y : OV} {tb : Tb} {p : Pg} {kd w : Nat} {g : Nat → Nat} (hY : YR Y tb p kd) (hs : PgS p) (hw : w < 11) (hg : ∀ k, k < LN (EK tb p kd) (pn p) → gr Y 0 w k = nI (g k)) : f_X3_sumOf Y (nI w) = some (nI (sg g 0 (LN (EK tb p kd) (pn p)))) := by
  have h40 := hs.1
  have hE : ∀ a, a ≤ EK tb p kd a := fun a => (EK_in hs kd a).1
  have hn : ∀ a, a < pn p → EK tb p kd a < pn p := fun a => (EK_in hs kd a).2
  obtain ⟨L1, L2, L3⟩ := LN_spec hE hn
  have h1 : ∀ k, 0 ≤ k → k < LN (EK tb p kd) (pn p) → ∀ x, s_X3_sumOf_4_3 Y (nI w) (nI x, nI k) = some (.inl (nI (x + g k), nI (k + 1))) := by
    intro k _ hk x
    simp only [s_X3_sumOf_4_3, un2, hY.1, nIle (show LN (EK tb p kd) (pn p) < 2 ^ 31 by omega) (show k < 2 ^ 31 by omega), if_neg (show ¬ LN (EK tb p kd) (pn p) ≤ k by omega), gd_t (ix_nI hw (show 11 < 2 ^ 31 by decide)), gd_t (ix_nI (show k < 40 by omega) (by decide)), nI_clamp (show w < 2 ^ 31 by omega), nI_clamp (show k < 2 ^ 31 by omega), hg k hk, bnd, nI_add, nI_1]
  have h2 : ∀ x, s_X3_sumOf_4_3 Y (nI w) (nI x, nI (LN (EK tb p kd) (pn p))) = some (.inr (nI x)) := by
    intro x
    simp only [s_X3_sumOf_4_3, un2, hY.1, if_pos (Int32.le_refl _)]
  have := lp_sum (step := s_X3_sumOf_4_3 Y (nI w)) g 0 (LN (EK tb p kd) (pn p)) (Nat.zero_le _) h1 h2 5000 (by omega)
  unfold f_X3_sumOf
  simp only [bnd]
  rw [show (0 : Int32) = nI 0 from rfl, this]
  rfl
theorem Y_breaks {Y P : OV} {tb : Tb} {p : Pg} {kd : Nat} (hY : YR Y tb p kd) (hP : RP P p) (hs : PgS p) : f_X3_breaksOf Y P = some (nI (sg (lnV tb p kd 8) 0 (LN (EK tb p kd) (pn p)))) := by
  have h40 := hs.1
  have hE : ∀ a, a ≤ EK tb p kd a := fun a => (EK_in hs kd a).1
  have hn : ∀ a, a < pn p → EK tb p kd a < pn p := fun a => (EK_in hs kd a).2
  obtain ⟨L1, L2, L3⟩ := LN_spec hE hn
  have c1 : (1 : Int32).toNatClampNeg = 1 := by decide
  have h1 : ∀ k, 0 ≤ k → k < LN (EK tb p kd) (pn p) → ∀ x, s_X3_breaksOf_4_3 Y P (nI x, nI k) = some (.inl (nI (x + lnV tb p kd 8 k), nI (k + 1))) := by
    intro k _ hk x
    have hb := stt_ln hE hn hk
    have hg := (hY.2.2 k hk).1.2.1
    have em : (nI (pm p (EK tb p kd (stt (EK tb p kd) k))) = (1 : Int32)) = (pm p (EK tb p kd (stt (EK tb p kd) k)) = 1) := nIe (by have := (hs.2.1 _ hb.2).2; omega) (by decide)
    simp only [s_X3_breaksOf_4_3, un2, hY.1, nIle (show LN (EK tb p kd) (pn p) < 2 ^ 31 by omega) (show k < 2 ^ 31 by omega), if_neg (show ¬ LN (EK tb p kd) (pn p) ≤ k by omega), gd_t (show ix (1 : Int32) 11 = true by decide), c1, gd_t (ix_nI (show k < 40 by omega) (by decide)), nI_clamp (show k < 2 ^ 31 by omega), hg, gd_t (ix_nI (show EK tb p kd (stt (EK tb p kd) k) < 40 by omega) (by decide)), nI_clamp (show EK tb p kd (stt (EK tb p kd) k) < 2 ^ 31 by omega), hP.2.2.1 _ hb.2, em, j_X3_breaksOf_32_8, bnd, nI_1]
    by_cases c : pm p (EK tb p kd (stt (EK tb p kd) k)) = 1 <;> simp [c, lnV]
  have h2 : ∀ x, s_X3_breaksOf_4_3 Y P (nI x, nI (LN (EK tb p kd) (pn p))) = some (.inr (nI x)) := by
    intro x
    simp only [s_X3_breaksOf_4_3, un2, hY.1, if_pos (Int32.le_refl _)]
  have := lp_sum (step := s_X3_breaksOf_4_3 Y P) (lnV tb p kd 8) 0 (LN (EK tb p kd) (pn p)) (Nat.zero_le _) h1 h2 5000 (by omega)
  unfold f_X3_breaksOf
  simp only [bnd]
  rw [show (0 : Int32) = nI 0 from rfl, this]
  rfl
/-- the model looks at the k-th line -/
theorem M_lookK {M : OV} {tb : Tb} {p : Pg} {kd k : Nat} (hM : RM (ar M 8) p) (hs : PgS p) (hR : RT M tb) (hT : TbS tb) (hpt : PgT tb p) (ml : ML M tb p kd) (hk : k < LN (EK tb p kd) (pn p)) : f_X10_looks M (nI (stt (EK tb p kd) k)) (ar M 24 k) = some (LKD M tb p (stt (EK tb p kd) k) (EK tb p kd (stt (EK tb p kd) k))) := by
  have hE : ∀ a, a ≤ EK tb p kd a := fun a => (EK_in hs kd a).1
  have hn : ∀ a, a < pn p → EK tb p kd a < pn p := fun a => (EK_in hs kd a).2
  have hb := stt_ln hE hn hk
  rw [ml.2 k hk]
  exact M_looks hM hs hR hT hpt hb.1 hb.2
theorem M_ofLooked {M : OV} {tb : Tb} {p : Pg} {kd k w : Nat} (hM : RM (ar M 8) p) (hs : PgS p) (ml : ML M tb p kd) (hk : k < LN (EK tb p kd) (pn p)) (hw : w < 9) : f_X10_ofLooked (LKD M tb p (stt (EK tb p kd) k) (EK tb p kd (stt (EK tb p kd) k))) (nI k) (nI w) = some (nI (lnV tb p kd w k)) := by
  have h40 := hs.1
  have hE : ∀ a, a ≤ EK tb p kd a := fun a => (EK_in hs kd a).1
  have hn : ∀ a, a < pn p → EK tb p kd a < pn p := fun a => (EK_in hs kd a).2
  obtain ⟨L1, L2, L3⟩ := LN_spec hE hn
  have hb := stt_ln hE hn hk
  have kl : KL M (LKD M tb p (stt (EK tb p kd) k) (EK tb p kd (stt (EK tb p kd) k))) := KL_lk _ _ _ _ _ _ _ _
  have h24 : ar (LKD M tb p (stt (EK tb p kd) k) (EK tb p kd (stt (EK tb p kd) k))) 24 k = nI (EK tb p kd (stt (EK tb p kd) k)) := ml.2 k hk
  have hle := M_legal (KL_RM kl hM) hs hb.2
  have hma := M_mark (KL_RM kl hM) hs hb.2
  have em : (nI (pm p (EK tb p kd (stt (EK tb p kd) k))) = (1 : Int32)) = (pm p (EK tb p kd (stt (EK tb p kd) k)) = 1) := nIe (by have := (hs.2.1 _ hb.2).2; omega) (by decide)
  have xk : ix (nI k) 41 = true := ix_nI (by omega) (by decide)
  have ck := nI_clamp (show k < 2 ^ 31 by omega)
  have w9 : w = 0 ∨ w = 1 ∨ w = 2 ∨ w = 3 ∨ w = 4 ∨ w = 5 ∨ w = 6 ∨ w = 7 ∨ w = 8 := by omega
  unfold f_X10_ofLooked
  rcases w9 with rfl | rfl | rfl | rfl | rfl | rfl | rfl | rfl | rfl
  · rfl
  · rfl
  · show gd (ix (nI k) 41) _ = _
    rw [gd_t xk, ck, h24, hle]
    simp only [Option.bind_some, un1, bo_0, lnV]
    cases lgl p (EK tb p kd (stt (EK tb p kd) k)) <;> rfl
  · show (if bo (mhung tb p _ _) = 0 then _ else _) = _
    simp only [bo_0, lnV]
    cases mhung tb p (stt (EK tb p kd) k) (EK tb p kd (stt (EK tb p kd) k)) <;> rfl
  · rfl
  · rfl
  · rfl
  · show (if bo (mlong tb p _ _) = 0 then _ else _) = _
    simp only [bo_0, lnV]
    cases mlong tb p (stt (EK tb p kd) k) (EK tb p kd (stt (EK tb p kd) k)) <;> rfl
  · show gd (ix (nI k) 41) _ = _
    rw [gd_t xk, ck, h24, hma]
    simp only [Option.bind_some, un1, em, lnV]
    by_cases c : pm p (EK tb p kd (stt (EK tb p kd) k)) = 1
    · simp [c]; rfl
    · simp [c]; rfl
theorem ok_lines : Ok_lines INV := by
  rintro o a aK Z B ⟨tb, p, len, v, cnt, nx, q, hc⟩ q0 q1
  have hc' := hc
  obtain ⟨-, ⟨i2, -⟩, -, ⟨hP, -⟩, -, ⟨hC, -⟩, ⟨hR0, -⟩, hr, -, -, ⟨hRT, hM, -⟩, ⟨hT, -, ⟨hs, hpt, -⟩, -⟩⟩ := hc'
  have h40 := hs.1
  refine ok4 hc (fun oY Y k => f_X9_lines (a 0) (Z 0) (Z 3) (Z 6) (Z 8) (o 10) (Z 10) oY Y k q1) (fun k => f_X10_lines (Z 28) k q1) q0 ?_ ?_
  · intro e1 e2
    exact ⟨-1, by simp only [f_X9_lines, e1, Option.bind_some, un1, if_true], by simp only [f_X10_lines, e2, Option.bind_some, un1, if_true]⟩
  · intro kd hkd e1 e2 hy
    have hE : ∀ a, a ≤ EK tb p kd a := fun a => (EK_in hs kd a).1
    have hn : ∀ a, a < pn p → EK tb p kd a < pn p := fun a => (EK_in hs kd a).2
    obtain ⟨L1, L2, L3⟩ := LN_spec hE hn
    obtain ⟨L', R', N', Y', e5, hL', hR0', hr', hY'⟩ := L_layout (N := Z 8) hkd i2 hR0 hr hC hP hs hT hpt hy
    rcases in_or q1 (show 9 < 2 ^ 31 by decide) (by decide) with ⟨e3, h⟩ | ⟨w, hw, rfl, e3⟩
    · have e3' : f_X10_in q1 0 8 = some 0 := e3
      refine ⟨-1, L', R', N', Y', Z 28, ?_, by simp only [f_X10_lines, e2, e3', Option.bind_some, un1, if_true, if_neg (show ¬ (1 : Int32) = 0 by decide)], hL', hR0', hr', Or.inr hY', KM_rf _⟩
      have hne : ∀ j, j < 9 → ¬ q1 = nI j := fun j hj => out_ne (by decide) h hj
      simp only [f_X9_lines, e1, Option.bind_some, un1, if_neg (show ¬ (1 : Int32) = 0 by decide), e5, un4]
      rw [if_neg (show ¬ q1 = (0 : Int32) from hne 0 (by decide)), if_neg (show ¬ q1 = (1 : Int32) from hne 1 (by decide)), if_neg (show ¬ q1 = (2 : Int32) from hne 2 (by decide)), if_neg (show ¬ q1 = (3 : Int32) from hne 3 (by decide)), if_neg (show ¬ q1 = (4 : Int32) from hne 4 (by decide)), if_neg (show ¬ q1 = (5 : Int32) from hne 5 (by decide)), if_neg (show ¬ q1 = (6 : Int32) from hne 6 (by decide)), if_neg (show ¬ q1 = (7 : Int32) from hne 7 (by decide)), if_neg (show ¬ q1 = (8 : Int32) from hne 8 (by decide))]
    · have e3' : f_X10_in (nI w) 0 8 = some 1 := e3
      obtain ⟨M1, e6, k6, m6⟩ := M_laysLines hM hs hRT hT hpt hkd
      have km6 := KO_KM k6
      obtain ⟨r, e7, M2, rfl, l2⟩ := lp_inv (step := s_X10_lines_29_9 (nI w)) (fun k s => ∃ M', s = (nI (sg (lnV tb p kd w) 0 k), nI k, M') ∧ KL M1 M') (fun r => ∃ M', r = (nI (sg (lnV tb p kd w) 0 (LN (EK tb p kd) (pn p))), M') ∧ KL M1 M') 0 (LN (EK tb p kd) (pn p)) (Nat.zero_le _) (by
        rintro k s - hk ⟨M', rfl, l'⟩
        have hM' := KL_RM l' (KM_RM km6 hM)
        have ml' := ML_KL m6 l'
        refine ⟨(nI (sg (lnV tb p kd w) 0 (k + 1)), nI (k + 1), LKD M' tb p (stt (EK tb p kd) k) (EK tb p kd (stt (EK tb p kd) k))), ?_, _, rfl, KL_tr l' (KL_lk _ _ _ _ _ _ _ _)⟩
        simp only [s_X10_lines_29_9, un3, ml'.1, nIle (show LN (EK tb p kd) (pn p) < 2 ^ 31 by omega) (show k < 2 ^ 31 by omega), if_neg (show ¬ LN (EK tb p kd) (pn p) ≤ k by omega), M_first ml' hs hk, Option.bind_some, un1, gd_t (ix_nI (show k < 41 by omega) (by decide)), nI_clamp (show k < 2 ^ 31 by omega), M_lookK hM' hs (KL_RT l' (KM_RT km6 hRT)) hT hpt ml' hk, M_ofLooked hM' hs ml' hk hw, bnd, nI_add, nI_1, sg_succ (Nat.zero_le k)]) (by
        rintro s ⟨M', rfl, l'⟩
        exact ⟨_, by simp only [s_X10_lines_29_9, un3, (ML_KL m6 l').1, if_pos (Int32.le_refl _)], M', rfl, l'⟩) 5000 (by omega) (nI (sg (lnV tb p kd w) 0 0), nI 0, M1) ⟨M1, rfl, KL_rf M1⟩
      have h10 : f_X10_lines (Z 28) (nI kd) (nI w) = some (nI (sg (lnV tb p kd w) 0 (LN (EK tb p kd) (pn p))), M2) := by
        simp only [f_X10_lines, e2, e3', Option.bind_some, un1, if_neg (show ¬ (1 : Int32) = 0 by decide), e6, bnd]
        rw [show lp (s_X10_lines_29_9 (nI w)) 5000 (0, 0, M1) = some (nI (sg (lnV tb p kd w) 0 (LN (EK tb p kd) (pn p))), M2) from e7]
        rfl
      refine ⟨nI (sg (lnV tb p kd w) 0 (LN (EK tb p kd) (pn p))), L', R', N', Y', M2, ?_, h10, hL', hR0', hr', Or.inr hY', KM_tr km6 (KL_KM l2)⟩
      have hyl := fun k hk => (hY'.2.2 k hk).1
      have su : ∀ (j : Nat), j < 11 → (∀ k, k < LN (EK tb p kd) (pn p) → gr Y' 0 j k = nI (lnV tb p kd w k)) → f_X3_sumOf Y' (nI j) = some (nI (sg (lnV tb p kd w) 0 (LN (EK tb p kd) (pn p)))) := fun j hj hg => Y_sum hY' hs hj hg
      simp only [f_X9_lines, e1, Option.bind_some, un1, if_neg (show ¬ (1 : Int32) = 0 by decide), e5, un4]
      have w9 : w = 0 ∨ w = 1 ∨ w = 2 ∨ w = 3 ∨ w = 4 ∨ w = 5 ∨ w = 6 ∨ w = 7 ∨ w = 8 := by omega
      rcases w9 with rfl | rfl | rfl | rfl | rfl | rfl | rfl | rfl | rfl
      · rw [if_pos (show nI 0 = (0 : Int32) from rfl), hY'.1, show sg (lnV tb p kd 0) 0 (LN (EK tb p kd) (pn p)) = LN (EK tb p kd) (pn p) from (sg_congr _ (fun i _ _ => rfl)).trans (sg_one _)]
      · show (f_X3_sumOf Y' (nI 2)).bind _ = _
        rw [su 2 (by decide) (fun k hk => (hyl k hk).2.2.1)]
        rfl
      · show (f_X3_sumOf Y' (nI 9)).bind _ = _
        rw [Y_sum (g := fun k => if lgl p (EK tb p kd (stt (EK tb p kd) k)) = true then 1 else 0) hY' hs (by decide) (fun k hk => by rw [(hyl k hk).2.2.2.2.2.2.2.2.2.1, bo_nI])]
        have e8 : sg (fun k => if lgl p (EK tb p kd (stt (EK tb p kd) k)) = true then 1 else 0) 0 (LN (EK tb p kd) (pn p)) + sg (lnV tb p kd 2) 0 (LN (EK tb p kd) (pn p)) = LN (EK tb p kd) (pn p) := by
          rw [← sg_add]
          refine (sg_congr (g := fun _ => 1) _ (fun i _ _ => ?_)).trans (sg_one _)
          simp only [lnV]
          cases lgl p (EK tb p kd (stt (EK tb p kd) i)) <;> rfl
        show some (iv Y' 6 - nI _, L', R', N', Y') = _
        rw [hY'.1, nI_sub (by omega)]
        congr 3
        omega
      · show (f_X3_sumOf Y' (nI 5)).bind _ = _
        rw [su 5 (by decide) (fun k hk => by rw [(hyl k hk).2.2.2.2.2.1, bo_nI]; rfl)]
        rfl
      · show (f_X3_sumOf Y' (nI 6)).bind _ = _
        rw [su 6 (by decide) (fun k hk => (hyl k hk).2.2.2.2.2.2.1)]
        rfl
      · show (f_X3_sumOf Y' (nI 7)).bind _ = _
        rw [su 7 (by decide) (fun k hk => (hyl k hk).2.2.2.2.2.2.2.1)]
        rfl
      · show (f_X3_sumOf Y' (nI 8)).bind _ = _
        rw [su 8 (by decide) (fun k hk => (hyl k hk).2.2.2.2.2.2.2.2.1)]
        rfl
      · show (f_X3_sumOf Y' (nI 10)).bind _ = _
        rw [su 10 (by decide) (fun k hk => by rw [(hyl k hk).2.2.2.2.2.2.2.2.2.2, bo_nI]; rfl)]
        rfl
      · show (f_X3_breaksOf Y' (Z 3)).bind _ = _
        rw [Y_breaks hY' hP hs]
        rfl
