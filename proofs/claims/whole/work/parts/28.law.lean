def LawOK (I : LI) : Prop := Ok_feed I ∧ Ok_back I ∧ Ok_table I ∧ Ok_paragraph I ∧ Ok_insert I ∧ Ok_delete I ∧ Ok_change I ∧ Ok_shift I ∧ Ok_replace I ∧ Ok_mark I ∧ Ok_width I ∧ Ok_pair I ∧ Ok_shy I ∧ Ok_weigh I ∧ Ok_undo I ∧ Ok_of I ∧ Ok_isPair I ∧ Ok_find I ∧ Ok_marked I ∧ Ok_sign I ∧ Ok_legal I ∧ Ok_natural I ∧ Ok_cost I ∧ Ok_lines I ∧ Ok_line I ∧ Ok_lineOf I ∧ Ok_place I ∧ Ok_at I ∧ Ok_common I ∧ Ok_same I ∧ Ok_dearest I ∧ Ok_units I ∧ Ok_river I ∧ Ok_spell I ∧ Ok_spellTable I ∧ Ok_ways I ∧ Ok_fewest I ∧ Ok_way I ∧ Ok_worst I ∧ Ok_costMarked I ∧ Ok_costBy I ∧ Ok_widthFor I ∧ Ok_bestWidth I ∧ Ok_atEnds I ∧ Ok_count I
def PG0 : OV := (sI (sW OV0 3 (upd (upd (upd (fun _ => 0) 0 2) 1 10) 2 1000)) 5 20)
def MO0 : OV := (sW (sW OV0 8 (upd (upd (upd (upd (fun _ => 0) 81 20) 84 2) 85 10) 86 1000)) 37 wdF)
def iO (oL oC oF oM : Nat) : Nat → Nat := fun k => if k = 0 then oL else if k = 10 then oC else if k = 11 then oF else oM
def iA (a aT aS aP aJ aH aR aU aN aW aC aF aM : Nat → Nat) (aY : Nat → Nat → Nat) : Nat → Nat → Nat := fun g => ([a, aT, aS, aP, aJ, aH, aR, aU, aN, aW, aC, aF, (fun _ => 0), (fun _ => 0), (fun _ => 0), (fun _ => 0), (fun _ => 0), (fun _ => 0), (fun _ => 0), (fun _ => 0), (fun _ => 0), (fun _ => 0), (fun _ => 0), (fun _ => 0), aY 0, aY 1, aY 2, aY 3, aM] : List (Nat → Nat)).getD g (fun _ => 0)
def iZ (a : Nat → Nat) (oC oF : Nat) : Nat → OV := fun g => ([sN (sN OV0 10 oC) 11 oF, OV0, OV0, PG0, PG0, OV0, sN (sN OV0 0 oC) 1 (a 2), sN (sN OV0 0 oC) 1 (a 3), OV0, OV0, OV0, OV0, OV0, OV0, OV0, OV0, OV0, OV0, OV0, OV0, OV0, OV0, OV0, OV0, OV0, OV0, OV0, OV0, MO0] : List OV).getD g OV0
def Ok_init (I : LI) : Prop := ∀ (oL oC oF oM : Nat) (a aT aS aP aJ aH aR aU aN aW aC aF aM : Nat → Nat) (aK aY : Nat → Nat → Nat), aT 98 = 500 → aS 98 = 1000 → I (iO oL oC oF oM) (iA a aT aS aP aJ aH aR aU aN aW aC aF aM aY) aK (iZ a oC oF) (fun _ => PG0)
theorem head_gt {Ln t : Nat} (hL : Ln ≤ 3072) (h6 : 6 * t ≤ Ln) (h : ¬ Int32.ofNat Ln - 6 < nI (6 * t)) : 6 * t + 6 ≤ Ln := by
  rcases Nat.lt_or_ge Ln 6 with hl | hl
  · have ht : t = 0 := by omega
    subst ht
    exfalso
    apply h
    rcases (show Ln = 0 ∨ Ln = 1 ∨ Ln = 2 ∨ Ln = 3 ∨ Ln = 4 ∨ Ln = 5 by omega) with rfl | rfl | rfl | rfl | rfl | rfl <;> decide
  · have e : Int32.ofNat Ln - 6 = nI (Ln - 6) := by
      have h1 : nI (Ln - 6) + nI 6 = nI Ln := by rw [nI_add]; congr 1; omega
      have h2 : Int32.ofNat Ln = nI (Ln - 6) + 6 := h1.symm
      rw [h2, Int32.add_sub_cancel]
    rw [e, nI_ltI (by omega) (by omega)] at h
    omega
theorem in_5 {Ln t : Nat} (hL : Ln ≤ 3072) (h6 : 6 * t + 6 ≤ Ln) : ∀ c : Int32, 0 ≤ c → c ≤ 5 → vp_in (nI (6 * t) + c) Ln := by
  intro c h1 h2
  obtain ⟨j, hj, rfl⟩ := nI_of2 (x := c) (M := 5) (n := 5) (by decide) (fun h => absurd (Int32.not_lt.mpr h1) (fun z => z h)) h2
  rw [nI_add]
  exact nI_in (by omega) (by omega)
set_option maxHeartbeats 8000000 in
set_option maxRecDepth 100000 in
theorem law_loop {X : Cx} {D : va_G} {ev : EvT} {cy : Nat → ClassId} {A : Nat → Prop} {Q : State → Prop} {l : Launch} {b Ln : Nat} {xs : Nat → Int32} {I : LI} (hL : Ln ≤ 3072) (h : cx X D ev cy A 4 cL_law "LineEndsLaw" room_1 (some .boolean) l) (hX : va_X b Ln xs X.2.2.2.2.1 X.2.2.2.2.1.heap) (hbl : b < X.2.2.2.2.1.heap.size) (hbA : ¬ A b) (ok : LawOK I) (hend : ∀ (k n : Nat) (lo : List (Nat × Value)) (Gs : List va_W), k ≤ 600000 → n ≤ 7302250 → ww X D A 4 Q k n 1598 lo [.int 1] Gs) :
    ∀ (f t : Nat), 6 * t ≤ Ln → Ln < 6 * (t + f) → ∀ (o : Nat → Nat) (a aK : Nat → Nat → Nat) (Z B : Nat → OV), I o a aK Z B → ww X D A 4 Q (300 + t) (16000 + 6 * t) 18 [(3, .int (nI (6 * t))), (2, .ref (o 28)), (1, .ref (o 0)), (0, .ref b)] [] (WGs cy o a aK Z B) := by
  obtain ⟨k_feed, k_back, k_table, k_paragraph, k_insert, k_delete, k_change, k_shift, k_replace, k_mark, k_width, k_pair, k_shy, k_weigh, k_undo, k_of, k_isPair, k_find, k_marked, k_sign, k_legal, k_natural, k_cost, k_lines, k_line, k_lineOf, k_place, k_at, k_common, k_same, k_dearest, k_units, k_river, k_spell, k_spellTable, k_ways, k_fewest, k_way, k_worst, k_costMarked, k_costBy, k_widthFor, k_bestWidth, k_atEnds, k_count⟩ := ok
  intro f
  induction f with
  | zero => intro t h1 h2; exact absurd h2 (by omega)
  | succ f ih =>
    intro t h6 hf o a aK Z B hI
    obtain ⟨i, hi⟩ : ∃ i : Int32, i = nI (6 * t) := ⟨_, rfl⟩
    rw [← hi]
    refine ww_iload_n h dL_law_18 rfl 0 rfl 19 rfl ?_
    refine ww_aload_n h dL_law_19 rfl 3 rfl 20 rfl ?_
    refine ww_scl h hX hbl hbA dL_law_20 21 rfl ?_
    refine ww_bipush h dL_law_21 (v := 6) (by decide) 23 rfl ?_
    refine ww_isub h dL_law_23 24 rfl ?_
    refine ww_icmp_gt h dL_law_24 1597 (by decide) 27 rfl (fun c => ?_) (fun c => ?_)
    · refine ww_iconst h dL_law_1597 (v := 1) (by decide) 1598 rfl ?_
      exact hend _ _ _ _ (by omega) (by omega)
    rw [hi] at c
    have h66 := head_gt hL h6 c
    have hin := in_5 hL h66
    rw [← hi] at hin
    have hk : 300 + t + 1 ≤ room_1.cells := by show 300 + t + 1 ≤ 600000; omega
    have hn : 16000 + 6 * t + 6 ≤ room_1.slots := by show 16000 + 6 * t + 6 ≤ 7302250; omega
    have C : lwC X D ev cy A l b Ln xs i (300 + t) (16000 + 6 * t) := ⟨h, hX, hbl, hbA, hin, hk, hn⟩
    have kk : lwK X D cy A Q b i (300 + t) (16000 + 6 * t) I := by
      intro o a aK Z B hI
      refine ww_inc (c := 6) h dL_law_1591 0 rfl (by decide) (by decide) (fun v => [(3, .int v), (2, .ref (o 28)), (1, .ref (o 0)), (0, .ref b)]) (fun _ => rfl) 1594 rfl (fun v e => ?_)
      have e2 : v = nI (6 * (t + 1)) := by rw [e, hi]; exact nI_add (6 * t) 6
      subst e2
      refine ww_goto h dL_law_1594 18 (by decide) ?_
      refine ww_kn (k' := 300 + (t + 1)) (n' := 16000 + 6 * (t + 1)) (by omega) (by omega) ?_
      exact ih (t + 1) (by omega) (by omega) o a aK Z B hI
    have h0 : vp_in i Ln := by rw [hi]; exact nI_in (by omega) (by omega)
    refine ww_aload_n h dL_law_27 rfl 3 rfl 28 rfl ?_
    refine ww_iload_n h dL_law_28 rfl 0 rfl 29 rfl ?_
    refine ww_scd h hX hbl hbA h0 rfl dL_law_29 30 rfl ?_
    refine ww_bipush h dL_law_30 (v := 63) (by decide) 32 rfl ?_
    refine ww_iand h dL_law_32 33 rfl ?_
    generalize xs i.toNatClampNeg &&& 63 = v
    by_cases e0 : v = 0
    · subst e0
      exact ww_tabIn (off := 195) h dL_law_33 (by decide) (by decide) (by decide) 228 (by decide) (case_feed C k_feed hI kk)
    by_cases e1 : v = 1
    · subst e1
      exact ww_tabIn (off := 258) h dL_law_33 (by decide) (by decide) (by decide) 291 (by decide) (case_back C k_back hI kk)
    by_cases e2 : v = 2
    · subst e2
      exact ww_tabIn (off := 281) h dL_law_33 (by decide) (by decide) (by decide) 314 (by decide) (case_table C k_table hI kk)
    by_cases e3 : v = 3
    · subst e3
      exact ww_tabIn (off := 294) h dL_law_33 (by decide) (by decide) (by decide) 327 (by decide) (case_paragraph C k_paragraph hI kk)
    by_cases e4 : v = 4
    · subst e4
      exact ww_tabIn (off := 307) h dL_law_33 (by decide) (by decide) (by decide) 340 (by decide) (case_insert C k_insert hI kk)
    by_cases e5 : v = 5
    · subst e5
      exact ww_tabIn (off := 340) h dL_law_33 (by decide) (by decide) (by decide) 373 (by decide) (case_delete C k_delete hI kk)
    by_cases e6 : v = 6
    · subst e6
      exact ww_tabIn (off := 373) h dL_law_33 (by decide) (by decide) (by decide) 406 (by decide) (case_change C k_change hI kk)
    by_cases e7 : v = 7
    · subst e7
      exact ww_tabIn (off := 406) h dL_law_33 (by decide) (by decide) (by decide) 439 (by decide) (case_shift C k_shift hI kk)
    by_cases e8 : v = 8
    · subst e8
      exact ww_tabIn (off := 449) h dL_law_33 (by decide) (by decide) (by decide) 482 (by decide) (case_replace C k_replace hI kk)
    by_cases e9 : v = 9
    · subst e9
      exact ww_tabIn (off := 482) h dL_law_33 (by decide) (by decide) (by decide) 515 (by decide) (case_mark C k_mark hI kk)
    by_cases e10 : v = 10
    · subst e10
      exact ww_tabIn (off := 515) h dL_law_33 (by decide) (by decide) (by decide) 548 (by decide) (case_width C k_width hI kk)
    by_cases e11 : v = 11
    · subst e11
      exact ww_tabIn (off := 538) h dL_law_33 (by decide) (by decide) (by decide) 571 (by decide) (case_pair C k_pair hI kk)
    by_cases e12 : v = 12
    · subst e12
      exact ww_tabIn (off := 571) h dL_law_33 (by decide) (by decide) (by decide) 604 (by decide) (case_shy C k_shy hI kk)
    by_cases e13 : v = 13
    · subst e13
      exact ww_tabIn (off := 620) h dL_law_33 (by decide) (by decide) (by decide) 653 (by decide) (case_weigh C k_weigh hI kk)
    by_cases e14 : v = 14
    · subst e14
      exact ww_tabIn (off := 653) h dL_law_33 (by decide) (by decide) (by decide) 686 (by decide) (case_undo C k_undo hI kk)
    by_cases e15 : v = 15
    · subst e15
      exact ww_tabIn (off := 666) h dL_law_33 (by decide) (by decide) (by decide) 699 (by decide) (case_of C k_of hI kk)
    by_cases e16 : v = 16
    · subst e16
      exact ww_tabIn (off := 699) h dL_law_33 (by decide) (by decide) (by decide) 732 (by decide) (case_isPair C k_isPair hI kk)
    by_cases e17 : v = 17
    · subst e17
      exact ww_tabIn (off := 732) h dL_law_33 (by decide) (by decide) (by decide) 765 (by decide) (case_find C k_find hI kk)
    by_cases e18 : v = 18
    · subst e18
      exact ww_tabIn (off := 755) h dL_law_33 (by decide) (by decide) (by decide) 788 (by decide) (case_marked C k_marked hI kk)
    by_cases e19 : v = 19
    · subst e19
      exact ww_tabIn (off := 778) h dL_law_33 (by decide) (by decide) (by decide) 811 (by decide) (case_sign C k_sign hI kk)
    by_cases e20 : v = 20
    · subst e20
      exact ww_tabIn (off := 801) h dL_law_33 (by decide) (by decide) (by decide) 834 (by decide) (case_legal C k_legal hI kk)
    by_cases e21 : v = 21
    · subst e21
      exact ww_tabIn (off := 824) h dL_law_33 (by decide) (by decide) (by decide) 857 (by decide) (case_natural C k_natural hI kk)
    by_cases e22 : v = 22
    · subst e22
      exact ww_tabIn (off := 857) h dL_law_33 (by decide) (by decide) (by decide) 890 (by decide) (case_cost C k_cost hI kk)
    by_cases e23 : v = 23
    · subst e23
      exact ww_tabIn (off := 890) h dL_law_33 (by decide) (by decide) (by decide) 923 (by decide) (case_lines C k_lines hI kk)
    by_cases e24 : v = 24
    · subst e24
      exact ww_tabIn (off := 923) h dL_law_33 (by decide) (by decide) (by decide) 956 (by decide) (case_line C k_line hI kk)
    by_cases e25 : v = 25
    · subst e25
      exact ww_tabIn (off := 966) h dL_law_33 (by decide) (by decide) (by decide) 999 (by decide) (case_lineOf C k_lineOf hI kk)
    by_cases e26 : v = 26
    · subst e26
      exact ww_tabIn (off := 999) h dL_law_33 (by decide) (by decide) (by decide) 1032 (by decide) (case_place C k_place hI kk)
    by_cases e27 : v = 27
    · subst e27
      exact ww_tabIn (off := 1042) h dL_law_33 (by decide) (by decide) (by decide) 1075 (by decide) (case_at C k_at hI kk)
    by_cases e28 : v = 28
    · subst e28
      exact ww_tabIn (off := 1085) h dL_law_33 (by decide) (by decide) (by decide) 1118 (by decide) (case_common C k_common hI kk)
    by_cases e29 : v = 29
    · subst e29
      exact ww_tabIn (off := 1108) h dL_law_33 (by decide) (by decide) (by decide) 1141 (by decide) (case_same C k_same hI kk)
    by_cases e30 : v = 30
    · subst e30
      exact ww_tabIn (off := 1141) h dL_law_33 (by decide) (by decide) (by decide) 1174 (by decide) (case_dearest C k_dearest hI kk)
    by_cases e31 : v = 31
    · subst e31
      exact ww_tabIn (off := 1164) h dL_law_33 (by decide) (by decide) (by decide) 1197 (by decide) (case_units C k_units hI kk)
    by_cases e32 : v = 32
    · subst e32
      exact ww_tabIn (off := 1223) h dL_law_33 (by decide) (by decide) (by decide) 1256 (by decide) (case_river C k_river hI kk)
    by_cases e33 : v = 33
    · subst e33
      exact ww_tabIn (off := 1246) h dL_law_33 (by decide) (by decide) (by decide) 1279 (by decide) (case_spell C k_spell hI kk)
    by_cases e34 : v = 34
    · subst e34
      exact ww_tabIn (off := 1289) h dL_law_33 (by decide) (by decide) (by decide) 1322 (by decide) (case_spellTable C k_spellTable hI kk)
    by_cases e35 : v = 35
    · subst e35
      exact ww_tabIn (off := 1312) h dL_law_33 (by decide) (by decide) (by decide) 1345 (by decide) (case_ways C k_ways hI kk)
    by_cases e36 : v = 36
    · subst e36
      exact ww_tabIn (off := 1325) h dL_law_33 (by decide) (by decide) (by decide) 1358 (by decide) (case_fewest C k_fewest hI kk)
    by_cases e37 : v = 37
    · subst e37
      exact ww_tabIn (off := 1338) h dL_law_33 (by decide) (by decide) (by decide) 1371 (by decide) (case_way C k_way hI kk)
    by_cases e38 : v = 38
    · subst e38
      exact ww_tabIn (off := 1371) h dL_law_33 (by decide) (by decide) (by decide) 1404 (by decide) (case_worst C k_worst hI kk)
    by_cases e39 : v = 39
    · subst e39
      exact ww_tabIn (off := 1384) h dL_law_33 (by decide) (by decide) (by decide) 1417 (by decide) (case_costMarked C k_costMarked hI kk)
    by_cases e40 : v = 40
    · subst e40
      exact ww_tabIn (off := 1417) h dL_law_33 (by decide) (by decide) (by decide) 1450 (by decide) (case_costBy C k_costBy hI kk)
    by_cases e41 : v = 41
    · subst e41
      exact ww_tabIn (off := 1440) h dL_law_33 (by decide) (by decide) (by decide) 1473 (by decide) (case_widthFor C k_widthFor hI kk)
    by_cases e42 : v = 42
    · subst e42
      exact ww_tabIn (off := 1463) h dL_law_33 (by decide) (by decide) (by decide) 1496 (by decide) (case_bestWidth C k_bestWidth hI kk)
    by_cases e43 : v = 43
    · subst e43
      exact ww_tabIn (off := 1476) h dL_law_33 (by decide) (by decide) (by decide) 1509 (by decide) (case_atEnds C k_atEnds hI kk)
    by_cases e44 : v = 44
    · subst e44
      exact ww_tabIn (off := 1535) h dL_law_33 (by decide) (by decide) (by decide) 1568 (by decide) (case_count C k_count hI kk)
    refine ww_tabOut h dL_law_33 ?_ 1591 (by decide) (ww_kn (Nat.le_succ _) (Nat.le_add_right _ 6) (kk o a aK Z B hI))
    have g0 : v.toInt ≠ 0 := fun z => e0 (Int32.toInt_inj.mp z)
    have g1 : v.toInt ≠ 1 := fun z => e1 (Int32.toInt_inj.mp z)
    have g2 : v.toInt ≠ 2 := fun z => e2 (Int32.toInt_inj.mp z)
    have g3 : v.toInt ≠ 3 := fun z => e3 (Int32.toInt_inj.mp z)
    have g4 : v.toInt ≠ 4 := fun z => e4 (Int32.toInt_inj.mp z)
    have g5 : v.toInt ≠ 5 := fun z => e5 (Int32.toInt_inj.mp z)
    have g6 : v.toInt ≠ 6 := fun z => e6 (Int32.toInt_inj.mp z)
    have g7 : v.toInt ≠ 7 := fun z => e7 (Int32.toInt_inj.mp z)
    have g8 : v.toInt ≠ 8 := fun z => e8 (Int32.toInt_inj.mp z)
    have g9 : v.toInt ≠ 9 := fun z => e9 (Int32.toInt_inj.mp z)
    have g10 : v.toInt ≠ 10 := fun z => e10 (Int32.toInt_inj.mp z)
    have g11 : v.toInt ≠ 11 := fun z => e11 (Int32.toInt_inj.mp z)
    have g12 : v.toInt ≠ 12 := fun z => e12 (Int32.toInt_inj.mp z)
    have g13 : v.toInt ≠ 13 := fun z => e13 (Int32.toInt_inj.mp z)
    have g14 : v.toInt ≠ 14 := fun z => e14 (Int32.toInt_inj.mp z)
    have g15 : v.toInt ≠ 15 := fun z => e15 (Int32.toInt_inj.mp z)
    have g16 : v.toInt ≠ 16 := fun z => e16 (Int32.toInt_inj.mp z)
    have g17 : v.toInt ≠ 17 := fun z => e17 (Int32.toInt_inj.mp z)
    have g18 : v.toInt ≠ 18 := fun z => e18 (Int32.toInt_inj.mp z)
    have g19 : v.toInt ≠ 19 := fun z => e19 (Int32.toInt_inj.mp z)
    have g20 : v.toInt ≠ 20 := fun z => e20 (Int32.toInt_inj.mp z)
    have g21 : v.toInt ≠ 21 := fun z => e21 (Int32.toInt_inj.mp z)
    have g22 : v.toInt ≠ 22 := fun z => e22 (Int32.toInt_inj.mp z)
    have g23 : v.toInt ≠ 23 := fun z => e23 (Int32.toInt_inj.mp z)
    have g24 : v.toInt ≠ 24 := fun z => e24 (Int32.toInt_inj.mp z)
    have g25 : v.toInt ≠ 25 := fun z => e25 (Int32.toInt_inj.mp z)
    have g26 : v.toInt ≠ 26 := fun z => e26 (Int32.toInt_inj.mp z)
    have g27 : v.toInt ≠ 27 := fun z => e27 (Int32.toInt_inj.mp z)
    have g28 : v.toInt ≠ 28 := fun z => e28 (Int32.toInt_inj.mp z)
    have g29 : v.toInt ≠ 29 := fun z => e29 (Int32.toInt_inj.mp z)
    have g30 : v.toInt ≠ 30 := fun z => e30 (Int32.toInt_inj.mp z)
    have g31 : v.toInt ≠ 31 := fun z => e31 (Int32.toInt_inj.mp z)
    have g32 : v.toInt ≠ 32 := fun z => e32 (Int32.toInt_inj.mp z)
    have g33 : v.toInt ≠ 33 := fun z => e33 (Int32.toInt_inj.mp z)
    have g34 : v.toInt ≠ 34 := fun z => e34 (Int32.toInt_inj.mp z)
    have g35 : v.toInt ≠ 35 := fun z => e35 (Int32.toInt_inj.mp z)
    have g36 : v.toInt ≠ 36 := fun z => e36 (Int32.toInt_inj.mp z)
    have g37 : v.toInt ≠ 37 := fun z => e37 (Int32.toInt_inj.mp z)
    have g38 : v.toInt ≠ 38 := fun z => e38 (Int32.toInt_inj.mp z)
    have g39 : v.toInt ≠ 39 := fun z => e39 (Int32.toInt_inj.mp z)
    have g40 : v.toInt ≠ 40 := fun z => e40 (Int32.toInt_inj.mp z)
    have g41 : v.toInt ≠ 41 := fun z => e41 (Int32.toInt_inj.mp z)
    have g42 : v.toInt ≠ 42 := fun z => e42 (Int32.toInt_inj.mp z)
    have g43 : v.toInt ≠ 43 := fun z => e43 (Int32.toInt_inj.mp z)
    have g44 : v.toInt ≠ 44 := fun z => e44 (Int32.toInt_inj.mp z)
    omega
set_option maxHeartbeats 8000000 in
set_option maxRecDepth 100000 in
theorem law_start {X : Cx} {D : va_G} {ev : EvT} {cy : Nat → ClassId} {A : Nat → Prop} {Q : State → Prop} {l : Launch} {b Ln : Nat} {xs : Nat → Int32} {I : LI} (hL : Ln ≤ 3072) (h : cx X D ev cy A 4 cL_law "LineEndsLaw" room_1 (some .boolean) l) (hX : va_X b Ln xs X.2.2.2.2.1 X.2.2.2.2.1.heap) (hbl : b < X.2.2.2.2.1.heap.size) (hbA : ¬ A b) (ok : LawOK I) (ok0 : Ok_init I) (hend : ∀ (k n : Nat) (lo : List (Nat × Value)) (Gs : List va_W), k ≤ 600000 → n ≤ 7302250 → ww X D A 4 Q k n 1598 lo [.int 1] Gs) : ww X D A 4 Q 0 0 0 [(0, .ref b)] [] [] := by
  refine ww_new (ci := 9) (fs := [.null, .null, .null, .null, .null, .null, .null, .null, .null, .null, .null, .null, .int 0]) h inG9 tyX9_ok w_119 w_120 w_101 rfl df_X9 ⟨by decide, by decide⟩ dL_law_0 3 rfl rfl rfl (fun oL => ?_)
  show ww X D A 4 Q 1 13 3 [(0, .ref b)] [.ref oL] ([[(oL, .inr (9, [.null, .null, .null, .null, .null, .null, .null, .null, .null, .null, .null, .null, .int 0]))]])
  refine ww_dup h dL_law_3 rfl 4 rfl ?_
  refine ww_cI h (c_X9_init l D ev cy oL) w_123 w_121 w_122 w_101 rfl ok_X9_init ⟨by decide, by decide⟩ ⟨by decide, by decide⟩ [0] rfl rfl (Nat.le_of_ble_eq_true rfl) dL_law_4 7 rfl rfl rfl (fun _ _ z => z.1) (fun G1 z => ?_)
  obtain ⟨-, a, aT, aS, aP, aJ, aH, aR, aU, aN, aW, aC, aF, aK, aY, oC, oF, hT, hS, hG⟩ := z
  refine ww_astore_n h dL_law_7 rfl (by decide) (lo' := [(1, .ref oL), (0, .ref b)]) rfl 8 rfl ?_
  show ww X D A 4 Q 217 8018 8 [(1, .ref oL), (0, .ref b)] [] (G1 ++ [])
  rw [List.append_nil]
  refine ww_new (ci := 10) (fs := [.int 0, .null, .null, .null, .null, .null, .null, .null, .null, .null, .null, .int 0, .int 0, .int 0, .int 0, .int 0, .int 0, .int 0, .int 0, .null, .null, .null, .null, .null, .null, .int 0, .null, .null, .null, .null, .null, .null, .int 0, .null, .null, .null, .int 0, .null, .int 0, .int 0, .int 0, .int 0, .int 0, .null, .null, .null, .null, .null, .null, .null, .null, .null, .int 0, .int 0, .null]) h inG10 tyX10_ok w_1152 w_1153 w_111 rfl df_X10 ⟨by decide, by decide⟩ dL_law_8 11 rfl rfl rfl (fun oM => ?_)
  refine ww_dup h dL_law_11 rfl 12 rfl ?_
  refine ww_permP (Gs' := [[(oM, .inr (10, [.int 0, .null, .null, .null, .null, .null, .null, .null, .null, .null, .null, .int 0, .int 0, .int 0, .int 0, .int 0, .int 0, .int 0, .int 0, .null, .null, .null, .null, .null, .null, .int 0, .null, .null, .null, .null, .null, .null, .int 0, .null, .null, .null, .int 0, .null, .int 0, .int 0, .int 0, .int 0, .int 0, .null, .null, .null, .null, .null, .null, .null, .null, .null, .int 0, .int 0, .null]))]] ++ G1) List.perm_append_comm ?_
  refine ww_cI h (c_X10_init l D ev cy oM) w_1156 w_1154 w_1155 w_111 rfl ok_X10_init ⟨by decide, by decide⟩ ⟨by decide, by decide⟩ [0] rfl rfl (Nat.le_of_ble_eq_true rfl) dL_law_12 15 rfl rfl rfl (fun _ _ z => z.1) (fun G2 z => ?_)
  obtain ⟨-, aM, rfl⟩ := z
  refine ww_astore_n h dL_law_15 rfl (by decide) (lo' := [(2, .ref oM), (1, .ref oL), (0, .ref b)]) rfl 16 rfl ?_
  refine ww_iconst h dL_law_16 (v := 0) (by decide) 17 rfl ?_
  refine ww_istore_n h dL_law_17 rfl (by decide) (lo' := [(3, .int 0), (2, .ref oM), (1, .ref oL), (0, .ref b)]) rfl 18 rfl ?_
  subst hG
  have hw := law_loop hL h hX hbl hbA ok hend (Ln + 1) 0 (Nat.zero_le _) (by omega) (iO oL oC oF oM) (iA a aT aS aP aJ aH aR aU aN aW aC aF aM aY) aK (iZ a oC oF) (fun _ => PG0) (ok0 oL oC oF oM a aT aS aP aJ aH aR aU aN aW aC aF aM aK aY hT hS)
  refine ww_kn (k' := 300 + 0) (n' := 16000 + 6 * 0) (by decide) (by decide) ?_
  refine ww_permT [1, 1, 1, 1, 1, 1, 1, 1, 1, 1, 1, 1, 0, 12, 12, 12, 12, 0, 0, 0, 0, 0, 0, 0, 0, 0, 0, 0, 0] (by simp only [pk_g, List.getElem?_cons_zero, List.getElem?_cons_succ, List.eraseIdx, List.cons_append, List.nil_append]; rfl) (List.append_nil _) ?_
  exact hw
