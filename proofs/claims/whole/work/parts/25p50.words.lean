/-- the string w of the class, letter by letter -/
def txt (w : Nat) (ws : List Nat) : Prop := w < 21 ∧ lenJ.getD w 0 = ws.length ∧ ws.length < 20 ∧ ∀ i, i < ws.length → sch w (nI i) = nI (ws.getD i 0)
theorem txt_11 : txt 11 [99, 108, 97, 115, 115, 32] := by refine ⟨by decide, ?_, by decide, ?_⟩ <;> decide +kernel
theorem txt_12 : txt 12 [32, 119, 105, 100, 101, 32] := by refine ⟨by decide, ?_, by decide, ?_⟩ <;> decide +kernel
theorem txt_13 : txt 13 [32, 115, 104, 121, 32, 98, 101, 103, 105, 110] := by refine ⟨by decide, ?_, by decide, ?_⟩ <;> decide +kernel
theorem txt_14 : txt 14 [32, 115, 104, 121, 32, 101, 110, 100] := by refine ⟨by decide, ?_, by decide, ?_⟩ <;> decide +kernel
theorem txt_15 : txt 15 [32, 104, 97, 110, 103] := by refine ⟨by decide, ?_, by decide, ?_⟩ <;> decide +kernel
theorem txt_16 : txt 16 [32, 116, 114, 105, 109, 32] := by refine ⟨by decide, ?_, by decide, ?_⟩ <;> decide +kernel
theorem txt_17 : txt 17 [32, 115, 113, 117, 101, 101, 122, 101, 32] := by refine ⟨by decide, ?_, by decide, ?_⟩ <;> decide +kernel
theorem txt_18 : txt 18 [32, 114, 97, 110, 107, 32] := by refine ⟨by decide, ?_, by decide, ?_⟩ <;> decide +kernel
theorem txt_19 : txt 19 [32, 111, 112, 101, 110, 32] := by refine ⟨by decide, ?_, by decide, ?_⟩ <;> decide +kernel
theorem txt_20 : txt 20 [107, 101, 101, 112, 32] := by refine ⟨by decide, ?_, by decide, ?_⟩ <;> decide +kernel
theorem take_s {ws : List Nat} {i : Nat} (h : i < ws.length) : ws.take (i + 1) = ws.take i ++ [ws.getD i 0] := by
  rw [List.take_add_one]
  simp [List.getD, List.getElem?_eq_getElem h]
theorem TX_text {S : OV} {aB : Nat → Nat} {l : List Nat} {w : Nat} {ws : List Nat} (hN : aB 98 = 1000) (h : TX S l) (hw : txt w ws) (hl : l.length + ws.length < 1000) : ∃ S', f_X0_addText aB S w = some S' ∧ TX S' (l ++ ws) := by
  obtain ⟨w21, wl, w20, wc⟩ := hw
  have g : decide (w < 21) = true := decide_eq_true w21
  have sl : sln w = nI ws.length := by unfold sln; rw [wl]; rfl
  obtain ⟨r, e, hr⟩ := lp_inv (step := s_X0_addText_2_2 w aB) (fun i s => ∃ S', s = (nI i, S') ∧ TX S' (l ++ ws.take i)) (fun r => TX r (l ++ ws)) 0 ws.length (Nat.zero_le _) (by
    rintro i s - hi ⟨S', rfl, h'⟩
    obtain ⟨S2, e2, h2⟩ := TX_add hN h' (by rw [List.length_append, List.length_take]; omega) (ws.getD i 0)
    refine ⟨(nI (i + 1), S2), ?_, S2, rfl, ?_⟩
    · simp only [s_X0_addText_2_2, un2, gd_t g, sl, nIle (show ws.length < 2 ^ 31 by omega) (show i < 2 ^ 31 by omega), if_neg (show ¬ ws.length ≤ i by omega), wl, gd_t (ix_nI hi (by omega)), wc i hi, e2, Option.bind_some, un1, bnd, nI_1]
    · rw [take_s hi, ← List.append_assoc]
      exact h2) (by
    rintro s ⟨S', rfl, h'⟩
    rw [List.take_length] at h'
    exact ⟨S', by simp only [s_X0_addText_2_2, un2, gd_t g, sl, if_pos (Int32.le_refl _)], h'⟩) 5000 (by omega) (0, S) ⟨S, rfl, by rw [List.take_zero, List.append_nil]; exact h⟩
  refine ⟨r, ?_, hr⟩
  unfold f_X0_addText
  simp only [bnd]
  rw [e, Option.bind_some]
  rfl
theorem TX_num {S : OV} {aB : Nat → Nat} {l : List Nat} {w : Nat} {ws : List Nat} (hN : aB 98 = 1000) (h : TX S l) (hw : txt w ws) (x : Nat) (hl : l.length + ws.length + 1 < 1000) : ∃ S', f_X0_addNumber aB S w (nI x) = some S' ∧ TX S' (l ++ ws ++ [48 + x]) := by
  obtain ⟨S1, e1, h1⟩ := TX_text hN h hw (by omega)
  obtain ⟨S2, e2, h2⟩ := TX_add hN h1 (by rw [List.length_append]; omega) (48 + x)
  refine ⟨S2, ?_, h2⟩
  unfold f_X0_addNumber
  rw [e1, Option.bind_some]
  simp only [un1]
  rw [show (48 : Int32) + nI x = nI (48 + x) from nI_add 48 x, e2, Option.bind_some]
/-- words that end before i -/
def zs : Nat → Nat
  | 0 => 0
  | i + 1 => zs i + (if wds.getD i 0 = 0 then 1 else 0)
/-- the model's word k begins at f -/
def wrd (k f : Nat) (ws : List Nat) : Prop := k ≤ 10 ∧ (∀ i, i < f → zs i < k) ∧ zs f = k ∧ f + ws.length < 58 ∧ wds.getD (f + ws.length) 0 = 0 ∧ ∀ j, j < ws.length → wds.getD (f + j) 0 = ws.getD j 0 ∧ ws.getD j 0 ≠ 0 ∧ ws.getD j 0 < 256
theorem wrd_0 : wrd 0 0 [99, 108, 97, 115, 115] := by unfold wrd; decide +kernel
theorem wrd_1 : wrd 1 6 [119, 105, 100, 101] := by unfold wrd; decide +kernel
theorem wrd_2 : wrd 2 11 [115, 104, 121] := by unfold wrd; decide +kernel
theorem wrd_3 : wrd 3 15 [98, 101, 103, 105, 110] := by unfold wrd; decide +kernel
theorem wrd_4 : wrd 4 21 [101, 110, 100] := by unfold wrd; decide +kernel
theorem wrd_5 : wrd 5 25 [104, 97, 110, 103] := by unfold wrd; decide +kernel
theorem wrd_6 : wrd 6 30 [116, 114, 105, 109] := by unfold wrd; decide +kernel
theorem wrd_7 : wrd 7 35 [115, 113, 117, 101, 101, 122, 101] := by unfold wrd; decide +kernel
theorem wrd_8 : wrd 8 43 [114, 97, 110, 107] := by unfold wrd; decide +kernel
theorem wrd_9 : wrd 9 48 [111, 112, 101, 110] := by unfold wrd; decide +kernel
theorem wrd_10 : wrd 10 53 [107, 101, 101, 112] := by unfold wrd; decide +kernel
theorem wds_lt : ∀ i, i < 58 → wds.getD i 0 < 256 := by decide +kernel
def W37 (M : OV) : Prop := ∀ i, i < 58 → ar M 37 i = nI (wds.getD i 0)
theorem M_wordFrom {M : OV} {k f : Nat} {ws : List Nat} (h : W37 M) (hw : wrd k f ws) : f_X10_wordFrom M (nI k) = some (nI f) := by
  obtain ⟨w1, w2, w3, w4, w5, w6⟩ := hw
  have key : ∀ i, i < f → zs i < k := w2
  obtain ⟨r, e, rfl⟩ := lp_inv (step := s_X10_wordFrom_4_3 M) (fun i s => s = (nI i, nI (k - zs i))) (fun r => r = nI f) 0 f (Nat.zero_le _) (by
    rintro i s - hi rfl
    have hz := w2 i hi
    have xi : ix (nI i) 58 = true := ix_nI (by omega) (by decide)
    have ci := nI_clamp (show i < 2 ^ 31 by omega)
    have b := wds_lt i (by omega)
    have z0 : (nI (wds.getD i 0) = (0 : Int32)) = (wds.getD i 0 = 0) := nIe (by omega) (by decide)
    have z1 : (nI (k - zs i) ≤ (0 : Int32)) = (k - zs i ≤ 0) := nIle (b := 0) (by omega) (by decide)
    refine ⟨_, ?_, rfl⟩
    simp only [s_X10_wordFrom_4_3, un2, z1, if_neg (show ¬ k - zs i ≤ 0 by omega), gd_t xi, ci, h i (by omega), z0, j_X10_wordFrom_20_7, bnd, nI_1, add_m1, nI_m1 (show 0 < k - zs i by omega)]
    rw [zs]
    by_cases c : wds.getD i 0 = 0
    · rw [if_pos c, if_pos c, Nat.sub_sub]
    · rw [if_neg c, if_neg c]
      rfl) (by
    rintro s rfl
    refine ⟨_, ?_, rfl⟩
    have z1 : (nI (k - zs f) ≤ (0 : Int32)) = (k - zs f ≤ 0) := nIle (b := 0) (by omega) (by decide)
    simp only [s_X10_wordFrom_4_3, un2, z1, if_pos (show k - zs f ≤ 0 by omega)]) 5000 (by omega) (nI 0, nI k) rfl
  have e' : lp (s_X10_wordFrom_4_3 M) 5000 (0, nI k) = some (nI f) := e
  unfold f_X10_wordFrom
  simp only [bnd_e]
  rw [e', Option.bind_some]
  rfl
theorem MX_word {M0 M : OV} {l : List Nat} {k f : Nat} {ws : List Nat} (h37 : W37 M0) (h : MX M0 M l) (hw : wrd k f ws) (hl : l.length + ws.length < 1200) : ∃ M', f_X10_writesWord M (nI k) = some M' ∧ MX M0 M' (l ++ ws) := by
  have hw' := hw
  obtain ⟨w1, w2, w3, w4, w5, w6⟩ := hw'
  have g37 : ∀ M', KW M0 M' → W37 M' := fun M' k' i hi => by rw [k'.1 37 (by decide)]; exact h37 i hi
  obtain ⟨r, e, hr⟩ := lp_inv (step := s_X10_writesWord_6_4) (fun i s => ∃ M', s = (nI (f + i), M') ∧ MX M0 M' (l ++ ws.take i)) (fun r => MX M0 r (l ++ ws)) 0 ws.length (Nat.zero_le _) (by
    rintro i s - hi ⟨M', rfl, h'⟩
    obtain ⟨v1, v2, v3⟩ := w6 i hi
    have xi : ix (nI (f + i)) 58 = true := ix_nI (by omega) (by decide)
    have ci := nI_clamp (show f + i < 2 ^ 31 by omega)
    have hv := g37 M' h'.1 (f + i) (by omega)
    rw [v1] at hv
    have z0 : (nI (ws.getD i 0) = (0 : Int32)) = (ws.getD i 0 = 0) := nIe (by omega) (by decide)
    obtain ⟨M2, e2, h2⟩ := MX_add h' (by rw [List.length_append, List.length_take]; omega) (ws.getD i 0)
    refine ⟨(nI (f + (i + 1)), M2), ?_, M2, rfl, ?_⟩
    · simp only [s_X10_writesWord_6_4, un2, gd_t xi, ci, hv, z0, if_neg v2, e2, Option.bind_some, un1, bnd, nI_1]
      rfl
    · rw [take_s hi, ← List.append_assoc]
      exact h2) (by
    rintro s ⟨M', rfl, h'⟩
    rw [List.take_length] at h'
    have xi : ix (nI (f + ws.length)) 58 = true := ix_nI (by omega) (by decide)
    have ci := nI_clamp (show f + ws.length < 2 ^ 31 by omega)
    have hv := g37 M' h'.1 (f + ws.length) (by omega)
    rw [w5] at hv
    have hv' : ar M' 37 (f + ws.length) = 0 := hv
    refine ⟨M', ?_, h'⟩
    simp only [s_X10_writesWord_6_4, un2, gd_t xi, ci, hv', if_true]) 5000 (by omega) (nI (f + 0), M) ⟨M, rfl, by rw [List.take_zero, List.append_nil]; exact h⟩
  refine ⟨r, ?_, hr⟩
  unfold f_X10_writesWord
  rw [M_wordFrom (g37 M h.1) hw, Option.bind_some]
  simp only [un1, bnd_e]
  rw [Nat.add_zero] at e
  rw [e, Option.bind_some]
theorem MX_more {M0 M : OV} {l : List Nat} {k f : Nat} {ws : List Nat} (h37 : W37 M0) (h : MX M0 M l) (hw : wrd k f ws) (hl : l.length + 1 + ws.length < 1200) : ∃ M', f_X10_writesMore M (nI k) = some M' ∧ MX M0 M' (l ++ [32] ++ ws) := by
  obtain ⟨M1, e1, h1⟩ := MX_add h (by omega) 32
  have e1' : f_X10_writes M (32 : Int32) = some M1 := e1
  obtain ⟨M2, e2, h2⟩ := MX_word h37 h1 hw (by rw [List.length_append]; exact hl)
  refine ⟨M2, ?_, h2⟩
  unfold f_X10_writesMore
  rw [e1', Option.bind_some]
  simp only [un1]
  rw [e2, Option.bind_some]
theorem MX_num {M0 M : OV} {l : List Nat} {k f : Nat} {ws : List Nat} (h37 : W37 M0) (h : MX M0 M l) (hw : wrd k f ws) (x : Nat) (hl : l.length + 3 + ws.length < 1200) : ∃ M', f_X10_writesNumber M (nI k) (nI x) = some M' ∧ MX M0 M' (l ++ [32] ++ ws ++ [32] ++ [48 + x]) := by
  obtain ⟨M1, e1, h1⟩ := MX_more h37 h hw (by omega)
  have q1 : (l ++ [32] ++ ws).length = l.length + 1 + ws.length := by rw [List.length_append, List.length_append]; rfl
  obtain ⟨M2, e2, h2⟩ := MX_add h1 (by omega) 32
  have e2' : f_X10_writes M1 (32 : Int32) = some M2 := e2
  obtain ⟨M3, e3, h3⟩ := MX_add h2 (by rw [List.length_append, q1]; show _ + 1 < _; omega) (48 + x)
  refine ⟨M3, ?_, h3⟩
  unfold f_X10_writesNumber
  rw [e1, Option.bind_some]
  simp only [un1]
  rw [e2', Option.bind_some]
  rw [show (48 : Int32) + nI x = nI (48 + x) from nI_add 48 x, e3, Option.bind_some]
