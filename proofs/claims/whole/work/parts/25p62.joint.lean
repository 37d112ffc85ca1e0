-- a word on both sides
theorem txt_0 : txt 0 [99, 108, 97, 115, 115] := by refine ⟨by decide, ?_, by decide, ?_⟩ <;> decide +kernel
theorem txt_1 : txt 1 [119, 105, 100, 101] := by refine ⟨by decide, ?_, by decide, ?_⟩ <;> decide +kernel
theorem txt_2 : txt 2 [115, 104, 121] := by refine ⟨by decide, ?_, by decide, ?_⟩ <;> decide +kernel
theorem txt_3 : txt 3 [98, 101, 103, 105, 110] := by refine ⟨by decide, ?_, by decide, ?_⟩ <;> decide +kernel
theorem txt_4 : txt 4 [101, 110, 100] := by refine ⟨by decide, ?_, by decide, ?_⟩ <;> decide +kernel
theorem txt_5 : txt 5 [104, 97, 110, 103] := by refine ⟨by decide, ?_, by decide, ?_⟩ <;> decide +kernel
theorem txt_6 : txt 6 [116, 114, 105, 109] := by refine ⟨by decide, ?_, by decide, ?_⟩ <;> decide +kernel
theorem txt_7 : txt 7 [115, 113, 117, 101, 101, 122, 101] := by refine ⟨by decide, ?_, by decide, ?_⟩ <;> decide +kernel
theorem txt_8 : txt 8 [114, 97, 110, 107] := by refine ⟨by decide, ?_, by decide, ?_⟩ <;> decide +kernel
theorem txt_9 : txt 9 [111, 112, 101, 110] := by refine ⟨by decide, ?_, by decide, ?_⟩ <;> decide +kernel
theorem txt_10 : txt 10 [107, 101, 101, 112] := by refine ⟨by decide, ?_, by decide, ?_⟩ <;> decide +kernel
def wmt (v : Nat → Nat) (k f b : Nat) (ws : List Nat) : Bool := decide (k = 1 ∧ b = f + ws.length ∧ ∀ i, i < ws.length → v (f + i) = ws.getD i 0)
theorem E_isText {E B : OV} {aB : Nat → Nat} {len : Nat} {v : Nat → Nat} {k f b w : Nat} {ws : List Nat} (hN : aB 98 = 500) (hB : TPc B len v) (h5 : len ≤ 500) (hv : ∀ i, i < len → v i < 256) (h : RE E k f b) (hV : VS v len k f b) (hw : txt w ws) (hl : ∀ i, i < ws.length → ws.getD i 0 < 256) : f_X6_isText E aB B w = some (bo (wmt v k f b ws)) := by
  obtain ⟨v1, v2, v3, v4, -⟩ := hV
  obtain ⟨w21, wl, w20, wc⟩ := hw
  have g : decide (w < 21) = true := decide_eq_true w21
  have sl : sln w = nI ws.length := by unfold sln; rw [wl]; rfl
  have z1 : (nI k = (1 : Int32)) = (k = 1) := nIe (by omega) (by decide)
  unfold f_X6_isText
  rw [h.1, h.2.1, h.2.2, gd_t g, sl, nI_sub v2]
  simp only [z1, nIe (show b - f < 2 ^ 31 by omega) (show ws.length < 2 ^ 31 by omega), bnd_e]
  by_cases c : k = 1
  · rw [if_pos c]
    by_cases d : b - f = ws.length
    · rw [if_pos d]
      obtain ⟨r, e, hr⟩ := lp_inv' (step := s_X6_isText_28_2 w aB E B) (fun i s => s = nI i ∧ ∀ j, j < i → v (f + j) = ws.getD j 0) (fun r => (r = .inl () ∧ wmt v k f b ws = true) ∨ (r = .inr 0 ∧ wmt v k f b ws = false)) 0 ws.length (Nat.zero_le _) (by
        rintro i s - hi ⟨rfl, hj⟩
        have xi : ix (nI (f + i)) (aB 98) = true := by rw [hN]; exact ix_nI (by omega) (by decide)
        have ci := nI_clamp (show f + i < 2 ^ 31 by omega)
        have b1 := hv (f + i) (by omega)
        have b2 := hl i hi
        have st : s_X6_isText_28_2 w aB E B (nI i) = if v (f + i) = ws.getD i 0 then some (.inl (nI (i + 1))) else some (.inr (.inr 0)) := by
          simp only [s_X6_isText_28_2, un1, gd_t g, sl, nIle (show ws.length < 2 ^ 31 by omega) (show i < 2 ^ 31 by omega), if_neg (show ¬ ws.length ≤ i by omega), h.2.1, nI_add, gd_t xi, wl, gd_t (ix_nI hi (by omega)), ci, hB.2 (f + i) (by omega), wc i hi, nIe (show v (f + i) < 2 ^ 31 by omega) (show ws.getD i 0 < 2 ^ 31 by omega), bnd_e, nI_1]
        by_cases m : v (f + i) = ws.getD i 0
        · left
          refine ⟨_, by rw [st, if_pos m], rfl, fun j hj2 => ?_⟩
          by_cases q : j = i
          · rw [q]; exact m
          · exact hj j (by omega)
        · right
          exact ⟨_, by rw [st, if_neg m], Or.inr ⟨rfl, decide_eq_false (fun h => m (h.2.2 i hi))⟩⟩) (by
        rintro s ⟨rfl, hj⟩
        refine ⟨.inl (), ?_, Or.inl ⟨rfl, decide_eq_true ⟨c, by omega, hj⟩⟩⟩
        simp only [s_X6_isText_28_2, un1, gd_t g, sl, if_pos (Int32.le_refl _)]) 5000 (by omega) 0 ⟨rfl, fun j hj => absurd hj (Nat.not_lt_zero j)⟩
      rw [e, Option.bind_some]
      rcases hr with ⟨rfl, h2⟩ | ⟨rfl, h2⟩
      · rw [h2]; rfl
      · rw [h2]; rfl
    · rw [if_neg d, show wmt v k f b ws = false from decide_eq_false (fun h => d (by omega))]
      rfl
  · rw [if_neg c, show wmt v k f b ws = false from decide_eq_false (fun h => c h.1)]
    rfl
def WX (L : Int32 → Int32 → Option Int32) (M : OV) (p0 : Int32) : Option Int32 := if iv M 39 = (1 : Int32) then (f_X10_wordFrom M p0).bind (fun r => (L r 0).bind (fun x => if iv M 40 + x = iv M 38 then gd (ix (r + x) 58) (if ar M 37 (r + x).toNatClampNeg = 0 then some (1 : Int32) else some 0) else some 0)) else some 0
theorem WX_eq (M : OV) (p0 : Int32) : f_X10_isWord M p0 = WX (fun r => lp (s_X10_isWord_18_5 M r) 5000) M p0 := rfl
theorem WX_n {L : Int32 → Int32 → Option Int32} {M : OV} {p0 : Int32} (h : ¬ iv M 39 = 1) : WX L M p0 = some 0 := if_neg h
theorem WX_t {L : Int32 → Int32 → Option Int32} {M : OV} {p0 r x : Int32} (h : iv M 39 = 1) (e : f_X10_wordFrom M p0 = some r) (e2 : L r 0 = some x) : WX L M p0 = if iv M 40 + x = iv M 38 then gd (ix (r + x) 58) (if ar M 37 (r + x).toNatClampNeg = 0 then some (1 : Int32) else some 0) else some 0 := by
  unfold WX
  rw [if_pos h, e, Option.bind_some, e2, Option.bind_some]
theorem M_isWord {M : OV} {len : Nat} {v : Nat → Nat} {k f b w fw : Nat} {ws : List Nat} (hM : EM len v M) (h5 : len ≤ 500) (hv : ∀ i, i < len → v i < 256) (h : RK v M k f b) (hV : VS v len k f b) (hw : wrd w fw ws) : f_X10_isWord M (nI w) = some (bo (wmt v k f b ws)) := by
  obtain ⟨v1, v2, v3, v4, -⟩ := hV
  have hw' := hw
  obtain ⟨w1, w2, w3, w4, w5, w6⟩ := hw'
  rw [WX_eq]
  by_cases c : k = 1
  · have h39 : iv M 39 = 1 := by rw [h.2.1, c]; rfl
    obtain ⟨v4a, v4b⟩ := v4 c
    obtain ⟨r, e, i, rfl, i1, i2, i3, i4⟩ := lp_inv' (step := s_X10_isWord_18_5 M (nI fw)) (fun i s => s = nI i ∧ i ≤ ws.length ∧ f + i ≤ b ∧ ∀ j, j < i → v (f + j) = ws.getD j 0) (fun r => ∃ i, r = nI i ∧ i ≤ ws.length ∧ f + i ≤ b ∧ (∀ j, j < i → v (f + j) = ws.getD j 0) ∧ (f + i = b ∨ (f + i < b ∧ (i = ws.length ∨ v (f + i) ≠ ws.getD i 0)))) 0 (ws.length + 1) (Nat.zero_le _) (by
      rintro i s - hi ⟨rfl, i1, i2, i3⟩
      by_cases d : f + i = b
      · right
        refine ⟨nI i, ?_, i, rfl, i1, i2, i3, Or.inl d⟩
        simp only [s_X10_isWord_18_5, un1, h.1, h.2.2.1, nI_add, nIle (show b < 2 ^ 31 by omega) (show f + i < 2 ^ 31 by omega), if_pos (show b ≤ f + i by omega)]
      · have l1 := v4b (f + i) (by omega) (by omega)
        have x1 : ix (nI (fw + i)) 58 = true := ix_nI (by omega) (by decide)
        have x2 : ix (nI (f + i)) 500 = true := ix_nI (by omega) (by decide)
        have c1 := nI_clamp (show fw + i < 2 ^ 31 by omega)
        have c2 := nI_clamp (show f + i < 2 ^ 31 by omega)
        have b1 := hv (f + i) (by omega)
        have b2 := wds_lt (fw + i) (by omega)
        have st : s_X10_isWord_18_5 M (nI fw) (nI i) = if wds.getD (fw + i) 0 = v (f + i) then some (.inl (nI (i + 1))) else some (.inr (nI i)) := by
          simp only [s_X10_isWord_18_5, un1, h.1, h.2.2.1, nI_add, nIle (show b < 2 ^ 31 by omega) (show f + i < 2 ^ 31 by omega), if_neg (show ¬ b ≤ f + i by omega), gd_t x1, gd_t x2, c1, c2, hM.2.2 (fw + i) (by omega), hM.2.1 (f + i) (by omega), nIe (show wds.getD (fw + i) 0 < 2 ^ 31 by omega) (show v (f + i) < 2 ^ 31 by omega), bnd_e, nI_1]
        by_cases q : i = ws.length
        · right
          have : ¬ wds.getD (fw + i) 0 = v (f + i) := by rw [q, w5, ← q]; omega
          exact ⟨nI i, by rw [st, if_neg this], i, rfl, i1, i2, i3, Or.inr ⟨by omega, Or.inl q⟩⟩
        · have hh := (w6 i (by omega)).1
          by_cases m : wds.getD (fw + i) 0 = v (f + i)
          · left
            refine ⟨_, by rw [st, if_pos m], rfl, by omega, by omega, fun j hj => ?_⟩
            by_cases q2 : j = i
            · rw [q2, ← hh, m]
            · exact i3 j (by omega)
          · right
            exact ⟨nI i, by rw [st, if_neg m], i, rfl, i1, i2, i3, Or.inr ⟨by omega, Or.inr (fun h => m (by rw [hh, h]))⟩⟩) (by
      rintro s ⟨rfl, i1, -⟩
      omega) 5000 (by omega) 0 ⟨rfl, Nat.zero_le _, by omega, fun j hj => absurd hj (Nat.not_lt_zero j)⟩
    rw [WX_t h39 (M_wordFrom hM.2.2 hw) e, h.1, h.2.2.1, nI_add]
    simp only [nIe (show f + i < 2 ^ 31 by omega) (show b < 2 ^ 31 by omega)]
    rcases i4 with d | ⟨d, d2⟩
    · have x1 : ix (nI (fw + i)) 58 = true := ix_nI (by omega) (by decide)
      have b2 := wds_lt (fw + i) (by omega)
      have z0 : (nI (wds.getD (fw + i) 0) = (0 : Int32)) = (wds.getD (fw + i) 0 = 0) := nIe (by omega) (by decide)
      rw [if_pos d, nI_add, gd_t x1, nI_clamp (by omega), hM.2.2 (fw + i) (by omega)]
      simp only [z0]
      by_cases q : i = ws.length
      · rw [if_pos (by rw [q]; exact w5), show wmt v k f b ws = true from decide_eq_true ⟨c, by omega, by rw [← q]; exact i3⟩]
        rfl
      · have := w6 i (by omega)
        rw [if_neg (by rw [this.1]; exact this.2.1), show wmt v k f b ws = false from decide_eq_false (fun h => q (by omega))]
        rfl
    · rw [if_neg (by omega), show wmt v k f b ws = false from decide_eq_false (fun h => d2.elim (fun q => by omega) (fun q => q (h.2.2 i (by omega))))]
      rfl
  · have h39 : ¬ iv M 39 = 1 := by rw [h.2.1, tkk_1 v1]; exact c
    rw [WX_n h39, show wmt v k f b ws = false from decide_eq_false (fun h => c h.1)]
    rfl
-- both sides together
def TS (len : Nat) (v : Nat → Nat) (E M : OV) (k f b : Nat) : Prop := RE E k f b ∧ RK v M k f b ∧ VS v len k f b ∧ iv E 5 = -1 ∧ iv M 42 = 0
def FE (len : Nat) (v : Nat → Nat) (E : OV) (ft : Nat) : Prop := (∃ k f b, RE E k f b ∧ VS v len k f b) ∧ iv E 5 = nI ft
def FM (M : OV) (ft : Nat) : Prop := iv M 42 = 1 ∧ iv M 40 = nI ft
def JR (len : Nat) (v : Nat → Nat) (n : Nat) (E M : OV) (T : Prop) : Prop := (∃ k f b, TS len v E M k f b ∧ (k = 5 ∨ n ≤ b) ∧ T) ∨ ∃ ft, ft ≤ 500 ∧ FE len v E ft ∧ FM M ft
theorem JR_T {len : Nat} {v : Nat → Nat} {n m : Nat} {E M : OV} {T T' : Prop} (h : JR len v n E M T) (hm : m ≤ n) (g : T → T') : JR len v m E M T' := by
  rcases h with ⟨k, f, b, h1, h2, h3⟩ | h
  · exact Or.inl ⟨k, f, b, h1, h2.elim Or.inl (fun h => Or.inr (by omega)), g h3⟩
  · exact Or.inr h
theorem RE_5 {E : OV} {k f b : Nat} (h : RE E k f b) (x : Int32) : RE (sI E 5 x) k f b := ⟨by rw [ivn _ _ (by decide)]; exact h.1, by rw [ivn _ _ (by decide)]; exact h.2.1, by rw [ivn _ _ (by decide)]; exact h.2.2⟩
section
variable {B : OV} {aB : Nat → Nat} {len : Nat} {v : Nat → Nat}
/-- a fault told now -/
theorem J_fail {E M : OV} {k f b : Nat} (h5 : len ≤ 500) (h : TS len v E M k f b) : f_X6_fail E = some (sI E 5 (nI f)) ∧ FE len v (sI E 5 (nI f)) f ∧ FM (sI M 42 1) f ∧ f ≤ 500 := by
  obtain ⟨h1, h2, h3, h4, h6⟩ := h
  refine ⟨?_, ⟨⟨k, f, b, RE_5 h1 _, h3⟩, ivs _ _ _⟩, ⟨ivs _ _ _, by rw [ivn _ _ (by decide)]; exact h2.2.2.1⟩, by have := h3.2.1; have := h3.2.2.1; omega⟩
  unfold f_X6_fail
  rw [if_pos h4, bnd_e, h1.2.1]
theorem FE_fail {E : OV} {ft : Nat} (hf : ft ≤ 500) (h : FE len v E ft) : f_X6_fail E = some E := by
  unfold f_X6_fail
  rw [if_neg (by rw [h.2]; exact nI_ne1 (by omega))]
theorem FE_next {E : OV} {ft : Nat} (hN : aB 98 = 500) (hB : TPc B len v) (h5 : len ≤ 500) (hv : ∀ i, i < len → v i < 256) (h : FE len v E ft) : ∃ E', f_X6_next E aB B = some E' ∧ FE len v E' ft := by
  obtain ⟨⟨k, f, b, h1, h2⟩, h3⟩ := h
  obtain ⟨k', f', b', hx⟩ := NX_ex v k h2.2.2.1
  obtain ⟨E', e1, e2, e3⟩ := E_next hN hB h5 hv h1 h2.1 h2.2.2.1 hx
  exact ⟨E', e1, ⟨k', f', b', e2, (NX_VS hx).1⟩, e3.trans h3⟩
theorem TS_next {E M : OV} {k f b : Nat} (hN : aB 98 = 500) (hB : TPc B len v) (h5 : len ≤ 500) (hv : ∀ i, i < len → v i < 256) (hM : EM len v M) (h : TS len v E M k f b) : ∃ E' M' k' f' b', f_X6_next E aB B = some E' ∧ f_X10_goesOn M = some M' ∧ KQ M M' ∧ TS len v E' M' k' f' b' ∧ (k' = 5 ∨ b < b') ∧ (k = 5 → k' = 5) := by
  obtain ⟨h1, h2, h3, h4, h6⟩ := h
  obtain ⟨k', f', b', hx⟩ := NX_ex v k h3.2.2.1
  obtain ⟨E', e1, e2, e3⟩ := E_next hN hB h5 hv h1 h3.1 h3.2.2.1 hx
  obtain ⟨M', m1, m2, m3, m4⟩ := M_goes hM h5 hv h3.2.2.1 h3.1 h2.1 h2.2.1 hx
  have hn := NX_VS hx
  exact ⟨E', M', k', f', b', e1, m1, m3, ⟨e2, m2, hn.1, e3.trans h4, m4.trans h6⟩, hn.2.1, fun h => hn.2.2 (h3.2.2.2.2.2.1 h)⟩
theorem J_next {E M : OV} {k f b n : Nat} {T : Prop} (hN : aB 98 = 500) (hB : TPc B len v) (h5 : len ≤ 500) (hv : ∀ i, i < len → v i < 256) (hM : EM len v M) (h : TS len v E M k f b) (hn : k = 5 ∨ n ≤ b) (t : T) : ∃ E' M', f_X6_next E aB B = some E' ∧ f_X10_goesOn M = some M' ∧ KQ M M' ∧ JR len v (n + 1) E' M' T := by
  obtain ⟨E', M', k', f', b', e1, m1, q, hs, p1, p2⟩ := TS_next hN hB h5 hv hM h
  refine ⟨E', M', e1, m1, q, Or.inl ⟨k', f', b', hs, ?_, t⟩⟩
  rcases hn with c | c
  · exact Or.inl (p2 c)
  · rcases p1 with d | d
    · exact Or.inl d
    · exact Or.inr (by omega)
theorem wrd_lt {w fw : Nat} {ws : List Nat} (h : wrd w fw ws) : ∀ i, i < ws.length → ws.getD i 0 < 256 := fun i hi => (h.2.2.2.2.2 i hi).2.2
theorem J_takes {E M : OV} {n w fw : Nat} {ws : List Nat} {T : Prop} (hN : aB 98 = 500) (hB : TPc B len v) (h5 : len ≤ 500) (hv : ∀ i, i < len → v i < 256) (hM : EM len v M) (hw : txt w ws) (hm : wrd w fw ws) (h : JR len v n E M T) : ∃ r E' M', f_X6_takes E aB B w = some (bo r, E') ∧ f_X10_takesWord M (nI w) = some (bo r, M') ∧ KQ M M' ∧ JR len v (if r = true then n + 1 else n) E' M' T := by
  rcases h with ⟨k, f, b, h1, h2, h3⟩ | ⟨ft, h1, h2, h3⟩
  · have et := E_isText hN hB h5 hv h1.1 h1.2.2.1 hw (wrd_lt hm)
    have mt := M_isWord hM h5 hv h1.2.1 h1.2.2.1 hm
    unfold f_X6_takes f_X10_takesWord
    rw [if_pos h1.2.2.2.1, if_pos h1.2.2.2.2, et, mt, Option.bind_some, Option.bind_some]
    simp only [un1, bo_0]
    cases c : wmt v k f b ws
    · rw [if_pos rfl, if_pos rfl]
      exact ⟨false, E, M, rfl, rfl, KQ_rf M, Or.inl ⟨k, f, b, h1, by simpa using h2, h3⟩⟩
    · rw [if_neg (by simp), if_neg (by simp)]
      obtain ⟨E', M', e1, m1, q, hj⟩ := J_next hN hB h5 hv hM h1 h2 h3
      refine ⟨true, E', M', by rw [e1]; rfl, by rw [m1]; rfl, q, ?_⟩
      rw [if_pos rfl]
      exact hj
  · refine ⟨false, E, M, ?_, ?_, KQ_rf M, Or.inr ⟨ft, h1, h2, h3⟩⟩
    · unfold f_X6_takes
      rw [if_neg (by rw [h2.2]; exact nI_ne1 (by omega))]
      rfl
    · unfold f_X10_takesWord
      rw [if_neg (by rw [h3.1]; decide)]
      rfl
theorem FE_text {E : OV} {ft w fw : Nat} {ws : List Nat} (hN : aB 98 = 500) (hB : TPc B len v) (h5 : len ≤ 500) (hv : ∀ i, i < len → v i < 256) (hw : txt w ws) (hm : wrd w fw ws) (h : FE len v E ft) : ∃ r, f_X6_isText E aB B w = some (bo r) := by
  obtain ⟨⟨k, f, b, h1, h2⟩, h3⟩ := h
  exact ⟨_, E_isText hN hB h5 hv h1 h2 hw (wrd_lt hm)⟩
theorem FE_expect {E : OV} {ft w fw : Nat} {ws : List Nat} (hf : ft ≤ 500) (hN : aB 98 = 500) (hB : TPc B len v) (h5 : len ≤ 500) (hv : ∀ i, i < len → v i < 256) (hw : txt w ws) (hm : wrd w fw ws) (h : FE len v E ft) : ∃ E', f_X6_expect E aB B w = some E' ∧ FE len v E' ft := by
  obtain ⟨r, e⟩ := FE_text hN hB h5 hv hw hm h
  unfold f_X6_expect
  rw [e, Option.bind_some]
  simp only [un1, bo_0]
  cases r
  · rw [if_pos rfl, FE_fail hf h]
    exact ⟨E, rfl, h⟩
  · rw [if_neg (by simp)]
    obtain ⟨E', e1, e2⟩ := FE_next hN hB h5 hv h
    exact ⟨E', by rw [e1]; rfl, e2⟩
theorem FM_42 {M : OV} {ft : Nat} (h : FM M ft) : FM (sI M 42 1) ft := ⟨ivs _ _ _, by rw [ivn _ _ (by decide)]; exact h.2⟩
theorem J_expect {E M : OV} {n w fw : Nat} {ws : List Nat} {T : Prop} (hN : aB 98 = 500) (hB : TPc B len v) (h5 : len ≤ 500) (hv : ∀ i, i < len → v i < 256) (hM : EM len v M) (hw : txt w ws) (hm : wrd w fw ws) (h : JR len v n E M T) : ∃ E' M', f_X6_expect E aB B w = some E' ∧ f_X10_needs M (nI w) = some M' ∧ KQ M M' ∧ JR len v (n + 1) E' M' T := by
  rcases h with ⟨k, f, b, h1, h2, h3⟩ | ⟨ft, h1, h2, h3⟩
  · have et := E_isText hN hB h5 hv h1.1 h1.2.2.1 hw (wrd_lt hm)
    have mt := M_isWord hM h5 hv h1.2.1 h1.2.2.1 hm
    unfold f_X6_expect f_X10_needs f_X10_takesWord
    rw [if_pos h1.2.2.2.2, et, mt, Option.bind_some, Option.bind_some]
    simp only [un1, bo_0]
    cases c : wmt v k f b ws
    · obtain ⟨e1, e2, e3, e4⟩ := J_fail h5 h1
      rw [if_pos rfl, if_pos rfl, e1]
      exact ⟨_, _, rfl, rfl, KQ_I _ (by decide) _, Or.inr ⟨f, e4, e2, e3⟩⟩
    · rw [if_neg (by simp), if_neg (by simp)]
      obtain ⟨E', M', e1, m1, q, hj⟩ := J_next hN hB h5 hv hM h1 h2 h3
      exact ⟨E', M', by rw [e1]; rfl, by rw [m1]; rfl, q, hj⟩
  · obtain ⟨E', e1, e2⟩ := FE_expect h1 hN hB h5 hv hw hm h2
    refine ⟨E', sI M 42 1, e1, ?_, KQ_I _ (by decide) _, Or.inr ⟨ft, h1, e2, FM_42 h3⟩⟩
    unfold f_X10_needs f_X10_takesWord
    rw [if_neg (by rw [h3.1]; decide)]
    rfl
theorem FE_num {E : OV} {ft lo hi : Nat} (hlo : lo ≤ hi) (hhi : hi ≤ 9) (hf : ft ≤ 500) (hN : aB 98 = 500) (hB : TPc B len v) (h5 : len ≤ 500) (hv : ∀ i, i < len → v i < 256) (h : FE len v E ft) : ∃ x E', f_X6_readNumber E aB B (nI lo) (nI hi) = some (nI x, E') ∧ lo ≤ x ∧ x ≤ hi ∧ FE len v E' ft := by
  have h' := h
  obtain ⟨⟨k, f, b, h1, h2⟩, h3⟩ := h'
  have bad : ∃ x E', j_X6_readNumber_52_4 E (nI lo) = some (nI x, E') ∧ lo ≤ x ∧ x ≤ hi ∧ FE len v E' ft := by
    refine ⟨lo, E, ?_, Nat.le_refl _, hlo, h⟩
    unfold j_X6_readNumber_52_4
    rw [FE_fail hf h]
    rfl
  have z2 : (nI k = (2 : Int32)) = (k = 2) := nIe (by have := h2.1; omega) (by decide)
  have m1 : j_X6_readNumber_40_9 aB E B (nI lo) (nI hi) = j_X6_readNumber_52_4 E (nI lo) := by
    unfold j_X6_readNumber_40_9 j_X6_readNumber_41_2
    rw [bnd_e, if_pos (show (-1 : Int32) < nI lo from nI_gm1 (by omega))]
  unfold f_X6_readNumber
  rw [h1.1, h1.2.1, hB.1, m1]
  simp only [z2, nIle (show len < 2 ^ 31 by omega) (show f < 2 ^ 31 by have := h2.2.1; have := h2.2.2.1; omega)]
  by_cases c : k = 2
  · rw [if_pos c]
    obtain ⟨d1, d2, d3⟩ := h2.2.2.2.2.1 c
    have d4 := h2.2.2.1
    rw [if_neg (by omega), gd_t (by rw [hN]; exact ix_nI (by omega) (by decide)), nI_clamp (by omega), hB.2 f (by omega), show nI (v f) - 48 = nI (v f - 48) from pk_sub (a := v f) (b := 48) (by omega)]
    unfold j_X6_readNumber_41_2
    simp only [bnd_e, nIlt (show v f - 48 < 2 ^ 31 by omega) (show lo < 2 ^ 31 by omega), nIle (show v f - 48 < 2 ^ 31 by omega) (show hi < 2 ^ 31 by omega)]
    by_cases e : v f - 48 < lo
    · rw [if_pos e]; exact bad
    · rw [if_neg e]
      by_cases g : v f - 48 ≤ hi
      · rw [if_pos g]
        obtain ⟨E', e1, e2⟩ := FE_next hN hB h5 hv h
        exact ⟨v f - 48, E', by rw [e1]; rfl, by omega, g, e2⟩
      · rw [if_neg g]; exact bad
  · rw [if_neg c]; exact bad
theorem J_num {E M : OV} {n lo hi : Nat} {T : Prop} (hlo : lo ≤ hi) (hhi : hi ≤ 9) (hN : aB 98 = 500) (hB : TPc B len v) (h5 : len ≤ 500) (hv : ∀ i, i < len → v i < 256) (hM : EM len v M) (h : JR len v n E M T) : ∃ x y E' M', f_X6_readNumber E aB B (nI lo) (nI hi) = some (nI x, E') ∧ f_X10_needsNumber M (nI lo) (nI hi) = some (nI y, M') ∧ (lo ≤ x ∧ x ≤ hi) ∧ (lo ≤ y ∧ y ≤ hi) ∧ KQ M M' ∧ JR len v n E' M' (T ∧ x = y) := by
  rcases h with ⟨k, f, b, h1, h2, h3⟩ | ⟨ft, h1, h2, h3⟩
  · obtain ⟨a1, a2, a3, a4, a5⟩ := h1
    have h1 : TS len v E M k f b := ⟨a1, a2, a3, a4, a5⟩
    have z2 : (nI k = (2 : Int32)) = (k = 2) := nIe (by have := a3.1; omega) (by decide)
    have m1 : j_X6_readNumber_40_9 aB E B (nI lo) (nI hi) = j_X6_readNumber_52_4 E (nI lo) := by
      unfold j_X6_readNumber_40_9 j_X6_readNumber_41_2
      rw [bnd_e, if_pos (show (-1 : Int32) < nI lo from nI_gm1 (by omega))]
    obtain ⟨e1, e2, e3, e4⟩ := J_fail h5 h1
    have bad : ∃ x y E' M', j_X6_readNumber_52_4 E (nI lo) = some (nI x, E') ∧ j_X10_needsNumber_27_1 M (nI lo) = some (nI y, M') ∧ (lo ≤ x ∧ x ≤ hi) ∧ (lo ≤ y ∧ y ≤ hi) ∧ KQ M M' ∧ JR len v n E' M' (T ∧ x = y) := by
      refine ⟨lo, lo, _, _, ?_, rfl, ⟨Nat.le_refl _, hlo⟩, ⟨Nat.le_refl _, hlo⟩, KQ_I _ (by decide) _, Or.inr ⟨f, e4, e2, e3⟩⟩
      unfold j_X6_readNumber_52_4
      rw [e1]
      rfl
    unfold f_X6_readNumber f_X10_needsNumber
    rw [a1.1, a1.2.1, hB.1, m1, if_pos a5, a2.2.1]
    simp only [z2, tkk_2 a3.1, nIle (show len < 2 ^ 31 by omega) (show f < 2 ^ 31 by have := a3.2.1; have := a3.2.2.1; omega)]
    by_cases c : k = 2
    · rw [if_pos c, if_pos c]
      obtain ⟨d1, d2, d3⟩ := a3.2.2.2.2.1 c
      have d4 := a3.2.2.1
      rw [if_neg (by omega), gd_t (by rw [hN]; exact ix_nI (by omega) (by decide)), nI_clamp (by omega), hB.2 f (by omega), show nI (v f) - 48 = nI (v f - 48) from pk_sub (a := v f) (b := 48) (by omega), a2.2.2.2 c]
      unfold j_X6_readNumber_41_2 f_X10_in
      simp only [bnd_e, nIlt (show v f - 48 < 2 ^ 31 by omega) (show lo < 2 ^ 31 by omega), nIlt (show hi < 2 ^ 31 by omega) (show v f - 48 < 2 ^ 31 by omega), nIle (show v f - 48 < 2 ^ 31 by omega) (show hi < 2 ^ 31 by omega), j_X10_in_14_1]
      by_cases e : v f - 48 < lo
      · rw [if_pos e, if_pos e]; exact bad
      · rw [if_neg e, if_neg e]
        by_cases g : v f - 48 ≤ hi
        · rw [if_pos g, if_neg (by omega)]
          obtain ⟨E', M', e1, m1, q, hj⟩ := J_next (T := T ∧ v f - 48 = v f - 48) hN hB h5 hv hM h1 h2 ⟨h3, rfl⟩
          refine ⟨v f - 48, v f - 48, E', M', by rw [e1]; rfl, ?_, ⟨by omega, g⟩, ⟨by omega, g⟩, q, JR_T hj (by omega) id⟩
          rw [Option.bind_some]
          simp only [un1]
          rw [if_neg (by decide), m1]
          rfl
        · rw [if_neg g, if_pos (by omega)]; exact bad
    · rw [if_neg c, if_neg c]; exact bad
  · obtain ⟨x, E', e1, e2, e3, e4⟩ := FE_num hlo hhi h1 hN hB h5 hv h2
    refine ⟨x, lo, E', sI M 42 1, e1, ?_, ⟨e2, e3⟩, ⟨Nat.le_refl _, hlo⟩, KQ_I _ (by decide) _, Or.inr ⟨ft, h1, e4, FM_42 h3⟩⟩
    unfold f_X10_needsNumber
    rw [if_neg (by rw [h3.1]; decide)]
    rfl
theorem J_stop {E M : OV} {n : Nat} {T : Prop} (hN : aB 98 = 500) (hB : TPc B len v) (h5 : len ≤ 500) (hv : ∀ i, i < len → v i < 256) (hM : EM len v M) (h : JR len v n E M T) : ∃ E' M', f_X6_expectStop E aB B = some E' ∧ f_X10_needsClose M = some M' ∧ KQ M M' ∧ JR len v n E' M' T := by
  rcases h with ⟨k, f, b, h1, h2, h3⟩ | ⟨ft, h1, h2, h3⟩
  · obtain ⟨a1, a2, a3, a4, a5⟩ := h1
    have h1 : TS len v E M k f b := ⟨a1, a2, a3, a4, a5⟩
    have z3 : (nI k = (3 : Int32)) = (k = 3) := nIe (by have := a3.1; omega) (by decide)
    unfold f_X6_expectStop f_X10_needsClose
    rw [a1.1, if_pos a5, a2.2.1]
    simp only [z3]
    by_cases c : k = 3
    · have t3 : nI (tkk k) = 3 := by rw [c]; rfl
      rw [if_pos c, if_pos t3]
      obtain ⟨E', M', e1, m1, q, hj⟩ := J_next hN hB h5 hv hM h1 h2 h3
      exact ⟨E', M', by rw [e1]; rfl, by rw [m1]; rfl, q, JR_T hj (by omega) id⟩
    · have t3 : ¬ nI (tkk k) = 3 := by
        have : ∀ k, k ≤ 5 → k ≠ 3 → 1 ≤ k → ¬ nI (tkk k) = (3 : Int32) := by decide
        exact this k a3.1 c a3.2.2.2.2.2.2
      obtain ⟨e1, e2, e3, e4⟩ := J_fail h5 h1
      rw [if_neg c, if_neg t3, e1]
      exact ⟨_, _, rfl, rfl, KQ_I _ (by decide) _, Or.inr ⟨f, e4, e2, e3⟩⟩
  · have m1 : f_X10_needsClose M = some (sI M 42 1) := by
      unfold f_X10_needsClose
      rw [if_neg (by rw [h3.1]; decide)]
      rfl
    by_cases c : iv E 2 = 3
    · obtain ⟨E', e1, e2⟩ := FE_next hN hB h5 hv h2
      refine ⟨E', sI M 42 1, ?_, m1, KQ_I _ (by decide) _, Or.inr ⟨ft, h1, e2, FM_42 h3⟩⟩
      unfold f_X6_expectStop
      rw [if_pos c, e1]
      rfl
    · refine ⟨E, sI M 42 1, ?_, m1, KQ_I _ (by decide) _, Or.inr ⟨ft, h1, h2, FM_42 h3⟩⟩
      unfold f_X6_expectStop
      rw [if_neg c, FE_fail h1 h2]
      rfl
end
