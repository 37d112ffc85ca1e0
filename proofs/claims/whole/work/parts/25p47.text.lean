/-- a text, letter by letter, on both sides -/
def TX (S : OV) (l : List Nat) : Prop := iv S 1 = nI l.length ∧ ∀ i, i < l.length → ar S 0 i = nI (l.getD i 0)
def KW (M M' : OV) : Prop := (∀ k, k ≠ 31 → ar M' k = ar M k) ∧ ∀ k, k ≠ 32 → iv M' k = iv M k
def MX (M0 M : OV) (l : List Nat) : Prop := KW M0 M ∧ iv M 32 = nI l.length ∧ ∀ i, i < l.length → ar M 31 i = nI (l.getD i 0)
theorem KW_KM {M M' : OV} (h : KW M M') : KM M M' := fun k hk => ⟨h.1 k (by omega), h.2 k (by omega)⟩
theorem getD_l {l : List Nat} {x i : Nat} (h : i < l.length) : (l ++ [x]).getD i 0 = l.getD i 0 := by
  simp [List.getD, List.getElem?_append_left h]
theorem getD_x {l : List Nat} {x : Nat} : (l ++ [x]).getD l.length 0 = x := by
  simp [List.getD]
theorem TX_0 (S : OV) : TX (sI S 1 0) [] := ⟨by rw [ivI, if_pos rfl]; rfl, fun i hi => absurd hi (Nat.not_lt_zero i)⟩
theorem MX_0 (M : OV) : MX M (sI M 32 0) [] := ⟨⟨fun _ _ => rfl, fun k hk => by rw [ivI, if_neg hk]⟩, by rw [ivI, if_pos rfl]; rfl, fun i hi => absurd hi (Nat.not_lt_zero i)⟩
theorem TX_add {S : OV} {aB : Nat → Nat} {l : List Nat} (hN : aB 98 = 1000) (h : TX S l) (hl : l.length < 1000) (x : Nat) : ∃ S', f_X0_add aB S (nI x) = some S' ∧ TX S' (l ++ [x]) := by
  refine ⟨sI (sA S 0 l.length (nI x)) 1 (nI (l.length + 1)), ?_, ?_, fun i hi => ?_⟩
  · unfold f_X0_add
    simp only [hN, h.1, show (Int32.ofNat 1000 ≤ nI l.length) = (1000 ≤ l.length) from nIle (by decide) (by omega), if_neg (show ¬ 1000 ≤ l.length by omega), gd_t (ix_nI hl (by decide)), nI_clamp (show l.length < 2 ^ 31 by omega), bnd, ivA, nI_1]
  · rw [ivI, if_pos rfl, List.length_append]
    rfl
  · rw [List.length_append] at hi
    have hi' : i < l.length + 1 := hi
    rw [arI, arA, if_pos rfl, updE]
    by_cases c : i = l.length
    · rw [if_pos c, c, getD_x]
    · rw [if_neg c, getD_l (by omega)]
      exact h.2 i (by omega)
theorem MX_add {M0 M : OV} {l : List Nat} (h : MX M0 M l) (hl : l.length < 1200) (x : Nat) : ∃ M', f_X10_writes M (nI x) = some M' ∧ MX M0 M' (l ++ [x]) := by
  obtain ⟨⟨k1, k2⟩, h1, h2⟩ := h
  refine ⟨sI (sA M 31 l.length (nI x)) 32 (nI (l.length + 1)), ?_, ⟨fun k hk => ?_, fun k hk => ?_⟩, ?_, fun i hi => ?_⟩
  · unfold f_X10_writes
    simp only [h1, gd_t (ix_nI hl (by decide)), nI_clamp (show l.length < 2 ^ 31 by omega), bnd, ivA, nI_1]
  · rw [arI, arA, if_neg hk]; exact k1 k hk
  · rw [ivI, if_neg hk, ivA]; exact k2 k hk
  · rw [ivI, if_pos rfl, List.length_append]
    rfl
  · rw [List.length_append] at hi
    have hi' : i < l.length + 1 := hi
    rw [arI, arA, if_pos rfl, updE]
    by_cases c : i = l.length
    · rw [if_pos c, c, getD_x]
    · rw [if_neg c, getD_l (by omega)]
      exact h2 i (by omega)
def rp (l : List Nat) (x : Nat) : Nat → List Nat
  | 0 => l
  | n + 1 => rp l x n ++ [x]
theorem rp_len (l : List Nat) (x : Nat) : ∀ n, (rp l x n).length = l.length + n
  | 0 => rfl
  | n + 1 => by rw [rp, List.length_append, rp_len l x n]; rfl
theorem TX_times {S : OV} {aB : Nat → Nat} {l : List Nat} (hN : aB 98 = 1000) (h : TX S l) (x n : Nat) (hl : l.length + n < 1000) : ∃ S', f_X0_addTimes aB S (nI x) (nI n) = some S' ∧ TX S' (rp l x n) := by
  obtain ⟨r, e, hr⟩ := lp_inv (step := s_X0_addTimes_2_2 aB (nI x) (nI n)) (fun i s => ∃ S', s = (nI i, S') ∧ TX S' (rp l x i)) (fun r => TX r (rp l x n)) 0 n (Nat.zero_le _) (by
    rintro i s - hi ⟨S', rfl, h'⟩
    obtain ⟨S2, e2, h2⟩ := TX_add hN h' (by rw [rp_len]; omega) x
    exact ⟨(nI (i + 1), S2), by simp only [s_X0_addTimes_2_2, un2, nIle (show n < 2 ^ 31 by omega) (show i < 2 ^ 31 by omega), if_neg (show ¬ n ≤ i by omega), e2, Option.bind_some, un1, bnd, nI_1], S2, rfl, h2⟩) (by
    rintro s ⟨S', rfl, h'⟩
    exact ⟨S', by simp only [s_X0_addTimes_2_2, un2, if_pos (Int32.le_refl _)], h'⟩) 5000 (by omega) (0, S) ⟨S, rfl, h⟩
  refine ⟨r, ?_, hr⟩
  unfold f_X0_addTimes
  simp only [bnd]
  rw [e, Option.bind_some]
  rfl
theorem told_both {S M M0 : OV} {aB : Nat → Nat} {l : List Nat} (hN : aB 98 = 1000) (h : TX S l) (hm : MX M0 M l) (hl : l.length ≤ 1000) {q : Int32} (hq : ¬ q < -1) : ∃ r, f_X0_told aB S q = some r ∧ f_X10_told M q = some r := by
  rcases nn_or q with h0 | ⟨j, hj, rfl⟩
  · have hq1 : q = -1 := by
      apply Int32.toInt_inj.1
      have a1 : ¬ q.toInt < (-1 : Int32).toInt := fun h => hq (Int32.lt_iff_toInt_lt.2 h)
      have a2 : q.toInt < (0 : Int32).toInt := Int32.lt_iff_toInt_lt.1 h0
      have e1 : (-1 : Int32).toInt = -1 := rfl
      have e0 : (0 : Int32).toInt = 0 := rfl
      rw [e1] at a1 ⊢
      rw [e0] at a2
      omega
    subst hq1
    refine ⟨nI l.length, ?_, ?_⟩
    · unfold f_X0_told
      rw [if_neg (by decide), h.1]
    · unfold f_X10_told
      rw [if_pos rfl, hm.2.1]
  · have g0 : (0 : Int32) ≤ nI j := Int32.not_lt.1 (nI_pos hj)
    by_cases c : l.length ≤ j
    · refine ⟨-2, ?_, ?_⟩
      · unfold f_X0_told
        rw [if_pos g0, h.1, if_pos (by rw [nIle (by omega) hj]; exact c)]
      · unfold f_X10_told
        rw [if_neg (nI_ne1 hj), hm.2.1, if_pos (by rw [nIle (by omega) hj]; exact c)]
    · refine ⟨nI (l.getD j 0), ?_, ?_⟩
      · unfold f_X0_told
        rw [if_pos g0, h.1, if_neg (by rw [nIle (by omega) hj]; exact c), hN, gd_t (ix_nI (by omega) (by decide)), nI_clamp hj, h.2 j (by omega)]
      · unfold f_X10_told
        rw [if_neg (nI_ne1 hj), hm.2.1, if_neg (by rw [nIle (by omega) hj]; exact c), gd_t (ix_nI (by omega) (by decide)), nI_clamp hj, hm.2.2 j (by omega)]
-- the text of a line
def lt1 (p : Pg) (hg : Bool) (b i : Nat) : Nat := ps p i + (if hg = true ∧ i = b then 65 else 97)
def spl (p : Pg) (hg : Bool) (t u : Nat → Nat) (a b : Nat) : Nat → List Nat
  | 0 => []
  | k + 1 => rp (rp (spl p hg t u a b k ++ [lt1 p hg b (a + k)]) 44 (t (a + k))) 46 (u (a + k))
theorem spl_len {p : Pg} {hg : Bool} {t u : Nat → Nat} {a b n : Nat} (ht : ∀ i, i < n → t i ≤ 8) (hu : ∀ i, i < n → u i ≤ 9) : ∀ k, a + k ≤ n → (spl p hg t u a b k).length ≤ 18 * k
  | 0, _ => Nat.le_refl _
  | k + 1, h => by
    have ih := spl_len (p := p) (hg := hg) (a := a) (b := b) ht hu k (by omega)
    have h1 := ht (a + k) (by omega)
    have h2 := hu (a + k) (by omega)
    rw [spl, rp_len, rp_len, List.length_append]
    show _ + 1 + _ + _ ≤ _
    omega
def spE (p : Pg) (hg : Bool) (t u : Nat → Nat) (a b : Nat) : List Nat := (if lgl p b = true then spl p hg t u a b (b + 1 - a) else spl p hg t u a b (b + 1 - a) ++ [33]) ++ (if pm p b = 1 then [47] else [])
theorem TX_line {S P Y : OV} {aS : Nat → Nat} {tb : Tb} {p : Pg} {kd k : Nat} (hN : aS 98 = 1000) (hY : YR Y tb p kd) (hP : RP P p) (hs : PgS p) (hk : k < LN (EK tb p kd) (pn p)) (ht : ∀ i, i < pn p → tkA tb p kd i ≤ 8) (hu : ∀ i, i < pn p → puA tb p kd i ≤ 9) : ∃ S', f_X9_spellLine aS S P Y (nI k) = some S' ∧ TX S' (spE p (mhung tb p (stt (EK tb p kd) k) (EK tb p kd (stt (EK tb p kd) k))) (tkA tb p kd) (puA tb p kd) (stt (EK tb p kd) k) (EK tb p kd (stt (EK tb p kd) k))) := by
  have h40 := hs.1
  have hE : ∀ a, a ≤ EK tb p kd a := fun a => (EK_in hs kd a).1
  have hn : ∀ a, a < pn p → EK tb p kd a < pn p := fun a => (EK_in hs kd a).2
  obtain ⟨l1, l2, l3⟩ := LN_spec hE hn
  obtain ⟨ab, bn⟩ := stt_ln hE hn hk
  obtain ⟨⟨y0, y1, -, -, -, y5, -, -, -, y9, -⟩, -⟩ := hY.2.2 k hk
  generalize hhg : mhung tb p (stt (EK tb p kd) k) (EK tb p kd (stt (EK tb p kd) k)) = hg at *
  generalize EK tb p kd (stt (EK tb p kd) k) = b at *
  generalize stt (EK tb p kd) k = a at *
  have xk : ix (nI k) 40 = true := ix_nI (by omega) (by decide)
  have ck := nI_clamp (show k < 2 ^ 31 by omega)
  have cb := nI_clamp (show b < 2 ^ 31 by omega)
  have xb : ix (nI b) 40 = true := ix_nI (by omega) (by decide)
  have x0 : ix (0 : Int32) 11 = true := by decide
  have x1 : ix (1 : Int32) 11 = true := by decide
  have x5 : ix (5 : Int32) 11 = true := by decide
  have x9 : ix (9 : Int32) 11 = true := by decide
  have c0 : (0 : Int32).toNatClampNeg = 0 := rfl
  have c1 : (1 : Int32).toNatClampNeg = 1 := rfl
  have c5 : (5 : Int32).toNatClampNeg = 5 := rfl
  have c9 : (9 : Int32).toNatClampNeg = 9 := rfl
  have e5 : (bo hg = (1 : Int32)) = (hg = true) := by cases hg <;> exact propext ⟨fun h => by first | rfl | exact absurd h (by decide), fun h => by first | rfl | cases h⟩
  obtain ⟨S1, e1, h1⟩ := lp_inv (step := s_X9_spellLine_27_6 aS P Y (nI k) (nI b)) (fun i s => ∃ S', s = (nI i, S') ∧ TX S' (spl p hg (tkA tb p kd) (puA tb p kd) a b (i - a))) (fun r => TX r (spl p hg (tkA tb p kd) (puA tb p kd) a b (b + 1 - a))) a (b + 1) (by omega) (by
    rintro i s u1 u2 ⟨S', rfl, h'⟩
    have hin : i < pn p := by omega
    have xi : ix (nI i) 40 = true := ix_nI (by omega) (by decide)
    have ci := nI_clamp (show i < 2 ^ 31 by omega)
    have hlen := spl_len (p := p) (hg := hg) (a := a) (b := b) ht hu (i - a) (by omega)
    have t1 := ht i hin
    have t2 := hu i hin
    obtain ⟨d1, d2⟩ := YR_dealt hY hs hin
    obtain ⟨Sa, ea, ha⟩ := TX_add hN h' (by omega) (lt1 p hg b i)
    have la : (spl p hg (tkA tb p kd) (puA tb p kd) a b (i - a) ++ [lt1 p hg b i]).length = (spl p hg (tkA tb p kd) (puA tb p kd) a b (i - a)).length + 1 := by rw [List.length_append]; rfl
    obtain ⟨Sb, eb, hb⟩ := TX_times hN ha 44 (tkA tb p kd i) (by omega)
    obtain ⟨Sc, ec, hc⟩ := TX_times hN hb 46 (puA tb p kd i) (by rw [rp_len]; omega)
    have eb' : f_X0_addTimes aS Sa (44 : Int32) (nI (tkA tb p kd i)) = some Sb := eb
    have ec' : f_X0_addTimes aS Sb (46 : Int32) (nI (puA tb p kd i)) = some Sc := ec
    have hst : ∀ t, f_X0_add aS S' (nI (ps p i) + t) = some Sa → j_X9_spellLine_84_13 aS P Y S' (nI i) t = some (.inl (nI (i + 1), Sc)) := by
      intro t het
      simp only [j_X9_spellLine_84_13, ci, hP.2.1 i hin, het, Option.bind_some, un1, gd_t xi, d1, d2, eb', ec', bnd, nI_1]
    have s65 : nI (ps p i) + (65 : Int32) = nI (ps p i + 65) := nI_add _ 65
    have s97 : nI (ps p i) + (97 : Int32) = nI (ps p i + 97) := nI_add _ 97
    refine ⟨(nI (i + 1), Sc), ?_, Sc, rfl, ?_⟩
    · simp only [s_X9_spellLine_27_6, un2, nIlt (show b < 2 ^ 31 by omega) (show i < 2 ^ 31 by omega), if_neg (show ¬ b < i by omega), nIe (show i < 2 ^ 31 by omega) (show b < 2 ^ 31 by omega), gd_t x5, gd_t xk, c5, ck, y5, e5, j_X9_spellLine_55_21, j_X9_spellLine_56_10, bnd, gd_t xi]
      unfold lt1 at ea
      by_cases cb : i = b
      · by_cases cg : hg = true
        · rw [if_pos cb, if_pos cg, if_neg (by decide)]
          rw [if_pos ⟨cg, cb⟩, ← s65] at ea
          exact hst _ ea
        · rw [if_pos cb, if_neg cg, if_pos trivial]
          rw [if_neg (fun h => cg h.1), ← s97] at ea
          exact hst _ ea
      · rw [if_neg cb, if_pos trivial]
        rw [if_neg (fun h => cb h.2), ← s97] at ea
        exact hst _ ea
    · rw [show i + 1 - a = (i - a) + 1 by omega, spl, show a + (i - a) = i by omega]
      exact hc) (by
    rintro s ⟨S', rfl, h'⟩
    exact ⟨S', by simp only [s_X9_spellLine_27_6, un2, nIlt (show b < 2 ^ 31 by omega) (show b + 1 < 2 ^ 31 by omega), if_pos (show b < b + 1 by omega)], h'⟩) 5000 (by omega) (nI a, sI S 1 0) ⟨_, rfl, by rw [Nat.sub_self]; exact TX_0 S⟩
  have hlen := spl_len (p := p) (hg := hg) (a := a) (b := b) ht hu (b + 1 - a) (by omega)
  have fin : ∀ S2 l, TX S2 l → l.length < 1000 → ∃ S', j_X9_spellLine_147_26 aS P (nI b) S2 = some S' ∧ TX S' (l ++ (if pm p b = 1 then [47] else [])) := by
    intro S2 l h2 hl
    obtain ⟨S3, e3, h3⟩ := TX_add hN h2 hl 47
    have e3' : f_X0_add aS S2 (47 : Int32) = some S3 := e3
    have z : (nI (pm p b) = (1 : Int32)) = (pm p b = 1) := nIe (by have := (hs.2.1 b bn).2; omega) (by decide)
    simp only [j_X9_spellLine_147_26, gd_t xb, cb, hP.2.2.1 b bn, z, e3', Option.bind_some, un1]
    by_cases c : pm p b = 1
    · rw [if_pos c, if_pos c]; exact ⟨S3, rfl, h3⟩
    · rw [if_neg c, if_neg c, List.append_nil]; exact ⟨S2, rfl, h2⟩
  unfold f_X9_spellLine spE
  simp only [bnd, gd_t x0, gd_t x1, gd_t xk, c0, c1, ck, y0, y1]
  rw [e1, Option.bind_some]
  simp only [un1, gd_t x9, c9, y9, bo_0]
  cases hl : lgl p b
  · obtain ⟨S2, e2, h2⟩ := TX_add hN h1 (by omega) 33
    have e2' : f_X0_add aS S1 (33 : Int32) = some S2 := e2
    rw [if_pos rfl, e2', Option.bind_some, if_neg (by simp)]
    exact fin S2 _ h2 (by rw [List.length_append]; show _ + 1 < _; omega)
  · rw [if_neg (by simp), if_pos rfl]
    exact fin S1 _ h1 (by omega)
