-- river: gaps, runs
theorem sg_up {g : Nat → Nat} {a i : Nat} (h1 : a ≤ i) : ∀ e, i < e → sg (va_up g i (g i + 1)) a e = sg g a e + 1
  | 0, h => absurd h (Nat.not_lt_zero i)
  | e + 1, h => by
    rw [sg_succ (by omega), sg_succ (by omega)]
    by_cases c : i = e
    · subst c
      rw [va_up_self, sg_congr (g := g) i (fun j u1 u2 => va_up_ne _ _ (show j ≠ i by omega))]
      omega
    · rw [sg_up h1 e (by omega), va_up_ne _ _ (show e ≠ i by omega)]
      omega
theorem inn_sum {rm rk : Nat → Nat} {r a e : Nat} : ∀ x g, sg (inn rm rk r a e x g).2 a e + (inn rm rk r a e x g).1 = sg g a e + x := by
  intro x
  induction x with
  | zero => intro g; rfl
  | succ x ih =>
    intro g
    cases ho : lsO rm rk g r a e with
    | none => rw [inn_n ho]
    | some i =>
      have hi := lsO_in e ho
      rw [inn_s ho, ih, sg_up hi.1 e hi.2.1]
      omega
theorem remJ_sum {rm rk : Nat → Nat} {a e : Nat} : ∀ j x g, sg (remJ rm rk a e j x g) a e ≤ sg g a e + x
  | 0, x, g => Nat.le_add_right _ _
  | j + 1, x, g => by
    have h1 := remJ_sum (rm := rm) (rk := rk) (a := a) (e := e) j (inn rm rk (3 - j) a e x g).1 (inn rm rk (3 - j) a e x g).2
    have h2 := inn_sum (rm := rm) (rk := rk) (r := 3 - j) (a := a) (e := e) x g
    rw [remJ]
    omega
theorem pu_sum (tb : Tb) (p : Pg) (a b : Nat) : sg (pu tb p a b) a (b + 1) ≤ mput tb p a b := by
  have h := remJ_sum (rm := rmP tb p b) (rk := fx tb p 8) (a := a) (e := b + 1) 3 (mput tb p a b) (fun _ => 0)
  have z : sg (fun _ => 0) a (b + 1) = 0 := Nat.le_zero.1 (by have := sg_le (f := fun _ => 0) (c := 0) (a := a) (b + 1) (fun _ _ _ => Nat.le_refl _); omega)
  have e : sg (pu tb p a b) a (b + 1) = sg (remJ (rmP tb p b) (fx tb p 8) a (b + 1) 3 (mput tb p a b) (fun _ => 0)) a (b + 1) := rfl
  rw [e]
  omega
theorem sg_ge {f : Nat → Nat} {a i b : Nat} (h1 : a ≤ i) (h2 : i < b) : sg f a i + f i ≤ sg f a b := by
  rw [← sg_succ h1]
  exact sg_mono (by omega)
theorem gap_80 {tb : Tb} {p : Pg} (hs : PgS p) (hT : TbS tb) (hpt : PgT tb p) {a b i : Nat} (hb : b < pn p) (h1 : a ≤ i) (h2 : i < b) (hu : 0 < pu tb p a b i) : sg (fun j => fx tb p 0 j - tk tb p a b j + pu tb p a b j) a b ≤ 80 := by
  have q1 := pu_sum tb p a b
  have q2 := sg_ge (f := pu tb p a b) h1 (show i < b + 1 by omega)
  have q3 : sg (pu tb p a b) a b ≤ sg (pu tb p a b) a (b + 1) := sg_mono (by omega)
  have m1 : mput tb p a b ≤ msL tb p a b := Nat.sub_le _ _
  have d80 := hs.2.2.2.1
  have hL : msL tb p a b = pd p - msA tb p a b := by
    unfold msL at m1 ⊢
    by_cases c : b + 1 < pn p
    · rw [if_pos c]
    · rw [if_neg c] at m1; omega
  have hM : msM tb p a b = 0 := by unfold msM; omega
  have ht : mtake tb p a b = 0 := by unfold mtake; rw [hM]; split <;> rfl
  have tz : ∀ j, tk tb p a b j = 0 := fun j => by unfold tk; rw [ht, remJ_0]
  have e1 : sg (fun j => fx tb p 0 j - tk tb p a b j + pu tb p a b j) a b = sg (fx tb p 0) a b + sg (pu tb p a b) a b := by
    rw [← sg_add]
    exact sg_congr b (fun j _ _ => by rw [tz j, Nat.sub_zero])
  have lb := (hs.2.1 b hb).1
  have tt := (hT _ lb).2.2.2.2.2.2.2 (hpt b hb)
  have t4 : fx tb p 4 b < fx tb p 0 b := tt.1
  have hA : sg (fx tb p 0) a b ≤ msA tb p a b := by
    unfold msA
    split
    · exact Nat.le_refl _
    · unfold msN sg
      rw [sm]
      have := sm_mono (f := fx tb p 0) (show a ≤ b by omega)
      omega
  rw [e1]
  omega
def wN (tb : Tb) (p : Pg) (kd j : Nat) : Nat := fx tb p 0 j - tkA tb p kd j + puA tb p kd j
theorem tkA_w {tb : Tb} {p : Pg} (hs : PgS p) (hT : TbS tb) (hpt : PgT tb p) (kd : Nat) {i : Nat} (hi : i < pn p) : tkA tb p kd i ≤ fx tb p 0 i ∧ wN tb p kd i ≤ 18 ∧ puA tb p kd i ≤ wN tb p kd i := by
  have l0 := (hs.2.1 i hi).1
  have t0 : fx tb p 0 i ≤ 9 := (hT _ l0).1
  have tt := (hT _ l0).2.2.2.2.2.2.2 (hpt i hi)
  have t5 : fx tb p 5 i < fx tb p 0 i := tt.2.1
  have h8 := (tkA_8 hs hT kd hi).2
  have ht : tkA tb p kd i ≤ fx tb p 5 i := by
    unfold tkA
    refine Nat.le_trans (tk_le _ _ _ _ _) ?_
    unfold rmT
    split
    · exact Nat.le_refl _
    · split <;> omega
  unfold wN
  omega
theorem adv_nI {tb : Tb} {p : Pg} (hs : PgS p) (hT : TbS tb) (hpt : PgT tb p) (kd : Nat) {i : Nat} (hi : i < pn p) : adv tb p kd i = nI (wN tb p kd i) := by
  unfold adv wN
  rw [nI_sub (tkA_w hs hT hpt kd hi).1, nI_add]
theorem iS_nI {g : Nat → Int32} {f : Nat → Nat} {a n : Nat} (h : ∀ j, a ≤ j → j < n → g j = nI (f j)) : ∀ i, i ≤ n → iS g a i = nI (sg f a i)
  | 0, _ => by rw [sg_0 (Nat.zero_le a)]; rfl
  | i + 1, hi => by
    by_cases c : a ≤ i
    · rw [iS_s c, sg_succ c, iS_nI h i (by omega), h i c (by omega), nI_add]
    · rw [iS_n (i + 1) (by omega), sg_0 (by omega)]; rfl
/-- whether a gap lies over a place -/
def gpB (w u : Nat → Nat) (a x : Nat) : Nat → Bool
  | 0 => false
  | m + 1 => if a ≤ m ∧ sg w a (m + 1) ≤ x + u m ∧ x < sg w a (m + 1) then true else gpB w u a x m
theorem gpB_iff {w u : Nat → Nat} {a x : Nat} : ∀ m, gpB w u a x m = true ↔ ∃ j, a ≤ j ∧ j < m ∧ sg w a (j + 1) ≤ x + u j ∧ x < sg w a (j + 1)
  | 0 => ⟨fun h => Bool.noConfusion h, fun ⟨j, _, h, _⟩ => absurd h (Nat.not_lt_zero j)⟩
  | m + 1 => by
    rw [gpB]
    by_cases c : a ≤ m ∧ sg w a (m + 1) ≤ x + u m ∧ x < sg w a (m + 1)
    · rw [if_pos c]
      exact ⟨fun _ => ⟨m, c.1, by omega, c.2⟩, fun _ => rfl⟩
    · rw [if_neg c, gpB_iff m]
      constructor
      · rintro ⟨j, h1, h2, h3⟩
        exact ⟨j, h1, by omega, h3⟩
      · rintro ⟨j, h1, h2, h3⟩
        by_cases d : j = m
        · subst d; exact absurd ⟨h1, h3⟩ c
        · exact ⟨j, h1, by omega, h3⟩
def mxr (F : Nat → Nat) (s : Nat) : Nat → Nat
  | 0 => 0
  | m + 1 => if s ≤ m then max (mxr F s m) (F m) else 0
theorem mxr_s {F : Nat → Nat} {s m : Nat} (h : s ≤ m) : mxr F s (m + 1) = max (mxr F s m) (F m) := by rw [mxr, if_pos h]
theorem mxr_n {F : Nat → Nat} {s : Nat} : ∀ m, m ≤ s → mxr F s m = 0
  | 0, _ => rfl
  | m + 1, h => by rw [mxr, if_neg (by omega)]
theorem mxr_cat {F : Nat → Nat} {s : Nat} : ∀ e, s ≤ e → max (mxr F 0 s) (mxr F s e) = mxr F 0 e
  | 0, h => by rw [show s = 0 by omega]; rfl
  | e + 1, h => by
    by_cases c : s ≤ e
    · rw [mxr_s c, mxr_s (Nat.zero_le e), ← mxr_cat e c]
      omega
    · rw [show s = e + 1 by omega, mxr_n (s := e + 1) (e + 1) (Nat.le_refl _)]
      omega
theorem mxr_z {F : Nat → Nat} {s : Nat} : ∀ e, (∀ x, s ≤ x → x < e → F x = 0) → mxr F s e = 0
  | 0, _ => rfl
  | e + 1, h => by
    rw [mxr]
    split
    · rw [mxr_z e (fun x a b => h x a (by omega)), h e (by assumption) (by omega)]
      rfl
    · rfl
theorem mxr_congr {F G : Nat → Nat} {s : Nat} : ∀ e, (∀ x, s ≤ x → x < e → F x = G x) → mxr F s e = mxr G s e
  | 0, _ => rfl
  | e + 1, h => by
    rw [mxr, mxr]
    split
    · rw [mxr_congr e (fun x a b => h x a (by omega)), h e (by assumption) (by omega)]
    · rfl
theorem mxr_le {F : Nat → Nat} {s c : Nat} (h : ∀ x, F x ≤ c) : ∀ e, mxr F s e ≤ c
  | 0 => Nat.zero_le _
  | e + 1 => by
    have := mxr_le (s := s) h e
    have := h e
    rw [mxr]
    split <;> omega
/-- the runs behind a line -/
def nxF (w u : Nat → Nat) (a b : Nat) (f : Nat → Nat) (x : Nat) : Nat := if gpB w u a x b = true then f x + 1 else 0
-- the class
def KY (Y Y' : OV) : Prop := (∀ k, k ≠ 5 → ar Y' k = ar Y k) ∧ (∀ q i, gr Y' q i = gr Y q i) ∧ ∀ k, iv Y' k = iv Y k
theorem KY_rf (Y : OV) : KY Y Y := ⟨fun _ _ => rfl, fun _ _ => rfl, fun _ => rfl⟩
theorem KY_tr {Y Y' Y'' : OV} (h : KY Y Y') (h2 : KY Y' Y'') : KY Y Y'' := ⟨fun k hk => (h2.1 k hk).trans (h.1 k hk), fun q i => (h2.2.1 q i).trans (h.2.1 q i), fun k => (h2.2.2 k).trans (h.2.2 k)⟩
theorem KY_A (Y : OV) (j : Nat) (x : Int32) : KY Y (sA Y 5 j x) := ⟨fun k hk => by rw [arA, if_neg hk], fun _ _ => rfl, fun _ => rfl⟩
theorem YR_KY {Y Y' : OV} {tb : Tb} {p : Pg} {kd : Nat} (h : YR Y tb p kd) (k : KY Y Y') : YR Y' tb p kd := by
  obtain ⟨h1, h2, h3⟩ := h
  refine ⟨by rw [k.2.2]; exact h1, by rw [k.2.2]; exact h2, fun j hj => ?_⟩
  obtain ⟨a1, a2⟩ := h3 j hj
  refine ⟨?_, fun i u1 u2 => ?_⟩
  · unfold YL
    rw [k.2.1, k.2.1, k.2.1, k.2.1, k.2.1, k.2.1, k.2.1, k.2.1, k.2.1, k.2.1, k.2.1]
    exact a1
  · rw [k.1 1 (by decide), k.1 2 (by decide)]
    exact a2 i u1 u2
theorem Y_dry {Y : OV} {s e : Nat} (hse : s ≤ e) (he : e ≤ 80) : ∃ Y', f_X3_dryUp Y (nI s) (nI e) = some Y' ∧ KY Y Y' ∧ ∀ x, ar Y' 5 x = if s ≤ x ∧ x < e then 0 else ar Y 5 x := by
  have z1 : (if (80 : Int32) < nI e then (80 : Int32) else nI e) = nI e := if_neg (by rw [show ((80 : Int32) < nI e) = (80 < e) from nIlt (a := 80) (by decide) (by omega)]; omega)
  have z0 : (if nI s < (0 : Int32) then (0 : Int32) else nI s) = nI s := if_neg (nI_pos (by omega))
  obtain ⟨r, e1, h1, h2⟩ := lp_inv (step := s_X3_dryUp_6_2 (nI e)) (fun i t => ∃ Y', t = (nI i, Y') ∧ KY Y Y' ∧ ∀ x, ar Y' 5 x = if s ≤ x ∧ x < i then 0 else ar Y 5 x) (fun Y' => KY Y Y' ∧ ∀ x, ar Y' 5 x = if s ≤ x ∧ x < e then 0 else ar Y 5 x) s e hse (by
    rintro i t a1 a2 ⟨Y', rfl, k, h⟩
    have xi : ix (nI i) 80 = true := ix_nI (by omega) (by decide)
    have ci := nI_clamp (show i < 2 ^ 31 by omega)
    refine ⟨(nI (i + 1), sA Y' 5 i 0), ?_, _, rfl, KY_tr k (KY_A _ _ _), fun x => ?_⟩
    · simp only [s_X3_dryUp_6_2, un2, z1, nIle (show e < 2 ^ 31 by omega) (show i < 2 ^ 31 by omega), if_neg (show ¬ e ≤ i by omega), gd_t xi, ci, bnd_e, nI_1]
    · rw [arA, if_pos rfl, updE]
      by_cases c : x = i
      · rw [if_pos c, if_pos (by omega)]
      · rw [if_neg c, h x]
        by_cases d : s ≤ x ∧ x < i
        · rw [if_pos d, if_pos (by omega)]
        · rw [if_neg d, if_neg (by omega)]) (by
    rintro t ⟨Y', rfl, k, h⟩
    exact ⟨Y', by simp only [s_X3_dryUp_6_2, un2, z1, if_pos (Int32.le_refl _)], k, h⟩) 5000 (by omega) (nI s, Y) ⟨Y, rfl, KY_rf Y, fun x => by rw [if_neg (by omega)]⟩
  refine ⟨r, ?_, h1, h2⟩
  unfold f_X3_dryUp
  rw [z0, bnd_e, e1, Option.bind_some]
  rfl
theorem nI_max {a b : Nat} (ha : a < 2 ^ 31) (hb : b < 2 ^ 31) : (if nI a < nI b then nI b else nI a) = nI (max a b) := by
  simp only [nIlt ha hb]
  by_cases c : a < b
  · rw [if_pos c, Nat.max_eq_right (by omega)]
  · rw [if_neg c, Nat.max_eq_left (by omega)]
theorem Y_flow {Y : OV} {f : Nat → Nat} {s e : Nat} (hse : s ≤ e) (he : e ≤ 80) (hf : ∀ x, s ≤ x → x < e → ar Y 5 x = nI (f x)) (h100 : ∀ x, f x ≤ 100) : ∃ Y', f_X3_flowOn Y (nI s) (nI e) = some (nI (mxr (fun x => f x + 1) s e), Y') ∧ KY Y Y' ∧ ∀ x, ar Y' 5 x = if s ≤ x ∧ x < e then nI (f x + 1) else ar Y 5 x := by
  have z1 : (if (80 : Int32) < nI e then (80 : Int32) else nI e) = nI e := if_neg (by rw [show ((80 : Int32) < nI e) = (80 < e) from nIlt (a := 80) (by decide) (by omega)]; omega)
  have z0 : (if nI s < (0 : Int32) then (0 : Int32) else nI s) = nI s := if_neg (nI_pos (by omega))
  obtain ⟨r, e1, Y2, rfl, h1, h2⟩ := lp_inv (step := s_X3_flowOn_9_3 (nI e)) (fun i t => ∃ Y', t = (nI (mxr (fun x => f x + 1) s i), nI i, Y') ∧ KY Y Y' ∧ ∀ x, ar Y' 5 x = if s ≤ x ∧ x < i then nI (f x + 1) else ar Y 5 x) (fun r => ∃ Y', r = (nI (mxr (fun x => f x + 1) s e), Y') ∧ KY Y Y' ∧ ∀ x, ar Y' 5 x = if s ≤ x ∧ x < e then nI (f x + 1) else ar Y 5 x) s e hse (by
    rintro i t a1 a2 ⟨Y', rfl, k, h⟩
    have xi : ix (nI i) 80 = true := ix_nI (by omega) (by decide)
    have ci := nI_clamp (show i < 2 ^ 31 by omega)
    have hi : ar Y' 5 i = nI (f i) := by rw [h i, if_neg (by omega)]; exact hf i a1 a2
    have b1 := h100 i
    have b2 := mxr_le (F := fun x => f x + 1) (s := s) (c := 101) (fun x => by have := h100 x; show f x + 1 ≤ 101; omega) i
    obtain ⟨Y2, hY2⟩ : ∃ X, X = sA Y' 5 i (nI (f i + 1)) := ⟨_, rfl⟩
    have g5 : ar Y2 5 i = nI (f i + 1) := by rw [hY2, arA, if_pos rfl, updE, if_pos rfl]
    refine ⟨(nI (mxr (fun x => f x + 1) s (i + 1)), nI (i + 1), Y2), ?_, _, rfl, KY_tr k (by rw [hY2]; exact KY_A _ _ _), fun x => ?_⟩
    · simp only [s_X3_flowOn_9_3, un3, z1, nIle (show e < 2 ^ 31 by omega) (show i < 2 ^ 31 by omega), if_neg (show ¬ e ≤ i by omega), gd_t xi, ci, bnd_e, hi, nI_1, ← hY2, g5]
      rw [nI_max (by omega) (by omega), mxr_s a1]
    · rw [hY2, arA, if_pos rfl, updE]
      by_cases c : x = i
      · rw [if_pos c, if_pos (by omega), c]
      · rw [if_neg c, h x]
        by_cases d : s ≤ x ∧ x < i
        · rw [if_pos d, if_pos (by omega)]
        · rw [if_neg d, if_neg (by omega)]) (by
    rintro t ⟨Y', rfl, k, h⟩
    exact ⟨(nI (mxr (fun x => f x + 1) s e), Y'), by simp only [s_X3_flowOn_9_3, un3, z1, if_pos (Int32.le_refl _)], Y', rfl, k, h⟩) 5000 (by omega) (0, nI s, Y) ⟨Y, by rw [mxr_n s (Nat.le_refl _)]; rfl, KY_rf Y, fun x => by rw [if_neg (by omega)]⟩
  refine ⟨Y2, ?_, h1, h2⟩
  unfold f_X3_flowOn
  rw [z0]
  simp only [bnd_e]
  rw [e1, Option.bind_some]
  rfl
