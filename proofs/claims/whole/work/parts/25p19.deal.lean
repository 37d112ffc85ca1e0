-- units dealt one by one: to the place where least is
def lsB (g : Nat → Nat) (o : Option Nat) (c : Nat) : Bool :=
  match o with
  | none => true
  | some k => decide (g c < g k)
def lsP (rm rk g : Nat → Nat) (r : Nat) (o : Option Nat) (c : Nat) : Option Nat := if rk c = r ∧ g c < rm c ∧ lsB g o c = true then some c else o
def lsO (rm rk g : Nat → Nat) (r a : Nat) : Nat → Option Nat
  | 0 => none
  | c + 1 => if a ≤ c then lsP rm rk g r (lsO rm rk g r a c) c else none
theorem lsO_s {rm rk g : Nat → Nat} {r a c : Nat} (h : a ≤ c) : lsO rm rk g r a (c + 1) = lsP rm rk g r (lsO rm rk g r a c) c := by rw [lsO, if_pos h]
theorem lsO_n {rm rk g : Nat → Nat} {r a : Nat} : ∀ c, c ≤ a → lsO rm rk g r a c = none
  | 0, _ => rfl
  | c + 1, h => by rw [lsO, if_neg (by omega)]
theorem lsO_in {rm rk g : Nat → Nat} {r a k : Nat} : ∀ c, lsO rm rk g r a c = some k → a ≤ k ∧ k < c ∧ g k < rm k
  | 0, h => by cases h
  | c + 1, h => by
    rcases Nat.lt_or_ge c a with h1 | h1
    · rw [lsO_n _ (by omega)] at h; cases h
    · rw [lsO_s h1] at h
      unfold lsP at h
      split at h
      · cases h
        rename_i q
        exact ⟨h1, by omega, q.2.1⟩
      · obtain ⟨u1, u2, u3⟩ := lsO_in c h
        exact ⟨u1, by omega, u3⟩
theorem lsO_congr {rm rk g rm' rk' g' : Nat → Nat} {r a : Nat} : ∀ c, (∀ i, a ≤ i → i < c → rm i = rm' i ∧ rk i = rk' i ∧ g i = g' i) → lsO rm rk g r a c = lsO rm' rk' g' r a c
  | 0, _ => rfl
  | c + 1, h => by
    rcases Nat.lt_or_ge c a with h1 | h1
    · rw [lsO_n _ (by omega), lsO_n _ (by omega)]
    · have ih := lsO_congr (rm := rm) (rk := rk) (g := g) (rm' := rm') (rk' := rk') (g' := g') (r := r) (a := a) c (fun i u1 u2 => h i u1 (by omega))
      obtain ⟨e1, e2, e3⟩ := h c h1 (by omega)
      rw [lsO_s h1, lsO_s h1, ← ih]
      unfold lsP
      rw [e1, e2, e3]
      have e4 : lsB g (lsO rm rk g r a c) c = lsB g' (lsO rm rk g r a c) c := by
        cases ho : lsO rm rk g r a c with
        | none => rfl
        | some k =>
          have := lsO_in c ho
          simp only [lsB]
          rw [e3, (h k this.1 (by omega)).2.2]
      rw [e4]
def inn (rm rk : Nat → Nat) (r a e : Nat) : Nat → (Nat → Nat) → Nat × (Nat → Nat)
  | 0, g => (0, g)
  | x + 1, g => match lsO rm rk g r a e with
    | none => (x + 1, g)
    | some i => inn rm rk r a e x (va_up g i (g i + 1))
def remJ (rm rk : Nat → Nat) (a e : Nat) : Nat → Nat → (Nat → Nat) → Nat → Nat
  | 0, _, g => g
  | j + 1, x, g => remJ rm rk a e j (inn rm rk (3 - j) a e x g).1 (inn rm rk (3 - j) a e x g).2
theorem inn_n {rm rk g : Nat → Nat} {r a e x : Nat} (h : lsO rm rk g r a e = none) : inn rm rk r a e x g = (x, g) := by
  cases x with
  | zero => rfl
  | succ x => simp only [inn, h]
theorem inn_s {rm rk g : Nat → Nat} {r a e x i : Nat} (h : lsO rm rk g r a e = some i) : inn rm rk r a e (x + 1) g = inn rm rk r a e x (va_up g i (g i + 1)) := by
  simp only [inn, h]
theorem remJ_0 {rm rk g : Nat → Nat} {a e : Nat} : ∀ j, remJ rm rk a e j 0 g = g
  | 0 => rfl
  | j + 1 => by simp only [remJ, inn]; exact remJ_0 j
theorem remJ_n {rm rk g : Nat → Nat} {a e j x : Nat} (h : lsO rm rk g (3 - j) a e = none) : remJ rm rk a e (j + 1) x g = remJ rm rk a e j x g := by
  rw [remJ, inn_n h]
theorem remJ_s {rm rk g : Nat → Nat} {a e j x i : Nat} (h : lsO rm rk g (3 - j) a e = some i) : remJ rm rk a e (j + 1) (x + 1) g = remJ rm rk a e (j + 1) x (va_up g i (g i + 1)) := by
  rw [remJ, inn_s h, remJ]
theorem up_le {g : Nat → Nat} {i : Nat} (h : ∀ k, g k ≤ 9) (hi : g i < 9) : ∀ k, va_up g i (g i + 1) k ≤ 9 := by
  intro k
  unfold va_up
  split
  · omega
  · exact h k

/-- the class's rows for a dealing -/
theorem Y_least1 {Y : OV} {rm rk g : Nat → Nat} {a b r : Nat} (hb : b < 40) (hab : a ≤ b) (hrow : ∀ i, a ≤ i → i ≤ b → ar Y 3 i = nI (rm i) ∧ ar Y 4 i = nI (rk i) ∧ ar Y 1 i = nI (g i)) (bd : ∀ i, a ≤ i → i ≤ b → rm i ≤ 9 ∧ rk i ≤ 3) (bg : ∀ i, g i ≤ 9) (hr : r ≤ 3) : f_X3_leastOf_1 Y (nI r) (nI a) (nI b) = some (enc (lsO rm rk g r a (b + 1))) := by
  have hstep : ∀ c, a ≤ c → c < b + 1 → s_X3_leastOf_1_6_3 Y (nI r) (nI b) ((fun c => (enc (lsO rm rk g r a c), nI c)) c) = some (.inl ((fun c => (enc (lsO rm rk g r a c), nI c)) (c + 1))) := by
    intro c h1 h2
    obtain ⟨e3, e4, e1⟩ := hrow c h1 (by omega)
    have bc := bd c h1 (by omega)
    have gc := bg c
    have xc : ix (nI c) 40 = true := ix_nI (by omega) (by decide)
    have cc := nI_clamp (show c < 2 ^ 31 by omega)
    show s_X3_leastOf_1_6_3 Y (nI r) (nI b) (enc (lsO rm rk g r a c), nI c) = some (.inl (enc (lsO rm rk g r a (c + 1)), nI (c + 1)))
    rw [lsO_s h1]
    cases ho : lsO rm rk g r a c with
    | none =>
      simp only [s_X3_leastOf_1_6_3, un2, nIlt (show b < 2 ^ 31 by omega) (show c < 2 ^ 31 by omega), if_neg (show ¬ b < c by omega), gd_t xc, cc, e3, e4, e1, nIe (show rk c < 2 ^ 31 by omega) (show r < 2 ^ 31 by omega), nIle (show rm c < 2 ^ 31 by omega) (show g c < 2 ^ 31 by omega), j_X3_leastOf_1_59_7, j_X3_leastOf_1_55_9, bnd, nI_1, enc_n, if_true, lsP, lsB]
      by_cases c1 : rk c = r <;> by_cases c2 : rm c ≤ g c
      · simp [c1, c2, show ¬ g c < rm c by omega, enc_n]
      · simp [c1, c2, show g c < rm c by omega, enc_s]
      · simp [c1, enc_n]
      · simp [c1, enc_n]
    | some k =>
      have hk := lsO_in c ho
      obtain ⟨-, -, k1⟩ := hrow k hk.1 (by omega)
      have gk := bg k
      have xk : ix (nI k) 40 = true := ix_nI (by omega) (by decide)
      have ck := nI_clamp (show k < 2 ^ 31 by omega)
      simp only [s_X3_leastOf_1_6_3, un2, nIlt (show b < 2 ^ 31 by omega) (show c < 2 ^ 31 by omega), if_neg (show ¬ b < c by omega), gd_t xc, cc, e3, e4, e1, nIe (show rk c < 2 ^ 31 by omega) (show r < 2 ^ 31 by omega), nIle (show rm c < 2 ^ 31 by omega) (show g c < 2 ^ 31 by omega), j_X3_leastOf_1_59_7, j_X3_leastOf_1_55_9, bnd, nI_1, enc_s, if_neg (nI_ne1 (show k < 2 ^ 31 by omega)), gd_t xk, ck, k1, nIle (show g k < 2 ^ 31 by omega) (show g c < 2 ^ 31 by omega), lsP, lsB]
      by_cases c1 : rk c = r <;> by_cases c2 : rm c ≤ g c <;> by_cases c3 : g k ≤ g c
      · simp [c1, c2, show ¬ g c < rm c by omega, enc_s]
      · simp [c1, c2, show ¬ g c < rm c by omega, enc_s]
      · simp [c1, c2, c3, show ¬ g c < g k by omega, enc_s]
      · simp [c1, c2, c3, show g c < rm c by omega, show g c < g k by omega, enc_s]
      all_goals simp [c1, enc_s]
  have hend : s_X3_leastOf_1_6_3 Y (nI r) (nI b) ((fun c => (enc (lsO rm rk g r a c), nI c)) (b + 1)) = some (.inr (enc (lsO rm rk g r a (b + 1)))) := by
    simp only [s_X3_leastOf_1_6_3, un2, nIlt (show b < 2 ^ 31 by omega) (show b + 1 < 2 ^ 31 by omega), if_pos (show b < b + 1 by omega)]
  have h := lp_for (step := s_X3_leastOf_1_6_3 Y (nI r) (nI b)) (fun c => (enc (lsO rm rk g r a c), nI c)) a (b + 1) (by omega) hstep hend 5000 (by omega)
  rw [show enc (lsO rm rk g r a a) = -1 by rw [lsO_n a (Nat.le_refl _)]; rfl] at h
  unfold f_X3_leastOf_1
  simp only [bnd, h, Option.bind_some, un1]
theorem Y_deal1 {Y : OV} {rm rk g : Nat → Nat} {a b x : Nat} (hb : b < 40) (hab : a ≤ b) (hrow : ∀ i, a ≤ i → i ≤ b → ar Y 3 i = nI (rm i) ∧ ar Y 4 i = nI (rk i) ∧ ar Y 1 i = nI (g i)) (bd : ∀ i, a ≤ i → i ≤ b → rm i ≤ 9 ∧ rk i ≤ 3) (bg : ∀ i, g i ≤ 9) (hx : x ≤ 1000) : ∃ f, f_X3_deal_1 Y (nI x) (nI a) (nI b) = some (sW Y 1 f) ∧ (∀ i, a ≤ i → i ≤ b → f i = nI (remJ rm rk a (b + 1) 3 x g i)) ∧ ∀ i, i < a ∨ b < i → f i = ar Y 1 i := by
  obtain ⟨r, e, hr⟩ := lp_rule (step := s_X3_deal_1_6_3 (nI a) (nI b)) (fun s => ∃ j x' g' f, j ≤ 3 ∧ x' ≤ 1000 ∧ s = (nI (4 - j), nI x', sW Y 1 f) ∧ (∀ i, a ≤ i → i ≤ b → f i = nI (g' i)) ∧ (∀ i, i < a ∨ b < i → f i = ar Y 1 i) ∧ (∀ i, g' i ≤ 9) ∧ remJ rm rk a (b + 1) j x' g' = remJ rm rk a (b + 1) 3 x g) (fun s => s.2.1.toNatClampNeg + (4 - s.1.toNatClampNeg)) (fun r => ∃ f, r = sW Y 1 f ∧ (∀ i, a ≤ i → i ≤ b → f i = nI (remJ rm rk a (b + 1) 3 x g i)) ∧ ∀ i, i < a ∨ b < i → f i = ar Y 1 i) (by
    rintro s ⟨j, x', g', f, hj, hx', rfl, hf, hfo, bg', hrem⟩
    have cr := nI_clamp (show 4 - j < 2 ^ 31 by omega)
    have cx := nI_clamp (show x' < 2 ^ 31 by omega)
    have ex : (nI x' ≤ (0 : Int32)) = (x' ≤ 0) := nIle (by omega) (by decide)
    have e3 : ((3 : Int32) < nI (4 - j)) = (3 < 4 - j) := nIlt (by decide) (by omega)
    simp only [s_X3_deal_1_6_3, un3, ex, e3]
    by_cases c1 : x' ≤ 0
    · right
      have : x' = 0 := by omega
      subst this
      rw [remJ_0] at hrem
      exact ⟨_, if_pos c1, f, rfl, fun i u1 u2 => by rw [hf i u1 u2, hrem], hfo⟩
    · rw [if_neg c1]
      by_cases c2 : 3 < 4 - j
      · right
        have : j = 0 := by omega
        subst this
        exact ⟨_, if_pos c2, f, rfl, fun i u1 u2 => by rw [hf i u1 u2, ← hrem]; rfl, hfo⟩
      · left
        rw [if_neg c2]
        obtain ⟨q, rfl⟩ : ∃ q, j = q + 1 := ⟨j - 1, by omega⟩
        have hl := Y_least1 (Y := sW Y 1 f) (rm := rm) (rk := rk) (g := g') (a := a) (b := b) (r := 4 - (q + 1)) hb hab (fun i u1 u2 => by
          rw [arW, arW, arW, if_neg (by decide), if_neg (by decide), if_pos rfl]
          exact ⟨(hrow i u1 u2).1, (hrow i u1 u2).2.1, hf i u1 u2⟩) bd bg' (by omega)
        rw [show 4 - (q + 1) = 3 - q by omega] at hl ⊢
        simp only [hl, Option.bind_some, un1, bnd, j_X3_deal_1_52_13]
        cases ho : lsO rm rk g' (3 - q) a (b + 1) with
        | none =>
          simp only [enc_n, if_true, nI_1]
          refine ⟨_, rfl, ⟨q, x', g', f, by omega, hx', by rw [show 3 - q + 1 = 4 - q by omega], hf, hfo, bg', by rw [← hrem, remJ_n ho]⟩, ?_⟩
          simp only [nI_clamp (show 3 - q + 1 < 2 ^ 31 by omega), nI_clamp (show 3 - q < 2 ^ 31 by omega), cx]
          omega
        | some i =>
          have hi := lsO_in _ ho
          have xi : ix (nI i) 40 = true := ix_nI (by omega) (by decide)
          have ci := nI_clamp (show i < 2 ^ 31 by omega)
          have bi := bd i hi.1 (by omega)
          obtain ⟨y, rfl⟩ : ∃ y, x' = y + 1 := ⟨x' - 1, by omega⟩
          simp only [enc_s, if_neg (nI_ne1 (show i < 2 ^ 31 by omega)), gd_t xi, ci, arW, if_true, hf i hi.1 (by omega), nI_1, sA_W, add_m1, nI_pred]
          refine ⟨_, rfl, ⟨q + 1, y, va_up g' i (g' i + 1), _, hj, by omega, by rw [show 4 - (q + 1) = 3 - q by omega], fun k u1 u2 => ?_, fun k u => ?_, up_le bg' (by omega), by rw [← hrem, remJ_s ho]⟩, ?_⟩
          · simp only [updE, va_up]
            split
            · rfl
            · exact hf k u1 u2
          · rw [updE, if_neg (by omega)]
            exact hfo k u
          · simp only [nI_clamp (show 3 - q < 2 ^ 31 by omega), nI_clamp (show y < 2 ^ 31 by omega), nI_clamp (show y + 1 < 2 ^ 31 by omega)]
            omega) 5000 (nI (4 - 3), nI x, Y) ⟨3, x, g, ar Y 1, by omega, hx, by rw [sW_self], fun i u1 u2 => (hrow i u1 u2).2.2, fun i _ => rfl, bg, rfl⟩ (by
    simp only [nI_clamp (show 4 - 3 < 2 ^ 31 by omega), nI_clamp (show x < 2 ^ 31 by omega)]
    omega)
  obtain ⟨f, rfl, h1, h2⟩ := hr
  refine ⟨f, ?_, h1, h2⟩
  unfold f_X3_deal_1
  simp only [bnd]
  rw [show lp (s_X3_deal_1_6_3 (nI a) (nI b)) 5000 (1, nI x, Y) = some (sW Y 1 f) from e]
  rfl

/-- the class's rows for a dealing -/
theorem Y_least2 {Y : OV} {rm rk g : Nat → Nat} {a b r : Nat} (hb : b < 40) (hab : a ≤ b) (hrow : ∀ i, a ≤ i → i ≤ b → ar Y 3 i = nI (rm i) ∧ ar Y 4 i = nI (rk i) ∧ ar Y 2 i = nI (g i)) (bd : ∀ i, a ≤ i → i ≤ b → rm i ≤ 9 ∧ rk i ≤ 3) (bg : ∀ i, g i ≤ 9) (hr : r ≤ 3) : f_X3_leastOf_2 Y (nI r) (nI a) (nI b) = some (enc (lsO rm rk g r a (b + 1))) := by
  have hstep : ∀ c, a ≤ c → c < b + 1 → s_X3_leastOf_2_6_3 Y (nI r) (nI b) ((fun c => (enc (lsO rm rk g r a c), nI c)) c) = some (.inl ((fun c => (enc (lsO rm rk g r a c), nI c)) (c + 1))) := by
    intro c h1 h2
    obtain ⟨e3, e4, e1⟩ := hrow c h1 (by omega)
    have bc := bd c h1 (by omega)
    have gc := bg c
    have xc : ix (nI c) 40 = true := ix_nI (by omega) (by decide)
    have cc := nI_clamp (show c < 2 ^ 31 by omega)
    show s_X3_leastOf_2_6_3 Y (nI r) (nI b) (enc (lsO rm rk g r a c), nI c) = some (.inl (enc (lsO rm rk g r a (c + 1)), nI (c + 1)))
    rw [lsO_s h1]
    cases ho : lsO rm rk g r a c with
    | none =>
      simp only [s_X3_leastOf_2_6_3, un2, nIlt (show b < 2 ^ 31 by omega) (show c < 2 ^ 31 by omega), if_neg (show ¬ b < c by omega), gd_t xc, cc, e3, e4, e1, nIe (show rk c < 2 ^ 31 by omega) (show r < 2 ^ 31 by omega), nIle (show rm c < 2 ^ 31 by omega) (show g c < 2 ^ 31 by omega), j_X3_leastOf_2_59_7, j_X3_leastOf_2_55_9, bnd, nI_1, enc_n, if_true, lsP, lsB]
      by_cases c1 : rk c = r <;> by_cases c2 : rm c ≤ g c
      · simp [c1, c2, show ¬ g c < rm c by omega, enc_n]
      · simp [c1, c2, show g c < rm c by omega, enc_s]
      · simp [c1, enc_n]
      · simp [c1, enc_n]
    | some k =>
      have hk := lsO_in c ho
      obtain ⟨-, -, k1⟩ := hrow k hk.1 (by omega)
      have gk := bg k
      have xk : ix (nI k) 40 = true := ix_nI (by omega) (by decide)
      have ck := nI_clamp (show k < 2 ^ 31 by omega)
      simp only [s_X3_leastOf_2_6_3, un2, nIlt (show b < 2 ^ 31 by omega) (show c < 2 ^ 31 by omega), if_neg (show ¬ b < c by omega), gd_t xc, cc, e3, e4, e1, nIe (show rk c < 2 ^ 31 by omega) (show r < 2 ^ 31 by omega), nIle (show rm c < 2 ^ 31 by omega) (show g c < 2 ^ 31 by omega), j_X3_leastOf_2_59_7, j_X3_leastOf_2_55_9, bnd, nI_1, enc_s, if_neg (nI_ne1 (show k < 2 ^ 31 by omega)), gd_t xk, ck, k1, nIle (show g k < 2 ^ 31 by omega) (show g c < 2 ^ 31 by omega), lsP, lsB]
      by_cases c1 : rk c = r <;> by_cases c2 : rm c ≤ g c <;> by_cases c3 : g k ≤ g c
      · simp [c1, c2, show ¬ g c < rm c by omega, enc_s]
      · simp [c1, c2, show ¬ g c < rm c by omega, enc_s]
      · simp [c1, c2, c3, show ¬ g c < g k by omega, enc_s]
      · simp [c1, c2, c3, show g c < rm c by omega, show g c < g k by omega, enc_s]
      all_goals simp [c1, enc_s]
  have hend : s_X3_leastOf_2_6_3 Y (nI r) (nI b) ((fun c => (enc (lsO rm rk g r a c), nI c)) (b + 1)) = some (.inr (enc (lsO rm rk g r a (b + 1)))) := by
    simp only [s_X3_leastOf_2_6_3, un2, nIlt (show b < 2 ^ 31 by omega) (show b + 1 < 2 ^ 31 by omega), if_pos (show b < b + 1 by omega)]
  have h := lp_for (step := s_X3_leastOf_2_6_3 Y (nI r) (nI b)) (fun c => (enc (lsO rm rk g r a c), nI c)) a (b + 1) (by omega) hstep hend 5000 (by omega)
  rw [show enc (lsO rm rk g r a a) = -1 by rw [lsO_n a (Nat.le_refl _)]; rfl] at h
  unfold f_X3_leastOf_2
  simp only [bnd, h, Option.bind_some, un1]
theorem Y_deal2 {Y : OV} {rm rk g : Nat → Nat} {a b x : Nat} (hb : b < 40) (hab : a ≤ b) (hrow : ∀ i, a ≤ i → i ≤ b → ar Y 3 i = nI (rm i) ∧ ar Y 4 i = nI (rk i) ∧ ar Y 2 i = nI (g i)) (bd : ∀ i, a ≤ i → i ≤ b → rm i ≤ 9 ∧ rk i ≤ 3) (bg : ∀ i, g i ≤ 9) (hx : x ≤ 1000) : ∃ f, f_X3_deal_2 Y (nI x) (nI a) (nI b) = some (sW Y 2 f) ∧ (∀ i, a ≤ i → i ≤ b → f i = nI (remJ rm rk a (b + 1) 3 x g i)) ∧ ∀ i, i < a ∨ b < i → f i = ar Y 2 i := by
  obtain ⟨r, e, hr⟩ := lp_rule (step := s_X3_deal_2_6_3 (nI a) (nI b)) (fun s => ∃ j x' g' f, j ≤ 3 ∧ x' ≤ 1000 ∧ s = (nI (4 - j), nI x', sW Y 2 f) ∧ (∀ i, a ≤ i → i ≤ b → f i = nI (g' i)) ∧ (∀ i, i < a ∨ b < i → f i = ar Y 2 i) ∧ (∀ i, g' i ≤ 9) ∧ remJ rm rk a (b + 1) j x' g' = remJ rm rk a (b + 1) 3 x g) (fun s => s.2.1.toNatClampNeg + (4 - s.1.toNatClampNeg)) (fun r => ∃ f, r = sW Y 2 f ∧ (∀ i, a ≤ i → i ≤ b → f i = nI (remJ rm rk a (b + 1) 3 x g i)) ∧ ∀ i, i < a ∨ b < i → f i = ar Y 2 i) (by
    rintro s ⟨j, x', g', f, hj, hx', rfl, hf, hfo, bg', hrem⟩
    have cr := nI_clamp (show 4 - j < 2 ^ 31 by omega)
    have cx := nI_clamp (show x' < 2 ^ 31 by omega)
    have ex : (nI x' ≤ (0 : Int32)) = (x' ≤ 0) := nIle (by omega) (by decide)
    have e3 : ((3 : Int32) < nI (4 - j)) = (3 < 4 - j) := nIlt (by decide) (by omega)
    simp only [s_X3_deal_2_6_3, un3, ex, e3]
    by_cases c1 : x' ≤ 0
    · right
      have : x' = 0 := by omega
      subst this
      rw [remJ_0] at hrem
      exact ⟨_, if_pos c1, f, rfl, fun i u1 u2 => by rw [hf i u1 u2, hrem], hfo⟩
    · rw [if_neg c1]
      by_cases c2 : 3 < 4 - j
      · right
        have : j = 0 := by omega
        subst this
        exact ⟨_, if_pos c2, f, rfl, fun i u1 u2 => by rw [hf i u1 u2, ← hrem]; rfl, hfo⟩
      · left
        rw [if_neg c2]
        obtain ⟨q, rfl⟩ : ∃ q, j = q + 1 := ⟨j - 1, by omega⟩
        have hl := Y_least2 (Y := sW Y 2 f) (rm := rm) (rk := rk) (g := g') (a := a) (b := b) (r := 4 - (q + 1)) hb hab (fun i u1 u2 => by
          rw [arW, arW, arW, if_neg (by decide), if_neg (by decide), if_pos rfl]
          exact ⟨(hrow i u1 u2).1, (hrow i u1 u2).2.1, hf i u1 u2⟩) bd bg' (by omega)
        rw [show 4 - (q + 1) = 3 - q by omega] at hl ⊢
        simp only [hl, Option.bind_some, un1, bnd, j_X3_deal_2_52_13]
        cases ho : lsO rm rk g' (3 - q) a (b + 1) with
        | none =>
          simp only [enc_n, if_true, nI_1]
          refine ⟨_, rfl, ⟨q, x', g', f, by omega, hx', by rw [show 3 - q + 1 = 4 - q by omega], hf, hfo, bg', by rw [← hrem, remJ_n ho]⟩, ?_⟩
          simp only [nI_clamp (show 3 - q + 1 < 2 ^ 31 by omega), nI_clamp (show 3 - q < 2 ^ 31 by omega), cx]
          omega
        | some i =>
          have hi := lsO_in _ ho
          have xi : ix (nI i) 40 = true := ix_nI (by omega) (by decide)
          have ci := nI_clamp (show i < 2 ^ 31 by omega)
          have bi := bd i hi.1 (by omega)
          obtain ⟨y, rfl⟩ : ∃ y, x' = y + 1 := ⟨x' - 1, by omega⟩
          simp only [enc_s, if_neg (nI_ne1 (show i < 2 ^ 31 by omega)), gd_t xi, ci, arW, if_true, hf i hi.1 (by omega), nI_1, sA_W, add_m1, nI_pred]
          refine ⟨_, rfl, ⟨q + 1, y, va_up g' i (g' i + 1), _, hj, by omega, by rw [show 4 - (q + 1) = 3 - q by omega], fun k u1 u2 => ?_, fun k u => ?_, up_le bg' (by omega), by rw [← hrem, remJ_s ho]⟩, ?_⟩
          · simp only [updE, va_up]
            split
            · rfl
            · exact hf k u1 u2
          · rw [updE, if_neg (by omega)]
            exact hfo k u
          · simp only [nI_clamp (show 3 - q < 2 ^ 31 by omega), nI_clamp (show y < 2 ^ 31 by omega), nI_clamp (show y + 1 < 2 ^ 31 by omega)]
            omega) 5000 (nI (4 - 3), nI x, Y) ⟨3, x, g, ar Y 2, by omega, hx, by rw [sW_self], fun i u1 u2 => (hrow i u1 u2).2.2, fun i _ => rfl, bg, rfl⟩ (by
    simp only [nI_clamp (show 4 - 3 < 2 ^ 31 by omega), nI_clamp (show x < 2 ^ 31 by omega)]
    omega)
  obtain ⟨f, rfl, h1, h2⟩ := hr
  refine ⟨f, ?_, h1, h2⟩
  unfold f_X3_deal_2
  simp only [bnd]
  rw [show lp (s_X3_deal_2_6_3 (nI a) (nI b)) 5000 (1, nI x, Y) = some (sW Y 2 f) from e]
  rfl
