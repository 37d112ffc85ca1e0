-- the model's dealing
theorem lp_l {σ ρ : Type} {step : σ → Option (σ ⊕ ρ)} {n : Nat} {s s' : σ} (h : step s = some (.inl s')) : lp step (n + 1) s = lp step n s' := by rw [lp, h]
theorem lp_r {σ ρ : Type} {step : σ → Option (σ ⊕ ρ)} {n : Nat} {s : σ} {r : ρ} (h : step s = some (.inr r)) : lp step (n + 1) s = some r := by rw [lp, h]
def dk (M : OV) (f f' : Nat → Int32) : OV := sW (sW M 26 f) 27 f'
theorem dk_A1 (M : OV) (f f' : Nat → Int32) (i : Nat) (v : Int32) : sA (dk M f f') 26 i v = dk M (upd f i v) f' := by
  refine Prod.ext rfl (Prod.ext (funext fun j => ?_) rfl)
  simp only [sA, dk, sW, va_up, ar]
  by_cases h : j = 26
  · subst h; simp
  · simp [h]
theorem dk_A2 (M : OV) (f f' : Nat → Int32) (i : Nat) (v : Int32) : sA (dk M f f') 27 i v = dk M f (upd f' i v) := by
  refine Prod.ext rfl (Prod.ext (funext fun j => ?_) rfl)
  simp only [sA, dk, sW, va_up, ar]
  by_cases h : j = 27
  · subst h; simp
  · simp [h]
theorem dk_1 (M : OV) (f f' : Nat → Int32) : ar (dk M f f') 26 = f := by simp [dk, arW]
theorem dk_2 (M : OV) (f f' : Nat → Int32) : ar (dk M f f') 27 = f' := by simp [dk, arW]
theorem dk_ar (M : OV) (f f' : Nat → Int32) {k : Nat} (h : k ≠ 26) (h2 : k ≠ 27) : ar (dk M f f') k = ar M k := by simp [dk, arW, h, h2]
theorem dk_iv (M : OV) (f f' : Nat → Int32) (k : Nat) : iv (dk M f f') k = iv M k := Eq.trans rfl rfl
theorem dk_eta (M : OV) : M = dk M (ar M 26) (ar M 27) := by
  unfold dk
  rw [sW_self, sW_self]
theorem dk_RM {M : OV} {p : Pg} (h : RM (ar M 8) p) (f f' : Nat → Int32) : RM (ar (dk M f f') 8) p := by rw [dk_ar _ _ _ (by decide) (by decide)]; exact h
theorem dk_RT {M : OV} {tb : Tb} (h : RT M tb) (f f' : Nat → Int32) : RT (dk M f f') tb := by
  unfold RT
  rw [dk_ar _ _ _ (by decide) (by decide), dk_ar _ _ _ (by decide) (by decide), dk_ar _ _ _ (by decide) (by decide), dk_ar _ _ _ (by decide) (by decide), dk_ar _ _ _ (by decide) (by decide), dk_ar _ _ _ (by decide) (by decide), dk_ar _ _ _ (by decide) (by decide)]
  exact h
theorem dk_KM (M : OV) (f f' : Nat → Int32) : KM M (dk M f f') := fun k hk => ⟨dk_ar _ _ _ (by omega) (by omega), rfl⟩
/-- the rooms of a line's signs, of its gaps -/
def rmT (tb : Tb) (p : Pg) (b : Nat) (hg : Bool) (i : Nat) : Nat := if i < b then fx tb p 5 i else if hg = true then 0 else fx tb p 5 i - fx tb p 4 i
def rmP (tb : Tb) (p : Pg) (b i : Nat) : Nat := if i < b then fx tb p 7 i else 0
theorem M_leastTaken {M : OV} {tb : Tb} {p : Pg} (h : RM (ar M 8) p) (hs : PgS p) (hR : RT M tb) (hT : TbS tb) (hpt : PgT tb p) {a b r : Nat} {g : Nat → Nat} {f f' : Nat → Int32} (hab : a ≤ b) (hb : b < pn p) (hg : Bool) (h13 : iv M 13 = bo hg) (hf : ∀ i, a ≤ i → i ≤ b → f i = nI (g i)) (bg : ∀ i, g i ≤ 9) (hr : r ≤ 3) : f_X10_leastTaken (dk M f f') (nI a) (nI b) (nI r) = some (enc (lsO (rmT tb p b hg) (fx tb p 6) g r a (b + 1))) := by
  have h40 := hs.1
  generalize hrm : rmT tb p b hg = rm
  have hD := dk_RM h f f'
  have hDR := dk_RT hR f f'
  have hstep : ∀ c, a ≤ c → c < b + 1 → s_X10_leastTaken_6_3 (dk M f f') (nI b) (nI r) ((fun c => (enc (lsO rm (fx tb p 6) g r a c), nI c)) c) = some (.inl ((fun c => (enc (lsO rm (fx tb p 6) g r a c), nI c)) (c + 1))) := by
    intro c h1 h2
    have hc : c < pn p := by omega
    have l0 := (hs.2.1 c hc).1
    have tt := hT _ l0
    have rr := (hDR _ l0).2 (hpt c hc)
    have x26 : ix (nI (ps p c)) 26 = true := ix_nI l0 (by decide)
    have cp := nI_clamp (show ps p c < 2 ^ 31 by omega)
    have e6 : ar (dk M f f') 5 (ps p c) = nI (fx tb p 6 c) := rr.2.2.2.1
    have b6 : fx tb p 6 c ≤ 3 := tt.2.2.2.2.1
    have b5 : fx tb p 5 c ≤ 8 := tt.2.2.2.1
    have brm : rm c ≤ 9 := by
      rw [← hrm]
      unfold rmT
      split
      · omega
      · split <;> omega
    have sq := M_sqz hD hs hDR hT hpt hc hb hg
    rw [show (if c < b then fx tb p 5 c else if hg = true then 0 else fx tb p 5 c - fx tb p 4 c) = rm c by rw [← hrm]; rfl] at sq
    have gc := bg c
    have e1 : ar (dk M f f') 26 c = nI (g c) := by rw [dk_1]; exact hf c h1 (by omega)
    have xc : ix (nI c) 40 = true := ix_nI (by omega) (by decide)
    have cc := nI_clamp (show c < 2 ^ 31 by omega)
    show s_X10_leastTaken_6_3 (dk M f f') (nI b) (nI r) (enc (lsO rm (fx tb p 6) g r a c), nI c) = some (.inl (enc (lsO rm (fx tb p 6) g r a (c + 1)), nI (c + 1)))
    rw [lsO_s h1]
    cases ho : lsO rm (fx tb p 6) g r a c with
    | none =>
      simp only [s_X10_leastTaken_6_3, un2, nIlt (show b < 2 ^ 31 by omega) (show c < 2 ^ 31 by omega), if_neg (show ¬ b < c by omega), M_class hD hs hc, Option.bind_some, un1, gd_t x26, cp, e6, nIe (show fx tb p 6 c < 2 ^ 31 by omega) (show r < 2 ^ 31 by omega), gd_t xc, cc, dk_iv, h13, sq, e1, nIle (show rm c < 2 ^ 31 by omega) (show g c < 2 ^ 31 by omega), j_X10_leastTaken_75_9, j_X10_leastTaken_71_13, bnd, nI_1, enc_n, if_true, lsP, lsB]
      by_cases c1 : fx tb p 6 c = r <;> by_cases c2 : rm c ≤ g c
      · simp [c1, c2, show ¬ g c < rm c by omega, enc_n]
      · simp [c1, c2, show g c < rm c by omega, enc_s]
      · simp [c1, enc_n]
      · simp [c1, enc_n]
    | some k =>
      have hk := lsO_in c ho
      have k1 : ar (dk M f f') 26 k = nI (g k) := by rw [dk_1]; exact hf k hk.1 (by omega)
      have gk := bg k
      have xk : ix (nI k) 40 = true := ix_nI (by omega) (by decide)
      have ck := nI_clamp (show k < 2 ^ 31 by omega)
      simp only [s_X10_leastTaken_6_3, un2, nIlt (show b < 2 ^ 31 by omega) (show c < 2 ^ 31 by omega), if_neg (show ¬ b < c by omega), M_class hD hs hc, Option.bind_some, un1, gd_t x26, cp, e6, nIe (show fx tb p 6 c < 2 ^ 31 by omega) (show r < 2 ^ 31 by omega), gd_t xc, cc, dk_iv, h13, sq, e1, nIle (show rm c < 2 ^ 31 by omega) (show g c < 2 ^ 31 by omega), j_X10_leastTaken_75_9, j_X10_leastTaken_71_13, bnd, nI_1, enc_s, if_neg (nI_ne1 (show k < 2 ^ 31 by omega)), gd_t xk, ck, k1, nIle (show g k < 2 ^ 31 by omega) (show g c < 2 ^ 31 by omega), lsP, lsB]
      by_cases c1 : fx tb p 6 c = r <;> by_cases c2 : rm c ≤ g c <;> by_cases c3 : g k ≤ g c
      · simp [c1, c2, show ¬ g c < rm c by omega, enc_s]
      · simp [c1, c2, show ¬ g c < rm c by omega, enc_s]
      · simp [c1, c2, c3, show ¬ g c < g k by omega, enc_s]
      · simp [c1, c2, c3, show g c < rm c by omega, show g c < g k by omega, enc_s]
      all_goals simp [c1, enc_s]
  have hend : s_X10_leastTaken_6_3 (dk M f f') (nI b) (nI r) ((fun c => (enc (lsO rm (fx tb p 6) g r a c), nI c)) (b + 1)) = some (.inr (enc (lsO rm (fx tb p 6) g r a (b + 1)))) := by
    simp only [s_X10_leastTaken_6_3, un2, nIlt (show b < 2 ^ 31 by omega) (show b + 1 < 2 ^ 31 by omega), if_pos (show b < b + 1 by omega)]
  have h := lp_for (step := s_X10_leastTaken_6_3 (dk M f f') (nI b) (nI r)) (fun c => (enc (lsO rm (fx tb p 6) g r a c), nI c)) a (b + 1) (by omega) hstep hend 5000 (by omega)
  rw [show enc (lsO rm (fx tb p 6) g r a a) = -1 by rw [lsO_n a (Nat.le_refl _)]; rfl] at h
  unfold f_X10_leastTaken
  simp only [bnd, h, Option.bind_some, un1]
theorem M_leastPut {M : OV} {tb : Tb} {p : Pg} (h : RM (ar M 8) p) (hs : PgS p) (hR : RT M tb) (hT : TbS tb) (hpt : PgT tb p) {a b r : Nat} {g : Nat → Nat} {f f' : Nat → Int32} (hab : a ≤ b) (hb : b < pn p) (hf : ∀ i, a ≤ i → i ≤ b → f' i = nI (g i)) (bg : ∀ i, g i ≤ 9) (hr : r ≤ 3) : f_X10_leastPut (dk M f f') (nI a) (nI b) (nI r) = some (enc (lsO (rmP tb p b) (fx tb p 8) g r a (b + 1))) := by
  have h40 := hs.1
  have hD := dk_RM h f f'
  have hDR := dk_RT hR f f'
  have hlast : lsO (rmP tb p b) (fx tb p 8) g r a (b + 1) = lsO (rmP tb p b) (fx tb p 8) g r a b := by
    rw [lsO_s hab, lsP, if_neg (by unfold rmP; rw [if_neg (Nat.lt_irrefl _)]; omega)]
  rw [hlast]
  have hrmb : ∀ c, c < b → rmP tb p b c = fx tb p 7 c := fun c hc => by unfold rmP; rw [if_pos hc]
  generalize rmP tb p b = rm at *
  have hstep : ∀ c, a ≤ c → c < b → s_X10_leastPut_6_3 (dk M f f') (nI b) (nI r) ((fun c => (enc (lsO rm (fx tb p 8) g r a c), nI c)) c) = some (.inl ((fun c => (enc (lsO rm (fx tb p 8) g r a c), nI c)) (c + 1))) := by
    intro c h1 h2
    have hc : c < pn p := by omega
    have l0 := (hs.2.1 c hc).1
    have tt := hT _ l0
    have rr := (hDR _ l0).2 (hpt c hc)
    have x26 : ix (nI (ps p c)) 26 = true := ix_nI l0 (by decide)
    have cp := nI_clamp (show ps p c < 2 ^ 31 by omega)
    have e7 : ar (dk M f f') 6 (ps p c) = nI (rm c) := by rw [hrmb c h2]; exact rr.2.2.2.2.1
    have e8 : ar (dk M f f') 7 (ps p c) = nI (fx tb p 8 c) := rr.2.2.2.2.2
    have b8 : fx tb p 8 c ≤ 3 := tt.2.2.2.2.2.2.1
    have brm : rm c ≤ 9 := by rw [hrmb c h2]; exact tt.2.2.2.2.2.1
    have gc := bg c
    have e1 : ar (dk M f f') 27 c = nI (g c) := by rw [dk_2]; exact hf c h1 (by omega)
    have xc : ix (nI c) 40 = true := ix_nI (by omega) (by decide)
    have cc := nI_clamp (show c < 2 ^ 31 by omega)
    show s_X10_leastPut_6_3 (dk M f f') (nI b) (nI r) (enc (lsO rm (fx tb p 8) g r a c), nI c) = some (.inl (enc (lsO rm (fx tb p 8) g r a (c + 1)), nI (c + 1)))
    rw [lsO_s h1]
    cases ho : lsO rm (fx tb p 8) g r a c with
    | none =>
      simp only [s_X10_leastPut_6_3, un2, nIle (show b < 2 ^ 31 by omega) (show c < 2 ^ 31 by omega), if_neg (show ¬ b ≤ c by omega), M_class hD hs hc, Option.bind_some, un1, gd_t x26, cp, e7, e8, nIe (show fx tb p 8 c < 2 ^ 31 by omega) (show r < 2 ^ 31 by omega), gd_t xc, cc, e1, nIle (show rm c < 2 ^ 31 by omega) (show g c < 2 ^ 31 by omega), j_X10_leastPut_75_9, j_X10_leastPut_71_13, bnd, nI_1, enc_n, if_true, lsP, lsB]
      by_cases c1 : fx tb p 8 c = r <;> by_cases c2 : rm c ≤ g c
      · simp [c1, c2, show ¬ g c < rm c by omega, enc_n]
      · simp [c1, c2, show g c < rm c by omega, enc_s]
      · simp [c1, enc_n]
      · simp [c1, enc_n]
    | some k =>
      have hk := lsO_in c ho
      have k1 : ar (dk M f f') 27 k = nI (g k) := by rw [dk_2]; exact hf k hk.1 (by omega)
      have gk := bg k
      have xk : ix (nI k) 40 = true := ix_nI (by omega) (by decide)
      have ck := nI_clamp (show k < 2 ^ 31 by omega)
      simp only [s_X10_leastPut_6_3, un2, nIle (show b < 2 ^ 31 by omega) (show c < 2 ^ 31 by omega), if_neg (show ¬ b ≤ c by omega), M_class hD hs hc, Option.bind_some, un1, gd_t x26, cp, e7, e8, nIe (show fx tb p 8 c < 2 ^ 31 by omega) (show r < 2 ^ 31 by omega), gd_t xc, cc, e1, nIle (show rm c < 2 ^ 31 by omega) (show g c < 2 ^ 31 by omega), j_X10_leastPut_75_9, j_X10_leastPut_71_13, bnd, nI_1, enc_s, if_neg (nI_ne1 (show k < 2 ^ 31 by omega)), gd_t xk, ck, k1, nIle (show g k < 2 ^ 31 by omega) (show g c < 2 ^ 31 by omega), lsP, lsB]
      by_cases c1 : fx tb p 8 c = r <;> by_cases c2 : rm c ≤ g c <;> by_cases c3 : g k ≤ g c
      · simp [c1, c2, show ¬ g c < rm c by omega, enc_s]
      · simp [c1, c2, show ¬ g c < rm c by omega, enc_s]
      · simp [c1, c2, c3, show ¬ g c < g k by omega, enc_s]
      · simp [c1, c2, c3, show g c < rm c by omega, show g c < g k by omega, enc_s]
      all_goals simp [c1, enc_s]
  have hend : s_X10_leastPut_6_3 (dk M f f') (nI b) (nI r) ((fun c => (enc (lsO rm (fx tb p 8) g r a c), nI c)) b) = some (.inr (enc (lsO rm (fx tb p 8) g r a b))) := by
    simp only [s_X10_leastPut_6_3, un2, nIle (show b < 2 ^ 31 by omega) (show b < 2 ^ 31 by omega), if_pos (Nat.le_refl b)]
  have h := lp_for (step := s_X10_leastPut_6_3 (dk M f f') (nI b) (nI r)) (fun c => (enc (lsO rm (fx tb p 8) g r a c), nI c)) a b hab hstep hend 5000 (by omega)
  rw [show enc (lsO rm (fx tb p 8) g r a a) = -1 by rw [lsO_n a (Nat.le_refl _)]; rfl] at h
  unfold f_X10_leastPut
  simp only [bnd, h, Option.bind_some, un1]

theorem M_in1 {M : OV} {rm rk : Nat → Nat} {a b r : Nat} {f' : Nat → Int32} (hb : b < 40) (bd : ∀ i, a ≤ i → i ≤ b → rm i ≤ 9) (hl : ∀ f g, (∀ i, a ≤ i → i ≤ b → f i = nI (g i)) → (∀ i, g i ≤ 9) → f_X10_leastTaken (dk M f f') (nI a) (nI b) (nI r) = some (enc (lsO rm rk g r a (b + 1)))) : ∀ x n g f, x < n → x ≤ 1000 → (∀ i, a ≤ i → i ≤ b → f i = nI (g i)) → (∀ i, g i ≤ 9) → ∃ v, lp (s_X10_deals_51_18 (nI a) (nI b) (nI r)) n (nI x, enc (lsO rm rk g r a (b + 1)), dk M f f') = some (nI (inn rm rk r a (b + 1) x g).1, dk M v f') ∧ (∀ i, a ≤ i → i ≤ b → v i = nI ((inn rm rk r a (b + 1) x g).2 i)) ∧ (∀ i, (inn rm rk r a (b + 1) x g).2 i ≤ 9) ∧ (inn rm rk r a (b + 1) x g).1 ≤ x
  | _, 0, _, _, h, _, _, _ => by omega
  | 0, n + 1, g, f, _, _, hf, bg => by
    exact ⟨f, lp_r (by simp only [s_X10_deals_51_18, un3, if_pos (show nI 0 ≤ (0 : Int32) by decide), inn]), hf, bg, Nat.le_refl _⟩
  | x + 1, n + 1, g, f, hn, hx, hf, bg => by
    have ex : (nI (x + 1) ≤ (0 : Int32)) = (x + 1 ≤ 0) := nIle (by omega) (by decide)
    cases ho : lsO rm rk g r a (b + 1) with
    | none =>
      rw [inn_n ho]
      exact ⟨f, lp_r (by simp only [s_X10_deals_51_18, un3, ex, if_neg (show ¬ x + 1 ≤ 0 by omega), enc_n, if_true]), hf, bg, Nat.le_refl _⟩
    | some i =>
      have hi := lsO_in _ ho
      have xi : ix (nI i) 40 = true := ix_nI (by omega) (by decide)
      have ci := nI_clamp (show i < 2 ^ 31 by omega)
      have bi := bd i hi.1 (by omega)
      have hf2 : ∀ k, a ≤ k → k ≤ b → upd f i (nI (g i + 1)) k = nI (va_up g i (g i + 1) k) := by
        intro k u1 u2
        simp only [updE, va_up]
        split
        · rfl
        · exact hf k u1 u2
      have bg2 := up_le bg (show g i < 9 by omega)
      have hl2 := hl (upd f i (nI (g i + 1))) (va_up g i (g i + 1)) hf2 bg2
      obtain ⟨v, e, h1, h2, h3⟩ := M_in1 (rm := rm) (rk := rk) (r := r) hb bd hl x n (va_up g i (g i + 1)) (upd f i (nI (g i + 1))) (by omega) (by omega) hf2 bg2
      rw [inn_s ho]
      refine ⟨v, ?_, h1, h2, by omega⟩
      rw [← e]
      exact lp_l (by simp only [s_X10_deals_51_18, un3, ex, if_neg (show ¬ x + 1 ≤ 0 by omega), enc_s, if_neg (nI_ne1 (show i < 2 ^ 31 by omega)), gd_t xi, ci, dk_1, hf i hi.1 (show i ≤ b by omega), nI_1, dk_A1, bnd, add_m1, nI_pred, hl2, Option.bind_some, un1])
theorem M_out1 {M : OV} {rm rk g : Nat → Nat} {a b x : Nat} {f f' : Nat → Int32} (hb : b < 40) (hx : x ≤ 1000) (bd : ∀ i, a ≤ i → i ≤ b → rm i ≤ 9) (hl : ∀ r, r ≤ 3 → ∀ f g, (∀ i, a ≤ i → i ≤ b → f i = nI (g i)) → (∀ i, g i ≤ 9) → f_X10_leastTaken (dk M f f') (nI a) (nI b) (nI r) = some (enc (lsO rm rk g r a (b + 1)))) (hf : ∀ i, a ≤ i → i ≤ b → f i = nI (g i)) (bg : ∀ i, g i ≤ 9) : ∃ v, lp (s_X10_deals_35_11 (nI a) (nI b)) 5000 (nI x, 1, dk M f f') = some (dk M v f') ∧ (∀ i, a ≤ i → i ≤ b → v i = nI (remJ rm rk a (b + 1) 3 x g i)) := by
  obtain ⟨r, e, v, rfl, h1⟩ := lp_inv (step := s_X10_deals_35_11 (nI a) (nI b)) (fun k s => ∃ x' g' v, s = (nI x', nI (k + 1), dk M v f') ∧ x' ≤ 1000 ∧ (∀ i, a ≤ i → i ≤ b → v i = nI (g' i)) ∧ (∀ i, g' i ≤ 9) ∧ remJ rm rk a (b + 1) (3 - k) x' g' = remJ rm rk a (b + 1) 3 x g) (fun r => ∃ v, r = dk M v f' ∧ ∀ i, a ≤ i → i ≤ b → v i = nI (remJ rm rk a (b + 1) 3 x g i)) 0 3 (by omega) (by
    rintro k s - hk ⟨x', g', v, rfl, hx', hv, bg', hrem⟩
    obtain ⟨w, e, h1, h2, h3⟩ := M_in1 (M := M) (rm := rm) (rk := rk) (r := k + 1) hb bd (fun f g u1 u2 => hl (k + 1) (by omega) f g u1 u2) x' 5000 g' v (by omega) hx' hv bg'
    have hlk := hl (k + 1) (by omega) v g' hv bg'
    refine ⟨_, ?_, (inn rm rk (k + 1) a (b + 1) x' g').1, (inn rm rk (k + 1) a (b + 1) x' g').2, w, rfl, by omega, h1, h2, ?_⟩
    · have e3 : ¬ (3 : Int32) < nI (k + 1) := nI_nlt (show k + 1 ≤ 3 by omega) (by decide)
      simp only [s_X10_deals_35_11, un3, if_neg e3, hlk, Option.bind_some, un1, bnd, e, un2, nI_1]
    · rw [← hrem, show 3 - k = (3 - (k + 1)) + 1 by omega, remJ, show 3 - (3 - (k + 1)) = k + 1 by omega]) (by
    rintro s ⟨x', g', v, rfl, hx', hv, bg', hrem⟩
    refine ⟨_, by simp only [s_X10_deals_35_11, un3, if_pos (show (3 : Int32) < nI (3 + 1) by decide)], v, rfl, fun i u1 u2 => ?_⟩
    rw [hv i u1 u2, ← hrem]
    rfl) 5000 (by omega) (nI x, nI (0 + 1), dk M f f') ⟨x, g, _, rfl, hx, hf, bg, rfl⟩
  exact ⟨v, e, h1⟩

theorem M_in2 {M : OV} {rm rk : Nat → Nat} {a b r : Nat} {f : Nat → Int32} (hb : b < 40) (bd : ∀ i, a ≤ i → i ≤ b → rm i ≤ 9) (hl : ∀ f' g, (∀ i, a ≤ i → i ≤ b → f' i = nI (g i)) → (∀ i, g i ≤ 9) → f_X10_leastPut (dk M f f') (nI a) (nI b) (nI r) = some (enc (lsO rm rk g r a (b + 1)))) : ∀ x n g f', x < n → x ≤ 1000 → (∀ i, a ≤ i → i ≤ b → f' i = nI (g i)) → (∀ i, g i ≤ 9) → ∃ v, lp (s_X10_deals_118_40 (nI a) (nI b) (nI r)) n (nI x, enc (lsO rm rk g r a (b + 1)), dk M f f') = some (nI (inn rm rk r a (b + 1) x g).1, dk M f v) ∧ (∀ i, a ≤ i → i ≤ b → v i = nI ((inn rm rk r a (b + 1) x g).2 i)) ∧ (∀ i, (inn rm rk r a (b + 1) x g).2 i ≤ 9) ∧ (inn rm rk r a (b + 1) x g).1 ≤ x
  | _, 0, _, _, h, _, _, _ => by omega
  | 0, n + 1, g, f', _, _, hf, bg => by
    exact ⟨f', lp_r (by simp only [s_X10_deals_118_40, un3, if_pos (show nI 0 ≤ (0 : Int32) by decide), inn]), hf, bg, Nat.le_refl _⟩
  | x + 1, n + 1, g, f', hn, hx, hf, bg => by
    have ex : (nI (x + 1) ≤ (0 : Int32)) = (x + 1 ≤ 0) := nIle (by omega) (by decide)
    cases ho : lsO rm rk g r a (b + 1) with
    | none =>
      rw [inn_n ho]
      exact ⟨f', lp_r (by simp only [s_X10_deals_118_40, un3, ex, if_neg (show ¬ x + 1 ≤ 0 by omega), enc_n, if_true]), hf, bg, Nat.le_refl _⟩
    | some i =>
      have hi := lsO_in _ ho
      have xi : ix (nI i) 40 = true := ix_nI (by omega) (by decide)
      have ci := nI_clamp (show i < 2 ^ 31 by omega)
      have bi := bd i hi.1 (by omega)
      have hf2 : ∀ k, a ≤ k → k ≤ b → upd f' i (nI (g i + 1)) k = nI (va_up g i (g i + 1) k) := by
        intro k u1 u2
        simp only [updE, va_up]
        split
        · rfl
        · exact hf k u1 u2
      have bg2 := up_le bg (show g i < 9 by omega)
      have hl2 := hl (upd f' i (nI (g i + 1))) (va_up g i (g i + 1)) hf2 bg2
      obtain ⟨v, e, h1, h2, h3⟩ := M_in2 (rm := rm) (rk := rk) (r := r) hb bd hl x n (va_up g i (g i + 1)) (upd f' i (nI (g i + 1))) (by omega) (by omega) hf2 bg2
      rw [inn_s ho]
      refine ⟨v, ?_, h1, h2, by omega⟩
      rw [← e]
      exact lp_l (by simp only [s_X10_deals_118_40, un3, ex, if_neg (show ¬ x + 1 ≤ 0 by omega), enc_s, if_neg (nI_ne1 (show i < 2 ^ 31 by omega)), gd_t xi, ci, dk_2, hf i hi.1 (show i ≤ b by omega), nI_1, dk_A2, bnd, add_m1, nI_pred, hl2, Option.bind_some, un1])
theorem M_out2 {M : OV} {rm rk g : Nat → Nat} {a b x : Nat} {f f' : Nat → Int32} (hb : b < 40) (hx : x ≤ 1000) (bd : ∀ i, a ≤ i → i ≤ b → rm i ≤ 9) (hl : ∀ r, r ≤ 3 → ∀ f' g, (∀ i, a ≤ i → i ≤ b → f' i = nI (g i)) → (∀ i, g i ≤ 9) → f_X10_leastPut (dk M f f') (nI a) (nI b) (nI r) = some (enc (lsO rm rk g r a (b + 1)))) (hf : ∀ i, a ≤ i → i ≤ b → f' i = nI (g i)) (bg : ∀ i, g i ≤ 9) : ∃ v, lp (s_X10_deals_102_33 (nI a) (nI b)) 5000 (nI x, 1, dk M f f') = some (dk M f v) ∧ (∀ i, a ≤ i → i ≤ b → v i = nI (remJ rm rk a (b + 1) 3 x g i)) := by
  obtain ⟨r, e, v, rfl, h1⟩ := lp_inv (step := s_X10_deals_102_33 (nI a) (nI b)) (fun k s => ∃ x' g' v, s = (nI x', nI (k + 1), dk M f v) ∧ x' ≤ 1000 ∧ (∀ i, a ≤ i → i ≤ b → v i = nI (g' i)) ∧ (∀ i, g' i ≤ 9) ∧ remJ rm rk a (b + 1) (3 - k) x' g' = remJ rm rk a (b + 1) 3 x g) (fun r => ∃ v, r = dk M f v ∧ ∀ i, a ≤ i → i ≤ b → v i = nI (remJ rm rk a (b + 1) 3 x g i)) 0 3 (by omega) (by
    rintro k s - hk ⟨x', g', v, rfl, hx', hv, bg', hrem⟩
    obtain ⟨w, e, h1, h2, h3⟩ := M_in2 (M := M) (rm := rm) (rk := rk) (r := k + 1) hb bd (fun f' g u1 u2 => hl (k + 1) (by omega) f' g u1 u2) x' 5000 g' v (by omega) hx' hv bg'
    have hlk := hl (k + 1) (by omega) v g' hv bg'
    refine ⟨_, ?_, (inn rm rk (k + 1) a (b + 1) x' g').1, (inn rm rk (k + 1) a (b + 1) x' g').2, w, rfl, by omega, h1, h2, ?_⟩
    · have e3 : ¬ (3 : Int32) < nI (k + 1) := nI_nlt (show k + 1 ≤ 3 by omega) (by decide)
      simp only [s_X10_deals_102_33, un3, if_neg e3, hlk, Option.bind_some, un1, bnd, e, un2, nI_1]
    · rw [← hrem, show 3 - k = (3 - (k + 1)) + 1 by omega, remJ, show 3 - (3 - (k + 1)) = k + 1 by omega]) (by
    rintro s ⟨x', g', v, rfl, hx', hv, bg', hrem⟩
    refine ⟨_, by simp only [s_X10_deals_102_33, un3, if_pos (show (3 : Int32) < nI (3 + 1) by decide)], v, rfl, fun i u1 u2 => ?_⟩
    rw [hv i u1 u2, ← hrem]
    rfl) 5000 (by omega) (nI x, nI (0 + 1), dk M f f') ⟨x, g, _, rfl, hx, hf, bg, rfl⟩
  exact ⟨v, e, h1⟩

/-- what a sign gives, what a gap gets -/
def tk (tb : Tb) (p : Pg) (a b i : Nat) : Nat := remJ (rmT tb p b (mhung tb p a b)) (fx tb p 6) a (b + 1) 3 (mtake tb p a b) (fun _ => 0) i
def pu (tb : Tb) (p : Pg) (a b i : Nat) : Nat := remJ (rmP tb p b) (fx tb p 8) a (b + 1) 3 (mput tb p a b) (fun _ => 0) i
theorem mput_le {tb : Tb} {p : Pg} (hs : PgS p) (a b : Nat) : mput tb p a b ≤ 80 := by
  have := hs.2.2.2.1
  unfold mput msL
  split <;> omega
theorem M_deals {M : OV} {tb : Tb} {p : Pg} (h : RM (ar M 8) p) (hs : PgS p) (hR : RT M tb) (hT : TbS tb) (hpt : PgT tb p) {a b : Nat} (hab : a ≤ b) (hb : b < pn p) (h13 : iv M 13 = bo (mhung tb p a b)) (h15 : iv M 15 = nI (mtake tb p a b)) (h16 : iv M 16 = nI (mput tb p a b)) : ∃ f f', f_X10_deals M (nI a) (nI b) = some (dk M f f') ∧ (∀ i, a ≤ i → i ≤ b → f i = nI (tk tb p a b i) ∧ f' i = nI (pu tb p a b i)) := by
  have h40 := hs.1
  obtain ⟨r, e, f, f', rfl, hz⟩ := lp_inv (step := s_X10_deals_2_2 (nI b)) (fun k s => ∃ f f', s = (nI k, dk M f f') ∧ ∀ i, a ≤ i → i < k → f i = 0 ∧ f' i = 0) (fun r => ∃ f f', r = dk M f f' ∧ ∀ i, a ≤ i → i ≤ b → f i = 0 ∧ f' i = 0) a (b + 1) (by omega) (by
    rintro k s h1 h2 ⟨f, f', rfl, hz⟩
    have xk : ix (nI k) 40 = true := ix_nI (by omega) (by decide)
    have ck := nI_clamp (show k < 2 ^ 31 by omega)
    refine ⟨(nI (k + 1), dk M (upd f k 0) (upd f' k 0)), ?_, _, _, rfl, fun i u1 u2 => ?_⟩
    · simp only [s_X10_deals_2_2, un2, nIlt (show b < 2 ^ 31 by omega) (show k < 2 ^ 31 by omega), if_neg (show ¬ b < k by omega), gd_t xk, ck, bnd, dk_A1, dk_A2, nI_1]
    · simp only [updE]
      by_cases c : i = k
      · simp [c]
      · simp only [if_neg c]
        exact hz i u1 (by omega)) (by
    rintro s ⟨f, f', rfl, hz⟩
    exact ⟨_, by simp only [s_X10_deals_2_2, un2, nIlt (show b < 2 ^ 31 by omega) (show b + 1 < 2 ^ 31 by omega), if_pos (show b < b + 1 by omega)], f, f', rfl, fun i u1 u2 => hz i u1 (by omega)⟩) 5000 (by omega) (nI a, M) ⟨ar M 26, ar M 27, by rw [← dk_eta], fun i u1 u2 => by omega⟩
  have bt := mtake_le (a := a) hs hT hb
  have bp := mput_le (tb := tb) hs a b
  have bd1 : ∀ i, a ≤ i → i ≤ b → rmT tb p b (mhung tb p a b) i ≤ 9 := by
    intro i u1 u2
    have := (hT _ (hs.2.1 i (by omega)).1).2.2.2.1
    unfold rmT fx
    split
    · omega
    · split <;> omega
  have bd2 : ∀ i, a ≤ i → i ≤ b → rmP tb p b i ≤ 9 := by
    intro i u1 u2
    have := (hT _ (hs.2.1 i (by omega)).1).2.2.2.2.2.1
    unfold rmP fx
    split <;> omega
  obtain ⟨v, e1, h1⟩ := M_out1 (M := M) (rm := rmT tb p b (mhung tb p a b)) (rk := fx tb p 6) (g := fun _ => 0) (a := a) (b := b) (x := mtake tb p a b) (f := f) (f' := f') (by omega) (by omega) bd1 (fun r hr f g u1 u2 => M_leastTaken h hs hR hT hpt hab hb _ h13 u1 u2 hr) (fun i u1 u2 => (hz i u1 u2).1) (fun _ => Nat.zero_le _)
  obtain ⟨v', e2, h2⟩ := M_out2 (M := M) (rm := rmP tb p b) (rk := fx tb p 8) (g := fun _ => 0) (a := a) (b := b) (x := mput tb p a b) (f := v) (f' := f') (by omega) (by omega) bd2 (fun r hr f g u1 u2 => M_leastPut h hs hR hT hpt hab hb u1 u2 hr) (fun i u1 u2 => (hz i u1 u2).2) (fun _ => Nat.zero_le _)
  refine ⟨v, v', ?_, fun i u1 u2 => ⟨h1 i u1 u2, h2 i u1 u2⟩⟩
  unfold f_X10_deals
  simp only [bnd, e, Option.bind_some, un1, dk_iv, h15, e1, h16, e2]
