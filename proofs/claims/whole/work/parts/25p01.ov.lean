-- what an object holds: reading behind writing
theorem ivI (x : OV) (k j : Nat) (v : Int32) : iv (sI x k v) j = if j = k then v else iv x j := by
  simp [iv, sI, upd]
theorem ivW (x : OV) (k j : Nat) (f : Nat → Int32) : iv (sW x k f) j = iv x j := rfl
theorem ivL (x : OV) (k j i : Nat) (v : Int64) : iv (sL x k i v) j = iv x j := rfl
theorem ivH (x : OV) (k i j : Nat) (f : Nat → Int32) : iv (sH x k i f) j = iv x j := rfl
theorem ivN (x : OV) (k j i : Nat) : iv (sN x k i) j = iv x j := rfl
theorem arI (x : OV) (k j : Nat) (v : Int32) : ar (sI x k v) j = ar x j := rfl
theorem arW (x : OV) (k j : Nat) (f : Nat → Int32) : ar (sW x k f) j = if j = k then f else ar x j := by
  simp [ar, sW, va_up]
theorem arL (x : OV) (k j i : Nat) (v : Int64) : ar (sL x k i v) j = ar x j := rfl
theorem arH (x : OV) (k i j : Nat) (f : Nat → Int32) : ar (sH x k i f) j = ar x j := rfl
theorem arN (x : OV) (k j i : Nat) : ar (sN x k i) j = ar x j := rfl
theorem alI (x : OV) (k j : Nat) (v : Int32) : al (sI x k v) j = al x j := rfl
theorem alW (x : OV) (k j : Nat) (f : Nat → Int32) : al (sW x k f) j = al x j := rfl
theorem alL (x : OV) (k j i : Nat) (v : Int64) : al (sL x k i v) j = if j = k then vp_updL (al x k) i v else al x j := by
  simp [al, sL, va_up]
theorem grI (x : OV) (k j i : Nat) (v : Int32) : gr (sI x k v) j i = gr x j i := rfl
theorem grW (x : OV) (k j i : Nat) (f : Nat → Int32) : gr (sW x k f) j i = gr x j i := rfl
theorem grH (x : OV) (k i j i' : Nat) (f : Nat → Int32) : gr (sH x k i f) j i' = if j = k then (if i' = i then f else gr x k i') else gr x j i' := by
  by_cases h : j = k
  · subst h
    by_cases h2 : i' = i
    · subst h2; simp [gr, sH, va_up]
    · simp [gr, sH, va_up, h2]
  · simp [gr, sH, va_up, h]
theorem nvI (x : OV) (k j : Nat) (v : Int32) : nv (sI x k v) j = nv x j := rfl
theorem nvW (x : OV) (k j : Nat) (f : Nat → Int32) : nv (sW x k f) j = nv x j := rfl
theorem nvL (x : OV) (k j i : Nat) (v : Int64) : nv (sL x k i v) j = nv x j := rfl
theorem nvH (x : OV) (k i j : Nat) (f : Nat → Int32) : nv (sH x k i f) j = nv x j := rfl
theorem nvN (x : OV) (k j i : Nat) : nv (sN x k i) j = if j = k then i else nv x j := by
  simp [nv, sN, va_up]
theorem sWW (x : OV) (k : Nat) (f g : Nat → Int32) : sW (sW x k f) k g = sW x k g := by
  refine Prod.ext rfl (Prod.ext (funext fun j => ?_) rfl)
  simp only [sW, va_up]
  split <;> rfl
theorem sW_self (x : OV) (k : Nat) : sW x k (ar x k) = x := by
  refine Prod.ext rfl (Prod.ext (funext fun j => ?_) rfl)
  simp only [sW, va_up, ar]
  split
  · rename_i h; rw [h]
  · rfl
theorem sA_W (x : OV) (k j : Nat) (v : Int32) (f : Nat → Int32) : sA (sW x k f) k j v = sW x k (upd f j v) := by
  unfold sA
  rw [sWW, arW, if_pos rfl]
/-- the first n of a row out of another one -/
def mix (n : Nat) (f g : Nat → Int32) : Nat → Int32 := fun j => if j < n then f j else g j
theorem mix_0 (f g : Nat → Int32) : mix 0 f g = g := funext fun j => by simp [mix]
theorem mix_upd (n : Nat) (f g : Nat → Int32) : upd (mix n f g) n (f n) = mix (n + 1) f g := by
  funext j
  simp only [upd, mix]
  by_cases h : j = n
  · subst h; simp
  · rcases Nat.lt_or_ge j n with h1 | h1
    · simp [h, h1, Nat.lt_succ_of_lt h1]
    · simp [h, show ¬ j < n by omega, show ¬ j < n + 1 by omega]
theorem ix_nI {c N : Nat} (h : c < N) (hN : N < 2 ^ 31) : ix (nI c) N = true := by
  unfold ix
  exact decide_eq_true (nI_in h hN)
theorem m_takesBack (M : OV) : f_X10_takesBack M = some (sW M 8 (mix 113 (ar M 9) (ar M 8))) := by
  unfold f_X10_takesBack
  have h := lp_for (step := s_X10_takesBack_2_2) (fun k => (nI k, sW M 8 (mix k (ar M 9) (ar M 8)))) 0 113 (r := sW M 8 (mix 113 (ar M 9) (ar M 8))) (by omega)
    (fun k h0 h1 => by
      have e : ix (nI k) 113 = true := ix_nI h1 (by decide)
      have g : ¬ (113 : Int32) ≤ nI k := nI_ge h1 (by decide)
      simp only [s_X10_takesBack_2_2, un2, if_neg g, gd_t e, bnd, sA_W, nI_clamp (show k < 2 ^ 31 by omega), arW, nI_1]
      simp [mix_upd])
    (by simp [s_X10_takesBack_2_2, un2, show (113 : Int32) ≤ nI 113 by decide]) 5000 (by omega)
  simp only [mix_0, sW_self] at h
  simp only [bnd]
  rw [show (0 : Int32) = nI 0 from rfl, h]
  rfl
