theorem ite_min {α : Type} {u v : Nat} (hu : u < 2 ^ 31) (hv : v < 2 ^ 31) (K : Int32 → α) : (if nI u ≤ nI v then K (nI u) else K (nI v)) = K (nI (min u v)) := by
  simp only [nIle hu hv]
  by_cases h : u ≤ v
  · rw [if_pos h, Nat.min_eq_left h]
  · rw [if_neg h, Nat.min_eq_right (by omega)]
theorem dlR_s (q : Nat → Nat) (x r : Nat) : dlR q x (r + 1) = dlR q x r - min (q (r + 1)) (dlR q x r) := rfl
theorem dlC_s (q : Nat → Nat) (x r : Nat) : dlC q x (r + 1) = dlC q x r + (r + 1) * min (q (r + 1)) (dlR q x r) := rfl
theorem dlR_0 (q : Nat → Nat) : ∀ r, dlR q 0 r = 0
  | 0 => rfl
  | r + 1 => by rw [dlR_s, dlR_0 q r]; simp
theorem dlC_0 (q : Nat → Nat) : ∀ r, dlC q 0 r = 0
  | 0 => rfl
  | r + 1 => by rw [dlC_s, dlC_0 q r, dlR_0]; simp
theorem M_takes {X : OV} {tb : Tb} {p : Pg} (h : RM (ar X 8) p) (hs : PgS p) (hR : RT X tb) (hT : TbS tb) (hpt : PgT tb p) {a b : Nat} (hab : a ≤ b) (hb : b < pn p) (hg : Bool) (x y : Nat) (hx : x ≤ 1000) (c12 c14 c16 c17 : Int32) : f_X10_takes (lkS X c12 (bo hg) c14 0 c16 c17 (nI y)) (nI a) (nI b) (nI x) = some (lkS X c12 (bo hg) (bo (decide (0 < dlR (qH tb p a b hg) x 3))) (nI (x - dlR (qH tb p a b hg) x 3)) c16 c17 (nI (y + dlC (qH tb p a b hg) x 3))) := by
  generalize hq : qH tb p a b hg = q
  have bq : ∀ r, q r ≤ 400 := fun r => by rw [← hq]; exact bdQ hs hT hb hg r
  have hstep : ∀ j, 0 ≤ j → j < 3 → s_X10_takes_6_3 (nI a) (nI b) ((fun j => (nI (dlR q x j), nI (j + 1), lkS X c12 (bo hg) c14 (nI (x - dlR q x j)) c16 c17 (nI (y + dlC q x j)))) j) = some (.inl ((fun j => (nI (dlR q x j), nI (j + 1), lkS X c12 (bo hg) c14 (nI (x - dlR q x j)) c16 c17 (nI (y + dlC q x j)))) (j + 1))) := by
    intro j _ hj
    have b1 := dlR_le q x j
    have b2 := bq (j + 1)
    have hin := M_takesIn (M := lkS X c12 (bo hg) c14 (nI (x - dlR q x j)) c16 c17 (nI (y + dlC q x j))) (r := j + 1) h hs hR hT hpt hab hb (by omega) hg rfl
    rw [hq] at hin
    have g : ¬ (3 : Int32) < nI (j + 1) := nI_nlt (show j + 1 ≤ 3 by omega) (by decide)
    simp only [s_X10_takes_6_3, un3, if_neg g, bnd]
    rw [show (0 : Int32) = nI 0 from rfl, hin]
    simp only [Option.bind_some, un1]
    rw [ite_min (u := q (j + 1)) (v := dlR q x j) (by omega) (by omega) (j_X10_takes_76_22 _ _ _)]
    have hm : min (q (j + 1)) (dlR q x j) ≤ dlR q x j := Nat.min_le_right _ _
    simp only [j_X10_takes_76_22, bnd, lk_i18, lk_s18, lk_i15, lk_s15, pk_mul, nI_add, nI_sub hm, nI_1, dlR_s, dlC_s]
    rw [Nat.add_assoc y, show x - dlR q x j + min (q (j + 1)) (dlR q x j) = x - (dlR q x j - min (q (j + 1)) (dlR q x j)) by omega]
  have hend : s_X10_takes_6_3 (nI a) (nI b) ((fun j => (nI (dlR q x j), nI (j + 1), lkS X c12 (bo hg) c14 (nI (x - dlR q x j)) c16 c17 (nI (y + dlC q x j)))) 3) = some (.inr (nI (dlR q x 3), lkS X c12 (bo hg) c14 (nI (x - dlR q x 3)) c16 c17 (nI (y + dlC q x 3)))) := by
    simp only [s_X10_takes_6_3, un3, if_pos (show (3 : Int32) < nI (3 + 1) by decide)]
  have hx3 := lp_for (step := s_X10_takes_6_3 (nI a) (nI b)) (fun j => (nI (dlR q x j), nI (j + 1), lkS X c12 (bo hg) c14 (nI (x - dlR q x j)) c16 c17 (nI (y + dlC q x j)))) 0 3 (by omega) hstep hend 5000 (by omega)
  have e0 : (nI (dlR q x 0), nI (0 + 1), lkS X c12 (bo hg) c14 (nI (x - dlR q x 0)) c16 c17 (nI (y + dlC q x 0))) = (nI x, (1 : Int32), lkS X c12 (bo hg) c14 0 c16 c17 (nI y)) := by
    simp only [dlR, dlC, Nat.sub_self, Nat.add_zero]
    rfl
  rw [e0] at hx3
  unfold f_X10_takes
  simp only [bnd, hx3, Option.bind_some, un2]
  have b3 := dlR_le q x 3
  have e3 : (nI (dlR q x 3) ≤ (0 : Int32)) = (dlR q x 3 ≤ 0) := nIle (by omega) (by decide)
  simp only [e3]
  by_cases c : dlR q x 3 ≤ 0
  · rw [if_pos c, lk_s14, decide_eq_false (by omega)]; rfl
  · rw [if_neg c, lk_s14, decide_eq_true (by omega)]; rfl
theorem M_gives {X : OV} {tb : Tb} {p : Pg} (h : RM (ar X 8) p) (hs : PgS p) (hR : RT X tb) (hT : TbS tb) (hpt : PgT tb p) {a b : Nat} (hab : a ≤ b) (hb : b < pn p) (x y : Nat) (hx : x ≤ 1000) (c12 c13 c14 c15 c17 : Int32) : f_X10_gives (lkS X c12 c13 c14 c15 0 c17 (nI y)) (nI a) (nI b) (nI x) = some (lkS X c12 c13 c14 c15 (nI (x - dlR (fun r => sg (fO tb p r) a b) x 3)) (nI (dlR (fun r => sg (fO tb p r) a b) x 3)) (nI (y + dlC (fun r => sg (fO tb p r) a b) x 3 + dlR (fun r => sg (fO tb p r) a b) x 3 * pw p 1))) := by
  have bq : ∀ r, (fun r => sg (fO tb p r) a b) r ≤ 400 := fun r => bdO hs hT hb r
  have hqq : ∀ r, sg (fO tb p r) a b = (fun r => sg (fO tb p r) a b) r := fun r => rfl
  generalize (fun r => sg (fO tb p r) a b) = q at *
  have hstep : ∀ j, 0 ≤ j → j < 3 → s_X10_gives_8_3 (nI a) (nI b) ((fun j => (nI (j + 1), lkS X c12 c13 c14 c15 (nI (x - dlR q x j)) (nI (dlR q x j)) (nI (y + dlC q x j)))) j) = some (.inl ((fun j => (nI (j + 1), lkS X c12 c13 c14 c15 (nI (x - dlR q x j)) (nI (dlR q x j)) (nI (y + dlC q x j)))) (j + 1))) := by
    intro j _ hj
    have b1 := dlR_le q x j
    have b2 := bq (j + 1)
    have hin := M_givesIn (M := lkS X c12 c13 c14 c15 (nI (x - dlR q x j)) (nI (dlR q x j)) (nI (y + dlC q x j))) (r := j + 1) h hs hR hT hpt hab hb (by omega)
    rw [hqq] at hin
    have g : ¬ (3 : Int32) < nI (j + 1) := nI_nlt (show j + 1 ≤ 3 by omega) (by decide)
    simp only [s_X10_gives_8_3, un2, if_neg g, bnd]
    rw [show (0 : Int32) = nI 0 from rfl, hin]
    simp only [Option.bind_some, un1, lk_i17]
    rw [ite_min (u := q (j + 1)) (v := dlR q x j) (by omega) (by omega) (j_X10_gives_82_21 _ _)]
    have hm : min (q (j + 1)) (dlR q x j) ≤ dlR q x j := Nat.min_le_right _ _
    simp only [j_X10_gives_82_21, bnd, lk_i18, lk_s18, lk_i16, lk_s16, lk_i17, lk_s17, pk_mul, nI_add, nI_sub hm, nI_1, dlR_s, dlC_s]
    rw [Nat.add_assoc y, show x - dlR q x j + min (q (j + 1)) (dlR q x j) = x - (dlR q x j - min (q (j + 1)) (dlR q x j)) by omega]
  have hend : s_X10_gives_8_3 (nI a) (nI b) ((fun j => (nI (j + 1), lkS X c12 c13 c14 c15 (nI (x - dlR q x j)) (nI (dlR q x j)) (nI (y + dlC q x j)))) 3) = some (.inr (lkS X c12 c13 c14 c15 (nI (x - dlR q x 3)) (nI (dlR q x 3)) (nI (y + dlC q x 3)))) := by
    simp only [s_X10_gives_8_3, un2, if_pos (show (3 : Int32) < nI (3 + 1) by decide)]
  have hx3 := lp_for (step := s_X10_gives_8_3 (nI a) (nI b)) (fun j => (nI (j + 1), lkS X c12 c13 c14 c15 (nI (x - dlR q x j)) (nI (dlR q x j)) (nI (y + dlC q x j)))) 0 3 (by omega) hstep hend 5000 (by omega)
  have e0 : (nI (0 + 1), lkS X c12 c13 c14 c15 (nI (x - dlR q x 0)) (nI (dlR q x 0)) (nI (y + dlC q x 0))) = ((1 : Int32), lkS X c12 c13 c14 c15 0 (nI x) (nI y)) := by
    simp only [dlR, dlC, Nat.sub_self, Nat.add_zero]
    rfl
  rw [e0] at hx3
  have e85 : ar X 8 (85 : Int32).toNatClampNeg = nI (pw p 1) := h.2.2.2.2.1 1 (by decide)
  unfold f_X10_gives
  simp only [bnd, lk_s17, hx3, Option.bind_some, un1, gd_t (show ix (85 : Int32) 113 = true by decide), lk_i17, lk_i18, lk_s18, lk_ar, e85, pk_mul, nI_add]
/-- the measure, behind the question whether it hangs -/
def LKD (X : OV) (tb : Tb) (p : Pg) (a b : Nat) : OV := lkS X (nI (msN tb p a b)) (bo (mhung tb p a b)) (bo (mlong tb p a b)) (nI (mtake tb p a b)) (nI (mput tb p a b)) (nI (mleft tb p a b)) (nI (mcost tb p a b))
def RLD (X : OV) (tb : Tb) (p : Pg) (a b : Nat) : OV := rlS X (bo (mhung tb p a b)) (bo (mlong tb p a b)) (bo (!mlong tb p a b || decide (a = b))) (nI (mtake tb p a b)) (nI (mput tb p a b)) (nI (mleft tb p a b)) (nI (mcost tb p a b))
theorem msN_trim {tb : Tb} {p : Pg} (hs : PgS p) (hT : TbS tb) (hpt : PgT tb p) {a b : Nat} (hab : a ≤ b) (hb : b < pn p) : fx tb p 4 b < fx tb p 0 b ∧ fx tb p 4 b ≤ sg (fx tb p 0) a (b + 1) := by
  have l0 := (hs.2.1 b hb).1
  have t := ((hT _ l0).2.2.2.2.2.2.2 (hpt b hb)).1
  have := sg_succ (f := fx tb p 0) hab
  unfold fx at *
  omega
theorem msN_sg (tb : Tb) (p : Pg) (a b : Nat) : msN tb p a b = sg (fx tb p 0) a (b + 1) - fx tb p 4 b := rfl
theorem msA_le {tb : Tb} {p : Pg} (hs : PgS p) (hT : TbS tb) {a b : Nat} (hb : b < pn p) : msA tb p a b ≤ 400 := by
  unfold msA
  split
  · exact bdW (a := a) hs hT (by omega)
  · have := bdW (a := a) hs hT (show b + 1 ≤ pn p by omega)
    rw [msN_sg]
    omega
theorem bo_t : bo true = 1 := rfl
theorem bo_f : bo false = 0 := rfl
theorem M_look2 {X : OV} {tb : Tb} {p : Pg} (h : RM (ar X 8) p) (hs : PgS p) (hR : RT X tb) (hT : TbS tb) (hpt : PgT tb p) {a b : Nat} (hab : a ≤ b) (hb : b < pn p) (c14 c15 c16 c17 c18 : Int32) : j_X10_looks_120_20 (lkS X (nI (msN tb p a b)) (bo (msH tb p a b)) c14 c15 c16 c17 c18) (nI a) (nI b) (nI (msA tb p a b) - nI (pd p)) = some (LKD X tb p a b) := by
  have h40 := hs.1
  have hd := hs.2.2.2.1
  have hA := msA_le (a := a) hs hT hb
  have e84 : ar X 8 (84 : Int32).toNatClampNeg = nI (pw p 0) := h.2.2.2.2.1 0 (by decide)
  have e86 : ar X 8 (86 : Int32).toNatClampNeg = nI (pw p 2) := h.2.2.2.2.1 2 (by decide)
  have lg : ∀ c12 c13 c14 c15 c16 c17 c18, f_X10_isLegal (lkS X c12 c13 c14 c15 c16 c17 c18) (nI b) = some (bo (lgl p b)) := fun c12 c13 c14 c15 c16 c17 c18 => M_legal (M := lkS X c12 c13 c14 c15 c16 c17 c18) h hs hb
  have x86 : ix (86 : Int32) 113 = true := by decide
  -- the end
  have hE : ∀ (lo : Bool) (tk pu le y : Nat), j_X10_looks_197_29 (nI b) (lkS X (nI (msN tb p a b)) (bo (msH tb p a b)) (bo lo) (nI tk) (nI pu) (nI le) (nI y)) = some (lkS X (nI (msN tb p a b)) (bo (msH tb p a b && !lo)) (bo lo) (nI (if lo = true then 0 else tk)) (nI pu) (nI le) (nI (if lo = true then pw p 2 + mbad p b else y + mbad p b))) := by
    intro lo tk pu le y
    simp only [j_X10_looks_197_29, j_X10_looks_221_33, lg, Option.bind_some, un1, bo_0, gd_t x86, bnd, lk_i18, lk_s18, lk_ar, e86, lk_i14, lk_s13, lk_s15, mbad, nI_add]
    cases lgl p b <;> cases lo <;> cases msH tb p a b <;> simp [bo_t, bo_f, nI_0, Nat.two_mul]
    all_goals rw [show (2 : Int32) = nI 2 from rfl, pk_mul, Nat.two_mul]
  have hy : ∀ y : Nat, j_X10_looks_154_25 (lkS X (nI (msN tb p a b)) (bo (msH tb p a b)) c14 0 0 0 c18) (nI a) (nI b) (nI (msA tb p a b) - nI (pd p)) (nI y) = some (lkS X (nI (msN tb p a b)) (bo (mhung tb p a b)) (bo (mlong tb p a b)) (nI (mtake tb p a b)) (nI (mput tb p a b)) (nI (mleft tb p a b)) (nI (if mlong tb p a b = true then pw p 2 + mbad p b else y + dlC (msQ tb p a b) (msM tb p a b) 3 + dlC (msO tb p a b) (msL tb p a b) 3 + mleft tb p a b * pw p 1 + mbad p b))) := by
    intro y
    simp only [j_X10_looks_154_25, bnd, lk_s18, lk_s14, sub_le0 (show msA tb p a b < 2 ^ 30 by omega) (show pd p < 2 ^ 30 by omega)]
    by_cases cA : msA tb p a b ≤ pd p
    · have hM0 : msM tb p a b = 0 := by unfold msM; omega
      have hlo : mlong tb p a b = false := by unfold mlong; rw [hM0, dlR_0]; rfl
      rw [if_pos cA, M_many (M := lkS X _ _ _ _ _ _ _) h]
      simp only [Option.bind_some, un1, nI_m1 (show 0 < pn p by omega), nIle (show pn p - 1 < 2 ^ 31 by omega) (show b < 2 ^ 31 by omega)]
      by_cases cb : pn p - 1 ≤ b
      · have hL0 : msL tb p a b = 0 := by unfold msL; rw [if_neg (by omega)]
        rw [if_pos cb]
        have := hE false 0 0 0 y
        rw [bo_f, nI_0] at this
        rw [this]
        simp [mhung, hlo, mtake, hM0, mput, mleft, hL0, dlR_0, dlC_0, bo_f, nI_0]
      · have hL1 : msL tb p a b = pd p - msA tb p a b := by unfold msL; rw [if_pos (by omega)]
        rw [if_neg cb, neg_subI cA, M_gives h hs hR hT hpt hab hb _ _ (by omega)]
        simp only [Option.bind_some, un1]
        have hO : (fun r => sg (fO tb p r) a b) = msO tb p a b := rfl
        rw [hO, ← hL1]
        have := hE false 0 (msL tb p a b - dlR (msO tb p a b) (msL tb p a b) 3) (dlR (msO tb p a b) (msL tb p a b) 3) (y + dlC (msO tb p a b) (msL tb p a b) 3 + dlR (msO tb p a b) (msL tb p a b) 3 * pw p 1)
        rw [bo_f, nI_0] at this
        rw [this]
        simp [mhung, hlo, mtake, hM0, mput, mleft, dlC_0, bo_f, nI_0]
    · have hL0 : msL tb p a b = 0 := by unfold msL; split <;> omega
      rw [if_neg cA, nI_sub (by omega), M_takes h hs hR hT hpt hab hb _ _ _ (by omega)]
      simp only [Option.bind_some, un1]
      rw [← msQ_q, show msA tb p a b - pd p = msM tb p a b from rfl]
      have := hE (mlong tb p a b) (msM tb p a b - dlR (msQ tb p a b) (msM tb p a b) 3) 0 0 (y + dlC (msQ tb p a b) (msM tb p a b) 3)
      rw [nI_0] at this
      rw [show bo (decide (0 < dlR (msQ tb p a b) (msM tb p a b) 3)) = bo (mlong tb p a b) from rfl, this]
      cases hlo : mlong tb p a b
      · have : dlR (msQ tb p a b) (msM tb p a b) 3 = 0 := by
          unfold mlong at hlo
          have := of_decide_eq_false hlo
          omega
        simp [mhung, hlo, mtake, mput, mleft, hL0, dlR_0, dlC_0, nI_0, this]
      · simp [mhung, hlo, mtake, mput, mleft, hL0, dlR_0, nI_0]
  simp only [j_X10_looks_120_20, bnd, lk_s15, lk_s16, lk_s17, lk_i13, bo_0, gd_t (show ix (84 : Int32) 113 = true by decide), lk_ar, e84]
  cases hH : msH tb p a b
  · have := hy 0
    rw [hH, nI_0] at this
    simp only [if_true]
    rw [this]
    unfold LKD mcost
    rw [hH]
    simp
  · have := hy (pw p 0)
    rw [hH] at this
    simp only [Bool.true_eq_false, if_false]
    rw [this]
    unfold LKD mcost
    rw [hH]
    simp
theorem M_looks {M : OV} {tb : Tb} {p : Pg} (h : RM (ar M 8) p) (hs : PgS p) (hR : RT M tb) (hT : TbS tb) (hpt : PgT tb p) {a b : Nat} (hab : a ≤ b) (hb : b < pn p) : f_X10_looks M (nI a) (nI b) = some (LKD M tb p a b) := by
  have h40 := hs.1
  have hd := hs.2.2.2.1
  have l0 := (hs.2.1 b hb).1
  have tt := hT _ l0
  have rr := (hR _ l0).2 (hpt b hb)
  have x26 : ix (nI (ps p b)) 26 = true := ix_nI l0 (by decide)
  have cc := nI_clamp (show ps p b < 2 ^ 31 by omega)
  have e1 : ar M 1 (ps p b) = nI (fx tb p 0 b) := (hR _ l0).1
  have e2 : ar M 2 (ps p b) = nI (fx tb p 3 b) := rr.1
  have e3 : ar M 3 (ps p b) = nI (fx tb p 4 b) := rr.2.1
  have b3 : fx tb p 3 b ≤ 1 := tt.2.1
  have tr := msN_trim hs hT hpt hab hb
  have bW := bdW (a := a) hs hT (show b + 1 ≤ pn p by omega)
  have sW := sg_succ (f := fx tb p 0) hab
  have e81 : ar M 8 (81 : Int32).toNatClampNeg = nI (pd p) := h.2.2.2.2.2.1
  have hN : nI (sg (fx tb p 0) a (b + 1)) - nI (fx tb p 4 b) = nI (msN tb p a b) := nI_sub tr.2
  have bN : msN tb p a b ≤ 400 := by rw [msN_sg]; omega
  have e20 : (nI (fx tb p 3 b) = (0 : Int32)) = (fx tb p 3 b = 0) := nIe (by omega) (by decide)
  have x81 : ix (81 : Int32) 113 = true := by decide
  have k0 : M = lkS M (iv M 12) (iv M 13) (iv M 14) (iv M 15) (iv M 16) (iv M 17) (iv M 18) := lk_eta M
  have s12 : sI M 12 (nI (msN tb p a b)) = lkS M (nI (msN tb p a b)) (iv M 13) (iv M 14) (iv M 15) (iv M 16) (iv M 17) (iv M 18) := by
    have := lk_s12 M (iv M 12) (iv M 13) (iv M 14) (iv M 15) (iv M 16) (iv M 17) (iv M 18) (nI (msN tb p a b))
    rw [← k0] at this
    exact this
  have noH : msH tb p a b = false → j_X10_looks_90_48 (lkS M (nI (msN tb p a b)) (iv M 13) (iv M 14) (iv M 15) (iv M 16) (iv M 17) (iv M 18)) (nI a) (nI b) (nI (sg (fx tb p 0) a (b + 1))) (nI (ps p b)) (nI (msN tb p a b) - nI (pd p)) = some (LKD M tb p a b) := by
    intro hH
    simp only [j_X10_looks_90_48, j_X10_looks_91_17, gd_t (show b01 (0 : Int32) = true by decide), bnd, lk_s13, lk_i13, if_true]
    have := M_look2 h hs hR hT hpt hab hb (iv M 14) (iv M 15) (iv M 16) (iv M 17) (iv M 18)
    rw [hH, show msA tb p a b = msN tb p a b by unfold msA; rw [hH]; rfl] at this
    exact this
  unfold f_X10_looks
  simp only [bnd]
  rw [show (0 : Int32) = nI 0 from rfl, M_sumW h hs hR hab hb]
  simp only [Option.bind_some, un1, M_class h hs hb, gd_t x26, cc, e3, hN, s12, gd_t x81, lk_ar, lk_i12, e81, e2]
  simp only [nI_0, sub_le0 (show msN tb p a b < 2 ^ 30 by omega) (show pd p < 2 ^ 30 by omega), e20, nIle (show b < 2 ^ 31 by omega) (show a < 2 ^ 31 by omega)]
  by_cases c1 : msN tb p a b ≤ pd p
  · rw [if_pos c1]
    exact noH (by unfold msH; exact decide_eq_false (by omega))
  · rw [if_neg c1]
    by_cases c2 : fx tb p 3 b = 0
    · rw [if_pos c2]
      exact noH (by unfold msH; exact decide_eq_false (by omega))
    · rw [if_neg c2]
      by_cases c3 : b ≤ a
      · rw [if_pos c3]
        exact noH (by unfold msH; exact decide_eq_false (by omega))
      · rw [if_neg c3]
        have hH : msH tb p a b = true := by unfold msH; exact decide_eq_true (by omega)
        simp only [j_X10_looks_91_17, gd_t (show b01 (1 : Int32) = true by decide), bnd, lk_s13, lk_i13, if_neg (show ¬ (1 : Int32) = 0 by decide), gd_t x26, gd_t x81, lk_ar, cc, e1, e81]
        have := M_look2 h hs hR hT hpt hab hb (iv M 14) (iv M 15) (iv M 16) (iv M 17) (iv M 18)
        rw [hH, show msA tb p a b = sg (fx tb p 0) a b by unfold msA; rw [hH]; rfl] at this
        rw [nI_sub (show fx tb p 0 b ≤ sg (fx tb p 0) a (b + 1) by omega), show sg (fx tb p 0) a (b + 1) - fx tb p 0 b = sg (fx tb p 0) a b by omega]
        exact this
