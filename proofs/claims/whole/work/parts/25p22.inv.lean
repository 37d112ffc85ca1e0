-- ways: how many, and the least lines
def stp (tb : Tb) (p : Pg) (a b : Nat) : Bool := lgl p b && !mlong tb p a b
def wfin (tb : Tb) (p : Pg) (T : Nat → Nat × Nat) (a : Nat) : Nat → Nat × Nat
  | 0 => (0, 40)
  | b + 1 => if a ≤ b then (if stp tb p a b = true ∧ 0 < (T (b + 1)).1 then ((wfin tb p T a b).1 + (T (b + 1)).1, min (wfin tb p T a b).2 ((T (b + 1)).2 + 1)) else wfin tb p T a b) else (0, 40)
def wfs (tb : Tb) (p : Pg) : Nat → Nat → Nat × Nat
  | 0, _ => (0, 0)
  | f + 1, j => if pn p ≤ j then (1, 0) else wfin tb p (wfs tb p f) j (lim p j + 1)
def wf (tb : Tb) (p : Pg) (j : Nat) : Nat × Nat := wfs tb p 41 j
def WR (W : OV) (tb : Tb) (p : Pg) : Prop := iv W 2 = bo (decide (pn p = 0)) ∧ ∀ j, j ≤ pn p → al W 0 j = Int64.ofNat (wf tb p j).1 ∧ ar W 1 j = nI (wf tb p j).2
-- pairs, classes
def bc (w : Int32) : Nat := sm (fun k => if bt w k = true then 1 else 0) 26
def prs (p : Pg) : Nat := sm (fun l => bc (pt p l)) 26
def hib (w : Int32) : Prop := ∀ k, 26 ≤ k → k < 32 → bt w k = false
def cls (tb : Tb) : Nat := sm (fun l => if 0 < tb 0 l then 1 else 0) 26
def PgG (tb : Tb) (p : Pg) : Prop := PgS p ∧ PgT tb p ∧ prs p ≤ 12 ∧ ∀ l, l < 26 → hib (pt p l)
def PGc (P : OV) (p : Pg) : Prop := RP P p ∧ iv P 8 = nI (prs p)
def TPc (T : OV) (len : Nat) (v : Nat → Nat) : Prop := iv T 1 = nI len ∧ ∀ i, i < len → ar T 0 i = nI (v i)
def HSc (H : OV) (B : Nat → OV) (cnt nx : Nat) (q : Nat → Pg) : Prop := iv H 1 = nI nx ∧ iv H 2 = nI cnt ∧ nx < 12 ∧ cnt ≤ 12 ∧ ∀ j, j < cnt → PGc (B ((nx + 11 - j) % 12)) (q j)
def CLc (C : OV) (tb : Tb) : Prop := RC C tb ∧ iv C 5 = nI (cls tb)
def R0 (R : OV) : Prop := ar R 2 0 = 0 ∧ ar R 3 0 = 0 ∧ ∀ r, 1 ≤ r → r ≤ 3 → gr R 4 r 0 = 0 ∧ gr R 5 r 0 = 0
def YC (Y : OV) (tb : Tb) (p : Pg) (kd : Nat) : Prop := iv Y 7 = 0 ∨ YR Y tb p kd
/-- the model's words, one behind the other, a 0 behind each -/
def wds : List Nat := [99, 108, 97, 115, 115, 0, 119, 105, 100, 101, 0, 115, 104, 121, 0, 98, 101, 103, 105, 110, 0, 101, 110, 100, 0, 104, 97, 110, 103, 0, 116, 114, 105, 109, 0, 115, 113, 117, 101, 101, 122, 101, 0, 114, 97, 110, 107, 0, 111, 112, 101, 110, 0, 107, 101, 101, 112, 0]
def MOD (M : OV) (tb : Tb) (p : Pg) (len : Nat) (v : Nat → Nat) (cnt : Nat) (q : Nat → Pg) : Prop := RT M tb ∧ RM (ar M 8) p ∧ iv M 36 = nI len ∧ (∀ i, i < len → ar M 35 i = nI (v i)) ∧ iv M 11 = nI cnt ∧ (∀ j, j < cnt → RM (fun i => ar M 10 (113 * (cnt - 1 - j) + i)) (q j)) ∧ ∀ i, i < 58 → ar M 37 i = nI (wds.getD i 0)
def PUR (tb : Tb) (p : Pg) (len : Nat) (v : Nat → Nat) (cnt : Nat) (q : Nat → Pg) : Prop := TbS tb ∧ cls tb ≤ 10 ∧ PgG tb p ∧ len ≤ 500 ∧ (∀ i, i < len → v i < 256) ∧ ∀ j, j < cnt → PgG tb (q j)
def INVc (o : Nat → Nat) (a : Nat → Nat → Nat) (L T P H R U W C Y0 Y1 Y2 Y3 M : OV) (B : Nat → OV) (tb : Tb) (p : Pg) (len : Nat) (v : Nat → Nat) (cnt nx : Nat) (q : Nat → Pg) : Prop := (a 1 98 = 500 ∧ a 2 98 = 1000) ∧ (nv L 10 = o 10 ∧ nv L 11 = o 11) ∧ TPc T len v ∧ PGc P p ∧ HSc H B cnt nx q ∧ CLc C tb ∧ (R0 R ∧ R0 U) ∧ (iv L 12 = 0 ∨ RR (o 10) (a 0 2) R tb p) ∧ (YC Y0 tb p 0 ∧ YC Y1 tb p 1 ∧ YC Y2 tb p 2 ∧ YC Y3 tb p 3) ∧ (iv W 3 = 0 ∨ WR W tb p) ∧ MOD M tb p len v cnt q ∧ PUR tb p len v cnt q
def INV : LI := fun o a _ Z B => ∃ tb p len v cnt nx q, INVc o a (Z 0) (Z 1) (Z 3) (Z 5) (Z 6) (Z 7) (Z 9) (Z 10) (Z 24) (Z 25) (Z 26) (Z 27) (Z 28) B tb p len v cnt nx q
theorem KM_MOD {M M' : OV} {tb : Tb} {p : Pg} {len : Nat} {v : Nat → Nat} {cnt : Nat} {q : Nat → Pg} (h : KM M M') (m : MOD M tb p len v cnt q) : MOD M' tb p len v cnt q := by
  obtain ⟨m1, m2, m3, m4, m5, m6, m7⟩ := m
  refine ⟨KM_RT h m1, KM_RM h m2, ?_, ?_, ?_, ?_, ?_⟩
  · rw [(h 36 (by omega)).2]; exact m3
  · rw [(h 35 (by omega)).1]; exact m4
  · rw [(h 11 (by omega)).2]; exact m5
  · rw [(h 10 (by omega)).1]; exact m6
  · rw [(h 37 (by omega)).1]; exact m7
theorem RRk_0 {R : OV} {tb : Tb} {p : Pg} (h : R0 R) : RRk R tb p 0 := by
  obtain ⟨h1, h2, h3⟩ := h
  refine ⟨fun j hj => ?_, fun j hj => ?_, fun r a b j hj => ?_, fun r a b j hj => ?_, fun j hj => by omega, fun j hj => by omega, fun j hj => by omega, fun j hj => by omega, fun j hj => by omega⟩
  · rw [show j = 0 by omega, h1]; rfl
  · rw [show j = 0 by omega, h2]; rfl
  · rw [show j = 0 by omega, (h3 r a b).1]; rfl
  · rw [show j = 0 by omega, (h3 r a b).2]; rfl
theorem RR_0 {oC oP : Nat} {R : OV} {tb : Tb} {p : Pg} (h : RR oC oP R tb p) : R0 R := by
  obtain ⟨-, -, h2, h3, h4, h5, -⟩ := h
  exact ⟨h2 0 (Nat.zero_le _), h3 0 (Nat.zero_le _), fun r a b => ⟨h4 r a b 0 (Nat.zero_le _), h5 r a b 0 (Nat.zero_le _)⟩⟩
-- arguments
theorem kind_or (q : Int32) : (f_X9_isKind q = some 0 ∧ f_X10_isKind q = some 0) ∨ ∃ kd, kd < 4 ∧ q = nI kd ∧ f_X9_isKind q = some 1 ∧ f_X10_isKind q = some 1 := by
  have e4 : (4 : Int32) = nI 4 := rfl
  rcases pk_ix q (show 4 < 2 ^ 31 by decide) with h | h | ⟨j, hj, rfl⟩
  · left
    refine ⟨by simp [f_X9_isKind, h, j_X9_isKind_13_1], by simp [f_X10_isKind, f_X10_in, h, j_X10_in_14_1, un1, gd_t (show b01 (0 : Int32) = true by decide)]⟩
  · left
    have h0 : ¬ q < 0 := by
      intro h2
      exact absurd (Int32.lt_of_le_of_lt h h2) (by decide)
    have h3 : (3 : Int32) < q := Int32.lt_of_lt_of_le (by decide) h
    refine ⟨by simp only [f_X9_isKind, if_neg h0, e4, if_pos h, j_X9_isKind_13_1], ?_⟩
    simp [f_X10_isKind, f_X10_in, h0, h3, j_X10_in_14_1, un1, gd_t (show b01 (0 : Int32) = true by decide)]
  · right
    exact ⟨j, hj, rfl, (by decide : ∀ j, j < 4 → f_X9_isKind (nI j) = some 1 ∧ f_X10_isKind (nI j) = some 1) j hj⟩
theorem in_or (q : Int32) {n : Nat} (hn : n < 2 ^ 31) (h0 : 0 < n) : (f_X10_in q 0 (nI (n - 1)) = some 0 ∧ (q < 0 ∨ nI n ≤ q)) ∨ ∃ j, j < n ∧ q = nI j ∧ f_X10_in q 0 (nI (n - 1)) = some 1 := by
  rcases pk_ix q hn with h | h | ⟨j, hj, rfl⟩
  · left
    exact ⟨by simp only [f_X10_in, if_pos h, j_X10_in_14_1], Or.inl h⟩
  · left
    have h2 : nI (n - 1) < q := Int32.lt_of_lt_of_le (nI_lt (by omega) hn) h
    have h3 : ¬ q < 0 := by
      intro h4
      exact absurd (Int32.lt_of_le_of_lt h h4) (nI_pos hn)
    exact ⟨by simp only [f_X10_in, if_neg h3, if_pos h2, j_X10_in_14_1], Or.inr h⟩
  · right
    exact ⟨j, hj, rfl, by simp only [f_X10_in, if_neg (nI_pos (show j < 2 ^ 31 by omega)), if_neg (nI_nlt (show j ≤ n - 1 by omega) (by omega))]⟩
theorem has_or {P M : OV} {p : Pg} (hP : RP P p) (hM : RM (ar M 8) p) (hs : PgS p) (q : Int32) : (f_X4_has P q = some 0 ∧ f_X10_isSign M q = some 0) ∨ ∃ i, i < pn p ∧ q = nI i ∧ f_X4_has P q = some 1 ∧ f_X10_isSign M q = some 1 := by
  have h40 := hs.1
  by_cases hn : pn p = 0
  · left
    constructor
    · unfold f_X4_has
      rw [hP.1, hn]
      by_cases c : q < 0
      · rw [if_pos c]; rfl
      · rw [if_neg c, if_pos (show nI 0 ≤ q from Int32.not_lt.mp c)]; rfl
    · unfold f_X10_isSign
      simp only [M_many hM, Option.bind_some, un1, hn, f_X10_in]
      by_cases c : q < 0
      · rw [if_pos c]; rfl
      · rw [if_neg c, if_pos (Int32.lt_of_lt_of_le (show nI 0 - 1 < (0 : Int32) by decide) (Int32.not_lt.mp c))]; rfl
  · have e : f_X10_isSign M q = (f_X10_in q 0 (nI (pn p - 1))).bind (un1 (fun r => gd (b01 r) (some r))) := by
      unfold f_X10_isSign
      simp only [M_many hM, Option.bind_some, un1, nI_m1 (show 0 < pn p by omega)]
    rw [e]
    rcases in_or q (show pn p < 2 ^ 31 by omega) (by omega) with ⟨h1, h2⟩ | ⟨j, hj, rfl, h1⟩
    · left
      rw [h1]
      refine ⟨?_, rfl⟩
      unfold f_X4_has
      rw [hP.1]
      rcases h2 with h2 | h2
      · rw [if_pos h2]; rfl
      · by_cases c : q < 0
        · rw [if_pos c]; rfl
        · rw [if_neg c, if_pos h2]; rfl
    · right
      refine ⟨j, hj, rfl, ?_, by rw [h1]; rfl⟩
      unfold f_X4_has
      rw [hP.1, if_neg (nI_pos (by omega)), if_neg (nI_ge hj (by omega))]
theorem L_ruler {o : Nat → Nat} {a : Nat → Nat → Nat} {L P R C : OV} {tb : Tb} {p : Pg} (hL : nv L 10 = o 10) (hR0 : R0 R) (hr : iv L 12 = 0 ∨ RR (o 10) (a 0 2) R tb p) (hC : RC C tb) (hP : RP P p) (hs : PgS p) (hT : TbS tb) (hpt : PgT tb p) : ∃ L' R', f_X9_currentRuler (a 0) L P R (o 10) C = some (L', R') ∧ RR (o 10) (a 0 2) R' tb p ∧ (∀ k, nv L' k = nv L k) := by
  unfold f_X9_currentRuler
  by_cases c : iv L 12 = 0
  · obtain ⟨R', e, n0, n1, hR'⟩ := R_read (R := R) (oC := o 10) (oP := a 0 2) (RRk_0 hR0) hC hP hs hT hpt
    refine ⟨sI L 12 1, R', ?_, ⟨n0, n1, hR'⟩, fun k => rfl⟩
    rw [if_pos c, gd_t (decide_eq_true hL), e]
    rfl
  · rcases hr with h | h
    · exact absurd h c
    · exact ⟨L, R, by rw [if_neg c], h, fun k => rfl⟩
theorem ok_marked : Ok_marked INV := by
  rintro o a aK Z B hI q0
  have hI' := hI
  obtain ⟨tb, p, len, v, cnt, nx, q, -, -, -, ⟨hP, -⟩, -, -, -, -, -, -, ⟨hRT, hM, -⟩, ⟨-, -, ⟨hs, -⟩, -⟩⟩ := hI'
  have h40 := hs.1
  rcases has_or hP hM hs q0 with ⟨e1, e2⟩ | ⟨i, hi, rfl, e1, e2⟩
  · exact ⟨-1, -1, by simp [f_X9_marked, e1, un1], by simp [f_X10_marked, e2, un1], rfl, hI⟩
  · refine ⟨nI (pm p i), nI (pm p i), ?_, ?_, rfl, hI⟩
    · simp only [f_X9_marked, e1, Option.bind_some, un1, if_neg (show ¬ (1 : Int32) = 0 by decide), gd_t (ix_nI (show i < 40 by omega) (by decide)), nI_clamp (show i < 2 ^ 31 by omega), hP.2.2.1 i hi]
    · simp only [f_X10_marked, e2, Option.bind_some, un1, if_neg (show ¬ (1 : Int32) = 0 by decide), M_mark hM hs hi]
theorem ok_sign : Ok_sign INV := by
  rintro o a aK Z B hI q0
  have hI' := hI
  obtain ⟨tb, p, len, v, cnt, nx, q, -, -, -, ⟨hP, -⟩, -, -, -, -, -, -, ⟨hRT, hM, -⟩, ⟨-, -, ⟨hs, -⟩, -⟩⟩ := hI'
  have h40 := hs.1
  rcases has_or hP hM hs q0 with ⟨e1, e2⟩ | ⟨i, hi, rfl, e1, e2⟩
  · exact ⟨-1, -1, by simp [f_X9_sign, e1, un1], by simp [f_X10_sign, e2, un1], rfl, hI⟩
  · refine ⟨nI (ps p i), nI (ps p i), ?_, ?_, rfl, hI⟩
    · simp only [f_X9_sign, e1, Option.bind_some, un1, if_neg (show ¬ (1 : Int32) = 0 by decide), gd_t (ix_nI (show i < 40 by omega) (by decide)), nI_clamp (show i < 2 ^ 31 by omega), hP.2.1 i hi]
    · simp only [f_X10_sign, e2, Option.bind_some, un1, if_neg (show ¬ (1 : Int32) = 0 by decide), M_class hM hs hi]
theorem ok_legal : Ok_legal INV := by
  rintro o a aK Z B hI q0
  have hI' := hI
  obtain ⟨tb, p, len, v, cnt, nx, q, -, -, -, ⟨hP, -⟩, -, -, -, -, -, -, ⟨hRT, hM, -⟩, ⟨-, -, ⟨hs, -⟩, -⟩⟩ := hI'
  rcases has_or hP hM hs q0 with ⟨e1, e2⟩ | ⟨i, hi, rfl, e1, e2⟩
  · exact ⟨-1, -1, by simp [f_X9_legal, e1, un1], by simp [f_X10_legal, e2, un1], rfl, hI⟩
  · refine ⟨bo (lgl p i), bo (lgl p i), ?_, ?_, rfl, hI⟩
    · simp only [f_X9_legal, e1, Option.bind_some, un1, if_neg (show ¬ (1 : Int32) = 0 by decide), P_legal hP hs hi, bo_0]
      cases lgl p i <;> rfl
    · simp only [f_X10_legal, e2, Option.bind_some, un1, if_neg (show ¬ (1 : Int32) = 0 by decide), M_legal hM hs hi, bo_0]
      cases lgl p i <;> rfl
/-- a question that reads the ruler and looks -/
theorem INV_q1 {o : Nat → Nat} {a aK : Nat → Nat → Nat} {Z B : Nat → OV} {tb : Tb} {p : Pg} {len : Nat} {v : Nat → Nat} {cnt nx : Nat} {q : Nat → Pg} (hI : INVc o a (Z 0) (Z 1) (Z 3) (Z 5) (Z 6) (Z 7) (Z 9) (Z 10) (Z 24) (Z 25) (Z 26) (Z 27) (Z 28) B tb p len v cnt nx q) {L' R' M' : OV} (hL : ∀ k, nv L' k = nv (Z 0) k) (hR : RR (o 10) (a 0 2) R' tb p) (hM : KM (Z 28) M') : INV o a aK (va_up (va_up (va_up Z 0 L') 6 R') 28 M') B := by
  obtain ⟨i1, ⟨i2, i2'⟩, i3, i4, i5, i6, i7, i8, i9, i10, i11, i12⟩ := hI
  exact ⟨tb, p, len, v, cnt, nx, q, i1, ⟨(hL 10).trans i2, (hL 11).trans i2'⟩, i3, i4, i5, i6, ⟨RR_0 hR, i7.2⟩, Or.inr hR, i9, i10, KM_MOD hM i11, i12⟩
theorem up_same {α : Type} (f : Nat → α) (k : Nat) : va_up f k (f k) = f := funext fun j => by
  unfold va_up
  split
  · rename_i h; rw [h]
  · rfl
theorem ok_natural : Ok_natural INV := by
  rintro o a aK Z B hI q0 q1
  have hI' := hI
  obtain ⟨tb, p, len, v, cnt, nx, q, hc⟩ := hI'
  have hc' := hc
  obtain ⟨-, ⟨i2, -⟩, -, ⟨hP, -⟩, -, ⟨hC, -⟩, ⟨hR0, -⟩, hr, -, -, ⟨hRT, hM, -⟩, ⟨hT, -, ⟨hs, hpt, -⟩, -⟩⟩ := hc'
  have h40 := hs.1
  have none_ : ∀ (e1 : f_X9_natural (a 0) (Z 0) (Z 3) (Z 6) (o 10) (Z 10) q0 q1 = some (-1, Z 0, Z 6)) (e2 : f_X10_natural (Z 28) q0 q1 = some (-1, Z 28)), (∃ (u : Int32 × OV × OV) (w : Int32 × OV), f_X9_natural (a 0) (Z 0) (Z 3) (Z 6) (o 10) (Z 10) q0 q1 = some u ∧ f_X10_natural (Z 28) q0 q1 = some w ∧ w.1 = u.1 ∧ INV o a aK (va_up (va_up (va_up Z 0 u.2.1) 6 u.2.2) 28 w.2) B) := by
    intro e1 e2
    refine ⟨_, _, e1, e2, rfl, ?_⟩
    simp only [up_same]
    exact hI
  rcases has_or hP hM hs q0 with ⟨e1, e2⟩ | ⟨i, hi, rfl, e1, e2⟩
  · exact none_ (by simp [f_X9_natural, e1, un1]) (by simp [f_X10_natural, e2, un1])
  · rcases has_or hP hM hs q1 with ⟨e3, e4⟩ | ⟨j, hj, rfl, e3, e4⟩
    · exact none_ (by simp [f_X9_natural, e1, e3, un1]) (by simp [f_X10_natural, e2, e4, un1])
    · by_cases hij : i ≤ j
      · obtain ⟨L', R', e5, hR', hL'⟩ := L_ruler (a := a) i2 hR0 hr hC hP hs hT hpt
        refine ⟨(nI (msN tb p i j), L', R'), (nI (msN tb p i j), LKD (Z 28) tb p i j), ?_, ?_, rfl, INV_q1 hc hL' hR' (KM_lk _ _ _ _ _ _ _ _)⟩
        · simp only [f_X9_natural, e1, e3, Option.bind_some, un1, if_neg (show ¬ (1 : Int32) = 0 by decide), nIle (show i < 2 ^ 31 by omega) (show j < 2 ^ 31 by omega), if_pos hij, e5, un2, R_natural hR' hs hT hpt hij hj]
        · simp only [f_X10_natural, e2, e4, Option.bind_some, un1, if_neg (show ¬ (1 : Int32) = 0 by decide), nIle (show i < 2 ^ 31 by omega) (show j < 2 ^ 31 by omega), if_pos hij, M_looks hM hs hRT hT hpt hij hj]
          rfl
      · exact none_ (by simp only [f_X9_natural, e1, e3, Option.bind_some, un1, if_neg (show ¬ (1 : Int32) = 0 by decide), nIle (show i < 2 ^ 31 by omega) (show j < 2 ^ 31 by omega), if_neg hij]) (by simp only [f_X10_natural, e2, e4, Option.bind_some, un1, if_neg (show ¬ (1 : Int32) = 0 by decide), nIle (show i < 2 ^ 31 by omega) (show j < 2 ^ 31 by omega), if_neg hij])
theorem ok_cost : Ok_cost INV := by
  rintro o a aK Z B hI q0 q1
  have hI' := hI
  obtain ⟨tb, p, len, v, cnt, nx, q, hc⟩ := hI'
  have hc' := hc
  obtain ⟨-, ⟨i2, -⟩, -, ⟨hP, -⟩, -, ⟨hC, -⟩, ⟨hR0, -⟩, hr, -, -, ⟨hRT, hM, -⟩, ⟨hT, -, ⟨hs, hpt, -⟩, -⟩⟩ := hc'
  have h40 := hs.1
  have none_ : ∀ (e1 : f_X9_cost (a 0) (Z 0) (Z 3) (Z 6) (o 10) (Z 10) q0 q1 = some (-1, Z 0, Z 6)) (e2 : f_X10_cost (Z 28) q0 q1 = some (-1, Z 28)), (∃ (u : Int32 × OV × OV) (w : Int32 × OV), f_X9_cost (a 0) (Z 0) (Z 3) (Z 6) (o 10) (Z 10) q0 q1 = some u ∧ f_X10_cost (Z 28) q0 q1 = some w ∧ w.1 = u.1 ∧ INV o a aK (va_up (va_up (va_up Z 0 u.2.1) 6 u.2.2) 28 w.2) B) := by
    intro e1 e2
    refine ⟨_, _, e1, e2, rfl, ?_⟩
    simp only [up_same]
    exact hI
  rcases has_or hP hM hs q0 with ⟨e1, e2⟩ | ⟨i, hi, rfl, e1, e2⟩
  · exact none_ (by simp [f_X9_cost, e1, un1]) (by simp [f_X10_cost, e2, un1])
  · rcases has_or hP hM hs q1 with ⟨e3, e4⟩ | ⟨j, hj, rfl, e3, e4⟩
    · exact none_ (by simp [f_X9_cost, e1, e3, un1]) (by simp [f_X10_cost, e2, e4, un1])
    · by_cases hij : i ≤ j
      · obtain ⟨L', R', e5, hR', hL'⟩ := L_ruler (a := a) i2 hR0 hr hC hP hs hT hpt
        have i12 : iv (RLD R' tb p i j) 12 = bo (mlong tb p i j) := Eq.trans rfl rfl
        have i17 : iv (RLD R' tb p i j) 17 = nI (mcost tb p i j) := Eq.trans rfl rfl
        have i14 : iv (LKD (Z 28) tb p i j) 14 = bo (mlong tb p i j) := Eq.trans rfl rfl
        have i18 : iv (LKD (Z 28) tb p i j) 18 = nI (mcost tb p i j) := Eq.trans rfl rfl
        refine ⟨(if mlong tb p i j = false then nI (mcost tb p i j) else -2, L', RLD R' tb p i j), (if mlong tb p i j = false then nI (mcost tb p i j) else -2, LKD (Z 28) tb p i j), ?_, ?_, rfl, INV_q1 hc hL' (RR_ld hR' i j) (KM_lk _ _ _ _ _ _ _ _)⟩
        · simp only [f_X9_cost, e1, e3, Option.bind_some, un1, if_neg (show ¬ (1 : Int32) = 0 by decide), nIle (show i < 2 ^ 31 by omega) (show j < 2 ^ 31 by omega), if_pos hij, e5, un2, R_measure hR'.2.1 hR'.2.2 hP hs hT hpt hij hj, i12, i17, bo_0]
          cases mlong tb p i j <;> simp
        · simp only [f_X10_cost, e2, e4, Option.bind_some, un1, if_neg (show ¬ (1 : Int32) = 0 by decide), nIle (show i < 2 ^ 31 by omega) (show j < 2 ^ 31 by omega), if_pos hij, M_looks hM hs hRT hT hpt hij hj, i14, i18, bo_0]
          cases mlong tb p i j <;> simp
      · exact none_ (by simp only [f_X9_cost, e1, e3, Option.bind_some, un1, if_neg (show ¬ (1 : Int32) = 0 by decide), nIle (show i < 2 ^ 31 by omega) (show j < 2 ^ 31 by omega), if_neg hij]) (by simp only [f_X10_cost, e2, e4, Option.bind_some, un1, if_neg (show ¬ (1 : Int32) = 0 by decide), nIle (show i < 2 ^ 31 by omega) (show j < 2 ^ 31 by omega), if_neg hij])
