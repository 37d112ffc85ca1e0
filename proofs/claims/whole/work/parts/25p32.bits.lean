-- bits of a set
theorem sh_k : ∀ k, k < 32 → ((nI k &&& 31).toBitVec.smod 32).toNat = k := by decide
theorem lsb1 (x : Int32) : (x &&& 1 = 1) ↔ x.toBitVec.getLsbD 0 = true := by
  constructor
  · intro h
    have := congrArg (fun y : Int32 => y.toBitVec.getLsbD 0) h
    simp only [Int32.toBitVec_and, BitVec.getLsbD_and] at this
    have h1 : (1 : Int32).toBitVec.getLsbD 0 = true := by decide
    rw [h1, Bool.and_true] at this
    exact this
  · intro h
    rcases and1 x with h0 | h0
    · exfalso
      have := congrArg (fun y : Int32 => y.toBitVec.getLsbD 0) h0
      simp only [Int32.toBitVec_and, BitVec.getLsbD_and] at this
      have h1 : (1 : Int32).toBitVec.getLsbD 0 = true := by decide
      have h2 : (0 : Int32).toBitVec.getLsbD 0 = false := by decide
      rw [h1, h, h2] at this
      cases this
    · exact h0
theorem bt_lsb (w : Int32) {k : Nat} (hk : k < 32) : bt w k = w.toBitVec.getLsbD k := by
  have h : (w >>> (nI k &&& 31)).toBitVec.getLsbD 0 = w.toBitVec.getLsbD k := by
    rw [Int32.toBitVec_shiftRight, BitVec.getLsbD_sshiftRight', sh_k k hk]
    simp [hk]
  unfold bt
  rw [Bool.eq_iff_iff, decide_eq_true_iff, lsb1, h]
theorem bt_xor (w : Int32) {j k : Nat} (hj : j < 32) (hk : k < 32) : bt (w ^^^ ((1 : Int32) <<< (nI k &&& 31))) j = (bt w j ^^ decide (j = k)) := by
  rw [bt_lsb _ hj, bt_lsb _ hj, Int32.toBitVec_xor, BitVec.getLsbD_xor, Int32.toBitVec_shiftLeft, BitVec.getLsbD_shiftLeft', sh_k k hk]
  congr 1
  have h1 : ∀ i, (1 : Int32).toBitVec.getLsbD i = decide (i = 0) := by
    intro i
    show (1#32).getLsbD i = _
    rw [BitVec.getLsbD_one]
    simp
  rw [h1]
  by_cases c : j = k
  · subst c; simp [hj]
  · rcases Nat.lt_or_ge j k with h | h
    · simp [c, h]
    · simp [c, show ¬ j - k = 0 by omega]
def pcN : Nat → Nat → Nat
  | 0, _ => 0
  | f + 1, n => n % 2 + pcN f (n / 2)
theorem pc_zero : ∀ f, pcN f 0 = 0
  | 0 => rfl
  | f + 1 => by simp [pcN, pc_zero f]
theorem pc_clear : ∀ f n, 0 < n → n < 2 ^ f → pcN f (n &&& (n - 1)) + 1 = pcN f n
  | 0, n, h, h2 => by simp at h2; omega
  | f + 1, n, h, h2 => by
    have e1 : (n &&& (n - 1)) % 2 = 0 := by
      have : ¬ (n &&& (n - 1)) % 2 = 1 := by
        rw [Nat.and_mod_two_eq_one]
        omega
      omega
    simp only [pcN, e1, Nat.and_div_two]
    have hp : 2 ^ (f + 1) = 2 * 2 ^ f := by rw [Nat.pow_succ, Nat.mul_comm]
    rcases Nat.mod_two_eq_zero_or_one n with c | c
    · have e2 : (n - 1) / 2 = n / 2 - 1 := by omega
      rw [e2, c]
      have := pc_clear f (n / 2) (by omega) (by omega)
      omega
    · have e2 : (n - 1) / 2 = n / 2 := by omega
      rw [e2, Nat.and_self, c]
      omega
theorem sm_shift (f : Nat → Nat) : ∀ n, sm f (n + 1) = f 0 + sm (fun k => f (k + 1)) n
  | 0 => by simp [sm]
  | n + 1 => by
    rw [sm, sm_shift f n]
    simp only [sm]
    omega
theorem pc_sum : ∀ f n, pcN f n = sm (fun k => if n.testBit k = true then 1 else 0) f
  | 0, _ => rfl
  | f + 1, n => by
    rw [sm_shift, pcN, pc_sum f (n / 2)]
    have e : (fun k => if (n / 2).testBit k = true then 1 else 0) = fun k => if n.testBit (k + 1) = true then 1 else 0 := by
      funext k
      rw [Nat.testBit_add_one]
    rw [e, Nat.testBit_zero]
    rcases Nat.mod_two_eq_zero_or_one n with c | c <;> simp [c]
theorem sm_congr {f g : Nat → Nat} : ∀ n, (∀ k, k < n → f k = g k) → sm f n = sm g n
  | 0, _ => rfl
  | n + 1, h => by rw [sm, sm, sm_congr n (fun k hk => h k (by omega)), h n (by omega)]
theorem sm_flip {f g : Nat → Nat} {k : Nat} : ∀ n, k < n → (∀ j, j ≠ k → f j = g j) → sm f n + g k = sm g n + f k
  | 0, h, _ => by omega
  | n + 1, h, hfg => by
    simp only [sm]
    by_cases c : k = n
    · subst c
      rw [sm_congr k (fun j hj => hfg j (by omega))]
      omega
    · have := sm_flip n (by omega) hfg
      rw [hfg n (fun e => c e.symm)]
      omega
theorem bc_pc {w : Int32} (h : hib w) : pcN 32 w.toBitVec.toNat = bc w := by
  rw [pc_sum]
  have e : ∀ k, k < 32 → (if w.toBitVec.toNat.testBit k = true then 1 else 0) = (if bt w k = true then 1 else 0) := by
    intro k hk
    rw [bt_lsb w hk, BitVec.testBit_toNat]
  rw [sm_congr 32 e]
  have z : ∀ k, 26 ≤ k → k < 32 → (if bt w k = true then 1 else 0) = 0 := fun k a b => by rw [h k a b]; rfl
  show sm (fun k => if bt w k = true then 1 else 0) 26 + (if bt w 26 = true then 1 else 0) + (if bt w 27 = true then 1 else 0) + (if bt w 28 = true then 1 else 0) + (if bt w 29 = true then 1 else 0) + (if bt w 30 = true then 1 else 0) + (if bt w 31 = true then 1 else 0) = bc w
  rw [z 26 (by decide) (by decide), z 27 (by decide) (by decide), z 28 (by decide) (by decide), z 29 (by decide) (by decide), z 30 (by decide) (by decide), z 31 (by decide) (by decide)]
  rfl
theorem M_bits {w : Int32} (h : hib w) : f_X10_bitsOf w = some (nI (bc w)) := by
  have key : ∀ m w c n, pcN 32 w.toBitVec.toNat = m → m < n → lp s_X10_bitsOf_4_3 n (nI c, w) = some (nI (c + m)) := by
    intro m
    induction m with
    | zero =>
      intro w c n hm hn
      obtain ⟨n, rfl⟩ : ∃ k, n = k + 1 := ⟨n - 1, by omega⟩
      by_cases z : w = 0
      · exact lp_r (by simp only [s_X10_bitsOf_4_3, un2, if_pos z, Nat.add_zero])
      · have h0 : 0 < w.toBitVec.toNat := by
          rcases Nat.eq_zero_or_pos w.toBitVec.toNat with h | h
          · exfalso; apply z; apply Int32.toBitVec_inj.mp; apply BitVec.eq_of_toNat_eq; rw [h]; rfl
          · exact h
        have := pc_clear 32 _ h0 w.toBitVec.isLt
        omega
    | succ m ih =>
      intro w c n hm hn
      obtain ⟨n, rfl⟩ : ∃ k, n = k + 1 := ⟨n - 1, by omega⟩
      by_cases z : w = 0
      · subst z
        have : pcN 32 (0 : Int32).toBitVec.toNat = 0 := pc_zero 32
        omega
      · have h0 : 0 < w.toBitVec.toNat := by
          rcases Nat.eq_zero_or_pos w.toBitVec.toNat with h | h
          · exfalso; apply z; apply Int32.toBitVec_inj.mp; apply BitVec.eq_of_toNat_eq; rw [h]; rfl
          · exact h
        have hlt := w.toBitVec.isLt
        have e : (w &&& (w - 1)).toBitVec.toNat = w.toBitVec.toNat &&& (w.toBitVec.toNat - 1) := by
          have h1 : (1 : Int32).toBitVec.toNat = 1 := by decide
          have e0 : (w - 1).toBitVec.toNat = w.toBitVec.toNat - 1 := by
            rw [Int32.toBitVec_sub, BitVec.toNat_sub, h1]
            generalize w.toBitVec.toNat = u at h0 hlt
            omega
          rw [Int32.toBitVec_and, BitVec.toNat_and, e0]
        have h1 := pc_clear 32 _ h0 hlt
        rw [← e] at h1
        have h2 := ih (w &&& (w - 1)) (c + 1) n (by omega) (by omega)
        rw [show c + (m + 1) = c + 1 + m by omega, ← h2]
        exact lp_l (by simp only [s_X10_bitsOf_4_3, un2, if_neg z, bnd, nI_1])
  have hm := bc_pc h
  have hle : bc w ≤ 1 * 26 := sm_le 26 (fun k _ => by split <;> omega)
  have := key (bc w) w 0 5000 hm (by omega)
  unfold f_X10_bitsOf
  simp only [bnd]
  rw [show (0 : Int32) = nI 0 from rfl, this, Nat.zero_add]
  rfl
theorem M_pairs {M : OV} {p : Pg} (hM : RM (ar M 8) p) (hb : ∀ l, l < 26 → hib (pt p l)) : f_X10_pairs M = some (nI (prs p)) := by
  have h1 : ∀ k, 0 ≤ k → k < 26 → ∀ x, s_X10_pairs_4_3 M (nI x, nI k) = some (.inl (nI (x + bc (pt p k)), nI (k + 1))) := by
    intro k _ hk x
    simp only [s_X10_pairs_4_3, un2, show ((26 : Int32) ≤ nI k) = (26 ≤ k) from nIle (by decide) (by omega), if_neg (show ¬ 26 ≤ k by omega), show (87 : Int32) + nI k = nI (87 + k) from nI_add 87 k, gd_t (ix_nI (show 87 + k < 113 by omega) (show 113 < 2 ^ 31 by decide)), nI_clamp (show 87 + k < 2 ^ 31 by omega), hM.2.2.2.1 k hk, M_bits (hb k hk), Option.bind_some, un1, bnd, nI_add, nI_1]
  have h2 : ∀ x, s_X10_pairs_4_3 M (nI x, nI 26) = some (.inr (nI x)) := by
    intro x
    simp only [s_X10_pairs_4_3, un2, if_pos (show (26 : Int32) ≤ nI 26 by decide)]
  have := lp_sum (step := s_X10_pairs_4_3 M) (fun k => bc (pt p k)) 0 26 (by decide) h1 h2 5000 (by omega)
  unfold f_X10_pairs
  simp only [bnd]
  rw [show (0 : Int32) = nI 0 from rfl, this]
  rfl
/-- a pair more, or a pair less -/
theorem bc_flip {w : Int32} {k : Nat} (hk : k < 26) : bc (w ^^^ ((1 : Int32) <<< (nI k &&& 31))) + (if bt w k = true then 1 else 0) = bc w + (if bt w k = true then 0 else 1) := by
  have h1 : ∀ j, j < 26 → j ≠ k → (if bt (w ^^^ ((1 : Int32) <<< (nI k &&& 31))) j = true then 1 else 0) = (if bt w j = true then 1 else 0) := by
    intro j hj hjk
    rw [bt_xor w (by omega) (by omega), decide_eq_false hjk, Bool.xor_false]
  have h2 : (if bt (w ^^^ ((1 : Int32) <<< (nI k &&& 31))) k = true then 1 else 0) = (if bt w k = true then 0 else 1) := by
    rw [bt_xor w (by omega) (by omega), decide_eq_true rfl]
    cases bt w k <;> rfl
  let f : Nat → Nat := fun j => if j < 26 then (if bt (w ^^^ ((1 : Int32) <<< (nI k &&& 31))) j = true then 1 else 0) else 0
  let g : Nat → Nat := fun j => if j < 26 then (if bt w j = true then 1 else 0) else 0
  have e1 : bc (w ^^^ ((1 : Int32) <<< (nI k &&& 31))) = sm f 26 := sm_congr 26 (fun j hj => by simp only [f, if_pos hj])
  have e2 : bc w = sm g 26 := sm_congr 26 (fun j hj => by simp only [g, if_pos hj])
  have h3 := sm_flip (f := f) (g := g) (k := k) 26 hk (fun j hj => by
    simp only [f, g]
    by_cases c : j < 26
    · rw [if_pos c, if_pos c]; exact h1 j c hj
    · rw [if_neg c, if_neg c])
  rw [e1, e2]
  simp only [f, g, if_pos hk] at h3
  rw [h2] at h3
  exact h3
theorem hib_flip {w : Int32} {k : Nat} (hk : k < 26) (h : hib w) : hib (w ^^^ ((1 : Int32) <<< (nI k &&& 31))) := by
  intro j h1 h2
  rw [bt_xor w h2 (by omega), decide_eq_false (by omega), Bool.xor_false]
  exact h j h1 h2
theorem prs_flip {p : Pg} {l : Nat} (hl : l < 26) (w : Int32) : prs (pTt p l w) + bc (pt p l) = prs p + bc w := by
  have := sm_flip (f := fun j => bc (pt (pTt p l w) j)) (g := fun j => bc (pt p j)) (k := l) 26 hl (fun j hj => by
    show bc (va_up (fun i => pt p i) l w j) = bc (pt p j)
    rw [va_up_ne _ _ hj])
  have e : pt (pTt p l w) l = w := by
    show va_up (fun i => pt p i) l w l = w
    rw [va_up_self]
  simp only [e] at this
  exact this
