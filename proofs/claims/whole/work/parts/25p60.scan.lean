-- the reader: words, numbers, what stands behind one
theorem ivn (x : OV) {k j : Nat} (v : Int32) (h : j ≠ k) : iv (sI x k v) j = iv x j := by rw [ivI, if_neg h]
theorem ivs (x : OV) (k : Nat) (v : Int32) : iv (sI x k v) k = v := by rw [ivI, if_pos rfl]
def Skp (v : Nat → Nat) (len b f : Nat) : Prop := b ≤ f ∧ f ≤ len ∧ (∀ i, b ≤ i → i < f → v i = 32) ∧ (f < len → v f ≠ 32)
def Wnd (v : Nat → Nat) (len a b : Nat) : Prop := a ≤ b ∧ b ≤ len ∧ (∀ i, a ≤ i → i < b → 97 ≤ v i ∧ v i ≤ 122) ∧ (b < len → ¬ (97 ≤ v b ∧ v b ≤ 122))
theorem Skp_ex (v : Nat → Nat) (len : Nat) : ∀ m b, len - b = m → b ≤ len → ∃ f, Skp v len b f := by
  intro m
  induction m with
  | zero => intro b h hb; exact ⟨b, Nat.le_refl _, hb, fun i h1 h2 => by omega, fun h => by omega⟩
  | succ m ih =>
    intro b h hb
    by_cases c : v b = 32
    · obtain ⟨f, h1, h2, h3, h4⟩ := ih (b + 1) (by omega) (by omega)
      refine ⟨f, by omega, h2, fun i i1 i2 => ?_, h4⟩
      by_cases d : i = b
      · rw [d]; exact c
      · exact h3 i (by omega) i2
    · exact ⟨b, Nat.le_refl _, hb, fun i h1 h2 => by omega, fun _ => c⟩
theorem Wnd_ex (v : Nat → Nat) (len : Nat) : ∀ m b, len - b = m → b ≤ len → ∃ f, Wnd v len b f := by
  intro m
  induction m with
  | zero => intro b h hb; exact ⟨b, Nat.le_refl _, hb, fun i h1 h2 => by omega, fun h => by omega⟩
  | succ m ih =>
    intro b h hb
    by_cases c : 97 ≤ v b ∧ v b ≤ 122
    · obtain ⟨f, h1, h2, h3, h4⟩ := ih (b + 1) (by omega) (by omega)
      refine ⟨f, by omega, h2, fun i i1 i2 => ?_, h4⟩
      by_cases d : i = b
      · rw [d]; exact c
      · exact h3 i (by omega) i2
    · exact ⟨b, Nat.le_refl _, hb, fun i h1 h2 => by omega, fun _ => c⟩
def kdN (x : Nat) : Nat := if 97 ≤ x ∧ x ≤ 122 then 1 else if 48 ≤ x ∧ x ≤ 57 then 2 else if x = 59 then 3 else 4
def glu (k b f kd : Nat) : Nat := if (k = 1 ∨ k = 2) ∧ f = b ∧ (kd = 1 ∨ kd = 2) then 4 else kd
def NX (v : Nat → Nat) (len k b k' f' b' : Nat) : Prop := Skp v len b f' ∧ ((f' = len ∧ k' = 5 ∧ b' = len) ∨ (f' < len ∧ k' = glu k b f' (kdN (v f')) ∧ ((kdN (v f') = 1 ∧ Wnd v len (f' + 1) b') ∨ (kdN (v f') ≠ 1 ∧ b' = f' + 1))))
theorem NX_ex (v : Nat → Nat) {len : Nat} (k : Nat) {b : Nat} (hb : b ≤ len) : ∃ k' f' b', NX v len k b k' f' b' := by
  obtain ⟨f, hf⟩ := Skp_ex v len _ b rfl hb
  by_cases c : f = len
  · exact ⟨5, f, len, hf, Or.inl ⟨c, rfl, rfl⟩⟩
  · have hl : f < len := by have := hf.2.1; omega
    by_cases d : kdN (v f) = 1
    · obtain ⟨b', h⟩ := Wnd_ex v len _ (f + 1) rfl (by omega)
      exact ⟨_, f, b', hf, Or.inr ⟨hl, rfl, Or.inl ⟨d, h⟩⟩⟩
    · exact ⟨_, f, f + 1, hf, Or.inr ⟨hl, rfl, Or.inr ⟨d, rfl⟩⟩⟩
def VS (v : Nat → Nat) (len k f b : Nat) : Prop := k ≤ 5 ∧ f ≤ b ∧ b ≤ len ∧ (k = 1 → f < b ∧ ∀ i, f ≤ i → i < b → 97 ≤ v i ∧ v i ≤ 122) ∧ (k = 2 → b = f + 1 ∧ 48 ≤ v f ∧ v f ≤ 57) ∧ (k = 5 → b = len) ∧ 1 ≤ k
theorem kdN_1 {x : Nat} : kdN x = 1 ↔ 97 ≤ x ∧ x ≤ 122 := by
  unfold kdN
  split
  · rename_i h; exact ⟨fun _ => h, fun _ => rfl⟩
  · rename_i h
    refine ⟨fun h2 => ?_, fun h2 => absurd h2 h⟩
    split at h2
    · omega
    · split at h2 <;> omega
theorem kdN_2 {x : Nat} : kdN x = 2 → 48 ≤ x ∧ x ≤ 57 := by
  unfold kdN
  intro h2
  split at h2
  · omega
  · split at h2
    · assumption
    · split at h2 <;> omega
theorem kdN_le (x : Nat) : 1 ≤ kdN x ∧ kdN x ≤ 4 := by
  unfold kdN
  split
  · omega
  · split
    · omega
    · split <;> omega
theorem glu_in (k b f : Nat) {kd : Nat} (h : 1 ≤ kd ∧ kd ≤ 4) : 1 ≤ glu k b f kd ∧ glu k b f kd ≤ 4 ∧ (glu k b f kd = 1 → kd = 1) ∧ (glu k b f kd = 2 → kd = 2) := by
  unfold glu
  split
  · omega
  · omega
theorem NX_VS {v : Nat → Nat} {len k b k' f' b' : Nat} (h : NX v len k b k' f' b') : VS v len k' f' b' ∧ (k' = 5 ∨ b < b') ∧ (b = len → k' = 5) := by
  obtain ⟨⟨s1, s2, s3, s4⟩, ⟨h1, h2, h3⟩ | ⟨h1, h2, h3⟩⟩ := h
  · subst h2
    refine ⟨⟨by omega, by omega, by omega, fun h => by omega, fun h => by omega, fun _ => h3, by omega⟩, Or.inl rfl, fun _ => rfl⟩
  · have g := glu_in k b f' (kdN_le (v f'))
    rw [← h2] at g
    rcases h3 with ⟨h3, w1, w2, w3, w4⟩ | ⟨h3, h4⟩
    · refine ⟨⟨by omega, by omega, w2, fun _ => ⟨by omega, fun i i1 i2 => ?_⟩, fun h => by omega, fun h => by omega, g.1⟩, Or.inr (by omega), fun h => by omega⟩
      by_cases d : i = f'
      · rw [d]; exact kdN_1.1 h3
      · exact w3 i (by omega) i2
    · refine ⟨⟨by omega, by omega, by omega, fun h => by omega, fun h => ⟨h4, kdN_2 (g.2.2.2 h)⟩, fun h => by omega, g.1⟩, Or.inr (by omega), fun h => by omega⟩
-- the class
def RE (E : OV) (k f b : Nat) : Prop := iv E 2 = nI k ∧ iv E 3 = nI f ∧ iv E 4 = nI b
theorem kd_c : ∀ x, x < 256 → f_X6_kindOf (nI x) = some (nI (kdN x)) := by decide +kernel
theorem E_wn {E : OV} {k f b : Nat} (h : RE E k f b) (hk : k ≤ 5) : f_X6_isWordOrNumber E = some (bo (decide (k = 1 ∨ k = 2))) := by
  have z1 : (nI k = (1 : Int32)) = (k = 1) := nIe (by omega) (by decide)
  have z2 : (nI k = (2 : Int32)) = (k = 2) := nIe (by omega) (by decide)
  simp only [f_X6_isWordOrNumber, h.1, z1, z2, j_X6_isWordOrNumber_16_1]
  by_cases c : k = 1
  · rw [if_pos c, decide_eq_true (Or.inl c)]; rfl
  · rw [if_neg c]
    by_cases d : k = 2
    · rw [if_pos d, decide_eq_true (Or.inr d)]; rfl
    · rw [if_neg d, decide_eq_false (fun h => h.elim c d)]; rfl
theorem E_tail {E : OV} {kd f b' : Nat} (h : RE E kd f b') (hk : kd ≤ 5) (hf : f < 2 ^ 31) {b : Nat} (hb : b < 2 ^ 31) (k : Nat) : ∃ E', j_X6_next_173_15 (bo (decide (k = 1 ∨ k = 2))) (nI b) E = some E' ∧ RE E' (glu k b f kd) f b' ∧ iv E' 5 = iv E 5 := by
  have z3 : (nI f = nI b) = (f = b) := nIe hf hb
  simp only [j_X6_next_173_15, bo_0, h.2.1, z3, E_wn h hk, Option.bind_some, un1, bnd_e, decide_eq_false_iff_not]
  unfold glu
  by_cases c : k = 1 ∨ k = 2
  · rw [if_neg (fun h => h c)]
    by_cases d : f = b
    · rw [if_pos d]
      by_cases e : kd = 1 ∨ kd = 2
      · rw [if_neg (fun h => h e), if_pos ⟨c, d, e⟩]
        exact ⟨_, rfl, ⟨by rw [ivs]; rfl, by rw [ivn _ _ (by decide)]; exact h.2.1, by rw [ivn _ _ (by decide)]; exact h.2.2⟩, ivn _ _ (by decide)⟩
      · rw [if_pos e, if_neg (fun h => e h.2.2)]
        exact ⟨_, rfl, h, rfl⟩
    · rw [if_neg d, if_neg (fun h => d h.2.1)]
      exact ⟨_, rfl, h, rfl⟩
  · rw [if_pos c, if_neg (fun h => c h.1)]
    exact ⟨_, rfl, h, rfl⟩
theorem E_next {E B : OV} {aB : Nat → Nat} {len : Nat} {v : Nat → Nat} {k f b k' f' b' : Nat} (hN : aB 98 = 500) (hB : TPc B len v) (h5 : len ≤ 500) (hv : ∀ i, i < len → v i < 256) (h : RE E k f b) (hk : k ≤ 5) (hb : b ≤ len) (hx : NX v len k b k' f' b') : ∃ E', f_X6_next E aB B = some E' ∧ RE E' k' f' b' ∧ iv E' 5 = iv E 5 := by
  obtain ⟨⟨s1, s2, s3, s4⟩, hx⟩ := hx
  obtain ⟨r, e, g1, g2⟩ := lp_inv (step := s_X6_next_18_6 aB B) (fun i s => iv s 3 = nI i ∧ iv s 5 = iv E 5) (fun r => iv r 3 = nI f' ∧ iv r 5 = iv E 5) b f' s1 (by
    rintro i s h1 h2 ⟨g1, g2⟩
    have xi : ix (nI i) (aB 98) = true := by rw [hN]; exact ix_nI (by omega) (by decide)
    have ci := nI_clamp (show i < 2 ^ 31 by omega)
    have e32 : ar B 0 i = 32 := by rw [hB.2 i (by omega), s3 i h1 h2]; rfl
    refine ⟨sI s 3 (nI (i + 1)), ?_, ivs _ _ _, by rw [ivn _ _ (by decide)]; exact g2⟩
    simp only [s_X6_next_18_6, un1, g1, hB.1, nIle (show len < 2 ^ 31 by omega) (show i < 2 ^ 31 by omega), if_neg (show ¬ len ≤ i by omega), gd_t xi, ci, if_pos e32, bnd_e, nI_1]) (by
    rintro s ⟨g1, g2⟩
    refine ⟨s, ?_, g1, g2⟩
    have ci := nI_clamp (show f' < 2 ^ 31 by omega)
    by_cases c : len ≤ f'
    · simp only [s_X6_next_18_6, un1, g1, hB.1, nIle (show len < 2 ^ 31 by omega) (show f' < 2 ^ 31 by omega), if_pos c]
    · have xi : ix (nI f') (aB 98) = true := by rw [hN]; exact ix_nI (by omega) (by decide)
      have b1 := hv f' (by omega)
      have z : ¬ ar B 0 f' = 32 := by
        rw [hB.2 f' (by omega), show (nI (v f') = (32 : Int32)) = (v f' = 32) from nIe (by omega) (by decide)]
        exact s4 (by omega)
      simp only [s_X6_next_18_6, un1, g1, hB.1, nIle (show len < 2 ^ 31 by omega) (show f' < 2 ^ 31 by omega), if_neg c, gd_t xi, ci, if_neg z]) 5000 (by omega) (sI E 3 (nI b)) ⟨ivs _ _ _, ivn _ _ (by decide)⟩
  obtain ⟨y, hy⟩ : ∃ y : Nat, y = if len < f' + 1 then len else f' + 1 := ⟨_, rfl⟩
  have ey : (if nI len < nI (f' + 1) then nI len else nI (f' + 1)) = nI y := by
    rw [hy]
    simp only [nIlt (show len < 2 ^ 31 by omega) (show f' + 1 < 2 ^ 31 by omega)]
    split <;> rfl
  obtain ⟨r2, hr2⟩ : ∃ r2, r2 = sI r 4 (nI y) := ⟨_, rfl⟩
  have q3 : iv r2 3 = nI f' := by rw [hr2, ivn _ _ (by decide)]; exact g1
  have q4 : iv r2 4 = nI y := by rw [hr2, ivs]
  have q5 : iv r2 5 = iv E 5 := by rw [hr2, ivn _ _ (by decide)]; exact g2
  have F : f_X6_next E aB B = if len ≤ f' then j_X6_next_116_12 aB B r2 (bo (decide (k = 1 ∨ k = 2))) (nI b) 5 else j_X6_next_116_12 aB B r2 (bo (decide (k = 1 ∨ k = 2))) (nI b) (nI (kdN (v f'))) := by
    unfold f_X6_next
    rw [E_wn h hk, Option.bind_some]
    simp only [un1, bnd_e]
    rw [h.2.2, e, Option.bind_some, hB.1, g1, nI_1, ey, ← hr2, q3]
    simp only [nIle (show len < 2 ^ 31 by omega) (show f' < 2 ^ 31 by omega)]
    by_cases c : len ≤ f'
    · rw [if_pos c, if_pos c]
    · rw [if_neg c, if_neg c, gd_t (by rw [hN]; exact ix_nI (by omega) (by decide)), nI_clamp (by omega), hB.2 f' (by omega), kd_c _ (hv f' (by omega)), Option.bind_some]
  rw [F]
  rcases hx with ⟨h1, h2, h3⟩ | ⟨h1, h2, h3⟩
  · rw [if_pos (by omega)]
    have R3 : RE (sI r2 2 5) 5 f' b' := ⟨ivs _ _ _, by rw [ivn _ _ (by decide)]; exact q3, by rw [ivn _ _ (by decide), q4, hy, if_pos (by omega), h3]⟩
    obtain ⟨E', e1, e2, e3⟩ := E_tail R3 (by decide) (by omega) (show b < 2 ^ 31 by omega) k
    refine ⟨E', ?_, ?_, ?_⟩
    · simp only [j_X6_next_116_12, bnd_e, ivs, if_neg (show ¬ (5 : Int32) = 1 by decide)]
      exact e1
    · have : glu k b f' 5 = 5 := by unfold glu; rw [if_neg (by omega)]
      rw [this] at e2
      rw [h2]
      exact e2
    · rw [e3, ivn _ _ (by decide)]; exact q5
  · rw [if_neg (by omega)]
    have hy' : y = f' + 1 := by rw [hy, if_neg (by omega)]
    have kb := kdN_le (v f')
    have z1 : (nI (kdN (v f')) = (1 : Int32)) = (kdN (v f') = 1) := nIe (by omega) (by decide)
    obtain ⟨r3, hr3⟩ : ∃ r3, r3 = sI r2 2 (nI (kdN (v f'))) := ⟨_, rfl⟩
    have p2 : iv r3 2 = nI (kdN (v f')) := by rw [hr3, ivs]
    have p3 : iv r3 3 = nI f' := by rw [hr3, ivn _ _ (by decide)]; exact q3
    have p4 : iv r3 4 = nI (f' + 1) := by rw [hr3, ivn _ _ (by decide), q4, hy']
    have p5 : iv r3 5 = iv E 5 := by rw [hr3, ivn _ _ (by decide)]; exact q5
    simp only [j_X6_next_116_12, bnd_e, ← hr3, p2, z1]
    rcases h3 with ⟨h3, w1, w2, w3, w4⟩ | ⟨h3, h4⟩
    · rw [if_pos h3]
      obtain ⟨r4, e4, R4, f5⟩ := lp_inv (step := s_X6_next_127_19 aB B) (fun i s => RE s (kdN (v f')) f' i ∧ iv s 5 = iv E 5) (fun r => RE r (kdN (v f')) f' b' ∧ iv r 5 = iv E 5) (f' + 1) b' w1 (by
        rintro i s h1 h2 ⟨⟨t2, t3, t4⟩, t5⟩
        have xi : ix (nI i) (aB 98) = true := by rw [hN]; exact ix_nI (by omega) (by decide)
        have ci := nI_clamp (show i < 2 ^ 31 by omega)
        have k1 : kdN (v i) = 1 := kdN_1.2 (w3 i h1 h2)
        refine ⟨sI s 4 (nI (i + 1)), ?_, ⟨by rw [ivn _ _ (by decide)]; exact t2, by rw [ivn _ _ (by decide)]; exact t3, ivs _ _ _⟩, by rw [ivn _ _ (by decide)]; exact t5⟩
        have k1' : f_X6_kindOf (nI (v i)) = some 1 := by rw [kd_c _ (hv i (by omega)), k1]; rfl
        simp only [s_X6_next_127_19, un1, t4, hB.1, nIle (show len < 2 ^ 31 by omega) (show i < 2 ^ 31 by omega), if_neg (show ¬ len ≤ i by omega), gd_t xi, ci, hB.2 i (by omega), k1', Option.bind_some, if_true, bnd_e, nI_1]) (by
        rintro s ⟨⟨t2, t3, t4⟩, t5⟩
        refine ⟨s, ?_, ⟨t2, t3, t4⟩, t5⟩
        have ci := nI_clamp (show b' < 2 ^ 31 by omega)
        by_cases c : len ≤ b'
        · simp only [s_X6_next_127_19, un1, t4, hB.1, nIle (show len < 2 ^ 31 by omega) (show b' < 2 ^ 31 by omega), if_pos c]
        · have xi : ix (nI b') (aB 98) = true := by rw [hN]; exact ix_nI (by omega) (by decide)
          have k1 : ¬ kdN (v b') = 1 := fun h => w4 (by omega) (kdN_1.1 h)
          have kb2 := kdN_le (v b')
          have z2 : ¬ nI (kdN (v b')) = (1 : Int32) := by rw [show (nI (kdN (v b')) = (1 : Int32)) = (kdN (v b') = 1) from nIe (by omega) (by decide)]; exact k1
          simp only [s_X6_next_127_19, un1, t4, hB.1, nIle (show len < 2 ^ 31 by omega) (show b' < 2 ^ 31 by omega), if_neg c, gd_t xi, ci, hB.2 b' (by omega), kd_c _ (hv b' (by omega)), Option.bind_some, if_neg z2]) 5000 (by omega) r3 ⟨⟨p2, p3, p4⟩, p5⟩
      rw [e4, Option.bind_some]
      obtain ⟨E', e1, e2, e3⟩ := E_tail R4 (by omega) (by omega) (show b < 2 ^ 31 by omega) k
      refine ⟨E', e1, ?_, e3.trans f5⟩
      rw [h2]
      exact e2
    · rw [if_neg h3]
      obtain ⟨E', e1, e2, e3⟩ := E_tail (E := r3) ⟨p2, p3, p4⟩ (by omega) (by omega) (show b < 2 ^ 31 by omega) k
      refine ⟨E', e1, ?_, e3.trans p5⟩
      rw [h2, h4]
      exact e2
