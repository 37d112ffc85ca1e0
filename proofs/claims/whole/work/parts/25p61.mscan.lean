-- the reader: the model's side
def tkk (k : Nat) : Nat := if k = 5 then 0 else if k = 0 then 3 else k
theorem tkk_1 {k : Nat} (hk : k ≤ 5) : (nI (tkk k) = (1 : Int32)) = (k = 1) := by
  have : ∀ k, k ≤ 5 → ((nI (tkk k) = (1 : Int32)) ↔ (k = 1)) := by decide
  exact propext (this k hk)
theorem tkk_2 {k : Nat} (hk : k ≤ 5) : (nI (tkk k) = (2 : Int32)) = (k = 2) := by
  have : ∀ k, k ≤ 5 → ((nI (tkk k) = (2 : Int32)) ↔ (k = 2)) := by decide
  exact propext (this k hk)
def EM (len : Nat) (v : Nat → Nat) (M : OV) : Prop := iv M 36 = nI len ∧ (∀ i, i < len → ar M 35 i = nI (v i)) ∧ W37 M
def KQ (M M' : OV) : Prop := (∀ k, ar M' k = ar M k) ∧ ∀ k, ¬ (38 ≤ k ∧ k ≤ 42) → iv M' k = iv M k
theorem KQ_rf (M : OV) : KQ M M := ⟨fun _ => rfl, fun _ _ => rfl⟩
theorem KQ_tr {M M' M'' : OV} (h : KQ M M') (h2 : KQ M' M'') : KQ M M'' := ⟨fun k => (h2.1 k).trans (h.1 k), fun k hk => (h2.2 k hk).trans (h.2 k hk)⟩
theorem KQ_I (M : OV) {k : Nat} (hk : 38 ≤ k ∧ k ≤ 42) (x : Int32) : KQ M (sI M k x) := ⟨fun _ => rfl, fun j hj => ivn _ _ (fun h => hj (by rw [h]; exact hk))⟩
theorem KQ_KM {M M' : OV} (h : KQ M M') : KM M M' := fun k hk => ⟨h.1 k, h.2 k (by omega)⟩
theorem EM_KM {len : Nat} {v : Nat → Nat} {M M' : OV} (h : EM len v M) (k : KM M M') : EM len v M' := by
  obtain ⟨h1, h2, h3⟩ := h
  refine ⟨by rw [(k 36 (by omega)).2]; exact h1, by rw [(k 35 (by omega)).1]; exact h2, ?_⟩
  unfold W37
  rw [(k 37 (by omega)).1]
  exact h3
theorem EM_KQ {len : Nat} {v : Nat → Nat} {M M' : OV} (h : EM len v M) (k : KQ M M') : EM len v M' := EM_KM h (KQ_KM k)
def hre (v : Nat → Nat) (len i : Nat) : Int32 := if len ≤ i then -1 else nI (v i)
theorem M_here {M : OV} {len : Nat} {v : Nat → Nat} (hM : EM len v M) (h5 : len ≤ 500) {i : Nat} (hi : i ≤ len) (h : iv M 38 = nI i) : f_X10_here M = some (hre v len i) := by
  unfold f_X10_here hre
  rw [hM.1, h]
  simp only [nIle (show len < 2 ^ 31 by omega) (show i < 2 ^ 31 by omega)]
  by_cases c : len ≤ i
  · rw [if_pos c, if_pos c]
  · rw [if_neg c, if_neg c, gd_t (ix_nI (by omega) (by decide)), nI_clamp (by omega), hM.2.1 i (by omega)]
theorem in_a : ∀ x, x < 256 → f_X10_in (nI x) 97 122 = some (bo (decide (97 ≤ x ∧ x ≤ 122))) := by decide +kernel
theorem in_0 : ∀ x, x < 256 → f_X10_in (nI x) 48 57 = some (bo (decide (48 ≤ x ∧ x ≤ 57))) := by decide +kernel
theorem in_m : f_X10_in (-1 : Int32) 97 122 = some (0 : Int32) := by decide +kernel
def RK (v : Nat → Nat) (M : OV) (k f b : Nat) : Prop := iv M 38 = nI b ∧ iv M 39 = nI (tkk k) ∧ iv M 40 = nI f ∧ (k = 2 → iv M 41 = nI (v f - 48))
theorem M_goes {M : OV} {len : Nat} {v : Nat → Nat} {k b k' f' b' : Nat} (hM : EM len v M) (h5 : len ≤ 500) (hv : ∀ i, i < len → v i < 256) (hb : b ≤ len) (hk : k ≤ 5) (h38 : iv M 38 = nI b) (h39 : iv M 39 = nI (tkk k)) (hx : NX v len k b k' f' b') : ∃ M', f_X10_goesOn M = some M' ∧ RK v M' k' f' b' ∧ KQ M M' ∧ iv M' 42 = iv M 42 := by
  obtain ⟨⟨s1, s2, s3, s4⟩, hx⟩ := hx
  obtain ⟨M1, e, g1, g2, g3, g4⟩ := lp_inv (step := s_X10_goesOn_10_3) (fun i s => iv s 38 = nI i ∧ KQ M s ∧ iv s 39 = iv M 39 ∧ iv s 42 = iv M 42) (fun s => iv s 38 = nI f' ∧ KQ M s ∧ iv s 39 = iv M 39 ∧ iv s 42 = iv M 42) b f' s1 (by
    rintro i s h1 h2 ⟨g1, g2, g3, g4⟩
    have hh := M_here (EM_KQ hM g2) h5 (show i ≤ len by omega) g1
    have e32 : hre v len i = 32 := by unfold hre; rw [if_neg (by omega), s3 i h1 h2]; rfl
    refine ⟨sI s 38 (nI (i + 1)), ?_, ivs _ _ _, KQ_tr g2 (KQ_I _ (by decide) _), by rw [ivn _ _ (by decide)]; exact g3, by rw [ivn _ _ (by decide)]; exact g4⟩
    simp only [s_X10_goesOn_10_3, un1, hh, Option.bind_some, if_pos e32, bnd_e, g1, nI_1]) (by
    rintro s ⟨g1, g2, g3, g4⟩
    have hh := M_here (EM_KQ hM g2) h5 s2 g1
    refine ⟨s, ?_, g1, g2, g3, g4⟩
    have z : ¬ hre v len f' = 32 := by
      unfold hre
      by_cases c : len ≤ f'
      · rw [if_pos c]; decide
      · have b1 := hv f' (by omega)
        rw [if_neg c, show (nI (v f') = (32 : Int32)) = (v f' = 32) from nIe (by omega) (by decide)]
        exact s4 (by omega)
    simp only [s_X10_goesOn_10_3, un1, hh, Option.bind_some, if_neg z]) 5000 (by omega) M ⟨h38, KQ_rf M, rfl, rfl⟩
  obtain ⟨M2, hM2⟩ : ∃ M2, M2 = sI M1 40 (nI f') := ⟨_, rfl⟩
  have p38 : iv M2 38 = nI f' := by rw [hM2, ivn _ _ (by decide)]; exact g1
  have p40 : iv M2 40 = nI f' := by rw [hM2, ivs]
  have p42 : iv M2 42 = iv M 42 := by rw [hM2, ivn _ _ (by decide)]; exact g4
  have pq : KQ M M2 := by rw [hM2]; exact KQ_tr g2 (KQ_I _ (by decide) _)
  have t1 := tkk_1 hk
  have t2 := tkk_2 hk
  have F : f_X10_goesOn M = j_X10_goesOn_63_11 M2 (bo (decide ((k = 1 ∨ k = 2) ∧ f' = b))) := by
    unfold f_X10_goesOn
    simp only [bnd_e]
    rw [e, Option.bind_some]
    simp only [un1]
    rw [g1, ← hM2, p40, h38, h39]
    simp only [nIe (show f' < 2 ^ 31 by omega) (show b < 2 ^ 31 by omega), t1, t2, j_X10_goesOn_58_39, j_X10_goesOn_62_38]
    by_cases c : f' = b
    · rw [if_pos c]
      by_cases d : k = 1
      · rw [if_pos d, decide_eq_true ⟨Or.inl d, c⟩]; rfl
      · rw [if_neg d]
        by_cases d2 : k = 2
        · rw [if_pos d2, decide_eq_true ⟨Or.inr d2, c⟩]; rfl
        · rw [if_neg d2, decide_eq_false (fun h => h.1.elim d d2)]; rfl
    · rw [if_neg c, decide_eq_false (fun h => c h.2)]; rfl
  rw [F]
  have hh := M_here (EM_KQ hM pq) h5 s2 p38
  unfold j_X10_goesOn_63_11
  simp only [bnd_e]
  rw [hh, Option.bind_some]
  simp only [un1]
  rcases hx with ⟨h1, h2, h3⟩ | ⟨h1, h2, h3⟩
  · have eh : hre v len f' = -1 := by unfold hre; rw [if_pos (by omega)]
    rw [if_pos eh]
    refine ⟨_, rfl, ⟨by rw [ivn _ _ (by decide), p38, h1, h3], by rw [ivs, h2]; rfl, by rw [ivn _ _ (by decide)]; exact p40, fun h => by omega⟩, KQ_tr pq (KQ_I _ (by decide) _), by rw [ivn _ _ (by decide)]; exact p42⟩
  · have b1 := hv f' h1
    have eh : hre v len f' = nI (v f') := by unfold hre; rw [if_neg (by omega)]
    rw [eh, if_neg (nI_ne1 (by omega)), in_a _ b1, Option.bind_some]
    have kb := kdN_le (v f')
    rcases h3 with ⟨h3, w1, w2, w3, w4⟩ | ⟨h3, h4⟩
    · have lt := kdN_1.1 h3
      rw [decide_eq_true lt, if_neg (by decide)]
      have lp1 : ∃ M3, lp s_X10_goesOn_96_26 5000 M2 = some M3 ∧ iv M3 38 = nI b' ∧ KQ M2 M3 ∧ iv M3 40 = nI f' ∧ iv M3 42 = iv M 42 := by
        refine lp_inv (step := s_X10_goesOn_96_26) (fun i s => iv s 38 = nI i ∧ KQ M2 s ∧ iv s 40 = nI f' ∧ iv s 42 = iv M 42) (fun s => iv s 38 = nI b' ∧ KQ M2 s ∧ iv s 40 = nI f' ∧ iv s 42 = iv M 42) f' b' (by omega) ?_ ?_ 5000 (by omega) M2 ⟨p38, KQ_rf _, p40, p42⟩
        · rintro i s i1 i2 ⟨q1, q2, q3, q4⟩
          have hh := M_here (EM_KQ hM (KQ_tr pq q2)) h5 (show i ≤ len by omega) q1
          have ei : hre v len i = nI (v i) := by unfold hre; rw [if_neg (by omega)]
          have li : 97 ≤ v i ∧ v i ≤ 122 := by
            by_cases d : i = f'
            · rw [d]; exact lt
            · exact w3 i (by omega) i2
          have hin : f_X10_in (nI (v i)) 97 122 = some 1 := by rw [in_a _ (hv i (by omega)), decide_eq_true li]; rfl
          refine ⟨sI s 38 (nI (i + 1)), ?_, ivs _ _ _, KQ_tr q2 (KQ_I _ (by decide) _), by rw [ivn _ _ (by decide)]; exact q3, by rw [ivn _ _ (by decide)]; exact q4⟩
          simp only [s_X10_goesOn_96_26, un1, hh, Option.bind_some, ei, hin, if_neg (show ¬ (1 : Int32) = 0 by decide), bnd_e, q1, nI_1]
        · rintro s ⟨q1, q2, q3, q4⟩
          have hh := M_here (EM_KQ hM (KQ_tr pq q2)) h5 w2 q1
          have hin : f_X10_in (hre v len b') 97 122 = some 0 := by
            unfold hre
            by_cases c : len ≤ b'
            · rw [if_pos c]; exact in_m
            · rw [if_neg c, in_a _ (hv b' (by omega)), decide_eq_false (w4 (by omega))]; rfl
          refine ⟨s, ?_, q1, q2, q3, q4⟩
          simp only [s_X10_goesOn_96_26, un1, hh, Option.bind_some, hin, if_true]
      obtain ⟨M3, e3, q1, q2, q3, q4⟩ := lp1
      rw [e3, Option.bind_some]
      simp only [bo_0, decide_eq_false_iff_not, j_X10_goesOn_133_35, bnd_e]
      have hg : k' = if (k = 1 ∨ k = 2) ∧ f' = b then 4 else 1 := by
        rw [h2, h3]
        unfold glu
        by_cases c : (k = 1 ∨ k = 2) ∧ f' = b
        · rw [if_pos ⟨c.1, c.2, Or.inl rfl⟩, if_pos c]
        · rw [if_neg (fun h => c ⟨h.1, h.2.1⟩), if_neg c]
      by_cases c : (k = 1 ∨ k = 2) ∧ f' = b
      · rw [if_neg (fun h => h c)]
        rw [if_pos c] at hg
        exact ⟨_, rfl, ⟨by rw [ivn _ _ (by decide)]; exact q1, by rw [ivs, hg]; rfl, by rw [ivn _ _ (by decide)]; exact q3, fun h => by omega⟩, KQ_tr pq (KQ_tr q2 (KQ_I _ (by decide) _)), by rw [ivn _ _ (by decide)]; exact q4⟩
      · rw [if_pos c]
        rw [if_neg c] at hg
        exact ⟨_, rfl, ⟨by rw [ivn _ _ (by decide)]; exact q1, by rw [ivs, hg]; rfl, by rw [ivn _ _ (by decide)]; exact q3, fun h => by omega⟩, KQ_tr pq (KQ_tr q2 (KQ_I _ (by decide) _)), by rw [ivn _ _ (by decide)]; exact q4⟩
    · have lt : ¬ (97 ≤ v f' ∧ v f' ≤ 122) := fun h => h3 (kdN_1.2 h)
      rw [decide_eq_false lt, if_pos (show bo false = (0 : Int32) from rfl), p38, nI_1]
      have fin : ∀ t : Nat, t = k' → ∃ M', j_X10_goesOn_182_20 (sI M2 38 (nI (f' + 1))) (nI (v f')) (nI t) = some M' ∧ RK v M' k' f' b' ∧ KQ M M' ∧ iv M' 42 = iv M 42 := by
        intro t ht
        refine ⟨_, rfl, ⟨?_, ?_, ?_, fun h => ?_⟩, ?_, ?_⟩
        · rw [ivn _ _ (by decide), ivn _ _ (by decide), ivs, h4]
        · rw [ivn _ _ (by decide), ivs, ht]
          have := glu_in k b f' kb
          rw [← h2] at this
          unfold tkk
          rw [if_neg (by omega), if_neg (by omega)]
        · rw [ivn _ _ (by decide), ivn _ _ (by decide), ivn _ _ (by decide)]; exact p40
        · rw [ivs]
          have := glu_in k b f' kb
          rw [← h2] at this
          have d2 := kdN_2 (this.2.2.2 h)
          exact pk_sub (a := v f') (b := 48) (by omega)
        · exact KQ_tr pq (KQ_tr (KQ_I _ (by decide) _) (KQ_tr (KQ_I _ (by decide) _) (KQ_I _ (by decide) _)))
        · rw [ivn _ _ (by decide), ivn _ _ (by decide), ivn _ _ (by decide)]; exact p42
      have z59 : (nI (v f') = (59 : Int32)) = (v f' = 59) := nIe (by omega) (by decide)
      simp only [z59, in_0 _ b1, Option.bind_some, bo_0, decide_eq_false_iff_not, j_X10_goesOn_181_25]
      have hg : k' = if v f' = 59 then 3 else if (48 ≤ v f' ∧ v f' ≤ 57) ∧ ¬ ((k = 1 ∨ k = 2) ∧ f' = b) then 2 else 4 := by
        rw [h2]
        by_cases c : v f' = 59
        · have : kdN (v f') = 3 := by rw [c]; rfl
          rw [this, if_pos c]
          unfold glu
          rw [if_neg (by omega)]
        · rw [if_neg c]
          by_cases d : 48 ≤ v f' ∧ v f' ≤ 57
          · have : kdN (v f') = 2 := by unfold kdN; rw [if_neg lt, if_pos d]
            rw [this]
            unfold glu
            by_cases g : (k = 1 ∨ k = 2) ∧ f' = b
            · rw [if_pos ⟨g.1, g.2, Or.inr rfl⟩, if_neg (fun h => h.2 g)]
            · rw [if_neg (fun h => g ⟨h.1, h.2.1⟩), if_pos ⟨d, g⟩]
          · have : kdN (v f') = 4 := by unfold kdN; rw [if_neg lt, if_neg d, if_neg c]
            rw [this, if_neg (fun h => d h.1)]
            unfold glu
            rw [if_neg (by omega)]
      by_cases c : v f' = 59
      · rw [if_pos c] at hg ⊢
        exact fin 3 hg.symm
      · rw [if_neg c] at hg ⊢
        by_cases d : 48 ≤ v f' ∧ v f' ≤ 57
        · rw [if_neg (fun h => h d)]
          by_cases g : (k = 1 ∨ k = 2) ∧ f' = b
          · rw [if_neg (fun h => h g)]
            rw [if_neg (fun h => h.2 g)] at hg
            exact fin 4 hg.symm
          · rw [if_pos g]
            rw [if_pos ⟨d, g⟩] at hg
            exact fin 2 hg.symm
        · rw [if_pos d]
          rw [if_neg (fun h => d h.1)] at hg
          exact fin 4 hg.symm
