-- the whole table read, on both sides
def FIN (E C M : OV) : Prop := (iv E 5 = -1 ∧ iv M 42 = 0 ∧ ∃ tb t np, RD C M tb t np ∧ PP t np) ∨ ∃ ft, ft ≤ 500 ∧ iv E 5 = nI ft ∧ iv M 42 = 1 ∧ iv M 40 = nI ft
section
variable {B : OV} {aB : Nat → Nat} {len : Nat} {v : Nat → Nat}
theorem R_step {E C M : OV} {k f b i : Nat} (hN : aB 98 = 500) (hB : TPc B len v) (h5 : len ≤ 500) (hv : ∀ i, i < len → v i < 256) (hM : EM len v M) (h : TS len v E M k f b) (hk : k ≠ 5) (hi : i ≤ b) (hR : ∃ tb t np, RD C M tb t np ∧ PP t np) : ∃ E' C' M', s_X6_readTable_13_6 aB B (nI i, E, C) = some (.inl (nI (i + 1), E', C')) ∧ s_X10_table_71_18 M = some (.inl M') ∧ KM M M' ∧ JR len v (i + 1) E' M' (∃ tb t np, RD C' M' tb t np ∧ PP t np) := by
  have h' := h
  obtain ⟨a1, a2, a3, a4, a5⟩ := h'
  obtain ⟨tb, t, np, hR, hP⟩ := hR
  have bl := a3.2.2.1
  have et := E_isText hN hB h5 hv a1 a3 txt_0 (wrd_lt wrd_0)
  have mt := M_isWord hM h5 hv a2 a3 wrd_0
  have mt' : f_X10_isWord M (0 : Int32) = _ := mt
  have z5 : ¬ nI k = (5 : Int32) := by rw [show (nI k = (5 : Int32)) = (k = 5) from nIe (b := 5) (by have := a3.1; omega) (by decide)]; exact hk
  have z0 : ¬ nI (tkk k) = (0 : Int32) := by
    have : ∀ k, k ≤ 5 → k ≠ 5 → ¬ nI (tkk k) = (0 : Int32) := by decide
    exact this k a3.1 hk
  have cc : s_X6_readTable_13_6 aB B (nI i, E, C) = if wmt v k f b [99, 108, 97, 115, 115] = false then (f_X6_readPair E aB B C).bind (un2 (fun E_16 C_17 => some (.inl (nI (i + 1), E_16, C_17)))) else (f_X6_readClass E aB B C).bind (un2 (fun E_16 C_17 => some (.inl (nI (i + 1), E_16, C_17)))) := by
    unfold s_X6_readTable_13_6
    simp only [un3]
    rw [hB.1, if_neg (show ¬ nI len < nI i by rw [nIlt (by omega) (by omega)]; omega), if_pos a4, a1.1, if_neg z5, et, Option.bind_some]
    simp only [un1, bo_0, j_X6_readTable_60_14, bnd_e, nI_1]
  have tm : f_X10_takesWord M (0 : Int32) = if wmt v k f b [99, 108, 97, 115, 115] = false then some ((0 : Int32), M) else (f_X10_goesOn M).bind (un1 (fun M_3 => some ((1 : Int32), M_3))) := by
    unfold f_X10_takesWord
    rw [if_pos a5, mt', Option.bind_some]
    simp only [un1, bo_0]
  have mm : s_X10_table_71_18 M = (f_X10_takesWord M (0 : Int32)).bind (un2 (fun r_20 M_21 => (if r_20 = 0 then (f_X10_needs M_21 (10 : Int32)).bind (un1 (fun M_23 => (if (iv M_23 42) = 0 then (f_X10_readsKeep M_23).bind (un1 (fun M_25 => some (.inl M_25))) else some (.inl M_23)))) else (f_X10_readsClass M_21).bind (un1 (fun M_27 => some (.inl M_27)))))) := by
    unfold s_X10_table_71_18
    simp only [un1]
    rw [if_pos a5, a2.2.1, if_neg z0]
  rw [cc, mm, tm]
  cases c : wmt v k f b [99, 108, 97, 115, 115]
  · rw [if_pos rfl, if_pos rfl, Option.bind_some]
    simp only [un2]
    rw [if_pos trivial]
    obtain ⟨E1, M1, e1, m1, q, hj⟩ := J_expect (n := i) (T := RD C M tb t np) hN hB h5 hv hM txt_10 wrd_10 (Or.inl ⟨k, f, b, h, Or.inr hi, hR⟩)
    have m1' : f_X10_needs M (10 : Int32) = some M1 := m1
    rw [m1', Option.bind_some]
    simp only [un1]
    rcases hj with ⟨k1, f1, b1, s1, s2, s3⟩ | ⟨ft, u1, u2, u3⟩
    · obtain ⟨E', C', M', c1, m2, k2, hj2⟩ := R_pair hN hB h5 hv (EM_KQ hM q) e1 s1 s2 (RD_q s3 q) hP
      refine ⟨E', C', M', by rw [c1]; rfl, ?_, KM_tr (KQ_KM q) k2, hj2⟩
      rw [if_pos s1.2.2.2.2, m2]
      rfl
    · obtain ⟨x2, E2, e2, f2⟩ := FE_told (C := C) u1 hN hB h5 hv u2
      obtain ⟨x3, E3, e3, f3⟩ := FE_told (C := C) u1 hN hB h5 hv f2
      have rp : f_X6_readPair E aB B C = some (E3, C) := by
        unfold f_X6_readPair
        rw [e1, Option.bind_some]
        simp only [un1, bnd_e]
        rw [e2, Option.bind_some]
        simp only [un2]
        rw [e3, Option.bind_some]
        simp only [un2]
        rw [if_neg (by rw [f3.2]; exact nI_ne1 (by omega))]
      refine ⟨E3, C, M1, by rw [rp]; rfl, ?_, KQ_KM q, Or.inr ⟨ft, u1, f3, u3⟩⟩
      rw [if_neg (by rw [u3.1]; decide)]
  · rw [if_neg (by simp), if_neg (by simp)]
    obtain ⟨E1, M1, k1, f1, b1, e1, m1, q, hs, p1, p2⟩ := TS_next hN hB h5 hv hM h
    rw [m1, Option.bind_some]
    simp only [un1, Option.bind_some, un2]
    rw [if_neg (by decide)]
    have hn : k1 = 5 ∨ i + 1 ≤ b1 := p1.elim Or.inl (fun g => Or.inr (by omega))
    obtain ⟨E', C', M', tb', c1, m2, k2, hj2⟩ := R_class hN hB h5 hv (EM_KQ hM q) e1 hs hn (RD_q hR q)
    refine ⟨E', C', M', by rw [c1]; rfl, by rw [m2]; rfl, KM_tr (KQ_KM q) k2, JR_T hj2 (Nat.le_refl _) (fun g => ⟨tb', t, np, g, hP⟩)⟩
theorem R_loop (hN : aB 98 = 500) (hB : TPc B len v) (h5 : len ≤ 500) (hv : ∀ i, i < len → v i < 256) : ∀ m i n1 n2 E C M, len + 1 - i ≤ m → m < n1 → m < n2 → i ≤ 600 → EM len v M → JR len v i E M (∃ tb t np, RD C M tb t np ∧ PP t np) → ∃ E' C' M', lp (s_X6_readTable_13_6 aB B) n1 (nI i, E, C) = some (E', C') ∧ lp s_X10_table_71_18 n2 M = some M' ∧ KM M M' ∧ FIN E' C' M' := by
  intro m
  induction m with
  | zero =>
    intro i n1 n2 E C M h1 h2 h3 h6 hM h
    obtain ⟨n1, rfl⟩ : ∃ x, n1 = x + 1 := ⟨n1 - 1, by omega⟩
    obtain ⟨n2, rfl⟩ : ∃ x, n2 = x + 1 := ⟨n2 - 1, by omega⟩
    have c1 : s_X6_readTable_13_6 aB B (nI i, E, C) = some (.inr (E, C)) := by
      unfold s_X6_readTable_13_6
      simp only [un3]
      rw [hB.1, if_pos (show nI len < nI i by rw [nIlt (by omega) (by omega)]; omega)]
    rcases h with ⟨k, f, b, s1, s2, s3⟩ | ⟨ft, u1, u2, u3⟩
    · have k5 : k = 5 := s2.elim id (fun g => by have := s1.2.2.1.2.2.1; omega)
      refine ⟨E, C, M, lp_r c1, lp_r ?_, KM_rf M, Or.inl ⟨s1.2.2.2.1, s1.2.2.2.2, s3⟩⟩
      unfold s_X10_table_71_18
      simp only [un1]
      rw [if_pos s1.2.2.2.2, s1.2.1.2.1, k5, if_pos (by decide)]
    · refine ⟨E, C, M, lp_r c1, lp_r ?_, KM_rf M, Or.inr ⟨ft, u1, u2.2, u3⟩⟩
      unfold s_X10_table_71_18
      simp only [un1]
      rw [if_neg (by rw [u3.1]; decide)]
  | succ m ih =>
    intro i n1 n2 E C M h1 h2 h3 h6 hM h
    obtain ⟨n1, rfl⟩ : ∃ x, n1 = x + 1 := ⟨n1 - 1, by omega⟩
    obtain ⟨n2, rfl⟩ : ∃ x, n2 = x + 1 := ⟨n2 - 1, by omega⟩
    rcases h with ⟨k, f, b, s1, s2, s3⟩ | ⟨ft, u1, u2, u3⟩
    · by_cases k5 : k = 5
      · refine ⟨E, C, M, lp_r ?_, lp_r ?_, KM_rf M, Or.inl ⟨s1.2.2.2.1, s1.2.2.2.2, s3⟩⟩
        · unfold s_X6_readTable_13_6
          simp only [un3]
          rw [hB.1]
          by_cases d : nI len < nI i
          · rw [if_pos d]
          · rw [if_neg d, if_pos s1.2.2.2.1, s1.1.1, k5, if_pos (by decide)]
        · unfold s_X10_table_71_18
          simp only [un1]
          rw [if_pos s1.2.2.2.2, s1.2.1.2.1, k5, if_pos (by decide)]
      · have hb : i ≤ b := s2.elim (fun g => absurd g k5) id
        have bl := s1.2.2.1.2.2.1
        obtain ⟨E', C', M', c1, m1, km, hj⟩ := R_step hN hB h5 hv hM s1 k5 hb s3
        obtain ⟨E2, C2, M2, c2, m2, km2, hf⟩ := ih (i + 1) n1 n2 E' C' M' (by omega) (by omega) (by omega) (by omega) (EM_KM hM km) hj
        exact ⟨E2, C2, M2, by rw [lp_l c1]; exact c2, by rw [lp_l m1]; exact m2, KM_tr km km2, hf⟩
    · refine ⟨E, C, M, lp_r ?_, lp_r ?_, KM_rf M, Or.inr ⟨ft, u1, u2.2, u3⟩⟩
      · unfold s_X6_readTable_13_6
        simp only [un3]
        rw [hB.1]
        by_cases d : nI len < nI i
        · rw [if_pos d]
        · rw [if_neg d, if_neg (by rw [u2.2]; exact nI_ne1 (by omega))]
      · unfold s_X10_table_71_18
        simp only [un1]
        rw [if_neg (by rw [u3.1]; decide)]
end
