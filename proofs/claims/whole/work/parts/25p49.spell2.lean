theorem ok_spell : Ok_spell INV := by
  intro o a aK Z B hI q0 q1 q2
  have hI2 := hI
  obtain ⟨tb, p, len, v, cnt, nx, q, hc⟩ := hI2
  have hc' := hc
  obtain ⟨⟨-, hN⟩, -, -, ⟨hP, -⟩, -, -, -, -, hYs, -, ⟨hRT, hM, -⟩, ⟨hT, -, ⟨hs, hpt, -⟩, -⟩⟩ := hc'
  have h40 := hs.1
  have bad : f_X9_spell (a 0) (Z 0) (a 2) (Z 2) (Z 3) (Z 6) (Z 8) (o 10) (Z 10) (a 0 (900 + 0)) (Z (24 + 0)) q0 q1 q2 = some (-1, Z 0, Z 2, Z 6, Z 8, Z (24 + 0)) → f_X10_spell (Z 28) q0 q1 q2 = some (-1, Z 28) → (∃ (u : Int32 × OV × OV × OV × OV × OV) (w : Int32 × OV), f_X9_spell (a 0) (Z 0) (a 2) (Z 2) (Z 3) (Z 6) (Z 8) (o 10) (Z 10) (a 0 (900 + 0)) (Z (24 + 0)) q0 q1 q2 = some u ∧ f_X10_spell (Z 28) q0 q1 q2 = some w ∧ w.1 = u.1 ∧ INV o a aK (va_up (va_up (va_up (va_up (va_up (va_up Z 0 u.2.1) 2 u.2.2.1) 6 u.2.2.2.1) 8 u.2.2.2.2.1) (24 + 0) u.2.2.2.2.2) 28 w.2) B) := by
    intro h1 h2
    refine ⟨_, _, h1, h2, rfl, ?_⟩
    show INV o a aK (va_up (va_up (va_up (va_up (va_up (va_up Z 0 (Z 0)) 2 (Z 2)) 6 (Z 6)) 8 (Z 8)) (24 + 0) (Z (24 + 0))) 28 (Z 28)) B
    rw [up_same, up_same, up_same, up_same, up_same, up_same]
    exact hI
  by_cases c2 : q2 < -1
  · left
    exact bad (by unfold f_X9_spell; rw [if_pos c2]) (by unfold f_X10_spell; rw [if_pos c2])
  rcases kind_or q0 with ⟨b1, b2⟩ | ⟨kd, hkd, rfl, b1, b2⟩
  · left
    have e1 : f_X9_hasLine (a 0) (Z 0) (Z 3) (Z 6) (Z 8) (o 10) (Z 10) (a 0 (900 + 0)) (Z (24 + 0)) q0 q1 = some (0, Z 0, Z 6, Z 8, Z (24 + 0)) := by
      unfold f_X9_hasLine
      rw [b1, Option.bind_some]
      rfl
    have e2 : f_X10_looksAt (Z 28) q0 q1 = some (0, Z 28) := by
      unfold f_X10_looksAt
      rw [b2, Option.bind_some]
      rfl
    refine bad ?_ ?_
    · unfold f_X9_spell
      rw [if_neg c2, e1, Option.bind_some]
      simp only [un5]
      rw [if_pos trivial]
    · unfold f_X10_spell
      rw [if_neg c2, e2, Option.bind_some]
      simp only [un2]
      rw [if_pos trivial]
  have H : ∃ (u : Int32 × OV × OV × OV × OV × OV) (w : Int32 × OV), f_X9_spell (a 0) (Z 0) (a 2) (Z 2) (Z 3) (Z 6) (Z 8) (o 10) (Z 10) (a 0 (900 + kd)) (Z (24 + kd)) (nI kd) q1 q2 = some u ∧ f_X10_spell (Z 28) (nI kd) q1 q2 = some w ∧ w.1 = u.1 ∧ INV o a aK (va_up (va_up (va_up (va_up (va_up (va_up Z 0 u.2.1) 2 u.2.2.1) 6 u.2.2.2.1) 8 u.2.2.2.2.1) (24 + kd) u.2.2.2.2.2) 28 w.2) B := by
    have hy := YC_k (Z := Z) hYs hkd
    have hE : ∀ a, a ≤ EK tb p kd a := fun a => (EK_in hs kd a).1
    have hn : ∀ a, a < pn p → EK tb p kd a < pn p := fun a => (EK_in hs kd a).2
    obtain ⟨L1, L2, L3⟩ := LN_spec hE hn
    have hhl := L_hasLine hc hkd b1 hy q1
    rcases M_looksAt hM hs hRT hT hpt hkd b2 q1 with ⟨h1, M', e3, km⟩ | ⟨k, M', hk', rfl, e3, km, ml⟩
    · obtain ⟨L', R', N', Y', e4, hq⟩ := hhl.1 h1
      refine ⟨(-1, L', Z 2, R', N', Y'), (-1, M'), ?_, ?_, rfl, INV_q6 hc hkd (hq M' km)⟩
      · unfold f_X9_spell
        rw [if_neg c2, e4, Option.bind_some]
        simp only [un5]
        rw [if_pos trivial]
      · unfold f_X10_spell
        rw [if_neg c2, e3, Option.bind_some]
        simp only [un2]
        rw [if_pos trivial]
    · obtain ⟨L', R', N', Y', e4, hY', hq⟩ := hhl.2 k hk' rfl
      have hl2 := L_layout2 (a := a) (L := L') (P := Z 3) (R := R') (N := N') (C := Z 10) (oC := o 10) hkd hY'
      have ht : ∀ i, i < pn p → tkA tb p kd i ≤ 8 := fun i hi => (tkA_8 hs hT kd hi).1
      have hu : ∀ i, i < pn p → puA tb p kd i ≤ 9 := fun i hi => (tkA_8 hs hT kd hi).2
      obtain ⟨S', e5, hS'⟩ := TX_line (S := Z 2) (aS := a 2) hN hY' hP hs hk' ht hu
      have hM' := KM_RM km hM
      have hRT' := KM_RT km hRT
      obtain ⟨M2, e6, k6, dd, i13⟩ := M_dealK hM' hs hRT' hT hpt ml hk'
      have hb := stt_ln hE hn hk'
      have mlk : ML (LKD M' tb p (stt (EK tb p kd) k) (EK tb p kd (stt (EK tb p kd) k))) tb p kd := ml
      have hfi := M_first mlk hs hk'
      have h24 := mlk.2 k hk'
      have hM2 := KM_RM (KD_KM k6) hM'
      obtain ⟨M3, e7, h7⟩ := MX_line (hg := mhung tb p (stt (EK tb p kd) k) (EK tb p kd (stt (EK tb p kd) k))) hM2 hs hb.1 hb.2 i13 dd ht hu
      obtain ⟨M4, h8, e8⟩ := MX_end (q2 := q2) hM2 hs hb.1 hb.2 ht hu h7
      have hlen : (spE p (mhung tb p (stt (EK tb p kd) k) (EK tb p kd (stt (EK tb p kd) k))) (tkA tb p kd) (puA tb p kd) (stt (EK tb p kd) k) (EK tb p kd (stt (EK tb p kd) k))).length ≤ 1000 := by
        have := spl_len (p := p) (hg := mhung tb p (stt (EK tb p kd) k) (EK tb p kd (stt (EK tb p kd) k))) (a := stt (EK tb p kd) k) (b := EK tb p kd (stt (EK tb p kd) k)) ht hu (EK tb p kd (stt (EK tb p kd) k) + 1 - stt (EK tb p kd) k) (by omega)
        unfold spE
        rw [List.length_append]
        have g1 : (if pm p (EK tb p kd (stt (EK tb p kd) k)) = 1 then [47] else ([] : List Nat)).length ≤ 1 := by split <;> decide
        split
        · omega
        · rw [List.length_append]
          show _ + 1 + _ ≤ _
          omega
      obtain ⟨r, r1, r2⟩ := told_both hN hS' h8 hlen c2
      have xk : ix (nI k) 41 = true := ix_nI (by omega) (by decide)
      have ck := nI_clamp (show k < 2 ^ 31 by omega)
      refine ⟨(r, L', S', R', N', Y'), (r, M4), ?_, ?_, rfl, INV_q6 hc hkd (hq M4 (KM_tr km (KM_tr (KD_KM k6) (KW_KM h8.1))))⟩
      · unfold f_X9_spell
        rw [if_neg c2, e4, Option.bind_some]
        simp only [un5]
        rw [if_neg (by decide), hl2, Option.bind_some]
        simp only [un4]
        rw [e5, Option.bind_some]
        simp only [un1]
        rw [r1, Option.bind_some]
      · unfold f_X10_spell
        rw [if_neg c2, e3, Option.bind_some]
        simp only [un2]
        rw [if_neg (by decide), hfi, Option.bind_some]
        simp only [un1, bnd_e]
        rw [gd_t xk, ck, h24, e6, Option.bind_some]
        try simp only [un1]
        rw [e7, Option.bind_some]
        refine Eq.trans e8 ?_
        rw [r2, Option.bind_some]
        rfl
  have hk4 : kd = 0 ∨ kd = 1 ∨ kd = 2 ∨ kd = 3 := by omega
  clear bad hkd b1 b2
  rcases hk4 with rfl | rfl | rfl | rfl
  · exact Or.inl H
  · exact Or.inr (Or.inl H)
  · exact Or.inr (Or.inr (Or.inl H))
  · exact Or.inr (Or.inr (Or.inr H))
