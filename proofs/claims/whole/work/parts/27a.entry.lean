-- what stands at the law's entry
def tmJ (i : Nat) : Term := .string (sJ.getD i ("", 0, "")).1 (sJ.getD i ("", 0, "")).2.1
theorem arr_at {args : Array Value} {s : State} {ty : FieldType} (hp : refKind ty = false) (h : (Cond.arrayClass ty).before args s = true) : ∃ cA : ClassId, ArrOfT s cA ty ∧ va_RA s cA ty := by
  obtain ⟨cA, kA, cc, h1, h2, h3⟩ := Cond.arrayClass_spec h
  refine ⟨cA, fun N z => ⟨(fun k h => by cases h), kA, h2, cc, h3⟩, ?_⟩
  cases ty <;> first | exact h1 | (simp [refKind] at hp; done)
theorem arr_atI {s : State} (h : va_AOI s) : ∃ cA : ClassId, ArrOfT s cA (.array .int) ∧ va_RA s cA (.array .int) := by
  obtain ⟨comp, cA, kA, h1, h2, h3, h4, -⟩ := h.spec
  exact ⟨cA, fun N z => ⟨(fun k h => by cases h), kA, h2, comp, h3⟩, h4⟩
theorem arr_atO {s : State} {C : String} (h : va_AO C s) : ∃ cA : ClassId, ArrOfT s cA (.object C) ∧ va_RA s cA (.object C) := by
  obtain ⟨comp, cA, kA, h1, h2, h3, h4, h5⟩ := Cond.arrayOver_spec h
  exact ⟨cA, fun N z => ⟨(fun k h => by cases h), kA, h3, comp, h4⟩, kA, comp, h3, h4, h1, h5⟩
theorem entry_K {args : Array Value} {s : State} (hts : ∀ w ∈ tbG, w.before args s = true) (h1 : va_AOI s) (h2 : va_AO "LineEnds$Page" s) (h3 : va_AO "LineEnds$Layout" s) : ∃ (D : va_G) (cy : Nat → ClassId), va_K D vwCl (tyL cy) s := by
  obtain ⟨a0, b0⟩ := arr_at (ty := .int) rfl (hts _ w_148)
  obtain ⟨a1, b1⟩ := arr_at (ty := .boolean) rfl (hts _ w_333)
  obtain ⟨a2, b2⟩ := arr_at (ty := .long) rfl (hts _ w_412)
  obtain ⟨a3, b3⟩ := arr_at (ty := .byte) rfl (hts _ w_652)
  obtain ⟨a4, b4⟩ := arr_atI h1
  obtain ⟨a5, b5⟩ := arr_atO h2
  obtain ⟨a6, b6⟩ := arr_atO h3
  obtain ⟨c0, i0, k0⟩ := u_known (C := RX0) (T := TX0) (N := 2) (n := 2) hts inG0 (hts _ w_128)
  obtain ⟨c1, i1, k1⟩ := u_known (C := RX1) (T := TX1) (N := 6) (n := 6) hts inG1 (hts _ w_150)
  obtain ⟨c2, i2, k2⟩ := u_known (C := RX2) (T := TX2) (N := 3) (n := 3) hts inG2 (hts _ w_239)
  obtain ⟨c3, i3, k3⟩ := u_known (C := RX3) (T := TX3) (N := 8) (n := 8) hts inG3 (hts _ w_355)
  obtain ⟨c4, i4, k4⟩ := u_known (C := RX4) (T := TX4) (N := 9) (n := 9) hts inG4 (hts _ w_190)
  obtain ⟨c5, i5, k5⟩ := u_known (C := RX5) (T := TX5) (N := 3) (n := 3) hts inG5 (hts _ w_335)
  obtain ⟨c6, i6, k6⟩ := u_known (C := RX6) (T := TX6) (N := 6) (n := 6) hts inG6 (hts _ w_474)
  obtain ⟨c7, i7, k7⟩ := u_known (C := RX7) (T := TX7) (N := 18) (n := 18) hts inG7 (hts _ w_259)
  obtain ⟨c8, i8, k8⟩ := u_known (C := RX8) (T := TX8) (N := 4) (n := 4) hts inG8 (hts _ w_392)
  obtain ⟨c9, i9, k9⟩ := u_known (C := RX9) (T := TX9) (N := 13) (n := 13) hts inG9 (hts _ w_120)
  obtain ⟨c10, i10, k10⟩ := u_known (C := RX10) (T := TX10) (N := 55) (n := 55) hts inG10 (hts _ w_1153)
  refine ⟨(fun k => ([c0, c1, c2, c3, c4, c5, c6, c7, c8, c9, c10] : List ClassId).getD k c0, fun k => ([i0, i1, i2, i3, i4, i5, i6, i7, i8, i9, i10] : List (Nat → Nat)).getD k i0), (fun k => ([a0, a1, a2, a3, a4, a5, a6] : List ClassId).getD k a0), ?_, ?_⟩
  · intro k q hq
    match k, hq with
    | 0, hq => cases hq; exact k0
    | 1, hq => cases hq; exact k1
    | 2, hq => cases hq; exact k2
    | 3, hq => cases hq; exact k3
    | 4, hq => cases hq; exact k4
    | 5, hq => cases hq; exact k5
    | 6, hq => cases hq; exact k6
    | 7, hq => cases hq; exact k7
    | 8, hq => cases hq; exact k8
    | 9, hq => cases hq; exact k9
    | 10, hq => cases hq; exact k10
    | k + 11, hq => simp [vwCl] at hq
  · intro k q hq
    match k, hq with
    | 0, hq => cases hq; exact b0
    | 1, hq => cases hq; exact b1
    | 2, hq => cases hq; exact b2
    | 3, hq => cases hq; exact b3
    | 4, hq => cases hq; exact b4
    | 5, hq => cases hq; exact b5
    | 6, hq => cases hq; exact b6
    | k + 7, hq => simp [tyL] at hq
