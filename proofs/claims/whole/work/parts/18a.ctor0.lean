theorem ww_fuse {X : Cx} {D : va_G} {A : Nat → Prop} {nL : Nat} {Q : State → Prop} {k n pc : Nat} {lo : List (Nat × Value)} {st : List Value} {Gs Cs Rs : List va_W} {c : va_W} (hG : Gs = Cs ++ Rs) (hp : Cs.flatten = c) (kk : ww X D A nL Q k n pc lo st (c :: Rs)) : ww X D A nL Q k n pc lo st Gs := by
  subst hG
  subst hp
  exact ww_flat (by rw [List.flatten_append, List.flatten_cons]) kk
def rdA (w1 w2 : Nat) : Nat → Nat := fun k => if k = 0 then w1 else w2
def OV0 : OV := (fun _ => 0, fun _ _ => 0, fun _ _ => 0, fun _ _ _ => 0, fun _ => 0)
def RD0 : OV := sI OV0 5 (-1)
def aG (L : List Nat) (b1 : Nat) (r1 : Nat → Nat) (b2 : Nat) (r2 : Nat → Nat) : Nat → Nat := fun k => if k < 100 then L.getD k 0 else if k < b2 then r1 (k - b1) else r2 (k - b2)
theorem aG_1 {L : List Nat} {b1 b2 j : Nat} {r1 r2 : Nat → Nat} (h1 : 100 ≤ b1) (h2 : b1 + 100 ≤ b2) (hj : j < 100) : aG L b1 r1 b2 r2 (b1 + j) = r1 j := by
  unfold aG
  rw [if_neg (by omega), if_pos (by omega), Nat.add_sub_cancel_left]
theorem aG_2 {L : List Nat} {b1 b2 j : Nat} {r1 r2 : Nat → Nat} (h1 : 100 ≤ b1) (h2 : b1 + 100 ≤ b2) : aG L b1 r1 b2 r2 (b2 + j) = r2 j := by
  unfold aG
  rw [if_neg (by omega), if_neg (by omega), Nat.add_sub_cancel_left]
theorem ww_q {X : Cx} {D : va_G} {A : Nat → Prop} {nL : Nat} {Q : State → Prop} {k n pc : Nat} {lo : List (Nat × Value)} {st : List Value} {Gs Gs' : List va_W} {a N : Nat} {cA : ClassId} {F : Nat → Option Nat} (g : Nat) (hg : Gs[g]? = some [(a, .inl (cA, N, .inr (.inr (.inr (.inr F)))))]) (F' : Nat → Option Nat) (hF : ∀ j, j < N → F j = F' j) (hG : Gs.set g [(a, .inl (cA, N, .inr (.inr (.inr (.inr F')))))] = Gs') (kk : ww X D A nL Q k n pc lo st Gs') : ww X D A nL Q k n pc lo st Gs := by
  subst hG
  have e : vp_cell cA (N, .inr (.inr (.inr (.inr F)))) = vp_cell cA (N, .inr (.inr (.inr (.inr F')))) := by
    rw [vp_cell_q, vp_cell_q]
    unfold arrV
    congr 1
    apply Array.ext
    · simp
    · intro i h1 h2
      have : i < N := by simpa using h1
      simp [hF i this]
  intro H locs ls hP hD hS hl
  have hc := kSet (q := (a, (.inl (cA, N, .inr (.inr (.inr (.inr F')))) : va_E))) (k := 0) hg (Nat.zero_lt_succ _)
  have ha := kAt (k := 0) hg rfl
  have hc' : Gs.flatten.set ((Gs.take g).flatten.length + 0) (a, (.inl (cA, N, .inr (.inr (.inr (.inr F')))) : va_E)) = (Gs.set g [(a, (.inl (cA, N, .inr (.inr (.inr (.inr F')))) : va_E))]).flatten := hc
  refine kk H locs ls ?_ ?_ hS hl
  · rw [← hc']
    intro i x hx
    rw [List.getElem?_set] at hx
    split at hx
    · split at hx
      · cases hx
        have h0 := hP _ _ ha
        show H[a]? = some (vp_cell _ _)
        rw [← e]
        exact h0
      · cases hx
    · exact hP i x hx
  · rw [← hc']
    have h0 := kD_iff.mp hD
    refine kD_iff.mpr ⟨?_, fun x hx => ?_⟩
    · have e2 : (Gs.flatten.set ((Gs.take g).flatten.length + 0) (a, (.inl (cA, N, .inr (.inr (.inr (.inr F')))) : va_E))).map (fun x => x.1) = Gs.flatten.map (fun x => x.1) := by
        apply List.ext_getElem?
        intro i
        rw [List.getElem?_map, List.getElem?_map, List.getElem?_set]
        split
        · rename_i e3
          rw [← e3, ha, if_pos (List.getElem?_eq_some_iff.mp ha).1]
          rfl
        · rfl
      exact e2 ▸ h0.1
    · rcases List.mem_or_eq_of_mem_set hx with hx | rfl
      · exact h0.2 x hx
      · have h1 := h0.2 _ (List.mem_of_getElem? ha)
        exact h1
theorem df_X0 : ∀ j, j < 2 → defaultValue (tyX0 j) = vp_V [.null, .int 0] j := by
  intro j hj
  rcases (show j = 0 ∨ j = 1 by omega) with rfl | rfl <;> rfl
theorem df_X1 : ∀ j, j < 6 → defaultValue (tyX1 j) = vp_V [.null, .null, .int 0, .int 0, .int 0, .int 0] j := by
  intro j hj
  rcases (show j = 0 ∨ j = 1 ∨ j = 2 ∨ j = 3 ∨ j = 4 ∨ j = 5 by omega) with rfl | rfl | rfl | rfl | rfl | rfl <;> rfl
theorem df_X2 : ∀ j, j < 3 → defaultValue (tyX2 j) = vp_V [.null, .int 0, .int 0] j := by
  intro j hj
  rcases (show j = 0 ∨ j = 1 ∨ j = 2 by omega) with rfl | rfl | rfl <;> rfl
theorem df_X3 : ∀ j, j < 8 → defaultValue (tyX3 j) = vp_V [.null, .null, .null, .null, .null, .null, .int 0, .int 0] j := by
  intro j hj
  rcases (show j = 0 ∨ j = 1 ∨ j = 2 ∨ j = 3 ∨ j = 4 ∨ j = 5 ∨ j = 6 ∨ j = 7 by omega) with rfl | rfl | rfl | rfl | rfl | rfl | rfl | rfl <;> rfl
theorem df_X4 : ∀ j, j < 9 → defaultValue (tyX4 j) = vp_V [.null, .null, .null, .null, .int 0, .int 0, .int 0, .int 0, .int 0] j := by
  intro j hj
  rcases (show j = 0 ∨ j = 1 ∨ j = 2 ∨ j = 3 ∨ j = 4 ∨ j = 5 ∨ j = 6 ∨ j = 7 ∨ j = 8 by omega) with rfl | rfl | rfl | rfl | rfl | rfl | rfl | rfl | rfl <;> rfl
theorem df_X5 : ∀ j, j < 3 → defaultValue (tyX5 j) = vp_V [.null, .null, .null] j := by
  intro j hj
  rcases (show j = 0 ∨ j = 1 ∨ j = 2 by omega) with rfl | rfl | rfl <;> rfl
theorem df_X6 : ∀ j, j < 6 → defaultValue (tyX6 j) = vp_V [.null, .null, .int 0, .int 0, .int 0, .int 0] j := by
  intro j hj
  rcases (show j = 0 ∨ j = 1 ∨ j = 2 ∨ j = 3 ∨ j = 4 ∨ j = 5 by omega) with rfl | rfl | rfl | rfl | rfl | rfl <;> rfl
theorem df_X7 : ∀ j, j < 18 → defaultValue (tyX7 j) = vp_V [.null, .null, .null, .null, .null, .null, .null, .null, .null, .null, .null, .int 0, .int 0, .int 0, .int 0, .int 0, .int 0, .int 0] j := by
  intro j hj
  rcases (show j = 0 ∨ j = 1 ∨ j = 2 ∨ j = 3 ∨ j = 4 ∨ j = 5 ∨ j = 6 ∨ j = 7 ∨ j = 8 ∨ j = 9 ∨ j = 10 ∨ j = 11 ∨ j = 12 ∨ j = 13 ∨ j = 14 ∨ j = 15 ∨ j = 16 ∨ j = 17 by omega) with rfl | rfl | rfl | rfl | rfl | rfl | rfl | rfl | rfl | rfl | rfl | rfl | rfl | rfl | rfl | rfl | rfl | rfl <;> rfl
theorem df_X8 : ∀ j, j < 4 → defaultValue (tyX8 j) = vp_V [.null, .null, .int 0, .int 0] j := by
  intro j hj
  rcases (show j = 0 ∨ j = 1 ∨ j = 2 ∨ j = 3 by omega) with rfl | rfl | rfl | rfl <;> rfl
theorem df_X9 : ∀ j, j < 13 → defaultValue (tyX9 j) = vp_V [.null, .null, .null, .null, .null, .null, .null, .null, .null, .null, .null, .null, .int 0] j := by
  intro j hj
  rcases (show j = 0 ∨ j = 1 ∨ j = 2 ∨ j = 3 ∨ j = 4 ∨ j = 5 ∨ j = 6 ∨ j = 7 ∨ j = 8 ∨ j = 9 ∨ j = 10 ∨ j = 11 ∨ j = 12 by omega) with rfl | rfl | rfl | rfl | rfl | rfl | rfl | rfl | rfl | rfl | rfl | rfl | rfl <;> rfl
theorem df_X10 : ∀ j, j < 55 → defaultValue (tyX10 j) = vp_V [.int 0, .null, .null, .null, .null, .null, .null, .null, .null, .null, .null, .int 0, .int 0, .int 0, .int 0, .int 0, .int 0, .int 0, .int 0, .null, .null, .null, .null, .null, .null, .int 0, .null, .null, .null, .null, .null, .null, .int 0, .null, .null, .null, .int 0, .null, .int 0, .int 0, .int 0, .int 0, .int 0, .null, .null, .null, .null, .null, .null, .null, .null, .null, .int 0, .int 0, .null] j := by
  intro j hj
  rcases (show j = 0 ∨ j = 1 ∨ j = 2 ∨ j = 3 ∨ j = 4 ∨ j = 5 ∨ j = 6 ∨ j = 7 ∨ j = 8 ∨ j = 9 ∨ j = 10 ∨ j = 11 ∨ j = 12 ∨ j = 13 ∨ j = 14 ∨ j = 15 ∨ j = 16 ∨ j = 17 ∨ j = 18 ∨ j = 19 ∨ j = 20 ∨ j = 21 ∨ j = 22 ∨ j = 23 ∨ j = 24 ∨ j = 25 ∨ j = 26 ∨ j = 27 ∨ j = 28 ∨ j = 29 ∨ j = 30 ∨ j = 31 ∨ j = 32 ∨ j = 33 ∨ j = 34 ∨ j = 35 ∨ j = 36 ∨ j = 37 ∨ j = 38 ∨ j = 39 ∨ j = 40 ∨ j = 41 ∨ j = 42 ∨ j = 43 ∨ j = 44 ∨ j = 45 ∨ j = 46 ∨ j = 47 ∨ j = 48 ∨ j = 49 ∨ j = 50 ∨ j = 51 ∨ j = 52 ∨ j = 53 ∨ j = 54 by omega) with rfl | rfl | rfl | rfl | rfl | rfl | rfl | rfl | rfl | rfl | rfl | rfl | rfl | rfl | rfl | rfl | rfl | rfl | rfl | rfl | rfl | rfl | rfl | rfl | rfl | rfl | rfl | rfl | rfl | rfl | rfl | rfl | rfl | rfl | rfl | rfl | rfl | rfl | rfl | rfl | rfl | rfl | rfl | rfl | rfl | rfl | rfl | rfl | rfl | rfl | rfl | rfl | rfl | rfl | rfl <;> rfl
