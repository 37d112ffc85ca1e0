def p0 : Pg := (0, fun _ => 0, fun _ => 0, fun _ => 0, fun k => if k = 0 then 2 else if k = 1 then 10 else 1000, 20, 0, 0)
def tb0 : Tb := fun _ _ => 0
theorem wd_ok : ∀ i, i < 58 → wdF i = nI (wds.getD i 0) := by decide +kernel
theorem sm_0 : ∀ n, sm (fun _ => 0) n = 0
  | 0 => rfl
  | n + 1 => by rw [sm, sm_0 n]
theorem prs0 : prs p0 = 0 := by
  show sm (fun l => bc 0) 26 = 0
  rw [show bc 0 = 0 by decide +kernel]
  exact sm_0 26
theorem cls0 : cls tb0 = 0 := sm_0 26
theorem PG_0 : PGc (sI (sW OV0 3 (upd (upd (upd (fun _ => 0) 0 2) 1 10) 2 1000)) 5 20) p0 := by
  refine ⟨⟨rfl, fun i hi => absurd hi (Nat.not_lt_zero i), fun i hi => absurd hi (Nat.not_lt_zero i), fun l hl => rfl, fun k hk => ?_, rfl, rfl, rfl⟩, by rw [prs0]; rfl⟩
  rcases (show k = 0 ∨ k = 1 ∨ k = 2 by omega) with rfl | rfl | rfl <;> rfl
theorem PgG_0 : PgG tb0 p0 := by
  refine ⟨⟨Nat.zero_le _, fun i hi => absurd hi (Nat.not_lt_zero i), by decide, by decide, by decide, by decide, by decide, by decide, by decide⟩, fun i hi => absurd hi (Nat.not_lt_zero i), by rw [prs0]; decide, fun l hl k h1 h2 => ?_⟩
  show bt 0 k = false
  rcases (show k = 26 ∨ k = 27 ∨ k = 28 ∨ k = 29 ∨ k = 30 ∨ k = 31 by omega) with rfl | rfl | rfl | rfl | rfl | rfl <;> decide
theorem RM_0 : RM (upd (upd (upd (upd (fun _ => 0) 81 20) 84 2) 85 10) 86 1000) p0 := by
  refine ⟨rfl, fun i hi => absurd hi (Nat.not_lt_zero i), fun i hi => absurd hi (Nat.not_lt_zero i), fun l hl => ?_, fun k hk => ?_, rfl, rfl, rfl⟩
  · rw [updE, if_neg (by omega), updE, if_neg (by omega), updE, if_neg (by omega), updE, if_neg (by omega)]
    rfl
  · rcases (show k = 0 ∨ k = 1 ∨ k = 2 by omega) with rfl | rfl | rfl <;> rfl
theorem init_c {o : Nat → Nat} {a : Nat → Nat → Nat} {B : Nat → OV} (oC oF x y : Nat) (h1 : a 1 98 = 500) (h2 : a 2 98 = 1000) (h3 : oC = o 10) (h4 : oF = o 11) : INVc o a (sN (sN OV0 10 oC) 11 oF) OV0 (sI (sW OV0 3 (upd (upd (upd (fun _ => 0) 0 2) 1 10) 2 1000)) 5 20) OV0 (sN (sN OV0 0 oC) 1 x) (sN (sN OV0 0 oC) 1 y) OV0 OV0 OV0 OV0 OV0 OV0 (sW (sW OV0 8 (upd (upd (upd (upd (fun _ => 0) 81 20) 84 2) 85 10) 86 1000)) 37 wdF) B tb0 p0 0 (fun _ => 0) 0 0 (fun _ => p0) := by
  refine ⟨⟨h1, h2⟩, ⟨h3, h4⟩, ⟨rfl, fun i hi => absurd hi (Nat.not_lt_zero i)⟩, PG_0, ⟨rfl, rfl, by decide, by decide, fun j hj => absurd hj (Nat.not_lt_zero j)⟩, ⟨fun _ _ _ _ => rfl, by rw [cls0]; rfl⟩, ⟨⟨rfl, rfl, fun _ _ _ => ⟨rfl, rfl⟩⟩, ⟨rfl, rfl, fun _ _ _ => ⟨rfl, rfl⟩⟩⟩, Or.inl rfl, ⟨Or.inl rfl, Or.inl rfl, Or.inl rfl, Or.inl rfl⟩, Or.inl rfl, ⟨fun l _ => ⟨rfl, fun h => absurd h (Nat.lt_irrefl 0)⟩, RM_0, rfl, fun i hi => absurd hi (Nat.not_lt_zero i), rfl, fun j hj => absurd hj (Nat.not_lt_zero j), wd_ok⟩, ⟨fun l _ => ⟨Nat.zero_le _, Nat.zero_le _, Nat.zero_le _, Nat.zero_le _, Nat.zero_le _, Nat.zero_le _, Nat.zero_le _, fun h => absurd h (Nat.lt_irrefl 0)⟩, by rw [cls0]; decide, PgG_0, by decide, fun i hi => absurd hi (Nat.not_lt_zero i), fun j hj => absurd hj (Nat.not_lt_zero j)⟩⟩
