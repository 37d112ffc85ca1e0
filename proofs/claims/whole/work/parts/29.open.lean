set_option maxHeartbeats 4000000 in
/-- the law, from its entry, for any invariant that the calls keep -/
theorem whole_open (I : LI) (ok : LawOK I) (ok0 : Ok_init I) {p : Program} {e : Env} {s : State} {m : MethodId} {below : List Frame} {meth : Method} {c : Code} (l : Launch) {b L : Nat} {xs : Nat → Int32} (hL : L ≤ 3072) (C0 : lw_At p s m meth c b L xs) : W p l e room_1 s m #[Value.ref b] below meth c s.heap [] 0 0 (lw_Z below #[Value.ref b] s) (entryFrame m ([Value.ref b] : List Value).toArray 4) := by
  obtain ⟨hx, hb, hr, hml, hown, hts, hX, hbl, hlocks, hgv⟩ := C0
  have hA : ∀ a : Nat, a < s.heap.size → ¬ (fun q : Nat => s.heap.size ≤ q) a := fun a h => Nat.not_le.mpr h
  have htG : ∀ w ∈ tbG, w.before #[Value.ref b] s = true := fun w hw => hts w (List.mem_filter.mp hw).1
  obtain ⟨ev, hEV⟩ := entry_EV (A := fun q : Nat => s.heap.size ≤ q) hts hgv hA
  obtain ⟨D, cy, hK⟩ := entry_K htG hEV.2.2.2.2.2.2.2.2.1 hEV.2.2.2.2.2.2.2.2.2.1 hEV.2.2.2.2.2.2.2.2.2.2
  let X : Cx := (p, l, e, room_1, s, m, #[Value.ref b], below, meth, c)
  have h : cx X D ev cy (fun q : Nat => s.heap.size ≤ q) 4 cL_law "LineEndsLaw" room_1 (some .boolean) l := ⟨hx, hb, hml, hown, htG, entry_nw hts, hK, fun q h => h, rfl, hr, hlocks, rfl, hEV⟩
  have hend : ∀ (k n : Nat) (lo : List (Nat × Value)) (Gs : List va_W), k ≤ 600000 → n ≤ 7302250 → ww X D (fun q : Nat => s.heap.size ≤ q) 4 (lw_Z below #[Value.ref b] s) k n 1598 lo [.int 1] Gs := by
    intro k n lo Gs h1 h2 H locs ls hP hD hS hl
    refine va_forget (fun q hq => hS.2.2 q hq) ?_
    refine W.widen h1 h2 ?_
    exact lw_ret hx hb hr hlocks dL_law_1598
  have hw := law_start hL h hX hbl (hA b hbl) ok ok0 hend
  have hl := lv_entry ([.ref b]) (n := 4) (Nat.le_of_ble_eq_true rfl)
  rw [lg_entry_eq]
  exact hw s.heap [] _ (fun k q h => by simp at h) ⟨fun i j p q h => by simp at h, fun k q h => by simp at h⟩ va_S.rf hl
