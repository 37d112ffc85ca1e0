section WE
variable {X : Cx} {D : va_G} {ev : EvT} {cy : Nat → ClassId} {A : Nat → Prop} {nL : Nat} {cc : ByteArray} {own : String} {rm : Room} {ret : Option FieldType} {l : Launch} {Q : State → Prop} {k n pc : Nat} {lo : List (Nat × Value)} {st stk : List Value} {Gs Gs' Cs Cs' Rs : List va_W}
variable {y : MethodName} {bytes : ByteArray} {maxL : Nat} {rt : Option FieldType} {rc : Room} {As : List Value} {b index ci : Nat} {C : String} {T : u_T} {N : Nat} {fs : List Value}
theorem ix_lt {i : Int32} {N : Nat} (h : ix i N = true) : i.toNatClampNeg < N := Nat.not_le.mp fun q => ix_in h (Or.inr q)
theorem ww_ref {a b : Nat} (e : decide (a = b) = true) (kk : ww X D A nL Q k n pc lo (.ref b :: st) Gs) : ww X D A nL Q k n pc lo (.ref a :: st) Gs := by
  have := of_decide_eq_true e
  subst this
  exact kk
theorem ww_refE {a b : Nat} (e : a = b) (kk : ww X D A nL Q k n pc lo (.ref b :: st) Gs) : ww X D A nL Q k n pc lo (.ref a :: st) Gs := e ▸ kk
theorem ww_ist_n (h : cx X D ev cy A nL cc own rm ret l) {f : Fin 4} {i : Nat} {x : Int32} (hd : decode cc pc = .ok (.istore_n f, 1)) (hi : (f : Nat) = i) (hn : i < nL) (L : Int32 → List (Nat × Value)) (hL : ∀ v, (i, Value.int v) :: lo.filter (fun q => !(q.1 == i) && !(q.1 + 1 == i && q.2.category == 2)) = L v) (q : Nat) (hq : pc + 1 = q) (kk : ∀ v, v = x → ww X D A nL Q k n q (L v) st Gs) : ww X D A nL Q k n pc lo (.int x :: st) Gs := ww_istore_n h hd hi hn (hL x) q hq (kk x rfl)
theorem ww_ist (h : cx X D ev cy A nL cc own rm ret l) {i : Nat} {x : Int32} (hd : decode cc pc = .ok (.istore i, 2)) (hn : i < nL) (L : Int32 → List (Nat × Value)) (hL : ∀ v, (i, Value.int v) :: lo.filter (fun q => !(q.1 == i) && !(q.1 + 1 == i && q.2.category == 2)) = L v) (q : Nat) (hq : pc + 2 = q) (kk : ∀ v, v = x → ww X D A nL Q k n q (L v) st Gs) : ww X D A nL Q k n pc lo (.int x :: st) Gs := ww_istore h hd hn (hL x) q hq (kk x rfl)
theorem ww_lst_n (h : cx X D ev cy A nL cc own rm ret l) {f : Fin 4} {i : Nat} {x : Int64} (hd : decode cc pc = .ok (.lstore_n f, 1)) (hi : (f : Nat) = i) (hn : i + 1 < nL) (L : Int64 → List (Nat × Value)) (hL : ∀ v, (i, Value.long v) :: lo.filter (fun q => !(q.1 == i) && (!(q.1 == i + 1) && !(q.1 + 1 == i && q.2.category == 2))) = L v) (q : Nat) (hq : pc + 1 = q) (kk : ∀ v, v = x → ww X D A nL Q k n q (L v) st Gs) : ww X D A nL Q k n pc lo (.long x :: st) Gs := ww_lstore_n h hd hi hn (hL x) q hq (kk x rfl)
theorem ww_lst (h : cx X D ev cy A nL cc own rm ret l) {i : Nat} {x : Int64} (hd : decode cc pc = .ok (.lstore i, 2)) (hn : i + 1 < nL) (L : Int64 → List (Nat × Value)) (hL : ∀ v, (i, Value.long v) :: lo.filter (fun q => !(q.1 == i) && (!(q.1 == i + 1) && !(q.1 + 1 == i && q.2.category == 2))) = L v) (q : Nat) (hq : pc + 2 = q) (kk : ∀ v, v = x → ww X D A nL Q k n q (L v) st Gs) : ww X D A nL Q k n pc lo (.long x :: st) Gs := ww_lstore h hd hn (hL x) q hq (kk x rfl)
theorem ww_inc (h : cx X D ev cy A nL cc own rm ret l) {i : Nat} {z : Int} {x c : Int32} (hd : decode cc pc = .ok (.iinc i z, 3)) (j : Nat) (hx : lo[j]? = some (i, .int x)) (hc : Int32.ofInt z = c) (hn : i < nL) (L : Int32 → List (Nat × Value)) (hL : ∀ v, (i, Value.int v) :: lo.filter (fun q => !(q.1 == i) && !(q.1 + 1 == i && q.2.category == 2)) = L v) (q : Nat) (hq : pc + 3 = q) (kk : ∀ v, v = x + c → ww X D A nL Q k n q (L v) st Gs) : ww X D A nL Q k n pc lo st Gs :=
  ww_iinc h hd j hx hc hn q hq (fun v e => by rw [hL]; exact kk v e)
theorem ww_iastR (h : cx X D ev cy A nL cc own rm ret l) {a N : Nat} {F : Nat → Int32} {i x : Int32} {c c' : va_W} (g : Nat) (hg : Gs[g]? = some c) (e : Nat) (he : c[e]? = some (a, .inl (cy 0, N, .inl F))) (hi : vp_in i N) (hs : c.set e (a, .inl (cy 0, N, .inl (upd F i.toNatClampNeg x))) = c') (hG : Gs.set g c' = Gs') (hd : decode cc pc = .ok (.iastore, 1)) (q : Nat) (hq : pc + 1 = q) (kk : ww X D A nL Q k n q lo st Gs') : ww X D A nL Q k n pc lo (.int x :: .int i :: .ref a :: st) Gs := by
  subst hG
  subst hs
  exact ww_iast h g hg e he hi hd q hq kk
/-- what a call needs beside the contract -/
def cwK (own : String) (index : Nat) (C : String) (y : MethodName) (bytes : ByteArray) (maxL : Nat) (rt : Option FieldType) (n : Nat) : Prop := Cond.code y bytes maxL rt ∈ tbG ∧ Cond.methodLink own index y ∈ tbG ∧ Cond.instanceMethod y ∈ tbG ∧ Cond.selects C y y ∈ tbG ∧ Cond.initialized C ∈ tbG ∧ okY C y n
def csK (own : String) (index : Nat) (C : String) (y : MethodName) (bytes : ByteArray) (maxL : Nat) (rt : Option FieldType) (n : Nat) : Prop := Cond.code y bytes maxL rt ∈ tbG ∧ Cond.methodLink own index y ∈ tbG ∧ Cond.static y ∈ tbG ∧ Cond.initialized C ∈ tbG ∧ okY C y n
theorem ww_cVi {r : Int32} (h : cx X D ev cy A nL cc own rm ret l) (hF : Fn l y bytes maxL rt rc D ev cy (.ref b :: As) Cs (fun v G => v = some (.int r) ∧ G = Cs')) (hw : cwK own index C y bytes maxL rt As.length)
    (hroom : rc.frames + 1 ≤ rm.frames ∧ 8 + (maxL + 11) + rc.locals ≤ rm.locals) (hcel : k + rc.cells ≤ rm.cells ∧ n + rc.slots ≤ rm.slots) (hz : rc.cells = 0 ∧ rc.slots = 0)
    (is : List Nat) (hp : pk_g is Gs = (Cs, Rs)) (g : Nat) {cg : va_W} (hg : Cs[g]? = some cg) (he : cg[0]? = some (b, .inr (ci, fs))) (hcl : vwCl[ci]? = some (C, T, N)) (hst : stk = As.reverse ++ .ref b :: st) (hW : stW st ≤ 8) (hd : decode cc pc = .ok (.invokevirtual index, 3))
    (q : Nat) (hq : pc + 3 = q) (hG : Cs' ++ Rs = Gs') (kk : ww X D A nL Q k n q lo (.int r :: st) Gs') : ww X D A nL Q k n pc lo stk Gs :=
  ww_cV (some (.int r)) h hF hw.1 hw.2.1 hw.2.2.1 hw.2.2.2.1 hw.2.2.2.2.1 hw.2.2.2.2.2 hroom hcel is hp g 0 hg he hcl hst hW hd q hq hz rfl hG kk
theorem ww_cVl {r : Int64} (h : cx X D ev cy A nL cc own rm ret l) (hF : Fn l y bytes maxL rt rc D ev cy (.ref b :: As) Cs (fun v G => v = some (.long r) ∧ G = Cs')) (hw : cwK own index C y bytes maxL rt As.length)
    (hroom : rc.frames + 1 ≤ rm.frames ∧ 8 + (maxL + 11) + rc.locals ≤ rm.locals) (hcel : k + rc.cells ≤ rm.cells ∧ n + rc.slots ≤ rm.slots) (hz : rc.cells = 0 ∧ rc.slots = 0)
    (is : List Nat) (hp : pk_g is Gs = (Cs, Rs)) (g : Nat) {cg : va_W} (hg : Cs[g]? = some cg) (he : cg[0]? = some (b, .inr (ci, fs))) (hcl : vwCl[ci]? = some (C, T, N)) (hst : stk = As.reverse ++ .ref b :: st) (hW : stW st ≤ 8) (hd : decode cc pc = .ok (.invokevirtual index, 3))
    (q : Nat) (hq : pc + 3 = q) (hG : Cs' ++ Rs = Gs') (kk : ww X D A nL Q k n q lo (.long r :: st) Gs') : ww X D A nL Q k n pc lo stk Gs :=
  ww_cV (some (.long r)) h hF hw.1 hw.2.1 hw.2.2.1 hw.2.2.2.1 hw.2.2.2.2.1 hw.2.2.2.2.2 hroom hcel is hp g 0 hg he hcl hst hW hd q hq hz rfl hG kk
theorem ww_cVr {r : Nat} (h : cx X D ev cy A nL cc own rm ret l) (hF : Fn l y bytes maxL rt rc D ev cy (.ref b :: As) Cs (fun v G => v = some (.ref r) ∧ G = Cs')) (hw : cwK own index C y bytes maxL rt As.length)
    (hroom : rc.frames + 1 ≤ rm.frames ∧ 8 + (maxL + 11) + rc.locals ≤ rm.locals) (hcel : k + rc.cells ≤ rm.cells ∧ n + rc.slots ≤ rm.slots) (hz : rc.cells = 0 ∧ rc.slots = 0)
    (is : List Nat) (hp : pk_g is Gs = (Cs, Rs)) (g : Nat) {cg : va_W} (hg : Cs[g]? = some cg) (he : cg[0]? = some (b, .inr (ci, fs))) (hcl : vwCl[ci]? = some (C, T, N)) (hst : stk = As.reverse ++ .ref b :: st) (hW : stW st ≤ 8) (hd : decode cc pc = .ok (.invokevirtual index, 3))
    (q : Nat) (hq : pc + 3 = q) (hG : Cs' ++ Rs = Gs') (kk : ww X D A nL Q k n q lo (.ref r :: st) Gs') : ww X D A nL Q k n pc lo stk Gs :=
  ww_cV (some (.ref r)) h hF hw.1 hw.2.1 hw.2.2.1 hw.2.2.2.1 hw.2.2.2.2.1 hw.2.2.2.2.2 hroom hcel is hp g 0 hg he hcl hst hW hd q hq hz rfl hG kk
theorem ww_cVv (h : cx X D ev cy A nL cc own rm ret l) (hF : Fn l y bytes maxL rt rc D ev cy (.ref b :: As) Cs (fun v G => v = none ∧ G = Cs')) (hw : cwK own index C y bytes maxL rt As.length)
    (hroom : rc.frames + 1 ≤ rm.frames ∧ 8 + (maxL + 11) + rc.locals ≤ rm.locals) (hcel : k + rc.cells ≤ rm.cells ∧ n + rc.slots ≤ rm.slots) (hz : rc.cells = 0 ∧ rc.slots = 0)
    (is : List Nat) (hp : pk_g is Gs = (Cs, Rs)) (g : Nat) {cg : va_W} (hg : Cs[g]? = some cg) (he : cg[0]? = some (b, .inr (ci, fs))) (hcl : vwCl[ci]? = some (C, T, N)) (hst : stk = As.reverse ++ .ref b :: st) (hW : stW st ≤ 8) (hd : decode cc pc = .ok (.invokevirtual index, 3))
    (q : Nat) (hq : pc + 3 = q) (hG : Cs' ++ Rs = Gs') (kk : ww X D A nL Q k n q lo st Gs') : ww X D A nL Q k n pc lo stk Gs :=
  ww_cV none h hF hw.1 hw.2.1 hw.2.2.1 hw.2.2.2.1 hw.2.2.2.2.1 hw.2.2.2.2.2 hroom hcel is hp g 0 hg he hcl hst hW hd q hq hz rfl hG kk
theorem ww_cSi {r : Int32} (h : cx X D ev cy A nL cc own rm ret l) (hF : Fn l y bytes maxL rt rc D ev cy As Cs (fun v G => v = some (.int r) ∧ G = Cs')) (hw : csK own index C y bytes maxL rt As.length)
    (hroom : rc.frames + 1 ≤ rm.frames ∧ 8 + (maxL + 11) + rc.locals ≤ rm.locals) (hcel : k + rc.cells ≤ rm.cells ∧ n + rc.slots ≤ rm.slots) (hz : rc.cells = 0 ∧ rc.slots = 0)
    (is : List Nat) (hp : pk_g is Gs = (Cs, Rs)) (hst : stk = As.reverse ++ st) (hW : stW st ≤ 8) (hd : decode cc pc = .ok (.invokestatic index, 3))
    (q : Nat) (hq : pc + 3 = q) (hG : Cs' ++ Rs = Gs') (kk : ww X D A nL Q k n q lo (.int r :: st) Gs') : ww X D A nL Q k n pc lo stk Gs :=
  ww_cS (some (.int r)) h hF hw.1 hw.2.1 hw.2.2.1 hw.2.2.2.1 hw.2.2.2.2 hroom hcel is hp hst hW hd q hq hz rfl hG kk
theorem tb_all {ws : List Cond} (ps : List Nat) (h : ws = ps.filterMap (fun i => lw_tbl[i]?)) (hg : ws.all goodWord = true) : ∀ w ∈ ws, w ∈ tbG := by
  intro w hw
  refine List.mem_filter.mpr ⟨?_, List.all_eq_true.mp hg w hw⟩
  rw [h] at hw
  obtain ⟨i, -, hi⟩ := List.mem_filterMap.mp hw
  exact List.mem_of_getElem? hi
end WE
-- rows of a grid
def rowsG (cy : Nat → ClassId) (a : Nat → Nat) (x : OV) (k B N len : Nat) : va_W := (List.range N).map (fun j => (a (B + j), .inl (cy 0, len, .inl (gr x k j))))
theorem map_set {α : Type} (f : Nat → α) (N j : Nat) (y : α) : ((List.range N).map f).set j y = (List.range N).map (fun t => if t = j then y else f t) := by
  apply List.ext_getElem?
  intro i
  rw [List.getElem?_set]
  simp only [List.getElem?_map, List.length_map, List.length_range]
  by_cases h : i < N
  · rw [List.getElem?_range h]
    by_cases e : j = i
    · subst e; simp [h]
    · simp [e, Ne.symm e]
  · rw [List.getElem?_eq_none (by simp; omega)]
    by_cases e : j = i
    · subst e; simp [h]
    · simp [e]
theorem rows_get {cy : Nat → ClassId} {a : Nat → Nat} {x : OV} {k B N len j : Nat} (hj : j < N) : (rowsG cy a x k B N len)[j]? = some (a (B + j), .inl (cy 0, len, .inl (gr x k j))) := by
  simp [rowsG, List.getElem?_range hj]
theorem rows_set {cy : Nat → ClassId} {a : Nat → Nat} {x : OV} {k B N len j i : Nat} {v : Int32} : (rowsG cy a x k B N len).set j (a (B + j), .inl (cy 0, len, .inl (upd (gr x k j) i v))) = rowsG cy a (sG x k j i v) k B N len := by
  unfold rowsG
  rw [map_set]
  refine List.map_congr_left fun t _ => ?_
  by_cases e : t = j
  · subst e; simp [sG, sH, gr, va_up]
  · simp [sG, sH, gr, va_up, e]
theorem rows_oth {cy : Nat → ClassId} {a : Nat → Nat} {x : OV} {k k2 B N len j i : Nat} {v : Int32} (h : k2 ≠ k) : rowsG cy a (sG x k j i v) k2 B N len = rowsG cy a x k2 B N len := by
  simp [rowsG, sG, sH, gr, va_up, h]
theorem rowAt {pre rows : va_W} {P j : Nat} (hP : pre.length = P) : (pre ++ rows)[P + j]? = rows[j]? := by
  subst hP
  rw [List.getElem?_append_right (Nat.le_add_right _ _), Nat.add_sub_cancel_left]
theorem rowSt {pre rows : va_W} {P j : Nat} {q : Nat × va_E} (hP : pre.length = P) : (pre ++ rows).set (P + j) q = pre ++ rows.set j q := by
  subst hP
  rw [List.set_append_right _ _ (Nat.le_add_right _ _), Nat.add_sub_cancel_left]
theorem rowAt2 {pre rows post : va_W} {P j : Nat} (hP : pre.length = P) (hj : j < rows.length) : (pre ++ rows ++ post)[P + j]? = rows[j]? := by
  subst hP
  rw [List.getElem?_append_left (by simp; omega)]
  exact rowAt rfl
theorem rowSt2 {pre rows post : va_W} {P j : Nat} {q : Nat × va_E} (hP : pre.length = P) (hj : j < rows.length) : (pre ++ rows ++ post).set (P + j) q = pre ++ rows.set j q ++ post := by
  subst hP
  rw [List.set_append_left _ _ (by simp; omega)]
  rw [rowSt rfl]
theorem rows_len {cy : Nat → ClassId} {a : Nat → Nat} {x : OV} {k B N len : Nat} : (rowsG cy a x k B N len).length = N := by simp [rowsG]
theorem app_congr {a a' b b' : va_W} (h : a = a') (h2 : b = b') : a ++ b = a' ++ b' := by rw [h, h2]
theorem un1_e {a γ : Type} {f : a → γ} {u : a} {r : γ} (h : un1 f u = r) : f u = r := h
theorem un2_e {a b γ : Type} {f : a → b → γ} {u : a} {v : b} {r : γ} (h : un2 f (u, v) = r) : f u v = r := h
theorem un3_e {a b c γ : Type} {f : a → b → c → γ} {u : a} {v : b} {w : c} {r : γ} (h : un3 f (u, v, w) = r) : f u v w = r := h
theorem un4_e {a b c d γ : Type} {f : a → b → c → d → γ} {u : a} {v : b} {w : c} {z : d} {r : γ} (h : un4 f (u, v, w, z) = r) : f u v w z = r := h
theorem un5_e {a b c d e γ : Type} {f : a → b → c → d → e → γ} {u : a} {v : b} {w : c} {z : d} {t : e} {r : γ} (h : un5 f (u, v, w, z, t) = r) : f u v w z t = r := h
theorem un6_e {a b c d e g γ : Type} {f : a → b → c → d → e → g → γ} {u : a} {v : b} {w : c} {z : d} {t : e} {s : g} {r : γ} (h : un6 f (u, v, w, z, t, s) = r) : f u v w z t s = r := h
theorem un7_e {a b c d e g i γ : Type} {f : a → b → c → d → e → g → i → γ} {u : a} {v : b} {w : c} {z : d} {t : e} {s : g} {q : i} {r : γ} (h : un7 f (u, v, w, z, t, s, q) = r) : f u v w z t s q = r := h
theorem sel_l {a b γ : Type} {f : a → γ} {g : b → γ} {x : a} {r : γ} (h : Sum.elim f g (.inl x) = r) : f x = r := h
theorem sel_r {a b γ : Type} {f : a → γ} {g : b → γ} {x : b} {r : γ} (h : Sum.elim f g (.inr x) = r) : g x = r := h
theorem ne_int {x k : Int32} (h : ¬ x = k) (z : Int) (hz : k.toInt = z) : x.toInt ≠ z := fun e => h (Int32.toInt_inj.mp (e.trans hz.symm))
def fillF (N : Nat) (v : Int32) (F : Nat → Int32) : Nat → Int32 := fun j => if j < N then v else F j
theorem rows_setH {cy : Nat → ClassId} {a : Nat → Nat} {x : OV} {k B N len j : Nat} {f : Nat → Int32} : (rowsG cy a x k B N len).set j (a (B + j), .inl (cy 0, len, .inl f)) = rowsG cy a (sH x k j f) k B N len := by
  unfold rowsG
  rw [map_set]
  refine List.map_congr_left fun t _ => ?_
  by_cases e : t = j
  · subst e; simp [sH, gr, va_up]
  · simp [sH, gr, va_up, e]
