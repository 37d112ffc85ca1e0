section WN
variable {X : Cx} {D : va_G} {ev : EvT} {cy : Nat → ClassId} {A : Nat → Prop} {nL : Nat} {cc : ByteArray} {own : String} {rm : Room} {ret : Option FieldType} {l : Launch} {Q : State → Prop} {k n pc : Nat} {lo : List (Nat × Value)} {st stk : List Value} {Gs Gs' Cs Cs' Rs : List va_W} {Post : Option Value → List va_W → Prop}
variable {y : MethodName} {bytes : ByteArray} {maxL : Nat} {rt : Option FieldType} {rc : Room} {As : List Value} {b index ci : Nat} {C host : String} {T : u_T} {N : Nat} {fs : List Value}
theorem ww_flat {Gs' : List va_W} (hp : Gs.flatten = Gs'.flatten) (kk : ww X D A nL Q k n pc lo st Gs') : ww X D A nL Q k n pc lo st Gs := by
  intro H locs ls hP hD hS hl
  rw [hp] at hP hD
  exact kk H locs ls hP hD hS hl
/-- groups that nobody needs any more go -/
theorem ww_drop (is : List Nat) {Gs' Rs : List va_W} (hp : pk_g is Gs = (Gs', Rs)) (kk : ww X D A nL Q k n pc lo st Gs') : ww X D A nL Q k n pc lo st Gs := by
  have h := pk_flat hp
  exact fun H locs ls hP hD hS hl => kk H locs ls (kP_left (kP_perm h hP)) (kD_left (kD_perm h hD)) hS hl
theorem ww_kn {k' n' : Nat} (h1 : k ≤ k') (h2 : n ≤ n') (kk : ww X D A nL Q k' n' pc lo st Gs) : ww X D A nL Q k n pc lo st Gs :=
  fun H locs ls hP hD hS hl => W.widen h1 h2 (kk H locs ls hP hD hS hl)
theorem ww_objInit (h : cx X D ev cy A nL cc own rm ret l) {a : Nat} (hlink : Cond.methodLink own index objectInit ∈ tbG) (hinst : Cond.instanceMethod objectInit ∈ tbG) (hcode : Cond.code objectInit ⟨#[0xb1]⟩ 1 none ∈ tbG) (hr : 1 ≤ rm.frames ∧ stW st + 12 ≤ rm.locals) (hd : decode cc pc = .ok (.invokespecial index, 3)) (q : Nat) (hq : pc + 3 = q) (kk : ww X D A nL Q k n q lo st Gs) : ww X D A nL Q k n pc lo (.ref a :: st) Gs := by
  subst hq
  intro H locs ls hP hD hS hl
  refine W.objInit h.1 h.2.1 h.2.2.2.1 (h.2.2.2.2.1 _ hlink) (h.2.2.2.2.1 _ hinst) (h.2.2.2.2.1 _ hcode) rfl (by rw [h.2.2.1]; exact hl.1) rfl hd (by rw [h.2.2.2.2.2.2.2.2.1]; exact hr.1) (by rw [h.2.2.2.2.2.2.2.2.1]; have := hr.2; show 2 * 0 + _ + 12 ≤ _; simpa [stW] using this) ?_
  exact kk H locs ls hP hD hS hl
theorem ww_new (h : cx X D ev cy A nL cc own rm ret l) (hin : ∀ w ∈ u_ws C T N, w ∈ tbG) {ty : Nat → FieldType} (hty : ∀ k, k < N → parseFieldDescriptor (T k).2.2.1 = some (ty k)) (hcl : Cond.classLink own index C ∈ tbG) (hinst : Cond.instantiable C N ∈ tbG) (hini : Cond.initialized C ∈ tbG) (hc : vwCl[ci]? = some (C, T, N)) (hfs : ∀ j, j < N → defaultValue (ty j) = vp_V fs j) (hr : k + 1 ≤ rm.cells ∧ n + N ≤ rm.slots) (hd : decode cc pc = .ok (.new index, 3)) (q : Nat) (hq : pc + 3 = q)
    {k' n' : Nat} (hk : k + 1 = k') (hn : n + N = n') (kk : ∀ a, ww X D A nL Q k' n' q lo (.ref a :: st) (Gs ++ [[(a, .inr (ci, fs))]])) : ww X D A nL Q k n pc lo st Gs := by
  subst hq
  subst hk
  subst hn
  intro H locs ls hP hD hS hl
  refine va_new h.1 h.2.1 h.2.2.2.2.1 hin ty hty h.2.2.2.1 (h.2.2.2.2.1 _ hcl) (h.2.2.2.2.1 _ hinst) (h.2.2.2.2.1 _ hini) h.2.2.2.2.2.2.1 hP hD hS h.2.2.2.2.2.2.2.1 hc hfs (by rw [h.2.2.2.2.2.2.2.2.1]; exact hr.1) (by rw [h.2.2.2.2.2.2.2.2.1]; exact hr.2) hd (fun a H1 hP hD hS => ?_)
  exact kk a H1 locs ls (by rw [List.flatten_append]; simpa using hP) (by rw [List.flatten_append]; simpa using hD) hS hl
theorem ww_putF (h : cx X D ev cy A nL cc own rm ret l) {a : Nat} {v : Value} {c : va_W} {ty0 : Nat → FieldType} {ty : FieldType} (hm : X.2.2.2.2.2.2.2.2.1.name = "<init>") (hin : ∀ w ∈ u_ws C T N, w ∈ tbG) (hty : ∀ k, k < N → parseFieldDescriptor (T k).2.2.1 = some (ty0 k)) (hnm : ∀ a, a < N → ∀ b, b < N → a ≠ b → (T a).2.1 ≠ (T b).2.1) (hc : vwCl[ci]? = some (C, T, N)) (g : Nat) (hg : Gs[g]? = some c) (he : c[0]? = some (a, .inr (ci, fs))) (f : Nat) (hf : f < N) (hw : Cond.fieldLink own index (T f).1 (T f).2.1 (T f).2.2.1 ∈ tbG) (hfin : (T f).2.2.2 = true) (hdecl : (T f).1 = own) (hdd : parseFieldDescriptor (T f).2.2.1 = some ty) (hn : narrow ty v = v) (hfit : fits ty v = true) (hl9 : f < fs.length) (hc0 : 0 < c.length) (hd : decode cc pc = .ok (.putfield index, 3)) (q : Nat) (hq : pc + 3 = q) (hG : Gs.set g (c.set 0 (a, .inr (ci, fs.set f v))) = Gs') (kk : ww X D A nL Q k n q lo st Gs') : ww X D A nL Q k n pc lo (v :: .ref a :: st) Gs := by
  subst hq
  subst hG
  intro H locs ls hP hD hS hl
  refine va_putF h.1 h.2.1 h.2.2.2.2.1 hin ty0 hty hnm h.2.2.2.1 h.2.2.2.2.2.2.1 hP hD hS _ (kAt hg he) hc f hf (h.2.2.2.2.1 _ hw) (fun _ z => z) hfin hm hdecl hdd hn hfit hl9 hd (fun H1 locs1 hP hD hS => ?_)
  rw [kSet hg hc0] at hP hD
  exact kk H1 locs1 ls hP hD hS hl
/-- a constructor is called -/
theorem ww_cI (h : cx X D ev cy A nL cc own rm ret l) (hF : Fn l y bytes maxL none rc D ev cy (.ref b :: As) Cs Post) (hcode : Cond.code y bytes maxL none ∈ tbG) (hlink : Cond.methodLink own index y ∈ tbG) (hinst : Cond.instanceMethod y ∈ tbG) (hini : Cond.initialized C ∈ tbG) (hy : y.name = "<init>") (hY : okY C y As.length)
    (hroom : rc.frames + 1 ≤ rm.frames ∧ 8 + (maxL + 11) + rc.locals ≤ rm.locals) (hcel : k + rc.cells ≤ rm.cells ∧ n + rc.slots ≤ rm.slots)
    (is : List Nat) (hp : pk_g is Gs = (Cs, Rs)) (hst : stk = As.reverse ++ .ref b :: st) (hW : stW st ≤ 8) (hd : decode cc pc = .ok (.invokespecial index, 3))
    (q : Nat) (hq : pc + 3 = q) {k' n' : Nat} (hk : k + rc.cells = k') (hn : n + rc.slots = n') (hv : ∀ r G, Post r G → r = none) (kk : ∀ (G : List va_W), Post none G → ww X D A nL Q k' n' q lo st (G ++ Rs)) : ww X D A nL Q k n pc lo stk Gs := by
  subst hk
  subst hn
  have hle := h.2.2.2.2.2.2.2.2.2.2.2.1
  subst hle
  refine ww_run (st := st) h is hp (mc := rc.cells) (ms := rc.slots) (Post := Post) (fun H locs ls hl hPc hDc hS0 hsub => ?_) q hq (fun r G hr => ?_)
  · obtain ⟨hY1, hY2⟩ := hY
    have cb : CallB X.2.2.2.1 X.2.2.2.2.1 X.2.2.2.2.2.2.1 own index y bytes maxL none (Cond.code y bytes maxL none :: tbG) rc rc.cells rc.slots As.length := by
      refine callB_of As.length h.2.2.2.2.1 (tb_good hcode) rfl rfl rfl (by rw [hY1]; exact h.2.2.2.2.1 _ hini) (h.2.2.2.2.1 _ hlink) hY2 ?_
      rw [h.2.2.2.2.2.2.2.2.1]; exact hroom
    exact va_runI ⟨h.1, h.2.1, h.2.2.1, h.2.2.2.1, h.2.2.2.2.1⟩ (hF H.size) ⟨cb, hy, h.2.2.2.2.1 _ hinst⟩ ⟨fn_blind, fun U hU hW' => ⟨rfl, by rw [hU], by rw [hU]; exact hPc, va_K.moved hW'.alike h.2.2.2.2.2.2.1, hDc, by rw [hU]; exact EV_call h.2.2.2.2.2.2.2.2.2.2.2.2 hS0 hW' hsub, fun w hw => nw_warm hw hW' (h.2.2.2.2.2.1 w hw)⟩⟩ rfl rfl hl.1 hst (lv_room hW) hd (by rw [h.2.2.2.2.2.2.2.2.1]; exact hcel)
  · have := hv r G hr
    subst this
    exact kk G hr
/-- a nest mate's private constructor is called -/
theorem ww_cIN (h : cx X D ev cy A nL cc own rm ret l) (hF : Fn l y bytes maxL none rc D ev cy (.ref b :: As) Cs Post) (hcode : Cond.code y bytes maxL none ∈ tbG) (hlink : Cond.methodLinkNest own index y host ∈ nwL) (hinst : Cond.instanceMethod y ∈ tbG) (hini : Cond.initialized C ∈ tbG) (hy : y.name = "<init>") (hY : okY C y As.length)
    (hroom : rc.frames + 1 ≤ rm.frames ∧ 8 + (maxL + 11) + rc.locals ≤ rm.locals) (hcel : k + rc.cells ≤ rm.cells ∧ n + rc.slots ≤ rm.slots)
    (is : List Nat) (hp : pk_g is Gs = (Cs, Rs)) (hst : stk = As.reverse ++ .ref b :: st) (hW : stW st ≤ 8) (hd : decode cc pc = .ok (.invokespecial index, 3))
    (q : Nat) (hq : pc + 3 = q) {k' n' : Nat} (hk : k + rc.cells = k') (hn : n + rc.slots = n') (hv : ∀ r G, Post r G → r = none) (kk : ∀ (G : List va_W), Post none G → ww X D A nL Q k' n' q lo st (G ++ Rs)) : ww X D A nL Q k n pc lo stk Gs := by
  subst hk
  subst hn
  have hle := h.2.2.2.2.2.2.2.2.2.2.2.1
  subst hle
  refine ww_run (st := st) h is hp (mc := rc.cells) (ms := rc.slots) (Post := Post) (fun H locs ls hl hPc hDc hS0 hsub => ?_) q hq (fun r G hr => ?_)
  · obtain ⟨hY1, hY2⟩ := hY
    have cb : va_CN X.2.2.2.1 X.2.2.2.2.1 X.2.2.2.2.2.2.1 own index y host bytes maxL none (Cond.code y bytes maxL none :: tbG) rc rc.cells rc.slots As.length :=
      va_cnB As.length h.2.2.2.2.1 (tb_good hcode) rfl rfl rfl (h.2.2.2.2.2.1 _ hlink) (by rw [hY1]; exact h.2.2.2.2.1 _ hini) hY2 (by rw [h.2.2.2.2.2.2.2.2.1]; exact hroom)
    exact va_runIN ⟨h.1, h.2.1, h.2.2.1, h.2.2.2.1, h.2.2.2.2.1⟩ (hF H.size) ⟨cb, hy, h.2.2.2.2.1 _ hinst⟩ ⟨fn_blind, fun U hU hW' => ⟨rfl, by rw [hU], by rw [hU]; exact hPc, va_K.moved hW'.alike h.2.2.2.2.2.2.1, hDc, by rw [hU]; exact EV_call h.2.2.2.2.2.2.2.2.2.2.2.2 hS0 hW' hsub, fun w hw => nw_warm hw hW' (h.2.2.2.2.2.1 w hw)⟩⟩ rfl rfl hl.1 hst (lv_room hW) hd (by rw [h.2.2.2.2.2.2.2.2.1]; exact hcel)
  · have := hv r G hr
    subst this
    exact kk G hr
theorem ww_newa (h : cx X D ev cy A nL cc own rm ret l) {atype : ArrayType} {ty : FieldType} (t : Nat) (htt : (tyL cy)[t]? = some (cy t, ty)) (hpr : refKind ty = false) (hty : newarray.typeOf atype = ty) (harr : Cond.arrayClass (newarray.typeOf atype) ∈ tbG) {m : Int32} {N' : Nat} {a0 : vp_A} (ha : ∀ cA : ClassId, vp_cell cA a0 = arrV cA N' (fun _ => defaultValue ty)) (hn0 : ¬ m < 0) (hN : m.toNatClampNeg = N') (hbytes : N' * componentBytes ty ≤ 536870912) (hr : k + 1 ≤ rm.cells ∧ n + N' ≤ rm.slots) (hd : decode cc pc = .ok (.newarray atype, 2)) (q : Nat) (hq : pc + 2 = q)
    {k' n' : Nat} (hk : k + 1 = k') (hn : n + N' = n') (kk : ∀ a, ww X D A nL Q k' n' q lo (.ref a :: st) (Gs ++ [[(a, .inl (cy t, a0))]])) : ww X D A nL Q k n pc lo (.int m :: st) Gs := by
  subst hq
  subst hk
  subst hn
  intro H locs ls hP hD hS hl
  have hK := h.2.2.2.2.2.2.1
  refine va_newa h.1 h.2.1 (h.2.2.2.2.1 _ harr) hty hK hP hD hS h.2.2.2.2.2.2.2.1 ha hn0 hN hbytes (by rw [h.2.2.2.2.2.2.2.2.1]; exact hr.1) (by rw [h.2.2.2.2.2.2.2.2.1]; exact hr.2) hd (fun a cA H1 hK' hP hD hS => ?_)
  have e1 := (hK.2 t _ htt).2
  have e2 := (hK'.2 (tyL cy).length (cA, ty) (by simp)).2
  have e3 : cA = cy t := by
    cases ty <;> first | exact Option.some.inj (e2.symm.trans e1) | (simp [refKind] at hpr; done)
  subst e3
  exact kk a H1 locs ls (by rw [List.flatten_append]; simpa using hP) (by rw [List.flatten_append]; simpa using hD) hS hl
end WN
