section WC
variable {X : Cx} {D : va_G} {ev : EvT} {cy : Nat → ClassId} {A : Nat → Prop} {nL : Nat} {cc : ByteArray} {own : String} {rm : Room} {ret : Option FieldType} {l : Launch} {Q : State → Prop} {k n pc : Nat} {lo : List (Nat × Value)} {st stk : List Value} {Gs Cs Rs : List va_W} {Post : Option Value → List va_W → Prop} {mc ms : Nat}
theorem ww_run (h : cx X D ev cy A nL cc own rm ret l) (is : List Nat) (hp : pk_g is Gs = (Cs, Rs))
    (hr : ∀ (H : Heap) (locs : List Loc) (ls : Array Slot), lv_has ls nL lo → va_P D vwCl Cs.flatten H → va_D (fun _ => True) Cs.flatten → va_S A X.2.2.2.2.1.heap H locs → (∀ q, va_A Cs.flatten H.size q → A q) → va_Run X.1 X.2.1 X.2.2.1 X.2.2.2.1 X.2.2.2.2.1 X.2.2.2.2.2.1 X.2.2.2.2.2.2.1 X.2.2.2.2.2.2.2.1 X.2.2.2.2.2.2.2.2.1 X.2.2.2.2.2.2.2.2.2 H locs k n mc ms (F0 X.2.2.2.2.2.1 pc ls stk) st (fun s0 oc t => qP D (va_A Cs.flatten H.size) Post s0 oc t) (va_A Cs.flatten H.size))
    (q : Nat) (hq : pc + 3 = q) (kk : ∀ (r : Option Value) (Gs' : List va_W), Post r Gs' → ww X D A nL Q (k + mc) (n + ms) q lo (r.toList ++ st) (Gs' ++ Rs)) : ww X D A nL Q k n pc lo stk Gs := by
  subst hq
  intro H locs ls hP hD hS hl
  have hpm := pk_flat hp
  have hP0 := kP_perm hpm hP
  have hD0 := kD_perm hpm hD
  have hPc := kP_left hP0
  have hDc := kD_left hD0
  have hDn := kD_iff.mp hD0
  rw [List.map_append, List.nodup_append] at hDn
  have hsub : ∀ q, va_A Cs.flatten H.size q → A q := by
    intro q hq
    rcases hq with ⟨j, e, hj⟩ | hq
    · exact hDc.2 j (q, e) hj
    · exact h.2.2.2.2.2.2.2.1 q (Nat.le_trans hS.1 hq)
  have hrest : ∀ q ∈ Rs.flatten, q.1 < H.size ∧ ¬ va_A Cs.flatten H.size q.1 := by
    intro q hq
    have hlt := (kP_iff.mp hP0 q (List.mem_append_right _ hq)).lt
    refine ⟨hlt, fun z => ?_⟩
    rcases z with ⟨j, e, hj⟩ | z
    · exact hDn.1.2.2 q.1 (List.mem_map.mpr ⟨(q.1, e), List.mem_of_getElem? hj, rfl⟩) q.1 (List.mem_map.mpr ⟨q, hq, rfl⟩) rfl
    · omega
  intro T hT XS
  obtain ⟨v, st₀, t, T', L, h0, X', hL, e1, e2, ⟨⟨r, Gs', hv, hpost, hP1, hD1⟩, hz, hk⟩, stp⟩ := hr H locs ls hl hPc (hDc.weaken (fun _ _ _ _ => trivial)) hS hsub T hT XS
  cases hv
  rw [h0] at hz hk
  have hP2 : va_P D vwCl (Gs' ++ Rs).flatten T'.heap := by
    rw [List.flatten_append]
    refine kP_iff.mpr fun q hq => ?_
    rcases List.mem_append.mp hq with hq | hq
    · rw [e1]; exact kP_iff.mp hP1 q hq
    · have h2 := hrest q hq
      exact (kP_iff.mp hP0 q (List.mem_append_right _ hq)).kept (by rw [e1]; exact hk q.1 h2.1 h2.2)
  have hD2 : va_D A (Gs' ++ Rs).flatten := by
    rw [List.flatten_append]
    have h3 := kD_iff.mp hD1
    refine kD_iff.mpr ⟨?_, fun q hq => ?_⟩
    · rw [List.map_append, List.nodup_append]
      refine ⟨h3.1, hDn.1.2.1, fun a ha b hb hab => ?_⟩
      obtain ⟨x, hx, rfl⟩ := List.mem_map.mp ha
      obtain ⟨y, hy, rfl⟩ := List.mem_map.mp hb
      exact (hrest y hy).2 (hab ▸ h3.2 x hx)
    · rcases List.mem_append.mp hq with hq | hq
      · exact hsub _ (h3.2 q hq)
      · exact hDn.2 q (List.mem_append_right _ hq)
  have hS2 : va_S A X.2.2.2.2.1.heap T'.heap (locs ++ L) := ⟨Nat.le_trans hS.1 (by rw [e1]; exact hz), fun q h1 h2 => by rw [e1, hk q (Nat.lt_of_lt_of_le h1 hS.1) (fun z => h2 (hsub q z))]; exact hS.2.1 q h1 h2, fun q hq => by
      rcases List.mem_append.mp hq with h | h
      · exact hS.2.2 q h
      · exact hsub _ (hL q h)⟩
  obtain ⟨t2, a1, b1⟩ := kk _ Gs' hpost T'.heap (locs ++ L) ls hP2 hD2 hS2 hl T' rfl X'
  exact ⟨t2, stp t2 a1, b1⟩
/-- which words a call needs -/
def okY (C : String) (y : MethodName) (n : Nat) : Prop := y.cls = C ∧ y.cls ≠ "java/lang/invoke/MethodHandle" ∧ y.cls ≠ "java/lang/invoke/VarHandle" ∧ (parseMethodDescriptor y.desc).map (fun d => d.parameters.length) = some n
def stW (st : List Value) : Nat := (st.map fun v => v.category).sum
theorem fn_blind {D : va_G} {ev : EvT} {cy : Nat → ClassId} {As : List Value} {Gs : List va_W} {sz : Nat} : FrameBlind (va_Pc As (fun U => U.heap.size = sz ∧ va_P D vwCl Gs.flatten U.heap ∧ va_K D vwCl (tyL cy) U ∧ va_D (fun _ => True) Gs.flatten ∧ EV ev (va_A Gs.flatten sz) U U.heap ∧ ∀ w ∈ nwL, va_Nw w U)) :=
  fun a U g mk q => ⟨q.1, q.2.1, q.2.2.1, va_K.moved (u := U) (U := U.calling g mk a) (Vm.Alike.refl U.vm) q.2.2.2.1, q.2.2.2.2.1, EV_blind (U := U) (V := U.calling g mk a) rfl q.2.2.2.2.2.1, fun w hw => nw_same (u := U) (U := U.calling g mk a) hw rfl (q.2.2.2.2.2.2 w hw)⟩
variable {y : MethodName} {bytes : ByteArray} {maxL : Nat} {rt : Option FieldType} {rc : Room} {As : List Value} {b index ci : Nat} {C : String} {T : u_T} {N : Nat} {fs : List Value}
/-- a call of an instance method (of its own class, or another one's) -/
theorem ww_callV (h : cx X D ev cy A nL cc own rm ret l) (hF : Fn l y bytes maxL rt rc D ev cy (.ref b :: As) Cs Post) (hcode : Cond.code y bytes maxL rt ∈ tbG) (hlink : Cond.methodLink own index y ∈ tbG) (hinst : Cond.instanceMethod y ∈ tbG) (hsel : Cond.selects C y y ∈ tbG) (hini : Cond.initialized C ∈ tbG) (hY : okY C y As.length)
    (hroom : rc.frames + 1 ≤ rm.frames ∧ 8 + (maxL + 11) + rc.locals ≤ rm.locals) (hcel : k + rc.cells ≤ rm.cells ∧ n + rc.slots ≤ rm.slots)
    (is : List Nat) (hp : pk_g is Gs = (Cs, Rs)) (g e : Nat) {cg : va_W} (hg : Cs[g]? = some cg) (he : cg[e]? = some (b, .inr (ci, fs))) (hcl : vwCl[ci]? = some (C, T, N)) (hst : stk = As.reverse ++ .ref b :: st) (hW : stW st ≤ 8) (hd : decode cc pc = .ok (.invokevirtual index, 3))
    (q : Nat) (hq : pc + 3 = q) (kk : ∀ (r : Option Value) (Gs' : List va_W), Post r Gs' → ww X D A nL Q (k + rc.cells) (n + rc.slots) q lo (r.toList ++ st) (Gs' ++ Rs)) : ww X D A nL Q k n pc lo stk Gs := by
  have hle := h.2.2.2.2.2.2.2.2.2.2.2.1
  subst hle
  refine ww_run h is hp (fun H locs ls hl hPc hDc hS0 hsub => ?_) q hq kk
  have cw : CallW X.2.2.2.1 X.2.2.2.2.1 X.2.2.2.2.2.2.1 own C index y bytes maxL rt (Cond.code y bytes maxL rt :: tbG) rc rc.cells rc.slots As.length := by
    obtain ⟨hY1, hY2⟩ := hY
    refine ⟨callB_of As.length h.2.2.2.2.1 (tb_good hcode) rfl rfl rfl (by rw [hY1]; exact h.2.2.2.2.1 _ hini) (h.2.2.2.2.1 _ hlink) hY2 ?_, h.2.2.2.2.1 _ hinst, h.2.2.2.2.1 _ hsel⟩
    rw [h.2.2.2.2.2.2.2.2.1]; exact hroom
  exact va_runV ⟨h.1, h.2.1, h.2.2.1, h.2.2.2.1, h.2.2.2.2.1⟩ (hF H.size) cw ⟨fn_blind, va_recv h.2.2.2.2.2.2.1 hPc hcl (kAt hg he), fun U hU hW' => ⟨rfl, by rw [hU], by rw [hU]; exact hPc, va_K.moved hW'.alike h.2.2.2.2.2.2.1, hDc, by rw [hU]; exact EV_call h.2.2.2.2.2.2.2.2.2.2.2.2 hS0 hW' hsub, fun w hw => nw_warm hw hW' (h.2.2.2.2.2.1 w hw)⟩⟩ rfl rfl hl.1 hst (lv_room hW) hd (by rw [h.2.2.2.2.2.2.2.2.1]; exact hcel)
/-- a call of a static method of its own class -/
theorem ww_callS (h : cx X D ev cy A nL cc own rm ret l) (hF : Fn l y bytes maxL rt rc D ev cy As Cs Post) (hcode : Cond.code y bytes maxL rt ∈ tbG) (hlink : Cond.methodLink own index y ∈ tbG) (hstat : Cond.static y ∈ tbG) (hini : Cond.initialized C ∈ tbG) (hY : okY C y As.length)
    (hroom : rc.frames + 1 ≤ rm.frames ∧ 8 + (maxL + 11) + rc.locals ≤ rm.locals) (hcel : k + rc.cells ≤ rm.cells ∧ n + rc.slots ≤ rm.slots)
    (is : List Nat) (hp : pk_g is Gs = (Cs, Rs)) (hst : stk = As.reverse ++ st) (hW : stW st ≤ 8) (hd : decode cc pc = .ok (.invokestatic index, 3))
    (q : Nat) (hq : pc + 3 = q) (kk : ∀ (r : Option Value) (Gs' : List va_W), Post r Gs' → ww X D A nL Q (k + rc.cells) (n + rc.slots) q lo (r.toList ++ st) (Gs' ++ Rs)) : ww X D A nL Q k n pc lo stk Gs := by
  have hle := h.2.2.2.2.2.2.2.2.2.2.2.1
  subst hle
  refine ww_run h is hp (fun H locs ls hl hPc hDc hS0 hsub => ?_) q hq kk
  have cw : CallB X.2.2.2.1 X.2.2.2.2.1 X.2.2.2.2.2.2.1 own index y bytes maxL rt (Cond.code y bytes maxL rt :: tbG) rc rc.cells rc.slots As.length := by
    obtain ⟨hY1, hY2⟩ := hY
    refine callB_of As.length h.2.2.2.2.1 (tb_good hcode) rfl rfl rfl (by rw [hY1]; exact h.2.2.2.2.1 _ hini) (h.2.2.2.2.1 _ hlink) hY2 ?_
    rw [h.2.2.2.2.2.2.2.2.1]; exact hroom
  exact va_runS ⟨h.1, h.2.1, h.2.2.1, h.2.2.2.1, h.2.2.2.2.1⟩ (hF H.size) ⟨cw, h.2.2.2.2.1 _ hstat⟩ ⟨fn_blind, fun U hU hW' => ⟨rfl, by rw [hU], by rw [hU]; exact hPc, va_K.moved hW'.alike h.2.2.2.2.2.2.1, hDc, by rw [hU]; exact EV_call h.2.2.2.2.2.2.2.2.2.2.2.2 hS0 hW' hsub, fun w hw => nw_warm hw hW' (h.2.2.2.2.2.1 w hw)⟩⟩ rfl rfl hl.1 hst (lv_room hW) hd (by rw [h.2.2.2.2.2.2.2.2.1]; exact hcel)
end WC
