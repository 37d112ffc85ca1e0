section WS
variable {X : Cx} {D : va_G} {ev : EvT} {cy : Nat → ClassId} {A : Nat → Prop} {nL : Nat} {cc : ByteArray} {own : String} {rm : Room} {ret : Option FieldType} {l : Launch} {Q : State → Prop} {k n pc : Nat} {lo : List (Nat × Value)} {st stk : List Value} {Gs Gs' Cs Cs' Rs : List va_W}
variable {y : MethodName} {bytes : ByteArray} {maxL : Nat} {rt : Option FieldType} {rc : Room} {As : List Value} {b index ci : Nat} {C host : String} {T : u_T} {N : Nat} {fs : List Value}
theorem nw_in {w : Cond} (i : Nat) (h : lw_tbl[i]? = some w) (hg : isNest w = true) : w ∈ nwL := List.mem_filter.mpr ⟨List.mem_of_getElem? h, hg⟩
/-- a static method of a nest mate, private -/
theorem ww_cSNi {r : Int32} (h : cx X D ev cy A nL cc own rm ret l) (hF : Fn l y bytes maxL rt rc D ev cy As Cs (fun v G => v = some (.int r) ∧ G = Cs')) (hcode : Cond.code y bytes maxL rt ∈ tbG) (hlink : Cond.methodLinkNest own index y host ∈ nwL) (hstat : Cond.static y ∈ tbG) (hini : Cond.initialized C ∈ tbG) (hY : okY C y As.length)
    (hroom : rc.frames + 1 ≤ rm.frames ∧ 8 + (maxL + 11) + rc.locals ≤ rm.locals) (hcel : k + rc.cells ≤ rm.cells ∧ n + rc.slots ≤ rm.slots) (hz : rc.cells = 0 ∧ rc.slots = 0)
    (is : List Nat) (hp : pk_g is Gs = (Cs, Rs)) (hst : stk = As.reverse ++ st) (hW : stW st ≤ 8) (hd : decode cc pc = .ok (.invokestatic index, 3))
    (q : Nat) (hq : pc + 3 = q) (hG : Cs' ++ Rs = Gs') (kk : ww X D A nL Q k n q lo (.int r :: st) Gs') : ww X D A nL Q k n pc lo stk Gs := by
  subst hG
  have hle := h.2.2.2.2.2.2.2.2.2.2.2.1
  subst hle
  refine ww_run (st := st) h is hp (mc := rc.cells) (ms := rc.slots) (Post := fun v G => v = some (.int r) ∧ G = Cs') (fun H locs ls hl hPc hDc hS0 hsub => ?_) q hq (fun r G hr => ?_)
  · obtain ⟨hY1, hY2⟩ := hY
    have cw : va_CN X.2.2.2.1 X.2.2.2.2.1 X.2.2.2.2.2.2.1 own index y host bytes maxL rt (Cond.code y bytes maxL rt :: tbG) rc rc.cells rc.slots As.length :=
      va_cnB As.length h.2.2.2.2.1 (tb_good hcode) rfl rfl rfl (h.2.2.2.2.2.1 _ hlink) (by rw [hY1]; exact h.2.2.2.2.1 _ hini) hY2 (by rw [h.2.2.2.2.2.2.2.2.1]; exact hroom)
    exact va_runSN ⟨h.1, h.2.1, h.2.2.1, h.2.2.2.1, h.2.2.2.2.1⟩ (hF H.size) ⟨cw, h.2.2.2.2.1 _ hstat, trivial⟩ ⟨fn_blind, fun U hU hW' => ⟨rfl, by rw [hU], by rw [hU]; exact hPc, va_K.moved hW'.alike h.2.2.2.2.2.2.1, hDc, by rw [hU]; exact EV_call h.2.2.2.2.2.2.2.2.2.2.2.2 hS0 hW' hsub, fun w hw => nw_warm hw hW' (h.2.2.2.2.2.1 w hw)⟩⟩ rfl rfl hl.1 hst (lv_room hW) hd (by rw [h.2.2.2.2.2.2.2.2.1]; exact hcel)
  · obtain ⟨rfl, rfl⟩ := hr
    rw [hz.1, hz.2]
    exact kk
theorem eraseSet {α : Type} : ∀ (L : List α) (i : Nat) (x : α), (L.set i x).eraseIdx i = L.eraseIdx i
  | [], i, x => by simp
  | a :: L, 0, x => by simp
  | a :: L, i + 1, x => by simp [eraseSet L i x]
theorem cellPerm {Gs : List va_W} {g e : Nat} {c : va_W} {q : Nat × va_E} (hg : Gs[g]? = some c) (he : c[e]? = some q) : Gs.flatten.Perm ([q] :: c.eraseIdx e :: Gs.eraseIdx g).flatten := by
  have h1 := kFlat (kErase Gs g c hg)
  have h2 := kErase c e q he
  simp only [List.flatten_cons, List.singleton_append, ← List.cons_append] at h1 ⊢
  exact h1.trans (h2.append_right _)
/-- a call that works on one array of a group -/
theorem ww_onCell {a : Nat} {z z' : va_E} {c : va_W} (h : cx X D ev cy A nL cc own rm ret l) (hF : Fn l y bytes maxL rt rc D ev cy As [[(a, z)]] (fun v G => v = none ∧ G = [[(a, z')]])) (hw : csK own index C y bytes maxL rt As.length)
    (hroom : rc.frames + 1 ≤ rm.frames ∧ 8 + (maxL + 11) + rc.locals ≤ rm.locals) (hcel : k + rc.cells ≤ rm.cells ∧ n + rc.slots ≤ rm.slots) (hz : rc.cells = 0 ∧ rc.slots = 0)
    (g e : Nat) (hg : Gs[g]? = some c) (he : c[e]? = some (a, z)) (hst : stk = As.reverse ++ st) (hW : stW st ≤ 8) (hd : decode cc pc = .ok (.invokestatic index, 3))
    (q : Nat) (hq : pc + 3 = q) {c' : va_W} (hc : c.set e (a, z') = c') (hG : Gs.set g c' = Gs') (kk : ww X D A nL Q k n q lo st Gs') : ww X D A nL Q k n pc lo stk Gs := by
  subst hG
  subst hc
  have hp := cellPerm hg he
  have h2 : ww X D A nL Q k n pc lo stk ([(a, z)] :: c.eraseIdx e :: Gs.eraseIdx g) := by
    refine ww_cS none (Cs' := [[(a, z')]]) h hF hw.1 hw.2.1 hw.2.2.1 hw.2.2.2.1 hw.2.2.2.2 hroom hcel [0] (Rs := c.eraseIdx e :: Gs.eraseIdx g) rfl hst hW hd q hq hz rfl rfl ?_
    have hl := (List.getElem?_eq_some_iff.mp hg).1
    have hl2 := (List.getElem?_eq_some_iff.mp he).1
    have hg' : (Gs.set g (c.set e (a, z')))[g]? = some (c.set e (a, z')) := List.getElem?_set_self hl
    have he' : (c.set e (a, z'))[e]? = some (a, z') := List.getElem?_set_self hl2
    have hp' := cellPerm hg' he'
    rw [eraseSet, eraseSet] at hp'
    exact fun H locs ls hP hD hS hl => kk H locs ls (kP_perm hp'.symm hP) (kD_perm hp'.symm hD) hS hl
  exact fun H locs ls hP hD hS hl => h2 H locs ls (kP_perm hp hP) (kD_perm hp hD) hS hl
/-- System.arraycopy over int arrays -/
theorem ww_acopy (h : cx X D ev cy A nL cc own rm ret l) (hlink : Cond.methodLink own index arraycopyName ∈ tbG) (hnat : Cond.native arraycopyName ∈ tbG) (hstat : Cond.static arraycopyName ∈ tbG) (hini : Cond.initialized "java/lang/System" ∈ tbG)
    {a0 a n0 n1 : Nat} {F G : Nat → Int32} {c0 c1 : va_W} (g0 e0 g1 e1 : Nat) (hg0 : Gs[g0]? = some c0) (he0 : c0[e0]? = some (a0, .inl (cy 0, n0, .inl F))) (hg1 : Gs[g1]? = some c1) (he1 : c1[e1]? = some (a, .inl (cy 0, n1, .inl G)))
    {sp dp z : Int32} (h1 : ¬ sp < 0) (h2 : ¬ dp < 0) (h3 : ¬ z < 0) (h4 : sp.toNatClampNeg + z.toNatClampNeg ≤ n0) (h5 : dp.toNatClampNeg + z.toNatClampNeg ≤ n1) (hr : 1 ≤ rm.frames ∧ stW st + (nativeFrameWords "java/lang/System" "arraycopy" 5 + 11) ≤ rm.locals) (hd : decode cc pc = .ok (.invokestatic index, 3))
    (q : Nat) (hq : pc + 3 = q) (hG : Gs.set g1 (c1.set e1 (a, .inl (cy 0, n1, .inl (va_cpy F G sp.toNatClampNeg dp.toNatClampNeg z.toNatClampNeg)))) = Gs') (kk : ww X D A nL Q k n q lo st Gs') : ww X D A nL Q k n pc lo (.int z :: .int dp :: .ref a :: .int sp :: .ref a0 :: st) Gs := by
  subst hG
  subst hq
  intro H locs ls hP hD hS hl
  refine va_copyi h.1 h.2.1 (h.2.2.1.trans hl.1.symm) h.2.2.2.1 (h.2.2.2.2.1 _ hlink) (h.2.2.2.2.1 _ hnat) (h.2.2.2.2.1 _ hstat) (h.2.2.2.2.1 _ hini) h.2.2.2.2.2.2.1 hP hD hS _ _ 0 0 (kAt hg0 he0) (kAt hg1 he1) rfl rfl rfl h1 h2 h3 h4 h5 (fun _ _ => rfl) (by rw [h.2.2.2.2.2.2.2.2.1]; exact hr.1) (by rw [h.2.2.2.2.2.2.2.2.1]; exact hr.2) hd (fun H1 locs1 hP hD hS => ?_)
  rw [kSet hg1 (List.getElem?_eq_some_iff.mp he1).1] at hP hD
  exact kk H1 locs1 ls hP hD hS hl
theorem ww_min_long (h : cx X D ev cy A nL cc own rm ret l) {x y : Int64} (hlink : Cond.methodLink own index Lib.MathLoose.min_long.x ∈ tbG) (hstat : Cond.static Lib.MathLoose.min_long.x ∈ tbG) (hini : Cond.initialized "java/lang/Math" ∈ tbG) (hcode : Cond.code Lib.MathLoose.min_long.x Lib.MathLoose.min_long.code 4 (some .long) ∈ tbG) (hr : 1 ≤ rm.frames ∧ stW st + 15 ≤ rm.locals ∧ k ≤ rm.cells ∧ n ≤ rm.slots) (hd : decode cc pc = .ok (.invokestatic index, 3)) (q : Nat) (hq : pc + 3 = q) (kk : ww X D A nL Q k n q lo (.long (if y < x then y else x) :: st) Gs) : ww X D A nL Q k n pc lo (.long y :: .long x :: st) Gs := by
  subst hq
  exact fun H locs ls hP hD hS hl => va_mmin_long h.1 h.2.1 (h.2.2.1.trans hl.1.symm) h.2.2.2.1 (h.2.2.2.2.1 _ hlink) (h.2.2.2.2.1 _ hstat) (h.2.2.2.2.1 _ hini) (h.2.2.2.2.1 _ hcode) (by rw [h.2.2.2.2.2.2.2.2.1]; exact hr.1) (by rw [h.2.2.2.2.2.2.2.2.1]; exact hr.2.1) (by rw [h.2.2.2.2.2.2.2.2.1]; exact hr.2.2.1) (by rw [h.2.2.2.2.2.2.2.2.1]; exact hr.2.2.2) hd (kk H locs ls hP hD hS hl)
/-- statics: the two rows of bounds of weights -/
theorem ww_getW0 (h : cx X D ev cy A nL cc own rm ret l) (hw : Cond.fieldLink own index "LineEnds" "LEAST_WEIGHTS" "[I" ∈ tbG) (hd : decode cc pc = .ok (.getstatic index, 3)) (q : Nat) (hq : pc + 3 = q) (kk : ww X D A nL Q k n q lo (.ref (ev.2.2 0) :: st) Gs) : ww X D A nL Q k n pc lo st Gs := by
  subst hq
  exact fun H locs ls hP hD hS hl => va_gets h.1 h.2.1 h.2.2.2.2.2.2.2.2.2.2.2.2.2.2.2.1 hS h.2.2.2.1 (h.2.2.2.2.1 _ hw) (fun _ z => z) hd (kk H locs ls hP hD hS hl)
theorem ww_getW1 (h : cx X D ev cy A nL cc own rm ret l) (hw : Cond.fieldLink own index "LineEnds" "MOST_WEIGHTS" "[I" ∈ tbG) (hd : decode cc pc = .ok (.getstatic index, 3)) (q : Nat) (hq : pc + 3 = q) (kk : ww X D A nL Q k n q lo (.ref (ev.2.2 1) :: st) Gs) : ww X D A nL Q k n pc lo st Gs := by
  subst hq
  exact fun H locs ls hP hD hS hl => va_gets h.1 h.2.1 h.2.2.2.2.2.2.2.2.2.2.2.2.2.2.2.2.2.1 hS h.2.2.2.1 (h.2.2.2.2.1 _ hw) (fun _ z => z) hd (kk H locs ls hP hD hS hl)
theorem ww_ldW0 (h : cx X D ev cy A nL cc own rm ret l) {i : Int32} (hi : vp_in i 3) (hd : decode cc pc = .ok (.iaload, 1)) (q : Nat) (hq : pc + 1 = q) (kk : ww X D A nL Q k n q lo (.int (([0, 1, 1] : List Int32).getD i.toNatClampNeg 0) :: st) Gs) : ww X D A nL Q k n pc lo (.int i :: .ref (ev.2.2 0) :: st) Gs := by
  subst hq
  exact fun H locs ls hP hD hS hl => va_ti h.1 h.2.1 h.2.2.2.2.2.2.2.2.2.2.2.2.2.2.2.2.1 hS hi rfl hd (kk H locs ls hP hD hS hl)
theorem ww_ldW1 (h : cx X D ev cy A nL cc own rm ret l) {i : Int32} (hi : vp_in i 3) (hd : decode cc pc = .ok (.iaload, 1)) (q : Nat) (hq : pc + 1 = q) (kk : ww X D A nL Q k n q lo (.int (([9, 99, 9999] : List Int32).getD i.toNatClampNeg 0) :: st) Gs) : ww X D A nL Q k n pc lo (.int i :: .ref (ev.2.2 1) :: st) Gs := by
  subst hq
  exact fun H locs ls hP hD hS hl => va_ti h.1 h.2.1 h.2.2.2.2.2.2.2.2.2.2.2.2.2.2.2.2.2.2.1 hS hi rfl hd (kk H locs ls hP hD hS hl)
end WS
def r_fill : Room := { frames := 0, cells := 0, slots := 0, locals := 0 }
theorem ok_fill : okY "java/util/Arrays" yJ7_fill_53178 2 := ⟨rfl, by decide, by decide, by decide +kernel⟩
theorem dJ7_fill_53178_0 : decode cJ7_fill_53178 0 = .ok (.iconst 0, 1) := by decide +kernel
theorem dJ7_fill_53178_1 : decode cJ7_fill_53178 1 = .ok (.istore_n 2, 1) := by decide +kernel
theorem dJ7_fill_53178_2 : decode cJ7_fill_53178 2 = .ok (.aload_n 0, 1) := by decide +kernel
theorem dJ7_fill_53178_3 : decode cJ7_fill_53178 3 = .ok (.arraylength, 1) := by decide +kernel
theorem dJ7_fill_53178_4 : decode cJ7_fill_53178 4 = .ok (.istore_n 3, 1) := by decide +kernel
theorem dJ7_fill_53178_5 : decode cJ7_fill_53178 5 = .ok (.iload_n 2, 1) := by decide +kernel
theorem dJ7_fill_53178_6 : decode cJ7_fill_53178 6 = .ok (.iload_n 3, 1) := by decide +kernel
theorem dJ7_fill_53178_7 : decode cJ7_fill_53178 7 = .ok (.if_icmp .ge 13, 3) := by decide +kernel
theorem dJ7_fill_53178_10 : decode cJ7_fill_53178 10 = .ok (.aload_n 0, 1) := by decide +kernel
theorem dJ7_fill_53178_11 : decode cJ7_fill_53178 11 = .ok (.iload_n 2, 1) := by decide +kernel
theorem dJ7_fill_53178_12 : decode cJ7_fill_53178 12 = .ok (.iload_n 1, 1) := by decide +kernel
theorem dJ7_fill_53178_13 : decode cJ7_fill_53178 13 = .ok (.iastore, 1) := by decide +kernel
theorem dJ7_fill_53178_14 : decode cJ7_fill_53178 14 = .ok (.iinc 2 1, 3) := by decide +kernel
theorem dJ7_fill_53178_17 : decode cJ7_fill_53178 17 = .ok (.goto (-12), 3) := by decide +kernel
theorem dJ7_fill_53178_20 : decode cJ7_fill_53178 20 = .ok (.return_, 1) := by decide +kernel
set_option maxHeartbeats 4000000 in
set_option maxRecDepth 100000 in
theorem c_fill (l : Launch) (D : va_G) (ev : EvT) (cy : Nat → ClassId) (a N : Nat) (F : Nat → Int32) (v : Int32) (hN : N < 2 ^ 31) : Fn l yJ7_fill_53178 cJ7_fill_53178 4 none r_fill D ev cy [.ref a, .int v] [[(a, .inl (cy 0, N, .inl F))]] (fun r G => r = none ∧ G = [[(a, .inl (cy 0, N, .inl (fun j => if j < N then v else F j)))]]) := by
  refine Fn_of (by decide) (Nat.le_of_ble_eq_true rfl) (fun X A Q h hQ _ => ?_)
  show ww X D A 4 Q 0 0 0 [(0, .ref a), (1, .int v)] [] [[(a, .inl (cy 0, N, .inl F))]]
  refine ww_iconst (v := 0) h dJ7_fill_53178_0 (by decide) 1 rfl ?_
  refine ww_istore_n h dJ7_fill_53178_1 rfl (by decide) (lo' := [(2, .int 0), (0, .ref a), (1, .int v)]) rfl 2 rfl ?_
  refine ww_aload_n h dJ7_fill_53178_2 rfl 1 rfl 3 rfl ?_
  refine ww_alen (v := nI N) h 0 rfl 0 rfl 0 rfl rfl dJ7_fill_53178_3 4 rfl ?_
  refine ww_istore_n h dJ7_fill_53178_4 rfl (by decide) (lo' := [(3, .int (nI N)), (2, .int 0), (0, .ref a), (1, .int v)]) rfl 5 rfl ?_
  have loop : ∀ (t i : Nat) (G : Nat → Int32), i + t = N → (∀ j, G j = if j < i then v else F j) → ww X D A 4 Q 0 0 5 [(3, .int (nI N)), (2, .int (nI i)), (0, .ref a), (1, .int v)] [] [[(a, .inl (cy 0, N, .inl G))]] := by
    intro t
    induction t with
    | zero =>
      intro i G hi hG
      have hi' : i = N := by omega
      subst hi'
      refine ww_iload_n h dJ7_fill_53178_5 rfl 1 rfl 6 rfl ?_
      refine ww_iload_n h dJ7_fill_53178_6 rfl 0 rfl 7 rfl ?_
      refine ww_icmp_ge h dJ7_fill_53178_7 20 (by decide) 10 rfl (fun c => ?_) (fun c => absurd (nI_le (Nat.le_refl i) hN) c)
      refine ww_vret h dJ7_fill_53178_20 hQ ⟨rfl, ?_⟩
      have : G = fun j => if j < i then v else F j := funext hG
      rw [this]
    | succ t ih =>
      intro i G hi hG
      have hlt : i < N := by omega
      refine ww_iload_n h dJ7_fill_53178_5 rfl 1 rfl 6 rfl ?_
      refine ww_iload_n h dJ7_fill_53178_6 rfl 0 rfl 7 rfl ?_
      refine ww_icmp_ge h dJ7_fill_53178_7 20 (by decide) 10 rfl (fun c => absurd c (nI_ge hlt hN)) (fun c => ?_)
      refine ww_aload_n h dJ7_fill_53178_10 rfl 2 rfl 11 rfl ?_
      refine ww_iload_n h dJ7_fill_53178_11 rfl 1 rfl 12 rfl ?_
      refine ww_iload_n h dJ7_fill_53178_12 rfl 3 rfl 13 rfl ?_
      refine ww_iast h 0 rfl 0 rfl (vp_in_nI hlt hN) dJ7_fill_53178_13 14 rfl ?_
      refine ww_inc (c := 1) h dJ7_fill_53178_14 1 rfl (by decide) (by decide) (fun w => [(2, .int w), (3, .int (nI N)), (0, .ref a), (1, .int v)]) (fun _ => rfl) 17 rfl (fun w e => ?_)
      refine ww_goto h dJ7_fill_53178_17 5 (by decide) ?_
      rw [nI_1] at e
      subst e
      refine ww_lo [1, 0, 2, 3] (lo' := [(3, .int (nI N)), (2, .int (nI (i + 1))), (0, .ref a), (1, .int v)]) rfl ?_
      refine ww_cast (Gs' := [[(a, .inl (cy 0, N, .inl (upd G i v)))]]) (by rw [nI_clamp (by omega)]; rfl) ?_
      refine ih (i + 1) _ (by omega) (fun j => ?_)
      unfold upd
      by_cases e : j = i
      · subst e; simp
      · rw [if_neg e, hG]
        by_cases e2 : j < i
        · rw [if_pos e2, if_pos (by omega)]
        · rw [if_neg e2, if_neg (by omega)]
  exact loop N 0 F (by omega) (fun j => by simp)
