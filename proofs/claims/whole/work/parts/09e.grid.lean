-- an int grid is made: new int[N][M]
def qou (c : ClassId) (N h i : Nat) : Cell := arrV c N (fun j => va_rf (if j < i then some (h + 1 + j) else none))
def qin (c : ClassId) (M : Nat) : Cell := arrV c M (fun _ => .int 0)
def qst (s : State) (c comp : ClassId) (N M : Nat) : Nat → State
  | 0 => s.pushCell (qou c N s.heap.size 0)
  | i + 1 => ((qst s c comp N M i).pushCell (qin comp M)).setCell s.heap.size (qou c N s.heap.size (i + 1))
theorem qou_step (c : ClassId) (N h i : Nat) : (qou c N h i).setSlot i (.ref (h + 1 + i)) = qou c N h (i + 1) := by
  unfold qou
  rw [arrV_store]
  refine congrArg (arrV c N) (funext fun j => ?_)
  by_cases e : j = i
  · subst e; simp [updV, va_rf]
  · by_cases hj : j < i
    · simp [updV, e, hj, Nat.lt_succ_of_lt hj]
    · simp [updV, e, hj, show ¬ j < i + 1 by omega]
theorem qst_at (s : State) (c comp : ClassId) (N M : Nat) : ∀ i, (qst s c comp N M i).heap.size = s.heap.size + 1 + i ∧ (qst s c comp N M i).heap[s.heap.size]? = some (qou c N s.heap.size i) ∧ (qst s c comp N M i).vm = s.vm ∧ (qst s c comp N M i).slotsUsed = s.slotsUsed + N + i * M
  | 0 => ⟨by simp [qst], by simp [qst], rfl, by simp [qst, qou, arrV_size]⟩
  | i + 1 => by
    obtain ⟨a, b, d, u⟩ := qst_at s c comp N M i
    have hlt : s.heap.size < (qst s c comp N M i).heap.size := by omega
    have hb' : ((qst s c comp N M i).pushCell (qin comp M)).heap[s.heap.size]? = some (qou c N s.heap.size i) := by rw [State.heap_pushCell_of_lt (h := hlt)]; exact b
    refine ⟨?_, State.heap_setCell_self hb', by simp [qst, d], ?_⟩
    · simp [qst, State.setCell, a]; omega
    · simp [qst, u, qin, arrV_size, Nat.succ_mul]; omega
theorem qst_top (s : State) (f : JFrame) (c comp : ClassId) (N M : Nat) : ∀ i, qst (s.setTop f) c comp N M i = (qst s c comp N M i).setTop f
  | 0 => rfl
  | i + 1 => by simp only [qst, qst_top s f c comp N M i, State.heap_setTop, State.pushCell_setTop, State.setCell_setTop]
theorem qst_old (s : State) (c comp : ClassId) (N M : Nat) {a : Addr} (ha : a < s.heap.size) : ∀ i, (qst s c comp N M i).heap[a]? = s.heap[a]?
  | 0 => State.heap_pushCell_of_lt _ _ ha
  | i + 1 => by
    have f1 := (qst_at s c comp N M i).1
    have hlt : a < (qst s c comp N M i).heap.size := Nat.lt_of_lt_of_le ha (by rw [f1]; omega)
    show (((qst s c comp N M i).pushCell (qin comp M)).setCell s.heap.size _).heap[a]? = _
    rw [State.heap_setCell_other (Nat.ne_of_gt ha), State.heap_pushCell_of_lt (h := hlt)]
    exact qst_old s c comp N M ha i
theorem qst_row (s : State) (c comp : ClassId) (N M : Nat) : ∀ i j, j < i → (qst s c comp N M i).heap[s.heap.size + 1 + j]? = some (qin comp M)
  | 0, _, h => absurd h (Nat.not_lt_zero _)
  | i + 1, j, h => by
    have f1 := (qst_at s c comp N M i).1
    show (((qst s c comp N M i).pushCell (qin comp M)).setCell s.heap.size _).heap[s.heap.size + 1 + j]? = _
    rw [State.heap_setCell_other (show s.heap.size ≠ s.heap.size + 1 + j by omega)]
    rcases Nat.lt_or_ge j i with hj | hj
    · have hlt : s.heap.size + 1 + j < (qst s c comp N M i).heap.size := by rw [f1]; omega
      rw [State.heap_pushCell_of_lt (h := hlt)]
      exact qst_row s c comp N M i j hj
    · have e : j = i := by omega
      subst e
      rw [← f1]
      exact State.heap_pushCell_size _ _
section
variable {E : CtlPost} {e : Env} {d : Bool} {acts : List Action} {s : State}
theorem qwp_new {c comp : ClassId} {k : Class} {type : FieldType} {len : Nat} {init : Value} (hk : s.vm.classes[c]? = some k) (hkind : k.kind = .array comp type)
    (hlimit : ¬ len > e.platform.arrayLengthLimit) (hheap : ¬ len * componentBytes type > e.platform.maxHeapBytes) (hfit : fits type init = true) (hdef : init.isDefault = true) {Q : Addr → Pre}
    (h1 : s.heap.size < e.platform.maxCells) (h2 : s.slotsUsed + len ≤ e.platform.maxSlots)
    (hq : Q s.heap.size d acts (s.pushCell (arrV c len (fun _ => init)))) : wp (Jvm.newArray c len init) Q E e d acts s := by
  rw [← arrV_new] at hq
  have hfits : ∀ i v, (Array.replicate len init)[i]? = some v → s.fitsSlot c .none i v = true := by
    intro i v hv
    simp only [Array.getElem?_replicate] at hv
    split at hv
    · cases hv; simp [State.fitsSlot, State.slotType?, hk, hkind, hfit]
    · cases hv
  have hda : allocActs (Array.replicate len init) s.heap.size acts = acts := by
    unfold allocActs
    rw [if_pos (by rw [Array.all_replicate]; split <;> simp [hdef])]
  simp only [Jvm.newArray, Jvm.arrayFits, wp_bind', W.ask, W.ite, hlimit, if_false, wp_pure', W.theClass, hk, hkind, hheap, W.alloc, W.stop, Option.some.injEq, exists_eq_left', Array.size_replicate, hda]
  rw [if_neg (by omega)]
  exact ⟨h1, h2, hfits, hq⟩
theorem qwp_make {c comp cc : ClassId} {k kc : Class} {n m : Int32} (hk : s.vm.classes[c]? = some k) (hkind : k.kind = .array comp (.array .int))
    (hkc : s.vm.classes[comp]? = some kc) (hkindc : kc.kind = .array cc .int) (hn : ¬ n < 0) (hm : ¬ m < 0)
    (hl1 : ¬ n.toNatClampNeg > e.platform.arrayLengthLimit) (hh1 : ¬ n.toNatClampNeg * componentBytes (.array .int) > e.platform.maxHeapBytes)
    (hl2 : ¬ m.toNatClampNeg > e.platform.arrayLengthLimit) (hh2 : ¬ m.toNatClampNeg * componentBytes .int > e.platform.maxHeapBytes)
    (hc : s.heap.size + 1 + n.toNatClampNeg ≤ e.platform.maxCells) (hs : s.slotsUsed + n.toNatClampNeg + n.toNatClampNeg * m.toNatClampNeg ≤ e.platform.maxSlots)
    {Q : Addr → Pre} (hq : ∀ d' acts', Q s.heap.size d' acts' (qst s c comp n.toNatClampNeg m.toNatClampNeg n.toNatClampNeg)) :
    wp (multianewarray.make c [n, m]) Q E e d acts s := by
  have hfind : ([m].find? (· < 0)) = none := by simp [hm]
  rw [multianewarray.make]
  simp only [wp_bind', W.ite, hn, if_false, wp_pure', W.theClass, hk, hkind, Option.some.injEq, exists_eq_left']
  refine qwp_new hk hkind hl1 hh1 rfl rfl (by omega) (by have := Nat.zero_le (n.toNatClampNeg * m.toNatClampNeg); omega) ?_
  simp only [hfind]
  rw [ite_self, wp_bind', Std.Legacy.Range.forIn_eq_forIn_range']
  have hsz : ([:n.toNatClampNeg] : Std.Legacy.Range).size = n.toNatClampNeg := by simp [Std.Legacy.Range.size]
  rw [hsz]
  show wp (forIn (List.range' 0 n.toNatClampNeg 1) PUnit.unit _) _ E e d acts _
  refine wp_forIn_inv (fun rest s' => ∃ i, i ≤ n.toNatClampNeg ∧ rest = List.range' i (n.toNatClampNeg - i) ∧ s' = qst s c comp n.toNatClampNeg m.toNatClampNeg i) _ _ ⟨0, Nat.zero_le _, rfl, rfl⟩ ?_ ?_
  · rintro x rest s' d' acts' Q' ⟨i, hi, hl, rfl⟩ hnext
    have hlt : i < n.toNatClampNeg := by
      rcases Nat.lt_or_ge i n.toNatClampNeg with h | h
      · exact h
      · rw [show n.toNatClampNeg - i = 0 from by omega] at hl; simp at hl
    obtain ⟨rfl, hrest⟩ : x = i ∧ rest = List.range' (i + 1) (n.toNatClampNeg - (i + 1)) := by
      rw [show n.toNatClampNeg - i = (n.toNatClampNeg - (i + 1)) + 1 from by omega, List.range'_succ] at hl
      exact ⟨(List.cons.inj hl).1, (List.cons.inj hl).2⟩
    obtain ⟨f1, f2, f3, f4⟩ := qst_at s c comp n.toNatClampNeg m.toNatClampNeg x
    have hmul : x * m.toNatClampNeg + m.toNatClampNeg ≤ n.toNatClampNeg * m.toNatClampNeg := by
      have := Nat.mul_le_mul_right m.toNatClampNeg (show x + 1 ≤ n.toNatClampNeg from hlt)
      rw [Nat.succ_mul] at this; exact this
    have hkc' : (qst s c comp n.toNatClampNeg m.toNatClampNeg x).vm.classes[comp]? = some kc := by rw [f3]; exact hkc
    simp only [wp_bind']
    rw [multianewarray.make]
    simp only [wp_bind', W.ite, hm, if_false, wp_pure', W.theClass, hkc', hkindc, Option.some.injEq, exists_eq_left']
    refine qwp_new hkc' hkindc hl2 hh2 rfl rfl (by rw [f1]; omega) (by rw [f4]; omega) ?_
    have hlt0 : s.heap.size < (qst s c comp n.toNatClampNeg m.toNatClampNeg x).heap.size := by rw [f1]; omega
    simp only [wp_bind', W.writeLoc, wp_pure']
    refine ⟨qou c n.toNatClampNeg s.heap.size x, by rw [State.heap_pushCell_of_lt (h := hlt0)]; exact f2, (fun q => by cases q), (by rw [qou, arrV_size]; exact hlt), ?_, hnext _ _ _ ⟨x + 1, hlt, hrest, ?_⟩⟩
    · show State.fitsSlot _ c .none x _ = true
      simp [State.fitsSlot, State.slotType?, f3, hk, hkind, fits]
    · rw [f1, qou_step]; rfl
  · rintro s' d' acts' ⟨i, hi, hl, rfl⟩
    have hiN : i = n.toNatClampNeg := by
      rcases Nat.lt_or_ge i n.toNatClampNeg with h | h
      · rw [show n.toNatClampNeg - i = (n.toNatClampNeg - (i + 1)) + 1 from by omega, List.range'_succ] at hl; cases hl
      · omega
    subst hiN
    simp only [wp_pure']
    exact hq _ _
end
section WQ
variable {p : Program} {l : Launch} {e : Env} {R : Room} {s : State} {m : MethodId} {args : Array Value} {below : List Frame} {meth : Method} {c : Code} {T : State} {locs : List Loc} {cells slots : Nat}
theorem qst_stand (X : Stand p l e R s m args below meth c T locs cells slots) (cA comp : ClassId) (N M : Nat) :
    ∀ i, Stand p l e R s m args below meth c (qst T cA comp N M i) (locs ++ (List.range i).map fun j => ⟨T.heap.size, j⟩) (cells + 1 + i) (slots + N + i * M)
  | 0 => by
    have h := X.pushed (qou cA N T.heap.size 0)
    rw [show (qou cA N T.heap.size 0).slots.size = N from arrV_size _ _ _] at h
    simpa [qst] using h
  | i + 1 => by
    have Xi := qst_stand X cA comp N M i
    obtain ⟨f1, f2, f3, f4⟩ := qst_at T cA comp N M i
    have hlt0 : T.heap.size < (qst T cA comp N M i).heap.size := by rw [f1]; omega
    have hcell : ((qst T cA comp N M i).pushCell (qin comp M)).heap[T.heap.size]? = some (qou cA N T.heap.size i) := by rw [State.heap_pushCell_of_lt (h := hlt0)]; exact f2
    have h := (Xi.pushed (qin comp M)).stored hcell i (.ref (T.heap.size + 1 + i))
    rw [qou_step, show (qin comp M).slots.size = M from arrV_size _ _ _] at h
    have e2 : (locs ++ (List.range (i + 1)).map fun j => (⟨T.heap.size, j⟩ : Loc)) = (locs ++ (List.range i).map fun j => (⟨T.heap.size, j⟩ : Loc)) ++ [⟨T.heap.size, i⟩] := by simp [List.range_succ, List.append_assoc]
    have e3 : slots + N + (i + 1) * M = slots + N + i * M + M := by rw [Nat.succ_mul]; omega
    rw [e2, e3]
    exact h
theorem qst_walk (X : Stand p l e R s m args below meth c T locs cells slots) (hexec : p.tables.exec = Jvm.exec) {own : String} {index : Nat}
    (hown : s.vm.findClass own = some m.cls) (hclink : (Cond.classLink own index ("[" ++ (FieldType.array .int).toString)).before args s = true) (hover : va_AOI s) (harr : (Cond.arrayClass .int).before args s = true)
    {g : JFrame} (hg : g.method = m) (hdg : decode c.code g.pc = .ok (.multianewarray index 2, 4)) {n k : Int32} {rest : List Value} (hstack : g.stack = .int k :: .int n :: rest)
    (hn : ¬ n < 0) (hk : ¬ k < 0) (hb1 : n.toNatClampNeg * 4 ≤ 536870912) (hb2 : k.toNatClampNeg * 4 ≤ 536870912)
    (hcells : cells + (1 + n.toNatClampNeg) ≤ R.cells) (hslots : slots + (n.toNatClampNeg + n.toNatClampNeg * k.toNatClampNeg) ≤ R.slots) :
    ∃ (vm₁ : Vm) (cA comp : ClassId), s.vm.findClass ("[" ++ (FieldType.array .int).toString) = some cA ∧ s.vm.findClass (FieldType.array .int).toString = some comp ∧
      Stand p l e R s m args below meth c (qst (T.setVm vm₁) cA comp n.toNatClampNeg k.toNatClampNeg n.toNatClampNeg) (locs ++ (List.range n.toNatClampNeg).map fun j => ⟨T.heap.size, j⟩) (cells + 1 + n.toNatClampNeg) (slots + n.toNatClampNeg + n.toNatClampNeg * k.toNatClampNeg) ∧
      ∀ target, Steps p.tables e below ((qst (T.setVm vm₁) cA comp n.toNatClampNeg k.toNatClampNeg n.toNatClampNeg).setTop { g with pc := g.pc + 4, stack := .ref T.heap.size :: rest }) target → Steps p.tables e below (T.setTop g) target := by
  subst hg
  have hpl : e.platform.magicAccessors = ({} : Platform).magicAccessors := by rw [X.admits.platform]
  obtain ⟨comp, cA, kA, hcomp, hkA, hkindA, hnameA, -⟩ := hover.spec
  obtain ⟨comp', kC, cc, hcomp', hkC, hkindC⟩ := Cond.arrayClass_spec harr
  have ecomp : comp' = comp := Option.some.inj (hcomp'.symm.trans hcomp)
  subst ecomp
  obtain ⟨c0, hfc0, hcl⟩ := Cond.classLink_spec hown hclink e.platform hpl
  cases hnameA.symm.trans hfc0
  obtain ⟨hg₁, hwarm₁, hready₁⟩ := State.classEntry (e := e) X.warmed hcl
  generalize T.vm.noted g.method.cls index (.cls cA) = vm₁ at hg₁ hwarm₁ hready₁
  have hal : s.vm.Alike vm₁ := hwarm₁.alike
  obtain ⟨kA₁, hkA₁, heA⟩ := hal.2.2 _ _ hkA
  obtain ⟨kC₁, hkC₁, heC⟩ := hal.2.2 _ _ hkC
  have hkindA₁ : kA₁.kind = .array comp' (.array .int) := by rw [heA]; exact hkindA
  have hkindC₁ : kC₁.kind = .array cc .int := by rw [heC]; exact hkindC
  have X₁ := X.noted hwarm₁
  obtain ⟨hr1, hr2⟩ := X.roomAbove hcells hslots
  refine ⟨vm₁, cA, comp', hnameA, hcomp, qst_stand X₁ cA comp' _ _ _, fun target hrest => ?_⟩
  have hl1 : ¬ n.toNatClampNeg > e.platform.arrayLengthLimit := by rw [Launch.admits_arrayLengthLimit X.admits]; omega
  have hh1 : ¬ n.toNatClampNeg * componentBytes (.array .int) > e.platform.maxHeapBytes := by
    rw [Launch.admits_maxHeapBytes X.admits]; show ¬ n.toNatClampNeg * 4 > 536870912; omega
  have hl2 : ¬ k.toNatClampNeg > e.platform.arrayLengthLimit := by rw [Launch.admits_arrayLengthLimit X.admits]; omega
  have hh2 : ¬ k.toNatClampNeg * componentBytes .int > e.platform.maxHeapBytes := by rw [Launch.admits_maxHeapBytes X.admits]; show ¬ k.toNatClampNeg * 4 > 536870912; omega
  jvm_step X.here [hexec, hdg]
  simp only [multianewarray.sem, wp_bind', W.resolveClassAt_links (State.method?_setTop g X.here.top) hg₁]
  rw [W.popN, if_neg (by decide)]
  refine ⟨g, State.topJava?_setTop' (s := T.setVm vm₁) g X.here.top, [.int n, .int k], rest, rfl, hstack, ?_⟩
  simp only [List.mapM_cons, List.mapM_nil, wp_bind', wp_pure']
  refine qwp_make (k := kA₁) (kc := kC₁) (comp := comp') (cc := cc) hkA₁ hkindA₁ hkC₁ hkindC₁ hn hk hl1 hh1 hl2 hh2 (by show T.heap.size + 1 + _ ≤ _; omega) (by show T.slotsUsed + _ + _ ≤ _; omega) (fun d' acts' => ?_)
  have XF := qst_stand X₁ cA comp' n.toNatClampNeg k.toNatClampNeg n.toNatClampNeg
  have eS : ((T.setTop g).setVm vm₁).setTop { g with stack := rest } = (T.setVm vm₁).setTop { g with stack := rest } := by
    show ((T.setVm vm₁).setTop g).setTop _ = _
    rw [State.setTop_setTop]
  rw [eS, qst_top]
  simp only [wp_bind', W.mark, W.pushRef, State.topJava?_setTop' _ XF.here.top, Option.some.injEq, exists_eq_left', State.setTop_setTop, State.heap_setTop]
  intro acts
  simp [jvm, XF.here.top]
  exact hrest
end WQ
section WG
variable {X : Cx} {D : va_G} {ev : EvT} {cy : Nat → ClassId} {A : Nat → Prop} {nL : Nat} {cc : ByteArray} {own : String} {rm : Room} {ret : Option FieldType} {l : Launch} {Q : State → Prop} {k n pc : Nat} {lo : List (Nat × Value)} {st stk : List Value} {Gs Gs' : List va_W} {index : Nat}
theorem ww_mna (h : cx X D ev cy A nL cc own rm ret l) (hcl : Cond.classLink own index "[[I" ∈ tbG) (harr : Cond.arrayClass .int ∈ tbG) {n1 m1 : Int32} {N M : Nat} (hn1 : ¬ n1 < 0) (hm1 : ¬ m1 < 0) (hN : n1.toNatClampNeg = N) (hM : m1.toNatClampNeg = M) (hb1 : N * 4 ≤ 536870912) (hb2 : M * 4 ≤ 536870912) (hr : k + (1 + N) ≤ rm.cells ∧ n + (N + N * M) ≤ rm.slots) (hd : decode cc pc = .ok (.multianewarray index 2, 4)) (q : Nat) (hq : pc + 4 = q)
    {k' n' : Nat} (hk : k + 1 + N = k') (hnn : n + N + N * M = n') (kk : ∀ (a : Nat) (r : Nat → Nat), ww X D A nL Q k' n' q lo (.ref a :: st) (Gs ++ [[(a, .inl (cy 4, N, .inr (.inr (.inr (.inr (fun j => some (r j)))))))], (List.range N).map (fun j => (r j, .inl (cy 0, M, .inl (fun _ => 0))))])) : ww X D A nL Q k n pc lo (.int m1 :: .int n1 :: st) Gs := by
  subst hq
  subst hk
  subst hnn
  subst hN
  subst hM
  intro H locs ls hP hD hS hl T hT XS
  have hEV := h.2.2.2.2.2.2.2.2.2.2.2.2
  obtain ⟨vm₁, cA, comp, fA, fC, X', step⟩ := qst_walk XS h.1 h.2.2.2.1 (h.2.2.2.2.1 _ hcl) hEV.2.2.2.2.2.2.2.2.1 (h.2.2.2.2.1 _ harr) (g := F0 X.2.2.2.2.2.1 pc ls (.int m1 :: .int n1 :: st)) rfl (by rw [h.2.1]; exact hd) rfl hn1 hm1 hb1 hb2 (by rw [h.2.2.2.2.2.2.2.2.1]; exact hr.1) (by rw [h.2.2.2.2.2.2.2.2.1]; exact hr.2)
  have hK := h.2.2.2.2.2.2.1
  have eA : cA = cy 4 := Option.some.inj (fA.symm.trans (hK.2 4 _ rfl).2)
  have eC : comp = cy 0 := Option.some.inj (fC.symm.trans (hK.2 0 _ rfl).2)
  subst eA
  subst eC
  generalize hF : qst (T.setVm vm₁) (cy 4) (cy 0) n1.toNatClampNeg m1.toNatClampNeg n1.toNatClampNeg = F at X' step
  have hTh : (T.setVm vm₁).heap = H := hT
  obtain ⟨f1, f2, -, -⟩ := qst_at (T.setVm vm₁) (cy 4) (cy 0) n1.toNatClampNeg m1.toNatClampNeg n1.toNatClampNeg
  rw [hF, hTh] at f1 f2
  have hold : ∀ x : Nat, x < H.size → F.heap[x]? = H[x]? := fun x hx => by
    have := qst_old (T.setVm vm₁) (cy 4) (cy 0) n1.toNatClampNeg m1.toNatClampNeg (a := x) (by rw [hTh]; exact hx) n1.toNatClampNeg
    rw [hF, hTh] at this
    exact this
  have hrow : ∀ j : Nat, j < n1.toNatClampNeg → F.heap[H.size + 1 + j]? = some (qin (cy 0) m1.toNatClampNeg) := fun j hj => by
    have := qst_row (T.setVm vm₁) (cy 4) (cy 0) n1.toNatClampNeg m1.toNatClampNeg n1.toNatClampNeg j hj
    rw [hF, hTh] at this
    exact this
  have hou : qou (cy 4) n1.toNatClampNeg H.size n1.toNatClampNeg = vp_cell (cy 4) (n1.toNatClampNeg, .inr (.inr (.inr (.inr (fun j => some (H.size + 1 + j)))))) := by
    rw [vp_cell_q]
    unfold qou arrV
    congr 1
    apply Array.ext
    · simp
    · intro i h1 h2
      have : i < n1.toNatClampNeg := by simpa using h1
      simp [this]
  have hPn : va_P D vwCl (Gs ++ [[(H.size, .inl (cy 4, n1.toNatClampNeg, .inr (.inr (.inr (.inr (fun j => some (H.size + 1 + j)))))))], (List.range n1.toNatClampNeg).map (fun j => (H.size + 1 + j, .inl (cy 0, m1.toNatClampNeg, .inl (fun _ => 0))))] : List va_W).flatten F.heap := by
    refine kP_iff.mpr fun x hx => ?_
    rw [List.flatten_append] at hx
    rcases List.mem_append.mp hx with hx | hx
    · have h0 := kP_iff.mp hP x hx
      exact h0.kept (hold x.1 h0.lt)
    · simp only [List.flatten_cons, List.flatten_nil, List.append_nil, List.singleton_append, List.mem_cons, List.mem_map, List.mem_range] at hx
      rcases hx with rfl | ⟨j, hj, rfl⟩
      · show F.heap[H.size]? = some (vp_cell _ _)
        rw [f2, hou]
      · show F.heap[H.size + 1 + j]? = some (vp_cell _ _)
        rw [hrow j hj, vp_cell_i]
        rfl
  have hDn : va_D A (Gs ++ [[(H.size, .inl (cy 4, n1.toNatClampNeg, .inr (.inr (.inr (.inr (fun j => some (H.size + 1 + j)))))))], (List.range n1.toNatClampNeg).map (fun j => (H.size + 1 + j, .inl (cy 0, m1.toNatClampNeg, .inl (fun _ => 0))))] : List va_W).flatten := by
    have h0 := kD_iff.mp hD
    have hAn : ∀ q : Nat, H.size ≤ q → A q := fun q hq => h.2.2.2.2.2.2.2.1 q (Nat.le_trans hS.1 hq)
    refine kD_iff.mpr ⟨?_, fun x hx => ?_⟩
    · rw [List.flatten_append, List.map_append, List.nodup_append]
      refine ⟨h0.1, ?_, ?_⟩
      · simp only [List.flatten_cons, List.flatten_nil, List.append_nil, List.singleton_append, List.map_cons, List.map_map]
        refine List.nodup_cons.mpr ⟨?_, ?_⟩
        · intro hm
          obtain ⟨j, -, e⟩ := List.mem_map.mp hm
          simp at e
          omega
        · refine List.pairwise_iff_getElem.mpr fun i j hi hj hij he => ?_
          simp at he
          omega
      · intro a ha b hb hab
        obtain ⟨x, hx, rfl⟩ := List.mem_map.mp ha
        have h1 := (kP_iff.mp hP x hx).lt
        obtain ⟨y, hy, rfl⟩ := List.mem_map.mp hb
        simp only [List.flatten_cons, List.flatten_nil, List.append_nil, List.singleton_append, List.mem_cons, List.mem_map, List.mem_range] at hy
        rcases hy with rfl | ⟨j, hj, rfl⟩
        · simp only at hab; omega
        · simp only at hab; omega
    · rw [List.flatten_append] at hx
      rcases List.mem_append.mp hx with hx | hx
      · exact h0.2 x hx
      · simp only [List.flatten_cons, List.flatten_nil, List.append_nil, List.singleton_append, List.mem_cons, List.mem_map, List.mem_range] at hx
        rcases hx with rfl | ⟨j, hj, rfl⟩
        · exact hAn _ (Nat.le_refl _)
        · exact hAn _ (by simp only; omega)
  have hSn : va_S A X.2.2.2.2.1.heap F.heap (locs ++ (List.range n1.toNatClampNeg).map fun j => ⟨T.heap.size, j⟩) := by
    refine ⟨Nat.le_trans hS.1 (by rw [f1]; omega), fun q h1 h2 => ?_, fun q hq => ?_⟩
    · rw [hold q (Nat.lt_of_lt_of_le h1 hS.1)]
      exact hS.2.1 q h1 h2
    · rcases List.mem_append.mp hq with hq | hq
      · exact hS.2.2 q hq
      · obtain ⟨j, -, rfl⟩ := List.mem_map.mp hq
        show A T.heap.size
        rw [hT]
        exact h.2.2.2.2.2.2.2.1 _ hS.1
  obtain ⟨t, a1, b1⟩ := kk H.size (fun j => H.size + 1 + j) F.heap _ ls hPn hDn hSn hl F rfl X'
  refine ⟨t, step t ?_, b1⟩
  have e : T.heap.size = H.size := by rw [hT]
  rw [e]
  exact a1
theorem ww_newq (h : cx X D ev cy A nL cc own rm ret l) {C : String} (t : Nat) (htt : (tyL cy)[t]? = some (cy t, .object C)) (hcl : Cond.classLink own index C ∈ tbG) (hover : va_AO C X.2.2.2.2.1) {m1 : Int32} {N : Nat} (hn0 : ¬ m1 < 0) (hN : m1.toNatClampNeg = N) (hbytes : N * 4 ≤ 536870912) (hr : k + 1 ≤ rm.cells ∧ n + N ≤ rm.slots) (hd : decode cc pc = .ok (.anewarray index, 3)) (q : Nat) (hq : pc + 3 = q)
    {k' n' : Nat} (hk : k + 1 = k') (hn : n + N = n') (kk : ∀ a, ww X D A nL Q k' n' q lo (.ref a :: st) (Gs ++ [[(a, .inl (cy t, N, .inr (.inr (.inr (.inr (fun _ => none))))))]])) : ww X D A nL Q k n pc lo (.int m1 :: st) Gs := by
  subst hq
  subst hk
  subst hn
  intro H locs ls hP hD hS hl
  have hK := h.2.2.2.2.2.2.1
  refine va_newq h.1 h.2.1 h.2.2.2.1 (h.2.2.2.2.1 _ hcl) hover hK hP hD hS h.2.2.2.2.2.2.2.1 hn0 hN hbytes (by rw [h.2.2.2.2.2.2.2.2.1]; exact hr.1) (by rw [h.2.2.2.2.2.2.2.2.1]; exact hr.2) hd (fun a cA H1 hK' hP hD hS => ?_)
  have e1 := (hK.2 t _ htt).2
  have e2 := (hK'.2 (tyL cy).length (cA, .object C) (by simp)).2
  obtain ⟨_, _, _, _, _, g1⟩ := e1
  obtain ⟨_, _, _, _, _, g2⟩ := e2
  have e3 : cA = cy t := Option.some.inj (g2.symm.trans g1)
  subst e3
  exact kk a H1 locs ls (by rw [List.flatten_append]; simpa using hP) (by rw [List.flatten_append]; simpa using hD) hS hl
theorem ww_aast (h : cx X D ev cy A nL cc own rm ret l) {a N v ci : Nat} {F : Nat → Option Nat} {i : Int32} {c c2 : va_W} {r : vw_C} {vs : List Value} (t : Nat) (htt : (tyL cy)[t]? = some (cy t, .object r.1)) (g : Nat) (hg : Gs[g]? = some c) (e : Nat) (he : c[e]? = some (a, .inl (cy t, N, .inr (.inr (.inr (.inr F)))))) (g2 : Nat) (hg2 : Gs[g2]? = some c2) (he2 : c2[0]? = some (v, .inr (ci, vs))) (hcl : vwCl[ci]? = some r) (hi : vp_in i N) (hd : decode cc pc = .ok (.aastore, 1)) (q : Nat) (hq : pc + 1 = q) (hG : Gs.set g (c.set e (a, .inl (cy t, N, .inr (.inr (.inr (.inr (va_up F i.toNatClampNeg (some v)))))))) = Gs') (kk : ww X D A nL Q k n q lo st Gs') : ww X D A nL Q k n pc lo (.ref v :: .int i :: .ref a :: st) Gs := by
  subst hq
  subst hG
  intro H locs ls hP hD hS hl
  refine va_astq h.1 h.2.1 h.2.2.2.2.2.2.1 hP hD hS _ t _ ci (kAt hg he) htt (kAt hg2 he2) hcl hi hd (fun H1 locs1 hP hD hS => ?_)
  rw [kSet hg (List.getElem?_eq_some_iff.mp he).1] at hP hD
  exact kk H1 locs1 ls hP hD hS hl
end WG
