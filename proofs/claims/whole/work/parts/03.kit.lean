-- KIT OF MY OWN, 1: worlds as lists of groups, up to order
theorem kP_iff {D : va_G} {cl : List vw_C} {ws : va_W} {H : Heap} : va_P D cl ws H ↔ ∀ q ∈ ws, va_at D cl q H := by
  constructor
  · intro h q hq
    obtain ⟨k, hk⟩ := List.getElem?_of_mem hq
    exact h k q hk
  · intro h k q hk
    exact h q (List.mem_of_getElem? hk)
theorem kD_iff {A : Nat → Prop} {ws : va_W} : va_D A ws ↔ (ws.map Prod.fst).Nodup ∧ ∀ q ∈ ws, A q.1 := by
  constructor
  · intro h
    refine ⟨?_, fun q hq => ?_⟩
    · refine List.pairwise_iff_getElem.mpr fun i j hi hj hij he => ?_
      simp only [List.length_map] at hi hj
      simp only [List.getElem_map] at he
      have := h.1 i j _ _ (List.getElem?_eq_getElem hi) (List.getElem?_eq_getElem hj) he
      omega
    · obtain ⟨k, hk⟩ := List.getElem?_of_mem hq
      exact h.2 k q hk
  · intro h
    refine ⟨fun i j p q hi hj he => ?_, fun k q hk => h.2 q (List.mem_of_getElem? hk)⟩
    obtain ⟨hi1, hi2⟩ := List.getElem?_eq_some_iff.mp hi
    obtain ⟨hj1, hj2⟩ := List.getElem?_eq_some_iff.mp hj
    have hp := List.pairwise_iff_getElem.mp h.1
    rcases Nat.lt_trichotomy i j with c | c | c
    · have := hp i j (by simpa using hi1) (by simpa using hj1) c
      simp only [List.getElem_map, hi2, hj2] at this
      exact absurd he this
    · exact c
    · have := hp j i (by simpa using hj1) (by simpa using hi1) c
      simp only [List.getElem_map, hi2, hj2] at this
      exact absurd he.symm this
theorem kP_perm {D : va_G} {cl : List vw_C} {ws ws' : va_W} {H : Heap} (hp : ws.Perm ws') (h : va_P D cl ws H) : va_P D cl ws' H :=
  kP_iff.mpr fun q hq => kP_iff.mp h q (hp.mem_iff.mpr hq)
theorem kD_perm {A : Nat → Prop} {ws ws' : va_W} (hp : ws.Perm ws') (h : va_D A ws) : va_D A ws' := by
  have h1 := kD_iff.mp h
  exact kD_iff.mpr ⟨((hp.map Prod.fst).nodup_iff).mp h1.1, fun q hq => h1.2 q (hp.mem_iff.mpr hq)⟩
theorem kD_left {A : Nat → Prop} {a b : va_W} (h : va_D A (a ++ b)) : va_D A a := by
  have h1 := kD_iff.mp h
  rw [List.map_append, List.nodup_append] at h1
  exact kD_iff.mpr ⟨h1.1.1, fun q hq => h1.2 q (List.mem_append_left _ hq)⟩
theorem kP_left {D : va_G} {cl : List vw_C} {a b : va_W} {H : Heap} (h : va_P D cl (a ++ b) H) : va_P D cl a H := kP_iff.mpr fun q hq => kP_iff.mp h q (List.mem_append_left _ hq)
theorem kA_in {ws : va_W} {sz : Nat} {q : Nat × va_E} (h : q ∈ ws) : va_A ws sz q.1 := by
  obtain ⟨k, hk⟩ := List.getElem?_of_mem h
  exact va_A.in hk
/-- groups picked out by their places (each place in the list that is left), and the rest -/
def pk_g : List Nat → List va_W → List va_W × List va_W
  | [], G => ([], G)
  | i :: is, G => match G[i]? with
    | none => ([], G)
    | some g => match pk_g is (G.eraseIdx i) with
      | (a, b) => (g :: a, b)
theorem kErase {α : Type} : ∀ (G : List α) (i : Nat) (g : α), G[i]? = some g → G.Perm (g :: G.eraseIdx i)
  | [], i, g, h => by simp at h
  | a :: G, 0, g, h => by
    simp at h
    subst h
    exact List.Perm.refl _
  | a :: G, i + 1, g, h => by
    simp at h
    have h1 := kErase G i g h
    show (a :: G).Perm (g :: a :: G.eraseIdx i)
    exact (h1.cons a).trans (List.Perm.swap g a _)
theorem pk_perm : ∀ (is : List Nat) (G : List va_W), G.Perm ((pk_g is G).1 ++ (pk_g is G).2)
  | [], G => List.Perm.refl _
  | i :: is, G => by
    unfold pk_g
    split
    · exact List.Perm.refl _
    · rename_i g hg
      have h1 := pk_perm is (G.eraseIdx i)
      generalize pk_g is (G.eraseIdx i) = w at h1
      obtain ⟨a, b⟩ := w
      exact (kErase G i g hg).trans (h1.cons g)
theorem kFlat {G G' : List va_W} (h : G.Perm G') : G.flatten.Perm G'.flatten := h.flatten
theorem pk_flat {is : List Nat} {G C R : List va_W} (h : pk_g is G = (C, R)) : G.flatten.Perm (C.flatten ++ R.flatten) := by
  have h1 := kFlat (pk_perm is G)
  rw [h] at h1
  simpa using h1
/-- a cell's place in all the groups -/
theorem kAt {G : List va_W} {g k : Nat} {c : va_W} {q : Nat × va_E} (h1 : G[g]? = some c) (h2 : c[k]? = some q) : G.flatten[(G.take g).flatten.length + k]? = some q := by
  induction G generalizing g with
  | nil => simp at h1
  | cons a G ih =>
    cases g with
    | zero =>
      simp at h1
      subst h1
      obtain ⟨hl, hq⟩ := List.getElem?_eq_some_iff.mp h2
      simp [List.getElem?_append_left hl, h2]
    | succ g =>
      simp at h1
      have := ih h1
      simp only [List.take_succ_cons, List.flatten_cons, List.length_append]
      rw [List.getElem?_append_right (by omega)]
      rw [show a.length + (List.take g G).flatten.length + k - a.length = (List.take g G).flatten.length + k by omega]
      exact this
theorem kSet {G : List va_W} {g k : Nat} {c : va_W} {q : Nat × va_E} (h1 : G[g]? = some c) (h2 : k < c.length) : G.flatten.set ((G.take g).flatten.length + k) q = (G.set g (c.set k q)).flatten := by
  induction G generalizing g with
  | nil => simp at h1
  | cons a G ih =>
    cases g with
    | zero =>
      simp at h1
      subst h1
      simp [List.set_append_left _ _ h2]
    | succ g =>
      simp at h1
      have := ih h1
      simp only [List.take_succ_cons, List.flatten_cons, List.length_append, List.set_cons_succ]
      rw [List.set_append_right _ _ (by omega)]
      rw [show a.length + (List.take g G).flatten.length + k - a.length = (List.take g G).flatten.length + k by omega, this]
-- KIT OF MY OWN, 2: the walk over groups
abbrev Cx : Type := Program × Launch × Env × Room × State × MethodId × Array Value × List Frame × Method × Code
def tyL (cy : Nat → ClassId) : List (ClassId × FieldType) := [(cy 0, .int), (cy 1, .boolean), (cy 2, .long), (cy 3, .byte), (cy 4, .array .int), (cy 5, .object "LineEnds$Page"), (cy 6, .object "LineEnds$Layout")]
def wX (X : Cx) (H : Heap) (locs : List Loc) (k n : Nat) (Q : State → Prop) (g : JFrame) : Prop := W X.1 X.2.1 X.2.2.1 X.2.2.2.1 X.2.2.2.2.1 X.2.2.2.2.2.1 X.2.2.2.2.2.2.1 X.2.2.2.2.2.2.2.1 X.2.2.2.2.2.2.2.2.1 X.2.2.2.2.2.2.2.2.2 H locs k n Q g
/-- from pc on, with these locals, stack, groups, whatever the heap holds else: the machine comes to Q -/
def ww (X : Cx) (D : va_G) (A : Nat → Prop) (nL : Nat) (Q : State → Prop) (k n pc : Nat) (lo : List (Nat × Value)) (st : List Value) (Gs : List va_W) : Prop :=
  ∀ (H : Heap) (locs : List Loc) (ls : Array Slot), va_P D vwCl Gs.flatten H → va_D A Gs.flatten → va_S A X.2.2.2.2.1.heap H locs → lv_has ls nL lo → wX X H locs k n Q (F0 X.2.2.2.2.2.1 pc ls st)
def isNest : Cond → Bool
  | .methodLinkNest _ _ _ _ => true
  | .fieldLinkNest _ _ _ _ _ _ => true
  | _ => false
def nwL : List Cond := lw_tbl.filter isNest
theorem nw_same {w : Cond} (hw : w ∈ nwL) {u U : State} (h : u.vm = U.vm) (hZ : va_Nw w u) : va_Nw w U := by
  have h1 := (List.mem_filter.mp hw).2
  cases w <;> first | exact va_Nw.same rfl h hZ | (simp [isNest] at h1; done)
theorem nw_warm {w : Cond} (hw : w ∈ nwL) {s U : State} (hW : s.WarmedH U.vm) (hZ : va_Nw w s) : va_Nw w U := by
  have h1 := (List.mem_filter.mp hw).2
  cases w <;> first | exact va_Nw.warmM hW hZ | exact va_Nw.warmF hW hZ | (simp [isNest] at h1; done)
-- what lies outside every world, and stays: the String constants, statics
def sJ : List (String × Nat × String) := [("LineEnds$Reader", 45, "class"), ("LineEnds$Reader", 61, "wide"), ("LineEnds$Reader", 98, "shy"), ("LineEnds$Reader", 100, "begin"), ("LineEnds$Reader", 105, "end"), ("LineEnds$Reader", 82, "hang"), ("LineEnds$Reader", 87, "trim"), ("LineEnds$Reader", 89, "squeeze"), ("LineEnds$Reader", 91, "rank"), ("LineEnds$Reader", 93, "open"), ("LineEnds$Reader", 110, "keep"), ("LineEnds", 294, "class "), ("LineEnds", 300, " wide "), ("LineEnds", 306, " shy begin"), ("LineEnds", 308, " shy end"), ("LineEnds", 310, " hang"), ("LineEnds", 312, " trim "), ("LineEnds", 314, " squeeze "), ("LineEnds", 316, " rank "), ("LineEnds", 318, " open "), ("LineEnds", 320, "keep ")]
def lenJ : List Nat := [5, 4, 3, 5, 3, 4, 4, 7, 4, 4, 4, 6, 6, 10, 8, 5, 6, 9, 6, 6, 5]
def bytJ : List (List Int32) := [[99, 108, 97, 115, 115], [119, 105, 100, 101], [115, 104, 121], [98, 101, 103, 105, 110], [101, 110, 100], [104, 97, 110, 103], [116, 114, 105, 109], [115, 113, 117, 101, 101, 122, 101], [114, 97, 110, 107], [111, 112, 101, 110], [107, 101, 101, 112], [99, 108, 97, 115, 115, 32], [32, 119, 105, 100, 101, 32], [32, 115, 104, 121, 32, 98, 101, 103, 105, 110], [32, 115, 104, 121, 32, 101, 110, 100], [32, 104, 97, 110, 103], [32, 116, 114, 105, 109, 32], [32, 115, 113, 117, 101, 101, 122, 101, 32], [32, 114, 97, 110, 107, 32], [32, 111, 112, 101, 110, 32], [107, 101, 101, 112, 32]]
abbrev EvT : Type := (Nat → Nat) × (Nat → Nat) × (Nat → Nat)
def EV (ev : EvT) (A : Nat → Prop) (U : State) (H : Heap) : Prop :=
  vk_S 21 lenJ bytJ ev.1 ev.2.1 A U H ∧ va_Z "java/lang/String" "COMPACT_STRINGS" "Z" (.int 1) A U H ∧ va_Zq "jdk/internal/util/Preconditions" "SIOOBE_FORMATTER" "Ljava/util/function/BiFunction;" A U H ∧ va_Z "LineEnds" "LEAST_WEIGHTS" "[I" (.ref (ev.2.2 0)) A U H ∧ va_T .int (ev.2.2 0) 3 (fun j => .int (([0, 1, 1] : List Int32).getD j 0)) A U H ∧ va_Z "LineEnds" "MOST_WEIGHTS" "[I" (.ref (ev.2.2 1)) A U H ∧ va_T .int (ev.2.2 1) 3 (fun j => .int (([9, 99, 9999] : List Int32).getD j 0)) A U H ∧ (∀ (i : Nat) (q : String × Nat × String), sJ[i]? = some q → vk_R q.1 q.2.1 q.2.2 (ev.1 i) U) ∧ va_AOI U ∧ va_AO "LineEnds$Page" U ∧ va_AO "LineEnds$Layout" U
theorem EV_blind {ev : EvT} {A : Nat → Prop} {U V : State} {H : Heap} (hv : V.vm = U.vm) (h : EV ev A U H) : EV ev A V H := by
  have ha : U.vm.Alike V.vm := by rw [hv]; exact Vm.Alike.refl _
  exact ⟨h.1.moved ha, h.2.1.moved ha, h.2.2.1.moved ha, h.2.2.2.1.moved ha, h.2.2.2.2.1.moved ha, h.2.2.2.2.2.1.moved ha, h.2.2.2.2.2.2.1.moved ha, fun i q hq => vk_R.same hv (h.2.2.2.2.2.2.2.1 i q hq), h.2.2.2.2.2.2.2.2.1.moved ha, h.2.2.2.2.2.2.2.2.2.1.moved ha, h.2.2.2.2.2.2.2.2.2.2.moved ha⟩
theorem EV_call {ev : EvT} {A B : Nat → Prop} {s U : State} {H : Heap} {locs : List Loc} (h : EV ev A s s.heap) (hS : va_S A s.heap H locs) (hW : s.WarmedH U.vm) (hAB : ∀ q, B q → A q) : EV ev B U H := by
  have hk : ∀ a : Nat, a < s.heap.size → ¬ A a → H[a]? = s.heap[a]? := fun a h1 h2 => hS.2.1 a h1 h2
  have ha := hW.alike
  exact ⟨((h.1.kept hk).moved ha).narrow hAB, ((h.2.1.kept hk).moved ha).narrow hAB, ((h.2.2.1.kept hk).moved ha).narrow hAB, ((h.2.2.2.1.kept hk).moved ha).narrow hAB, ((h.2.2.2.2.1.kept hk).moved ha).narrow hAB, ((h.2.2.2.2.2.1.kept hk).moved ha).narrow hAB, ((h.2.2.2.2.2.2.1.kept hk).moved ha).narrow hAB, fun i q hq => vk_R.warm hW (h.2.2.2.2.2.2.2.1 i q hq), h.2.2.2.2.2.2.2.2.1.moved ha, h.2.2.2.2.2.2.2.2.2.1.moved ha, h.2.2.2.2.2.2.2.2.2.2.moved ha⟩
def cx (X : Cx) (D : va_G) (ev : EvT) (cy : Nat → ClassId) (A : Nat → Prop) (nL : Nat) (cc : ByteArray) (own : String) (rm : Room) (ret : Option FieldType) (l : Launch) : Prop :=
  X.1.tables.exec = Jvm.exec ∧ X.2.2.2.2.2.2.2.2.2.code = cc ∧ X.2.2.2.2.2.2.2.2.2.maxLocals = nL ∧ X.2.2.2.2.1.vm.findClass own = some X.2.2.2.2.2.1.cls ∧ (∀ w ∈ tbG, w.before X.2.2.2.2.2.2.1 X.2.2.2.2.1 = true) ∧ (∀ w ∈ nwL, va_Nw w X.2.2.2.2.1) ∧ va_K D vwCl (tyL cy) X.2.2.2.2.1 ∧ (∀ q, X.2.2.2.2.1.heap.size ≤ q → A q) ∧ X.2.2.2.1 = rm ∧ X.2.2.2.2.2.2.2.2.1.sig.returnType = ret ∧ X.2.2.2.2.2.2.2.2.1.locks = false ∧ X.2.1 = l ∧ EV ev A X.2.2.2.2.1 X.2.2.2.2.1.heap
def qP (D : va_G) (A : Nat → Prop) (Post : Option Value → List va_W → Prop) : State → Outcome → State → Prop := fun st oc t => (∃ (r : Option Value) (Gs' : List va_W), oc = .returned r ∧ Post r Gs' ∧ va_P D vwCl Gs'.flatten t.heap ∧ va_D A Gs'.flatten) ∧ va_F A st t
def qE (X : Cx) (D : va_G) (A : Nat → Prop) (mc ms : Nat) (Post : Option Value → List va_W → Prop) : State → Prop := MQ X.2.2.2.2.2.2.2.1 (fun _ st oc t => qP D A Post st oc t) X.2.2.2.2.2.2.1 X.2.2.2.2.1 mc ms A
/-- a method's contract: with these arguments and groups it returns, and Post says what -/
def Fn (l : Launch) (y : MethodName) (cc : ByteArray) (nL : Nat) (ret : Option FieldType) (rm : Room) (D : va_G) (ev : EvT) (cy : Nat → ClassId) (As : List Value) (Gs : List va_W) (Post : Option Value → List va_W → Prop) : Prop :=
  ∀ sz : Nat, Met l y (.code y cc nL ret :: tbG) rm (va_Pc As (fun U => U.heap.size = sz ∧ va_P D vwCl Gs.flatten U.heap ∧ va_K D vwCl (tyL cy) U ∧ va_D (fun _ => True) Gs.flatten ∧ EV ev (va_A Gs.flatten sz) U U.heap ∧ ∀ w ∈ nwL, va_Nw w U)) (fun _ st oc t => qP D (va_A Gs.flatten sz) Post st oc t) rm.cells rm.slots (va_A Gs.flatten sz)
theorem Fn_of {l : Launch} {y : MethodName} {cc : ByteArray} {nL : Nat} {ret : Option FieldType} {rm : Room} {D : va_G} {ev : EvT} {cy : Nat → ClassId} {As : List Value} {Gs : List va_W} {Post : Option Value → List va_W → Prop} (hy : plainName y.cls = true) (hn : (lg_sl As).length ≤ nL)
    (body : ∀ (X : Cx) (A : Nat → Prop) (Q : State → Prop), cx X D ev cy A nL cc y.cls rm ret l → Q = qE X D A rm.cells rm.slots Post → (y.name = "<init>" → X.2.2.2.2.2.2.2.2.1.name = "<init>") → ww X D A nL Q 0 0 0 (lv_args 0 As) [] Gs) : Fn l y cc nL ret rm D ev cy As Gs Post := by
  intro sz
  refine Met.ofW (cc := cc) (maxL := nL) (ret := ret) hy rfl ?_
  intro p e s m args below meth c s₁ B hml hv
  obtain ⟨rfl, hsz, hP, hK, hD0, hE, hN⟩ := hv
  have hts := atoms_spec (ws := Cond.code y cc nL ret :: tbG) B.pre
  have hown : s.vm.findClass y.cls = some m.cls := findClass_of_methodNamed B.named
  subst hsz
  have hD := hD0.self (sz := s.heap.size)
  have hA : ∀ q : Nat, s.heap.size ≤ q → va_A Gs.flatten s.heap.size q := fun q h => Or.inr h
  have hl := lv_entry As (n := nL) hn
  rw [lg_entry_eq]
  exact body (p, l, e, rm, s, m, As.toArray, below, meth, c) (va_A Gs.flatten s.heap.size) _ ⟨B.exec, B.bytes, hml, hown, fun w hw => hts w (List.mem_cons_of_mem _ hw), hN, hK, hA, rfl, B.returns, B.notSynchronized, rfl, hE⟩ rfl (fun h => by rw [(name_of_methodNamed B.named B.method).1]; exact h) s.heap [] _ hP hD va_S.rf hl
section WW
variable {X : Cx} {D : va_G} {ev : EvT} {cy : Nat → ClassId} {A : Nat → Prop} {nL : Nat} {cc : ByteArray} {own : String} {rm : Room} {ret : Option FieldType} {l : Launch} {Q : State → Prop} {k n pc : Nat} {lo : List (Nat × Value)} {st : List Value} {Gs : List va_W}
theorem ww_perm (is : List Nat) {Gs' : List va_W} (hp : pk_g is Gs = (Gs', [])) (kk : ww X D A nL Q k n pc lo st Gs') : ww X D A nL Q k n pc lo st Gs := by
  have h := pk_flat hp
  simp only [List.flatten_nil, List.append_nil] at h
  exact fun H locs ls hP hD hS hl => kk H locs ls (kP_perm h hP) (kD_perm h hD) hS hl
theorem ww_lo (is : List Nat) {lo' : List (Nat × Value)} (hp : lv_pick lo is = lo') (kk : ww X D A nL Q k n pc lo' st Gs) : ww X D A nL Q k n pc lo st Gs :=
  fun H locs ls hP hD hS hl => kk H locs ls hP hD hS (lv_sub hl is hp)
theorem ww_cast {Gs' : List va_W} (h : Gs = Gs') (kk : ww X D A nL Q k n pc lo st Gs') : ww X D A nL Q k n pc lo st Gs := h ▸ kk
theorem ww_st {st' : List Value} (h : st = st') (kk : ww X D A nL Q k n pc lo st' Gs) : ww X D A nL Q k n pc lo st Gs := h ▸ kk
theorem ww_topi {x : Int32} (kk : ∀ y : Int32, y = x → ww X D A nL Q k n pc lo (.int y :: st) Gs) : ww X D A nL Q k n pc lo (.int x :: st) Gs := kk x rfl
theorem ww_topl {x : Int64} (kk : ∀ y : Int64, y = x → ww X D A nL Q k n pc lo (.long y :: st) Gs) : ww X D A nL Q k n pc lo (.long x :: st) Gs := kk x rfl
end WW
