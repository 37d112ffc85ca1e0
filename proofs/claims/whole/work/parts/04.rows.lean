section WR
variable {X : Cx} {D : va_G} {ev : EvT} {cy : Nat → ClassId} {A : Nat → Prop} {nL : Nat} {cc : ByteArray} {own : String} {rm : Room} {ret : Option FieldType} {l : Launch} {Q : State → Prop} {k n pc : Nat} {lo : List (Nat × Value)} {st : List Value} {Gs : List va_W}
theorem ww_iconst (h : cx X D ev cy A nL cc own rm ret l) {i : Int} {v : Int32} (hd : decode cc pc = .ok (.iconst i, 1)) (hv : Int32.ofInt i = v) (q : Nat) (hq : pc + 1 = q) (kk : ww X D A nL Q k n q lo (.int v :: st) Gs) : ww X D A nL Q k n pc lo st Gs := by
  subst hq
  exact fun H locs ls hP hD hS hl => lv_iconst h.1 h.2.1 hd hv (kk H locs ls hP hD hS hl)
theorem ww_bipush (h : cx X D ev cy A nL cc own rm ret l) {i : Int} {v : Int32} (hd : decode cc pc = .ok (.bipush i, 2)) (hv : (Int8.ofInt i).toInt32 = v) (q : Nat) (hq : pc + 2 = q) (kk : ww X D A nL Q k n q lo (.int v :: st) Gs) : ww X D A nL Q k n pc lo st Gs := by
  subst hq
  exact fun H locs ls hP hD hS hl => lv_bipush h.1 h.2.1 hd hv (kk H locs ls hP hD hS hl)
theorem ww_sipush (h : cx X D ev cy A nL cc own rm ret l) {i : Int} {v : Int32} (hd : decode cc pc = .ok (.sipush i, 3)) (hv : (Int16.ofInt i).toInt32 = v) (q : Nat) (hq : pc + 3 = q) (kk : ww X D A nL Q k n q lo (.int v :: st) Gs) : ww X D A nL Q k n pc lo st Gs := by
  subst hq
  exact fun H locs ls hP hD hS hl => lv_sipush h.1 h.2.1 hd hv (kk H locs ls hP hD hS hl)
theorem ww_lconst (h : cx X D ev cy A nL cc own rm ret l) {i : Fin 2} {v : Int64} (hd : decode cc pc = .ok (.lconst i, 1)) (hv : Int64.ofNat (i : Nat) = v) (q : Nat) (hq : pc + 1 = q) (kk : ww X D A nL Q k n q lo (.long v :: st) Gs) : ww X D A nL Q k n pc lo st Gs := by
  subst hq
  exact fun H locs ls hP hD hS hl => lv_lconst h.1 h.2.1 hd hv (kk H locs ls hP hD hS hl)
theorem ww_iload_n (h : cx X D ev cy A nL cc own rm ret l) {f : Fin 4} {i : Nat} {x : Int32} (hd : decode cc pc = .ok (.iload_n f, 1)) (hi : (f : Nat) = i) (j : Nat) (hx : lo[j]? = some (i, .int x)) (q : Nat) (hq : pc + 1 = q) (kk : ww X D A nL Q k n q lo (.int x :: st) Gs) : ww X D A nL Q k n pc lo st Gs := by
  subst hq
  exact fun H locs ls hP hD hS hl => lv_iload_n h.1 h.2.1 hd hi (lv_at hl j hx) (kk H locs ls hP hD hS hl)
theorem ww_iload (h : cx X D ev cy A nL cc own rm ret l) {i : Nat} {x : Int32} (hd : decode cc pc = .ok (.iload i, 2)) (j : Nat) (hx : lo[j]? = some (i, .int x)) (q : Nat) (hq : pc + 2 = q) (kk : ww X D A nL Q k n q lo (.int x :: st) Gs) : ww X D A nL Q k n pc lo st Gs := by
  subst hq
  exact fun H locs ls hP hD hS hl => lv_iload h.1 h.2.1 hd (lv_at hl j hx) (kk H locs ls hP hD hS hl)
theorem ww_istore_n (h : cx X D ev cy A nL cc own rm ret l) {f : Fin 4} {i : Nat} {x : Int32} (hd : decode cc pc = .ok (.istore_n f, 1)) (hi : (f : Nat) = i) (hn : i < nL) {lo' : List (Nat × Value)} (hl' : (i, Value.int x) :: lo.filter (fun q => !(q.1 == i) && !(q.1 + 1 == i && q.2.category == 2)) = lo') (q : Nat) (hq : pc + 1 = q) (kk : ww X D A nL Q k n q (lo') st Gs) : ww X D A nL Q k n pc lo (.int x :: st) Gs := by
  subst hq
  exact fun H locs ls hP hD hS hl => lv_istore_n h.1 h.2.1 hd hi hl hn hl' (fun ls hl => kk H locs ls hP hD hS hl)
theorem ww_istore (h : cx X D ev cy A nL cc own rm ret l) {i : Nat} {x : Int32} (hd : decode cc pc = .ok (.istore i, 2)) (hn : i < nL) {lo' : List (Nat × Value)} (hl' : (i, Value.int x) :: lo.filter (fun q => !(q.1 == i) && !(q.1 + 1 == i && q.2.category == 2)) = lo') (q : Nat) (hq : pc + 2 = q) (kk : ww X D A nL Q k n q (lo') st Gs) : ww X D A nL Q k n pc lo (.int x :: st) Gs := by
  subst hq
  exact fun H locs ls hP hD hS hl => lv_istore h.1 h.2.1 hd hl hn hl' (fun ls hl => kk H locs ls hP hD hS hl)
theorem ww_lload_n (h : cx X D ev cy A nL cc own rm ret l) {f : Fin 4} {i : Nat} {x : Int64} (hd : decode cc pc = .ok (.lload_n f, 1)) (hi : (f : Nat) = i) (j : Nat) (hx : lo[j]? = some (i, .long x)) (q : Nat) (hq : pc + 1 = q) (kk : ww X D A nL Q k n q lo (.long x :: st) Gs) : ww X D A nL Q k n pc lo st Gs := by
  subst hq
  exact fun H locs ls hP hD hS hl => lv_lload_n h.1 h.2.1 hd hi (lv_at hl j hx) (kk H locs ls hP hD hS hl)
theorem ww_lload (h : cx X D ev cy A nL cc own rm ret l) {i : Nat} {x : Int64} (hd : decode cc pc = .ok (.lload i, 2)) (j : Nat) (hx : lo[j]? = some (i, .long x)) (q : Nat) (hq : pc + 2 = q) (kk : ww X D A nL Q k n q lo (.long x :: st) Gs) : ww X D A nL Q k n pc lo st Gs := by
  subst hq
  exact fun H locs ls hP hD hS hl => lv_lload h.1 h.2.1 hd (lv_at hl j hx) (kk H locs ls hP hD hS hl)
theorem ww_lstore_n (h : cx X D ev cy A nL cc own rm ret l) {f : Fin 4} {i : Nat} {x : Int64} (hd : decode cc pc = .ok (.lstore_n f, 1)) (hi : (f : Nat) = i) (hn : i + 1 < nL) {lo' : List (Nat × Value)} (hl' : (i, Value.long x) :: lo.filter (fun q => !(q.1 == i) && (!(q.1 == i + 1) && !(q.1 + 1 == i && q.2.category == 2))) = lo') (q : Nat) (hq : pc + 1 = q) (kk : ww X D A nL Q k n q (lo') st Gs) : ww X D A nL Q k n pc lo (.long x :: st) Gs := by
  subst hq
  exact fun H locs ls hP hD hS hl => lv_lstore_n h.1 h.2.1 hd hi hl hn hl' (fun ls hl => kk H locs ls hP hD hS hl)
theorem ww_lstore (h : cx X D ev cy A nL cc own rm ret l) {i : Nat} {x : Int64} (hd : decode cc pc = .ok (.lstore i, 2)) (hn : i + 1 < nL) {lo' : List (Nat × Value)} (hl' : (i, Value.long x) :: lo.filter (fun q => !(q.1 == i) && (!(q.1 == i + 1) && !(q.1 + 1 == i && q.2.category == 2))) = lo') (q : Nat) (hq : pc + 2 = q) (kk : ww X D A nL Q k n q (lo') st Gs) : ww X D A nL Q k n pc lo (.long x :: st) Gs := by
  subst hq
  exact fun H locs ls hP hD hS hl => lv_lstore h.1 h.2.1 hd hl hn hl' (fun ls hl => kk H locs ls hP hD hS hl)
theorem ww_aload_n (h : cx X D ev cy A nL cc own rm ret l) {f : Fin 4} {i : Nat} {x : Nat} (hd : decode cc pc = .ok (.aload_n f, 1)) (hi : (f : Nat) = i) (j : Nat) (hx : lo[j]? = some (i, .ref x)) (q : Nat) (hq : pc + 1 = q) (kk : ww X D A nL Q k n q lo (.ref x :: st) Gs) : ww X D A nL Q k n pc lo st Gs := by
  subst hq
  exact fun H locs ls hP hD hS hl => lv_aload_n h.1 h.2.1 hd hi (lv_at hl j hx) (kk H locs ls hP hD hS hl)
theorem ww_aload (h : cx X D ev cy A nL cc own rm ret l) {i : Nat} {x : Nat} (hd : decode cc pc = .ok (.aload i, 2)) (j : Nat) (hx : lo[j]? = some (i, .ref x)) (q : Nat) (hq : pc + 2 = q) (kk : ww X D A nL Q k n q lo (.ref x :: st) Gs) : ww X D A nL Q k n pc lo st Gs := by
  subst hq
  exact fun H locs ls hP hD hS hl => lv_aload h.1 h.2.1 hd (lv_at hl j hx) (kk H locs ls hP hD hS hl)
theorem ww_astore_n (h : cx X D ev cy A nL cc own rm ret l) {f : Fin 4} {i : Nat} {x : Nat} (hd : decode cc pc = .ok (.astore_n f, 1)) (hi : (f : Nat) = i) (hn : i < nL) {lo' : List (Nat × Value)} (hl' : (i, Value.ref x) :: lo.filter (fun q => !(q.1 == i) && !(q.1 + 1 == i && q.2.category == 2)) = lo') (q : Nat) (hq : pc + 1 = q) (kk : ww X D A nL Q k n q (lo') st Gs) : ww X D A nL Q k n pc lo (.ref x :: st) Gs := by
  subst hq
  exact fun H locs ls hP hD hS hl => lv_astore_n h.1 h.2.1 hd hi hl hn hl' (fun ls hl => kk H locs ls hP hD hS hl)
theorem ww_astore (h : cx X D ev cy A nL cc own rm ret l) {i : Nat} {x : Nat} (hd : decode cc pc = .ok (.astore i, 2)) (hn : i < nL) {lo' : List (Nat × Value)} (hl' : (i, Value.ref x) :: lo.filter (fun q => !(q.1 == i) && !(q.1 + 1 == i && q.2.category == 2)) = lo') (q : Nat) (hq : pc + 2 = q) (kk : ww X D A nL Q k n q (lo') st Gs) : ww X D A nL Q k n pc lo (.ref x :: st) Gs := by
  subst hq
  exact fun H locs ls hP hD hS hl => lv_astore h.1 h.2.1 hd hl hn hl' (fun ls hl => kk H locs ls hP hD hS hl)
theorem ww_iinc (h : cx X D ev cy A nL cc own rm ret l) {i : Nat} {z : Int} {x : Int32} (hd : decode cc pc = .ok (.iinc i z, 3)) (j : Nat) (hx : lo[j]? = some (i, .int x)) {c : Int32} (hc : Int32.ofInt z = c) (hn : i < nL) (q : Nat) (hq : pc + 3 = q) (kk : ∀ v : Int32, v = x + c → ww X D A nL Q k n q ((i, Value.int v) :: lo.filter (fun q => !(q.1 == i) && !(q.1 + 1 == i && q.2.category == 2))) st Gs) : ww X D A nL Q k n pc lo st Gs := by
  subst hq
  subst hc
  exact fun H locs ls hP hD hS hl => lv_iinc h.1 h.2.1 hd hl hx rfl hn rfl (fun ls hl => kk _ rfl H locs ls hP hD hS hl)
theorem ww_iadd (h : cx X D ev cy A nL cc own rm ret l) {x y : Int32} (hd : decode cc pc = .ok (.iadd, 1)) (q : Nat) (hq : pc + 1 = q) (kk : ww X D A nL Q k n q lo (.int (x + y) :: st) Gs) : ww X D A nL Q k n pc lo (.int y :: .int x :: st) Gs := by
  subst hq
  exact fun H locs ls hP hD hS hl => lv_iadd h.1 h.2.1 hd (kk H locs ls hP hD hS hl)
theorem ww_isub (h : cx X D ev cy A nL cc own rm ret l) {x y : Int32} (hd : decode cc pc = .ok (.isub, 1)) (q : Nat) (hq : pc + 1 = q) (kk : ww X D A nL Q k n q lo (.int (x - y) :: st) Gs) : ww X D A nL Q k n pc lo (.int y :: .int x :: st) Gs := by
  subst hq
  exact fun H locs ls hP hD hS hl => lv_isub h.1 h.2.1 hd (kk H locs ls hP hD hS hl)
theorem ww_imul (h : cx X D ev cy A nL cc own rm ret l) {x y : Int32} (hd : decode cc pc = .ok (.imul, 1)) (q : Nat) (hq : pc + 1 = q) (kk : ww X D A nL Q k n q lo (.int (x * y) :: st) Gs) : ww X D A nL Q k n pc lo (.int y :: .int x :: st) Gs := by
  subst hq
  exact fun H locs ls hP hD hS hl => lv_imul h.1 h.2.1 hd (kk H locs ls hP hD hS hl)
theorem ww_iand (h : cx X D ev cy A nL cc own rm ret l) {x y : Int32} (hd : decode cc pc = .ok (.iand, 1)) (q : Nat) (hq : pc + 1 = q) (kk : ww X D A nL Q k n q lo (.int (x &&& y) :: st) Gs) : ww X D A nL Q k n pc lo (.int y :: .int x :: st) Gs := by
  subst hq
  exact fun H locs ls hP hD hS hl => lv_iand h.1 h.2.1 hd (kk H locs ls hP hD hS hl)
theorem ww_ior (h : cx X D ev cy A nL cc own rm ret l) {x y : Int32} (hd : decode cc pc = .ok (.ior, 1)) (q : Nat) (hq : pc + 1 = q) (kk : ww X D A nL Q k n q lo (.int (x ||| y) :: st) Gs) : ww X D A nL Q k n pc lo (.int y :: .int x :: st) Gs := by
  subst hq
  exact fun H locs ls hP hD hS hl => lv_ior h.1 h.2.1 hd (kk H locs ls hP hD hS hl)
theorem ww_ixor (h : cx X D ev cy A nL cc own rm ret l) {x y : Int32} (hd : decode cc pc = .ok (.ixor, 1)) (q : Nat) (hq : pc + 1 = q) (kk : ww X D A nL Q k n q lo (.int (x ^^^ y) :: st) Gs) : ww X D A nL Q k n pc lo (.int y :: .int x :: st) Gs := by
  subst hq
  exact fun H locs ls hP hD hS hl => lv_ixor h.1 h.2.1 hd (kk H locs ls hP hD hS hl)
theorem ww_ishl (h : cx X D ev cy A nL cc own rm ret l) {x y : Int32} (hd : decode cc pc = .ok (.ishl, 1)) (q : Nat) (hq : pc + 1 = q) (kk : ww X D A nL Q k n q lo (.int (x <<< (y &&& 31)) :: st) Gs) : ww X D A nL Q k n pc lo (.int y :: .int x :: st) Gs := by
  subst hq
  exact fun H locs ls hP hD hS hl => lv_ishl h.1 h.2.1 hd (kk H locs ls hP hD hS hl)
theorem ww_ishr (h : cx X D ev cy A nL cc own rm ret l) {x y : Int32} (hd : decode cc pc = .ok (.ishr, 1)) (q : Nat) (hq : pc + 1 = q) (kk : ww X D A nL Q k n q lo (.int (x >>> (y &&& 31)) :: st) Gs) : ww X D A nL Q k n pc lo (.int y :: .int x :: st) Gs := by
  subst hq
  exact fun H locs ls hP hD hS hl => lv_ishr h.1 h.2.1 hd (kk H locs ls hP hD hS hl)
theorem ww_iushr (h : cx X D ev cy A nL cc own rm ret l) {x y : Int32} (hd : decode cc pc = .ok (.iushr, 1)) (q : Nat) (hq : pc + 1 = q) (kk : ww X D A nL Q k n q lo (.int ((x.toUInt32 >>> (y.toUInt32 &&& Int32.toUInt32 31)).toInt32) :: st) Gs) : ww X D A nL Q k n pc lo (.int y :: .int x :: st) Gs := by
  subst hq
  exact fun H locs ls hP hD hS hl => lv_iushr h.1 h.2.1 hd rfl (kk H locs ls hP hD hS hl)
theorem ww_irem (h : cx X D ev cy A nL cc own rm ret l) {x y : Int32} (hd : decode cc pc = .ok (.irem, 1)) (hne : ¬ y = 0) (q : Nat) (hq : pc + 1 = q) (kk : ww X D A nL Q k n q lo (.int (x - x / y * y) :: st) Gs) : ww X D A nL Q k n pc lo (.int y :: .int x :: st) Gs := by
  subst hq
  exact fun H locs ls hP hD hS hl => lv_irem h.1 h.2.1 hd hne (kk H locs ls hP hD hS hl)
theorem ww_ineg (h : cx X D ev cy A nL cc own rm ret l) {x : Int32} (hd : decode cc pc = .ok (.ineg, 1)) (q : Nat) (hq : pc + 1 = q) (kk : ww X D A nL Q k n q lo (.int (-x) :: st) Gs) : ww X D A nL Q k n pc lo (.int x :: st) Gs := by
  subst hq
  exact fun H locs ls hP hD hS hl => lv_ineg h.1 h.2.1 hd (kk H locs ls hP hD hS hl)
theorem ww_ladd (h : cx X D ev cy A nL cc own rm ret l) {x y : Int64} (hd : decode cc pc = .ok (.ladd, 1)) (q : Nat) (hq : pc + 1 = q) (kk : ww X D A nL Q k n q lo (.long (x + y) :: st) Gs) : ww X D A nL Q k n pc lo (.long y :: .long x :: st) Gs := by
  subst hq
  exact fun H locs ls hP hD hS hl => lv_ladd h.1 h.2.1 hd (kk H locs ls hP hD hS hl)
theorem ww_lsub (h : cx X D ev cy A nL cc own rm ret l) {x y : Int64} (hd : decode cc pc = .ok (.lsub, 1)) (q : Nat) (hq : pc + 1 = q) (kk : ww X D A nL Q k n q lo (.long (x - y) :: st) Gs) : ww X D A nL Q k n pc lo (.long y :: .long x :: st) Gs := by
  subst hq
  exact fun H locs ls hP hD hS hl => lv_lsub h.1 h.2.1 hd (kk H locs ls hP hD hS hl)
theorem ww_i2l (h : cx X D ev cy A nL cc own rm ret l) {x : Int32} (hd : decode cc pc = .ok (.i2l, 1)) (q : Nat) (hq : pc + 1 = q) (kk : ww X D A nL Q k n q lo (.long x.toInt64 :: st) Gs) : ww X D A nL Q k n pc lo (.int x :: st) Gs := by
  subst hq
  exact fun H locs ls hP hD hS hl => lv_i2l h.1 h.2.1 hd rfl (kk H locs ls hP hD hS hl)
theorem ww_l2i (h : cx X D ev cy A nL cc own rm ret l) {x : Int64} (hd : decode cc pc = .ok (.l2i, 1)) (q : Nat) (hq : pc + 1 = q) (kk : ww X D A nL Q k n q lo (.int x.toInt32 :: st) Gs) : ww X D A nL Q k n pc lo (.long x :: st) Gs := by
  subst hq
  exact fun H locs ls hP hD hS hl => lv_l2i h.1 h.2.1 hd rfl (kk H locs ls hP hD hS hl)
theorem ww_lcmp (h : cx X D ev cy A nL cc own rm ret l) {x y : Int64} (hd : decode cc pc = .ok (.lcmp, 1)) (q : Nat) (hq : pc + 1 = q) (kk : ww X D A nL Q k n q lo (.int (lg_cmp x y) :: st) Gs) : ww X D A nL Q k n pc lo (.long y :: .long x :: st) Gs := by
  subst hq
  exact fun H locs ls hP hD hS hl => W.lcmp h.1 h.2.1 hd (kk H locs ls hP hD hS hl)
theorem ww_dup (h : cx X D ev cy A nL cc own rm ret l) {v : Value} (hd : decode cc pc = .ok (.dup, 1)) (hv : v.category = 1) (q : Nat) (hq : pc + 1 = q) (kk : ww X D A nL Q k n q lo (v :: v :: st) Gs) : ww X D A nL Q k n pc lo (v :: st) Gs := by
  subst hq
  exact fun H locs ls hP hD hS hl => lv_dup h.1 h.2.1 hd hv (kk H locs ls hP hD hS hl)
theorem ww_pop (h : cx X D ev cy A nL cc own rm ret l) {v : Value} (hd : decode cc pc = .ok (.pop, 1)) (hv : v.category = 1) (q : Nat) (hq : pc + 1 = q) (kk : ww X D A nL Q k n q lo st Gs) : ww X D A nL Q k n pc lo (v :: st) Gs := by
  subst hq
  exact fun H locs ls hP hD hS hl => lv_pop h.1 h.2.1 hd hv (kk H locs ls hP hD hS hl)
theorem ww_dup2 (h : cx X D ev cy A nL cc own rm ret l) {v w : Value} (hd : decode cc pc = .ok (.dup2, 1)) (hv : v.category = 1) (hw : w.category = 1) (q : Nat) (hq : pc + 1 = q) (kk : ww X D A nL Q k n q lo (v :: w :: v :: w :: st) Gs) : ww X D A nL Q k n pc lo (v :: w :: st) Gs := by
  subst hq
  exact fun H locs ls hP hD hS hl => lv_dup2_11 h.1 h.2.1 hd hv hw (kk H locs ls hP hD hS hl)
theorem ww_goto (h : cx X D ev cy A nL cc own rm ret l) {off : Int} (hd : decode cc pc = .ok (.goto off, 3)) (q : Nat) (hq : (pc : Int) + off = (q : Int)) (kk : ww X D A nL Q k n q lo st Gs) : ww X D A nL Q k n pc lo st Gs :=
  fun H locs ls hP hD hS hl => lv_goto h.1 h.2.1 hd hq (kk H locs ls hP hD hS hl)
theorem ww_if_eq (h : cx X D ev cy A nL cc own rm ret l) {x : Int32} {off : Int} (hd : decode cc pc = .ok (.ifCond .eq off, 3)) (t : Nat) (ht : (pc : Int) + off = (t : Int)) (q : Nat) (hq : pc + 3 = q) (kt : x = 0 → ww X D A nL Q k n t lo st Gs) (kf : ¬ x = 0 → ww X D A nL Q k n q lo st Gs) : ww X D A nL Q k n pc lo (.int x :: st) Gs := by
  subst hq
  exact fun H locs ls hP hD hS hl => lv_if_eq h.1 h.2.1 hd ht (fun z => kt z H locs ls hP hD hS hl) (fun z => kf z H locs ls hP hD hS hl)
theorem ww_icmp_eq (h : cx X D ev cy A nL cc own rm ret l) {x y : Int32} {off : Int} (hd : decode cc pc = .ok (.if_icmp .eq off, 3)) (t : Nat) (ht : (pc : Int) + off = (t : Int)) (q : Nat) (hq : pc + 3 = q) (kt : x = y → ww X D A nL Q k n t lo st Gs) (kf : ¬ x = y → ww X D A nL Q k n q lo st Gs) : ww X D A nL Q k n pc lo (.int y :: .int x :: st) Gs := by
  subst hq
  exact fun H locs ls hP hD hS hl => lv_icmp_eq h.1 h.2.1 hd ht (fun z => kt z H locs ls hP hD hS hl) (fun z => kf z H locs ls hP hD hS hl)
theorem ww_if_ne (h : cx X D ev cy A nL cc own rm ret l) {x : Int32} {off : Int} (hd : decode cc pc = .ok (.ifCond .ne off, 3)) (t : Nat) (ht : (pc : Int) + off = (t : Int)) (q : Nat) (hq : pc + 3 = q) (kt : ¬ x = 0 → ww X D A nL Q k n t lo st Gs) (kf : x = 0 → ww X D A nL Q k n q lo st Gs) : ww X D A nL Q k n pc lo (.int x :: st) Gs := by
  subst hq
  exact fun H locs ls hP hD hS hl => lv_if_ne h.1 h.2.1 hd ht (fun z => kt z H locs ls hP hD hS hl) (fun z => kf z H locs ls hP hD hS hl)
theorem ww_icmp_ne (h : cx X D ev cy A nL cc own rm ret l) {x y : Int32} {off : Int} (hd : decode cc pc = .ok (.if_icmp .ne off, 3)) (t : Nat) (ht : (pc : Int) + off = (t : Int)) (q : Nat) (hq : pc + 3 = q) (kt : ¬ x = y → ww X D A nL Q k n t lo st Gs) (kf : x = y → ww X D A nL Q k n q lo st Gs) : ww X D A nL Q k n pc lo (.int y :: .int x :: st) Gs := by
  subst hq
  exact fun H locs ls hP hD hS hl => lv_icmp_ne h.1 h.2.1 hd ht (fun z => kt z H locs ls hP hD hS hl) (fun z => kf z H locs ls hP hD hS hl)
theorem ww_if_lt (h : cx X D ev cy A nL cc own rm ret l) {x : Int32} {off : Int} (hd : decode cc pc = .ok (.ifCond .lt off, 3)) (t : Nat) (ht : (pc : Int) + off = (t : Int)) (q : Nat) (hq : pc + 3 = q) (kt : x < 0 → ww X D A nL Q k n t lo st Gs) (kf : ¬ x < 0 → ww X D A nL Q k n q lo st Gs) : ww X D A nL Q k n pc lo (.int x :: st) Gs := by
  subst hq
  exact fun H locs ls hP hD hS hl => lv_if_lt h.1 h.2.1 hd ht (fun z => kt z H locs ls hP hD hS hl) (fun z => kf z H locs ls hP hD hS hl)
theorem ww_icmp_lt (h : cx X D ev cy A nL cc own rm ret l) {x y : Int32} {off : Int} (hd : decode cc pc = .ok (.if_icmp .lt off, 3)) (t : Nat) (ht : (pc : Int) + off = (t : Int)) (q : Nat) (hq : pc + 3 = q) (kt : x < y → ww X D A nL Q k n t lo st Gs) (kf : ¬ x < y → ww X D A nL Q k n q lo st Gs) : ww X D A nL Q k n pc lo (.int y :: .int x :: st) Gs := by
  subst hq
  exact fun H locs ls hP hD hS hl => lv_icmp_lt h.1 h.2.1 hd ht (fun z => kt z H locs ls hP hD hS hl) (fun z => kf z H locs ls hP hD hS hl)
theorem ww_if_ge (h : cx X D ev cy A nL cc own rm ret l) {x : Int32} {off : Int} (hd : decode cc pc = .ok (.ifCond .ge off, 3)) (t : Nat) (ht : (pc : Int) + off = (t : Int)) (q : Nat) (hq : pc + 3 = q) (kt : 0 ≤ x → ww X D A nL Q k n t lo st Gs) (kf : ¬ 0 ≤ x → ww X D A nL Q k n q lo st Gs) : ww X D A nL Q k n pc lo (.int x :: st) Gs := by
  subst hq
  exact fun H locs ls hP hD hS hl => lv_if_ge h.1 h.2.1 hd ht (fun z => kt z H locs ls hP hD hS hl) (fun z => kf z H locs ls hP hD hS hl)
theorem ww_icmp_ge (h : cx X D ev cy A nL cc own rm ret l) {x y : Int32} {off : Int} (hd : decode cc pc = .ok (.if_icmp .ge off, 3)) (t : Nat) (ht : (pc : Int) + off = (t : Int)) (q : Nat) (hq : pc + 3 = q) (kt : y ≤ x → ww X D A nL Q k n t lo st Gs) (kf : ¬ y ≤ x → ww X D A nL Q k n q lo st Gs) : ww X D A nL Q k n pc lo (.int y :: .int x :: st) Gs := by
  subst hq
  exact fun H locs ls hP hD hS hl => lv_icmp_ge h.1 h.2.1 hd ht (fun z => kt z H locs ls hP hD hS hl) (fun z => kf z H locs ls hP hD hS hl)
theorem ww_if_gt (h : cx X D ev cy A nL cc own rm ret l) {x : Int32} {off : Int} (hd : decode cc pc = .ok (.ifCond .gt off, 3)) (t : Nat) (ht : (pc : Int) + off = (t : Int)) (q : Nat) (hq : pc + 3 = q) (kt : 0 < x → ww X D A nL Q k n t lo st Gs) (kf : ¬ 0 < x → ww X D A nL Q k n q lo st Gs) : ww X D A nL Q k n pc lo (.int x :: st) Gs := by
  subst hq
  exact fun H locs ls hP hD hS hl => lv_if_gt h.1 h.2.1 hd ht (fun z => kt z H locs ls hP hD hS hl) (fun z => kf z H locs ls hP hD hS hl)
theorem ww_icmp_gt (h : cx X D ev cy A nL cc own rm ret l) {x y : Int32} {off : Int} (hd : decode cc pc = .ok (.if_icmp .gt off, 3)) (t : Nat) (ht : (pc : Int) + off = (t : Int)) (q : Nat) (hq : pc + 3 = q) (kt : y < x → ww X D A nL Q k n t lo st Gs) (kf : ¬ y < x → ww X D A nL Q k n q lo st Gs) : ww X D A nL Q k n pc lo (.int y :: .int x :: st) Gs := by
  subst hq
  exact fun H locs ls hP hD hS hl => lv_icmp_gt h.1 h.2.1 hd ht (fun z => kt z H locs ls hP hD hS hl) (fun z => kf z H locs ls hP hD hS hl)
theorem ww_if_le (h : cx X D ev cy A nL cc own rm ret l) {x : Int32} {off : Int} (hd : decode cc pc = .ok (.ifCond .le off, 3)) (t : Nat) (ht : (pc : Int) + off = (t : Int)) (q : Nat) (hq : pc + 3 = q) (kt : x ≤ 0 → ww X D A nL Q k n t lo st Gs) (kf : ¬ x ≤ 0 → ww X D A nL Q k n q lo st Gs) : ww X D A nL Q k n pc lo (.int x :: st) Gs := by
  subst hq
  exact fun H locs ls hP hD hS hl => lv_if_le h.1 h.2.1 hd ht (fun z => kt z H locs ls hP hD hS hl) (fun z => kf z H locs ls hP hD hS hl)
theorem ww_icmp_le (h : cx X D ev cy A nL cc own rm ret l) {x y : Int32} {off : Int} (hd : decode cc pc = .ok (.if_icmp .le off, 3)) (t : Nat) (ht : (pc : Int) + off = (t : Int)) (q : Nat) (hq : pc + 3 = q) (kt : x ≤ y → ww X D A nL Q k n t lo st Gs) (kf : ¬ x ≤ y → ww X D A nL Q k n q lo st Gs) : ww X D A nL Q k n pc lo (.int y :: .int x :: st) Gs := by
  subst hq
  exact fun H locs ls hP hD hS hl => lv_icmp_le h.1 h.2.1 hd ht (fun z => kt z H locs ls hP hD hS hl) (fun z => kf z H locs ls hP hD hS hl)
theorem ww_ldc (h : cx X D ev cy A nL cc own rm ret l) {i : Nat} {v : Int32} (hw : Cond.constant own i v ∈ tbG) (hd : decode cc pc = .ok (.ldc i, 2)) (q : Nat) (hq : pc + 2 = q) (kk : ww X D A nL Q k n q lo (.int v :: st) Gs) : ww X D A nL Q k n pc lo st Gs := by
  subst hq
  exact fun H locs ls hP hD hS hl => lv_ldc h.1 h.2.1 h.2.2.2.1 (h.2.2.2.2.1 _ hw) hd (kk H locs ls hP hD hS hl)
theorem ww_ldcw (h : cx X D ev cy A nL cc own rm ret l) {i : Nat} {v : Int32} (hw : Cond.constant own i v ∈ tbG) (hd : decode cc pc = .ok (.ldc_w i, 3)) (q : Nat) (hq : pc + 3 = q) (kk : ww X D A nL Q k n q lo (.int v :: st) Gs) : ww X D A nL Q k n pc lo st Gs := by
  subst hq
  exact fun H locs ls hP hD hS hl => lv_ldcw h.1 h.2.1 h.2.2.2.1 (h.2.2.2.2.1 _ hw) hd (kk H locs ls hP hD hS hl)
theorem ww_ldc2 (h : cx X D ev cy A nL cc own rm ret l) {i : Nat} {v : Int64} (hw : Cond.constantLong own i v ∈ tbG) (hd : decode cc pc = .ok (.ldc2_w i, 3)) (q : Nat) (hq : pc + 3 = q) (kk : ww X D A nL Q k n q lo (.long v :: st) Gs) : ww X D A nL Q k n pc lo st Gs := by
  subst hq
  exact fun H locs ls hP hD hS hl => lv_ldc2 h.1 h.2.1 h.2.2.2.1 (h.2.2.2.2.1 _ hw) hd (kk H locs ls hP hD hS hl)
theorem ww_tabOut (h : cx X D ev cy A nL cc own rm ret l) {dflt a b : Int} {offs : Array Int} {len : Nat} {x : Int32} (hd : decode cc pc = .ok (.tableswitch dflt a b offs, len)) (hx : x.toInt < a ∨ b < x.toInt) (q : Nat) (hq : (pc : Int) + dflt = (q : Int)) (kk : ww X D A nL Q k n q lo st Gs) : ww X D A nL Q k n pc lo (.int x :: st) Gs :=
  fun H locs ls hP hD hS hl => lv_tableOut h.1 h.2.1 hd hx hq (kk H locs ls hP hD hS hl)
theorem ww_tabIn (h : cx X D ev cy A nL cc own rm ret l) {dflt a b off : Int} {offs : Array Int} {len : Nat} {x : Int32} (hd : decode cc pc = .ok (.tableswitch dflt a b offs, len)) (h1 : ¬ x.toInt < a) (h2 : ¬ b < x.toInt) (ho : offs[(x.toInt - a).toNat]? = some off) (q : Nat) (hq : (pc : Int) + off = (q : Int)) (kk : ww X D A nL Q k n q lo st Gs) : ww X D A nL Q k n pc lo (.int x :: st) Gs :=
  fun H locs ls hP hD hS hl => lv_tableIn h.1 h.2.1 hd h1 h2 ho hq (kk H locs ls hP hD hS hl)
theorem ww_get (h : cx X D ev cy A nL cc own rm ret l) {index ci a : Nat} {C : String} {T : u_T} {N : Nat} {fs : List Value} {v : Value} {c : va_W} (hin : ∀ w ∈ u_ws C T N, w ∈ tbG) (hc : vwCl[ci]? = some (C, T, N)) (g : Nat) (hg : Gs[g]? = some c) (he : c[0]? = some (a, .inr (ci, fs))) (f : Nat) (hf : f < N) (hw : Cond.fieldLink own index (T f).1 (T f).2.1 (T f).2.2.1 ∈ tbG) (hv : fs[f]? = some v) (hd : decode cc pc = .ok (.getfield index, 3)) (q : Nat) (hq : pc + 3 = q) (kk : ww X D A nL Q k n q lo (v :: st) Gs) : ww X D A nL Q k n pc lo (.ref a :: st) Gs := by
  subst hq
  exact fun H locs ls hP hD hS hl => va_get h.1 h.2.1 h.2.2.2.2.1 hin h.2.2.2.1 h.2.2.2.2.2.2.1 hP _ (kAt hg he) hc f hf (h.2.2.2.2.1 _ hw) (fun _ z => z) hv hd (kk H locs ls hP hD hS hl)
theorem ww_put (h : cx X D ev cy A nL cc own rm ret l) {index ci a : Nat} {C : String} {T : u_T} {N : Nat} {fs : List Value} {v : Value} {c : va_W} {ty0 : Nat → FieldType} {ty : FieldType} (hin : ∀ w ∈ u_ws C T N, w ∈ tbG) (hty : ∀ k, k < N → parseFieldDescriptor (T k).2.2.1 = some (ty0 k)) (hnm : ∀ a, a < N → ∀ b, b < N → a ≠ b → (T a).2.1 ≠ (T b).2.1) (hc : vwCl[ci]? = some (C, T, N)) (g : Nat) (hg : Gs[g]? = some c) (he : c[0]? = some (a, .inr (ci, fs))) (f : Nat) (hf : f < N) (hw : Cond.fieldLink own index (T f).1 (T f).2.1 (T f).2.2.1 ∈ tbG) (hfin : (T f).2.2.2 = false) (hdd : parseFieldDescriptor (T f).2.2.1 = some ty) (hn : narrow ty v = v) (hfit : fits ty v = true) (hl9 : f < fs.length) (hc0 : 0 < c.length) (hd : decode cc pc = .ok (.putfield index, 3)) (q : Nat) (hq : pc + 3 = q) (kk : ww X D A nL Q k n q lo st (Gs.set g (c.set 0 (a, .inr (ci, fs.set f v))))) : ww X D A nL Q k n pc lo (v :: .ref a :: st) Gs := by
  subst hq
  intro H locs ls hP hD hS hl
  refine va_put h.1 h.2.1 h.2.2.2.2.1 hin ty0 hty hnm h.2.2.2.1 h.2.2.2.2.2.2.1 hP hD hS _ (kAt hg he) hc f hf (h.2.2.2.2.1 _ hw) (fun _ z => z) hfin hdd hn hfit hl9 hd (fun H1 locs1 hP hD hS => ?_)
  rw [kSet hg hc0] at hP hD
  exact kk H1 locs1 ls hP hD hS hl
theorem ww_iald (h : cx X D ev cy A nL cc own rm ret l) {a N : Nat} {F : Nat → Int32} {i : Int32} {c : va_W} (g : Nat) (hg : Gs[g]? = some c) (e : Nat) (he : c[e]? = some (a, .inl (cy 0, N, .inl F))) (hi : vp_in i N) (hd : decode cc pc = .ok (.iaload, 1)) (q : Nat) (hq : pc + 1 = q) (kk : ww X D A nL Q k n q lo (.int (F i.toNatClampNeg) :: st) Gs) : ww X D A nL Q k n pc lo (.int i :: .ref a :: st) Gs := by
  subst hq
  exact fun H locs ls hP hD hS hl => va_iald h.1 h.2.1 h.2.2.2.2.2.2.1 hP _ 0 (kAt hg he) rfl hi hd (kk H locs ls hP hD hS hl)
theorem ww_bald (h : cx X D ev cy A nL cc own rm ret l) {a N : Nat} {F : Nat → Int32} {i : Int32} {c : va_W} (g : Nat) (hg : Gs[g]? = some c) (e : Nat) (he : c[e]? = some (a, .inl (cy 3, N, .inl F))) (hi : vp_in i N) (hd : decode cc pc = .ok (.baload, 1)) (q : Nat) (hq : pc + 1 = q) (kk : ww X D A nL Q k n q lo (.int (F i.toNatClampNeg) :: st) Gs) : ww X D A nL Q k n pc lo (.int i :: .ref a :: st) Gs := by
  subst hq
  exact fun H locs ls hP hD hS hl => va_bald h.1 h.2.1 h.2.2.2.2.2.2.1 hP _ 3 (kAt hg he) rfl hi hd (kk H locs ls hP hD hS hl)
theorem ww_zald (h : cx X D ev cy A nL cc own rm ret l) {a N : Nat} {F : Nat → Int32} {i : Int32} {c : va_W} (g : Nat) (hg : Gs[g]? = some c) (e : Nat) (he : c[e]? = some (a, .inl (cy 1, N, .inl F))) (hi : vp_in i N) (hd : decode cc pc = .ok (.baload, 1)) (q : Nat) (hq : pc + 1 = q) (kk : ww X D A nL Q k n q lo (.int (F i.toNatClampNeg) :: st) Gs) : ww X D A nL Q k n pc lo (.int i :: .ref a :: st) Gs := by
  subst hq
  exact fun H locs ls hP hD hS hl => va_zald h.1 h.2.1 h.2.2.2.2.2.2.1 hP _ 1 (kAt hg he) rfl hi hd (kk H locs ls hP hD hS hl)
theorem ww_lald (h : cx X D ev cy A nL cc own rm ret l) {a N : Nat} {F : Nat → Int64} {i : Int32} {c : va_W} (g : Nat) (hg : Gs[g]? = some c) (e : Nat) (he : c[e]? = some (a, .inl (cy 2, N, .inr (.inl F)))) (hi : vp_in i N) (hd : decode cc pc = .ok (.laload, 1)) (q : Nat) (hq : pc + 1 = q) (kk : ww X D A nL Q k n q lo (.long (F i.toNatClampNeg) :: st) Gs) : ww X D A nL Q k n pc lo (.int i :: .ref a :: st) Gs := by
  subst hq
  exact fun H locs ls hP hD hS hl => va_lald h.1 h.2.1 h.2.2.2.2.2.2.1 hP _ 2 (kAt hg he) rfl hi hd (kk H locs ls hP hD hS hl)
theorem ww_iast (h : cx X D ev cy A nL cc own rm ret l) {a N : Nat} {F : Nat → Int32} {i x : Int32} {c : va_W} (g : Nat) (hg : Gs[g]? = some c) (e : Nat) (he : c[e]? = some (a, .inl (cy 0, N, .inl F))) (hi : vp_in i N) (hd : decode cc pc = .ok (.iastore, 1)) (q : Nat) (hq : pc + 1 = q) (kk : ww X D A nL Q k n q lo st (Gs.set g (c.set e (a, .inl (cy 0, N, .inl (upd F i.toNatClampNeg x)))))) : ww X D A nL Q k n pc lo (.int x :: .int i :: .ref a :: st) Gs := by
  subst hq
  intro H locs ls hP hD hS hl
  refine va_iast h.1 h.2.1 h.2.2.2.2.2.2.1 hP hD hS _ 0 (kAt hg he) rfl hi hd (fun H1 locs1 hP hD hS => ?_)
  rw [kSet hg (List.getElem?_eq_some_iff.mp he).1] at hP hD
  exact kk H1 locs1 ls hP hD hS hl
theorem ww_bast (h : cx X D ev cy A nL cc own rm ret l) {a N : Nat} {F : Nat → Int32} {i x : Int32} {c : va_W} (g : Nat) (hg : Gs[g]? = some c) (e : Nat) (he : c[e]? = some (a, .inl (cy 3, N, .inl F))) (hi : vp_in i N) (hd : decode cc pc = .ok (.bastore, 1)) (q : Nat) (hq : pc + 1 = q) (kk : ww X D A nL Q k n q lo st (Gs.set g (c.set e (a, .inl (cy 3, N, .inl (upd F i.toNatClampNeg (vp_nar .byte x))))))) : ww X D A nL Q k n pc lo (.int x :: .int i :: .ref a :: st) Gs := by
  subst hq
  intro H locs ls hP hD hS hl
  refine va_bast h.1 h.2.1 h.2.2.2.2.2.2.1 hP hD hS _ 3 (kAt hg he) rfl hi hd (fun H1 locs1 hP hD hS => ?_)
  rw [kSet hg (List.getElem?_eq_some_iff.mp he).1] at hP hD
  exact kk H1 locs1 ls hP hD hS hl
theorem ww_zast (h : cx X D ev cy A nL cc own rm ret l) {a N : Nat} {F : Nat → Int32} {i x : Int32} {c : va_W} (g : Nat) (hg : Gs[g]? = some c) (e : Nat) (he : c[e]? = some (a, .inl (cy 1, N, .inl F))) (hi : vp_in i N) (hd : decode cc pc = .ok (.bastore, 1)) (q : Nat) (hq : pc + 1 = q) (kk : ww X D A nL Q k n q lo st (Gs.set g (c.set e (a, .inl (cy 1, N, .inl (upd F i.toNatClampNeg (vp_nar .boolean x))))))) : ww X D A nL Q k n pc lo (.int x :: .int i :: .ref a :: st) Gs := by
  subst hq
  intro H locs ls hP hD hS hl
  refine va_zast h.1 h.2.1 h.2.2.2.2.2.2.1 hP hD hS _ 1 (kAt hg he) rfl hi hd (fun H1 locs1 hP hD hS => ?_)
  rw [kSet hg (List.getElem?_eq_some_iff.mp he).1] at hP hD
  exact kk H1 locs1 ls hP hD hS hl
theorem ww_last (h : cx X D ev cy A nL cc own rm ret l) {a N : Nat} {F : Nat → Int64} {i : Int32} {x : Int64} {c : va_W} (g : Nat) (hg : Gs[g]? = some c) (e : Nat) (he : c[e]? = some (a, .inl (cy 2, N, .inr (.inl F)))) (hi : vp_in i N) (hd : decode cc pc = .ok (.lastore, 1)) (q : Nat) (hq : pc + 1 = q) (kk : ww X D A nL Q k n q lo st (Gs.set g (c.set e (a, .inl (cy 2, N, .inr (.inl (vp_updL F i.toNatClampNeg x))))))) : ww X D A nL Q k n pc lo (.long x :: .int i :: .ref a :: st) Gs := by
  subst hq
  intro H locs ls hP hD hS hl
  refine va_last h.1 h.2.1 h.2.2.2.2.2.2.1 hP hD hS _ 2 (kAt hg he) rfl hi hd (fun H1 locs1 hP hD hS => ?_)
  rw [kSet hg (List.getElem?_eq_some_iff.mp he).1] at hP hD
  exact kk H1 locs1 ls hP hD hS hl
theorem ww_aald (h : cx X D ev cy A nL cc own rm ret l) {a N : Nat} {F : Nat → Option Nat} {i : Int32} {c : va_W} {ty : FieldType} {cA : ClassId} (g : Nat) (hg : Gs[g]? = some c) (e : Nat) (he : c[e]? = some (a, .inl (cA, N, .inr (.inr (.inr (.inr F)))))) (t : Nat) (ht : (tyL cy)[t]? = some (cA, ty)) (hty : ty.isReference = true) (hi : vp_in i N) (hd : decode cc pc = .ok (.aaload, 1)) (q : Nat) (hq : pc + 1 = q) (kk : ww X D A nL Q k n q lo (va_rf (F i.toNatClampNeg) :: st) Gs) : ww X D A nL Q k n pc lo (.int i :: .ref a :: st) Gs := by
  subst hq
  intro H locs ls hP hD hS hl
  have hlt : i.toNatClampNeg < N := Nat.not_le.mp fun q => hi (Or.inr q)
  exact W.aald (v := va_rf (F i.toNatClampNeg)) (ty := ty) h.1 h.2.1 (hP _ _ (kAt hg he)) ((h.2.2.2.2.2.2.1.2 t _ ht).1 N (fun j => va_rf (F j))) hty (fun q => by cases q) (by show ¬ (i < 0 ∨ (arrV _ _ _).slots.size ≤ _); rw [arrV_size]; exact hi) (by show (arrV _ _ _).slots[_]? = _; rw [arrV_read _ _ hlt]) rfl rfl hd (kk H locs ls hP hD hS hl)
theorem ww_alen (h : cx X D ev cy A nL cc own rm ret l) {a : Nat} {x : vp_A} {c : va_W} {cA : ClassId} {ty : FieldType} {v : Int32} (g : Nat) (hg : Gs[g]? = some c) (e : Nat) (he : c[e]? = some (a, .inl (cA, x))) (t : Nat) (ht : (tyL cy)[t]? = some (cA, ty)) (hv : Int32.ofNat x.1 = v) (hd : decode cc pc = .ok (.arraylength, 1)) (q : Nat) (hq : pc + 1 = q) (kk : ww X D A nL Q k n q lo (.int v :: st) Gs) : ww X D A nL Q k n pc lo (.ref a :: st) Gs := by
  subst hq
  exact fun H locs ls hP hD hS hl => va_alen h.1 h.2.1 h.2.2.2.2.2.2.1 hP _ t (kAt hg he) ht hv hd (kk H locs ls hP hD hS hl)
variable {Post : Option Value → List va_W → Prop}
theorem ww_iret (h : cx X D ev cy A nL cc own rm (some .int) l) {v : Int32} (hd : decode cc pc = .ok (.ireturn, 1)) (hQ : Q = qE X D A k n Post) (hp : Post (some (.int v)) Gs) : ww X D A nL Q k n pc lo [.int v] Gs := by
  subst hQ
  exact fun H locs ls hP hD hS hl => W.iret h.1 h.2.1 h.2.2.2.2.2.2.2.2.2.1 (fun t ht hW => ⟨⟨_, Gs, rfl, hp, by rw [ht]; exact hP, hD⟩, hS.F ht⟩) hS.2.2 hd h.2.2.2.2.2.2.2.2.2.2.1
theorem ww_zret (h : cx X D ev cy A nL cc own rm (some .boolean) l) {v : Int32} (hv : v = 0 ∨ v = 1) (hd : decode cc pc = .ok (.ireturn, 1)) (hQ : Q = qE X D A k n Post) (hp : Post (some (.int v)) Gs) : ww X D A nL Q k n pc lo [.int v] Gs := by
  subst hQ
  exact fun H locs ls hP hD hS hl => W.zret h.1 h.2.1 h.2.2.2.2.2.2.2.2.2.1 (by rcases hv with rfl | rfl <;> decide) (fun t ht hW => ⟨⟨_, Gs, rfl, hp, by rw [ht]; exact hP, hD⟩, hS.F ht⟩) hS.2.2 hd h.2.2.2.2.2.2.2.2.2.2.1
theorem ww_lret (h : cx X D ev cy A nL cc own rm (some .long) l) {v : Int64} (hd : decode cc pc = .ok (.lreturn, 1)) (hQ : Q = qE X D A k n Post) (hp : Post (some (.long v)) Gs) : ww X D A nL Q k n pc lo [.long v] Gs := by
  subst hQ
  exact fun H locs ls hP hD hS hl => W.lret h.1 h.2.1 h.2.2.2.2.2.2.2.2.2.1 (fun t ht hW => ⟨⟨_, Gs, rfl, hp, by rw [ht]; exact hP, hD⟩, hS.F ht⟩) hS.2.2 hd h.2.2.2.2.2.2.2.2.2.2.1
theorem ww_aret {ty : FieldType} (h : cx X D ev cy A nL cc own rm (some ty) l) {v : Nat} (hty : (∃ n, ty = .object n) ∨ ∃ t, ty = .array t) (hd : decode cc pc = .ok (.areturn, 1)) (hQ : Q = qE X D A k n Post) (hp : Post (some (.ref v)) Gs) : ww X D A nL Q k n pc lo [.ref v] Gs := by
  subst hQ
  exact fun H locs ls hP hD hS hl => W.aret h.1 h.2.1 h.2.2.2.2.2.2.2.2.2.1 hty (Or.inr ⟨v, rfl⟩) (fun t ht hW => ⟨⟨_, Gs, rfl, hp, by rw [ht]; exact hP, hD⟩, hS.F ht⟩) hS.2.2 hd h.2.2.2.2.2.2.2.2.2.2.1
theorem ww_vret (h : cx X D ev cy A nL cc own rm none l) (hd : decode cc pc = .ok (.return_, 1)) (hQ : Q = qE X D A k n Post) (hp : Post none Gs) : ww X D A nL Q k n pc lo [] Gs := by
  subst hQ
  exact fun H locs ls hP hD hS hl => W.vret h.1 h.2.1 h.2.2.2.2.2.2.2.2.2.1 (fun t ht hW => ⟨⟨_, Gs, rfl, hp, by rw [ht]; exact hP, hD⟩, hS.F ht⟩) hS.2.2 hd h.2.2.2.2.2.2.2.2.2.2.1
end WR
