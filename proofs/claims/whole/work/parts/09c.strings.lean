section WT
variable {X : Cx} {D : va_G} {ev : EvT} {cy : Nat → ClassId} {A : Nat → Prop} {nL : Nat} {cc : ByteArray} {own : String} {rm : Room} {ret : Option FieldType} {l : Launch} {Q : State → Prop} {k n pc : Nat} {lo : List (Nat × Value)} {st stk : List Value} {Gs Gs' Cs Cs' Rs : List va_W} {Post : Option Value → List va_W → Prop}
variable {y : MethodName} {bytes : ByteArray} {maxL : Nat} {rt : Option FieldType} {rc : Room} {As : List Value} {b index ci w : Nat} {C host : String}
theorem ww_i2c (h : cx X D ev cy A nL cc own rm ret l) {x : Int32} (hd : decode cc pc = .ok (.i2c, 1)) (q : Nat) (hq : pc + 1 = q) (kk : ww X D A nL Q k n q lo (.int ((x.toUInt32 % 65536).toInt32) :: st) Gs) : ww X D A nL Q k n pc lo (.int x :: st) Gs := by
  subst hq
  exact fun H locs ls hP hD hS hl => lv_i2c h.1 h.2.1 hd rfl (kk H locs ls hP hD hS hl)
theorem ww_cret {ty : FieldType} (h : cx X D ev cy A nL cc own rm (some ty) l) {v : Int32} (hv : narrow ty (.int v) = .int v) (hd : decode cc pc = .ok (.ireturn, 1)) (hQ : Q = qE X D A k n Post) (hp : Post (some (.int v)) Gs) : ww X D A nL Q k n pc lo [.int v] Gs := by
  subst hQ
  exact fun H locs ls hP hD hS hl => W.zret h.1 h.2.1 h.2.2.2.2.2.2.2.2.2.1 hv (fun t ht hW => ⟨⟨_, Gs, rfl, hp, by rw [ht]; exact hP, hD⟩, hS.F ht⟩) hS.2.2 hd h.2.2.2.2.2.2.2.2.2.2.1
/-- a text's constant -/
theorem ww_ldcS (h : cx X D ev cy A nL cc own rm ret l) (i : Nat) {tx : String} (hi : sJ[i]? = some (own, index, tx)) (hd : decode cc pc = .ok (.ldc index, 2)) (q : Nat) (hq : pc + 2 = q) (kk : ww X D A nL Q k n q lo (.ref (ev.1 i) :: st) Gs) : ww X D A nL Q k n pc lo st Gs := by
  subst hq
  exact fun H locs ls hP hD hS hl => va_ldcS h.1 h.2.1 h.2.2.2.1 (h.2.2.2.2.2.2.2.2.2.2.2.2.2.2.2.2.2.2.2.1 i _ hi) hd (kk H locs ls hP hD hS hl)
theorem ww_ldcSw (h : cx X D ev cy A nL cc own rm ret l) (i : Nat) {tx : String} (hi : sJ[i]? = some (own, index, tx)) (hd : decode cc pc = .ok (.ldc_w index, 3)) (q : Nat) (hq : pc + 3 = q) (kk : ww X D A nL Q k n q lo (.ref (ev.1 i) :: st) Gs) : ww X D A nL Q k n pc lo st Gs := by
  subst hq
  intro H locs ls hP hD hS hl T hT XS
  obtain ⟨t, a1, b1⟩ := kk H locs ls hP hD hS hl T hT XS
  refine ⟨t, ?_, b1⟩
  have hZ := h.2.2.2.2.2.2.2.2.2.2.2.2.2.2.2.2.2.2.2.1 i _ hi
  obtain ⟨k', cf, i', a', hk, hcf, hcp, -, hr, hev'⟩ := Cond.stringRef_spec h.2.2.2.1 hZ.1
  cases hZ.2.symm.trans hev'
  obtain ⟨k2, hk2, he⟩ := XS.warmed.alike.2.2 _ _ hk
  have hr' : k2.resolved[index]? = some (some (.string (ev.1 i))) := by
    rcases XS.warmed.entry hk hk2 index with h | ⟨h, -⟩
    · rw [h]; exact hr
    · rw [hr] at h; cases h
  have hd' : decode X.2.2.2.2.2.2.2.2.2.code pc = .ok (.ldc_w index, 3) := by rw [h.2.1]; exact hd
  jvm_step XS.here [h.1, hd', ldc_w.wp_string (e := X.2.2.1) (s := T) (f := F0 X.2.2.2.2.2.1 pc ls st) XS.here.top hk2 (by rw [he]; exact hcf) hcp hr']
  exact a1
theorem ww_cs (h : cx X D ev cy A nL cc own rm ret l) (hw : Cond.fieldLink own index "java/lang/String" "COMPACT_STRINGS" "Z" ∈ tbG) (hd : decode cc pc = .ok (.getstatic index, 3)) (q : Nat) (hq : pc + 3 = q) (kk : ww X D A nL Q k n q lo (.int 1 :: st) Gs) : ww X D A nL Q k n pc lo st Gs := by
  subst hq
  exact fun H locs ls hP hD hS hl => va_gets h.1 h.2.1 h.2.2.2.2.2.2.2.2.2.2.2.2.2.1 hS h.2.2.2.1 (h.2.2.2.2.1 _ hw) (fun _ z => z) hd (kk H locs ls hP hD hS hl)
theorem ww_sio (h : cx X D ev cy A nL cc own rm ret l) (hw : Cond.fieldLink own index "jdk/internal/util/Preconditions" "SIOOBE_FORMATTER" "Ljava/util/function/BiFunction;" ∈ tbG) (hd : decode cc pc = .ok (.getstatic index, 3)) (q : Nat) (hq : pc + 3 = q) (kn : ww X D A nL Q k n q lo (.null :: st) Gs) (kr : ∀ t : Nat, ww X D A nL Q k n q lo (.ref t :: st) Gs) : ww X D A nL Q k n pc lo st Gs := by
  subst hq
  intro H locs ls hP hD hS hl
  rcases h.2.2.2.2.2.2.2.2.2.2.2.2.2.2.1 with hz | ⟨t, hz⟩
  · exact va_gets h.1 h.2.1 hz hS h.2.2.2.1 (h.2.2.2.2.1 _ hw) (fun _ z => z) hd (kn H locs ls hP hD hS hl)
  · exact va_gets h.1 h.2.1 hz hS h.2.2.2.1 (h.2.2.2.2.1 _ hw) (fun _ z => z) hd (kr t H locs ls hP hD hS hl)
theorem ww_sval (h : cx X D ev cy A nL cc own rm ret l) (hi : w < 21) (hw : Cond.fieldLink own index "java/lang/String" "value" "[B" ∈ tbG) (hd : decode cc pc = .ok (.getfield index, 3)) (q : Nat) (hq : pc + 3 = q) (kk : ww X D A nL Q k n q lo (.ref (ev.2.1 w) :: st) Gs) : ww X D A nL Q k n pc lo (.ref (ev.1 w) :: st) Gs := by
  subst hq
  exact fun H locs ls hP hD hS hl => vk_getf h.1 h.2.1 (h.2.2.2.2.2.2.2.2.2.2.2.2.1.1 w hi).2.2.1 hS h.2.2.2.1 (h.2.2.2.2.1 _ hw) (fun _ z => z) hd (kk H locs ls hP hD hS hl)
theorem ww_scod (h : cx X D ev cy A nL cc own rm ret l) (hi : w < 21) (hw : Cond.fieldLink own index "java/lang/String" "coder" "B" ∈ tbG) (hd : decode cc pc = .ok (.getfield index, 3)) (q : Nat) (hq : pc + 3 = q) (kk : ww X D A nL Q k n q lo (.int 0 :: st) Gs) : ww X D A nL Q k n pc lo (.ref (ev.1 w) :: st) Gs := by
  subst hq
  exact fun H locs ls hP hD hS hl => vk_getf h.1 h.2.1 (h.2.2.2.2.2.2.2.2.2.2.2.2.1.1 w hi).2.1 hS h.2.2.2.1 (h.2.2.2.2.1 _ hw) (fun _ z => z) hd (kk H locs ls hP hD hS hl)
theorem ww_slen (h : cx X D ev cy A nL cc own rm ret l) (hi : w < 21) (hd : decode cc pc = .ok (.arraylength, 1)) (q : Nat) (hq : pc + 1 = q) (kk : ww X D A nL Q k n q lo (.int (Int32.ofNat (lenJ.getD w 0)) :: st) Gs) : ww X D A nL Q k n pc lo (.ref (ev.2.1 w) :: st) Gs := by
  subst hq
  exact fun H locs ls hP hD hS hl => va_tlen h.1 h.2.1 (h.2.2.2.2.2.2.2.2.2.2.2.2.1.1 w hi).2.2.2 hS rfl hd (kk H locs ls hP hD hS hl)
theorem ww_sbyt (h : cx X D ev cy A nL cc own rm ret l) (hi : w < 21) {i : Int32} (hx : vp_in i (lenJ.getD w 0)) (hd : decode cc pc = .ok (.baload, 1)) (q : Nat) (hq : pc + 1 = q) (kk : ww X D A nL Q k n q lo (.int ((bytJ.getD w []).getD i.toNatClampNeg 0) :: st) Gs) : ww X D A nL Q k n pc lo (.int i :: .ref (ev.2.1 w) :: st) Gs := by
  subst hq
  exact fun H locs ls hP hD hS hl => va_tb h.1 h.2.1 (h.2.2.2.2.2.2.2.2.2.2.2.2.1.1 w hi).2.2.2 hS hx rfl hd (kk H locs ls hP hD hS hl)
/-- a call of a method of a text -/
theorem ww_cT {r : Int32} (h : cx X D ev cy A nL cc own rm ret l) (hi : w < 21) (hF : Fn l y bytes maxL rt rc D ev cy (.ref (ev.1 w) :: As) [] (fun v G => v = some (.int r) ∧ G = [])) (hw : cwK own index "java/lang/String" y bytes maxL rt As.length)
    (hroom : rc.frames + 1 ≤ rm.frames ∧ 8 + (maxL + 11) + rc.locals ≤ rm.locals) (hcel : k + rc.cells ≤ rm.cells ∧ n + rc.slots ≤ rm.slots) (hz : rc.cells = 0 ∧ rc.slots = 0)
    (hst : stk = As.reverse ++ .ref (ev.1 w) :: st) (hW : stW st ≤ 8) (hd : decode cc pc = .ok (.invokevirtual index, 3))
    (q : Nat) (hq : pc + 3 = q) (kk : ww X D A nL Q k n q lo (.int r :: st) Gs) : ww X D A nL Q k n pc lo stk Gs := by
  have hle := h.2.2.2.2.2.2.2.2.2.2.2.1
  subst hle
  refine ww_run (st := st) (Cs := []) (Rs := Gs) h [] rfl (mc := rc.cells) (ms := rc.slots) (Post := fun v G => v = some (.int r) ∧ G = []) (fun H locs ls hl hPc hDc hS0 hsub => ?_) q hq (fun r G hr => ?_)
  · obtain ⟨hcode, hlink, hinst, hsel, hini, hY1, hY2⟩ := hw
    have cw : CallW X.2.2.2.1 X.2.2.2.2.1 X.2.2.2.2.2.2.1 own "java/lang/String" index y bytes maxL rt (Cond.code y bytes maxL rt :: tbG) rc rc.cells rc.slots As.length := by
      refine ⟨callB_of As.length h.2.2.2.2.1 (tb_good hcode) rfl rfl rfl (by rw [hY1]; exact h.2.2.2.2.1 _ hini) (h.2.2.2.2.1 _ hlink) hY2 ?_, h.2.2.2.2.1 _ hinst, h.2.2.2.2.1 _ hsel⟩
      rw [h.2.2.2.2.2.2.2.2.1]; exact hroom
    exact va_runV ⟨h.1, h.2.1, h.2.2.1, h.2.2.2.1, h.2.2.2.2.1⟩ (hF H.size) cw ⟨fn_blind, vk_recv h.2.2.2.2.2.2.2.2.2.2.2.2.1 hi hS0, fun U hU hW' => ⟨rfl, by rw [hU], by rw [hU]; exact hPc, va_K.moved hW'.alike h.2.2.2.2.2.2.1, hDc, by rw [hU]; exact EV_call h.2.2.2.2.2.2.2.2.2.2.2.2 hS0 hW' hsub, fun w hw => nw_warm hw hW' (h.2.2.2.2.2.1 w hw)⟩⟩ rfl rfl hl.1 hst (lv_room hW) hd (by rw [h.2.2.2.2.2.2.2.2.1]; exact hcel)
  · obtain ⟨rfl, rfl⟩ := hr
    rw [hz.1, hz.2]
    exact kk
end WT
theorem dJ0_length_8abf5_0 : decode cJ0_length_8abf5 0 = .ok (.aload_n 0, 1) := by decide +kernel
theorem dJ0_length_8abf5_1 : decode cJ0_length_8abf5 1 = .ok (.getfield 9, 3) := by decide +kernel
theorem dJ0_length_8abf5_4 : decode cJ0_length_8abf5 4 = .ok (.arraylength, 1) := by decide +kernel
theorem dJ0_length_8abf5_5 : decode cJ0_length_8abf5 5 = .ok (.aload_n 0, 1) := by decide +kernel
theorem dJ0_length_8abf5_6 : decode cJ0_length_8abf5 6 = .ok (.invokevirtual 335, 3) := by decide +kernel
theorem dJ0_length_8abf5_9 : decode cJ0_length_8abf5 9 = .ok (.ishr, 1) := by decide +kernel
theorem dJ0_length_8abf5_10 : decode cJ0_length_8abf5 10 = .ok (.ireturn, 1) := by decide +kernel
theorem dJ0_charAt_5068e_0 : decode cJ0_charAt_5068e 0 = .ok (.aload_n 0, 1) := by decide +kernel
theorem dJ0_charAt_5068e_1 : decode cJ0_charAt_5068e 1 = .ok (.invokevirtual 492, 3) := by decide +kernel
theorem dJ0_charAt_5068e_4 : decode cJ0_charAt_5068e 4 = .ok (.ifCond .eq 12, 3) := by decide +kernel
theorem dJ0_charAt_5068e_7 : decode cJ0_charAt_5068e 7 = .ok (.aload_n 0, 1) := by decide +kernel
theorem dJ0_charAt_5068e_8 : decode cJ0_charAt_5068e 8 = .ok (.getfield 9, 3) := by decide +kernel
theorem dJ0_charAt_5068e_11 : decode cJ0_charAt_5068e 11 = .ok (.iload_n 1, 1) := by decide +kernel
theorem dJ0_charAt_5068e_12 : decode cJ0_charAt_5068e 12 = .ok (.invokestatic 495, 3) := by decide +kernel
theorem dJ0_charAt_5068e_15 : decode cJ0_charAt_5068e 15 = .ok (.ireturn, 1) := by decide +kernel
theorem dJ0_charAt_5068e_16 : decode cJ0_charAt_5068e 16 = .ok (.aload_n 0, 1) := by decide +kernel
theorem dJ0_charAt_5068e_17 : decode cJ0_charAt_5068e 17 = .ok (.getfield 9, 3) := by decide +kernel
theorem dJ0_charAt_5068e_20 : decode cJ0_charAt_5068e 20 = .ok (.iload_n 1, 1) := by decide +kernel
theorem dJ0_charAt_5068e_21 : decode cJ0_charAt_5068e 21 = .ok (.invokestatic 498, 3) := by decide +kernel
theorem dJ0_charAt_5068e_24 : decode cJ0_charAt_5068e 24 = .ok (.ireturn, 1) := by decide +kernel
theorem dJ0_coder_7d493_0 : decode cJ0_coder_7d493 0 = .ok (.getstatic 38, 3) := by decide +kernel
theorem dJ0_coder_7d493_3 : decode cJ0_coder_7d493 3 = .ok (.ifCond .eq 10, 3) := by decide +kernel
theorem dJ0_coder_7d493_6 : decode cJ0_coder_7d493 6 = .ok (.aload_n 0, 1) := by decide +kernel
theorem dJ0_coder_7d493_7 : decode cJ0_coder_7d493 7 = .ok (.getfield 15, 3) := by decide +kernel
theorem dJ0_coder_7d493_10 : decode cJ0_coder_7d493 10 = .ok (.goto 4, 3) := by decide +kernel
theorem dJ0_coder_7d493_13 : decode cJ0_coder_7d493 13 = .ok (.iconst 1, 1) := by decide +kernel
theorem dJ0_coder_7d493_14 : decode cJ0_coder_7d493 14 = .ok (.ireturn, 1) := by decide +kernel
theorem dJ0_isLatin1_aae02_0 : decode cJ0_isLatin1_aae02 0 = .ok (.getstatic 38, 3) := by decide +kernel
theorem dJ0_isLatin1_aae02_3 : decode cJ0_isLatin1_aae02 3 = .ok (.ifCond .eq 14, 3) := by decide +kernel
theorem dJ0_isLatin1_aae02_6 : decode cJ0_isLatin1_aae02 6 = .ok (.aload_n 0, 1) := by decide +kernel
theorem dJ0_isLatin1_aae02_7 : decode cJ0_isLatin1_aae02 7 = .ok (.getfield 15, 3) := by decide +kernel
theorem dJ0_isLatin1_aae02_10 : decode cJ0_isLatin1_aae02 10 = .ok (.ifCond .ne 7, 3) := by decide +kernel
theorem dJ0_isLatin1_aae02_13 : decode cJ0_isLatin1_aae02 13 = .ok (.iconst 1, 1) := by decide +kernel
theorem dJ0_isLatin1_aae02_14 : decode cJ0_isLatin1_aae02 14 = .ok (.goto 4, 3) := by decide +kernel
theorem dJ0_isLatin1_aae02_17 : decode cJ0_isLatin1_aae02 17 = .ok (.iconst 0, 1) := by decide +kernel
theorem dJ0_isLatin1_aae02_18 : decode cJ0_isLatin1_aae02 18 = .ok (.ireturn, 1) := by decide +kernel
theorem dJ0_checkIndex_df160_0 : decode cJ0_checkIndex_df160 0 = .ok (.iload_n 0, 1) := by decide +kernel
theorem dJ0_checkIndex_df160_1 : decode cJ0_checkIndex_df160 1 = .ok (.iload_n 1, 1) := by decide +kernel
theorem dJ0_checkIndex_df160_2 : decode cJ0_checkIndex_df160 2 = .ok (.getstatic 1053, 3) := by decide +kernel
theorem dJ0_checkIndex_df160_5 : decode cJ0_checkIndex_df160 5 = .ok (.invokestatic 1059, 3) := by decide +kernel
theorem dJ0_checkIndex_df160_8 : decode cJ0_checkIndex_df160 8 = .ok (.pop, 1) := by decide +kernel
theorem dJ0_checkIndex_df160_9 : decode cJ0_checkIndex_df160 9 = .ok (.return_, 1) := by decide +kernel
theorem dJ1_charAt_3b067_0 : decode cJ1_charAt_3b067 0 = .ok (.iload_n 1, 1) := by decide +kernel
theorem dJ1_charAt_3b067_1 : decode cJ1_charAt_3b067 1 = .ok (.aload_n 0, 1) := by decide +kernel
theorem dJ1_charAt_3b067_2 : decode cJ1_charAt_3b067 2 = .ok (.arraylength, 1) := by decide +kernel
theorem dJ1_charAt_3b067_3 : decode cJ1_charAt_3b067 3 = .ok (.invokestatic 9, 3) := by decide +kernel
theorem dJ1_charAt_3b067_6 : decode cJ1_charAt_3b067 6 = .ok (.aload_n 0, 1) := by decide +kernel
theorem dJ1_charAt_3b067_7 : decode cJ1_charAt_3b067 7 = .ok (.iload_n 1, 1) := by decide +kernel
theorem dJ1_charAt_3b067_8 : decode cJ1_charAt_3b067 8 = .ok (.baload, 1) := by decide +kernel
theorem dJ1_charAt_3b067_9 : decode cJ1_charAt_3b067 9 = .ok (.sipush 255, 3) := by decide +kernel
theorem dJ1_charAt_3b067_12 : decode cJ1_charAt_3b067 12 = .ok (.iand, 1) := by decide +kernel
theorem dJ1_charAt_3b067_13 : decode cJ1_charAt_3b067 13 = .ok (.i2c, 1) := by decide +kernel
theorem dJ1_charAt_3b067_14 : decode cJ1_charAt_3b067 14 = .ok (.ireturn, 1) := by decide +kernel
theorem dJ3_checkIndex_8e157_0 : decode cJ3_checkIndex_8e157 0 = .ok (.iload_n 0, 1) := by decide +kernel
theorem dJ3_checkIndex_8e157_1 : decode cJ3_checkIndex_8e157 1 = .ok (.ifCond .lt 8, 3) := by decide +kernel
theorem dJ3_checkIndex_8e157_4 : decode cJ3_checkIndex_8e157 4 = .ok (.iload_n 0, 1) := by decide +kernel
theorem dJ3_checkIndex_8e157_5 : decode cJ3_checkIndex_8e157 5 = .ok (.iload_n 1, 1) := by decide +kernel
theorem dJ3_checkIndex_8e157_6 : decode cJ3_checkIndex_8e157 6 = .ok (.if_icmp .lt 10, 3) := by decide +kernel
theorem dJ3_checkIndex_8e157_9 : decode cJ3_checkIndex_8e157 9 = .ok (.aload_n 2, 1) := by decide +kernel
theorem dJ3_checkIndex_8e157_10 : decode cJ3_checkIndex_8e157 10 = .ok (.iload_n 0, 1) := by decide +kernel
theorem dJ3_checkIndex_8e157_11 : decode cJ3_checkIndex_8e157 11 = .ok (.iload_n 1, 1) := by decide +kernel
theorem dJ3_checkIndex_8e157_12 : decode cJ3_checkIndex_8e157 12 = .ok (.invokestatic 95, 3) := by decide +kernel
theorem dJ3_checkIndex_8e157_15 : decode cJ3_checkIndex_8e157 15 = .ok (.athrow, 1) := by decide +kernel
theorem dJ3_checkIndex_8e157_16 : decode cJ3_checkIndex_8e157 16 = .ok (.iload_n 0, 1) := by decide +kernel
theorem dJ3_checkIndex_8e157_17 : decode cJ3_checkIndex_8e157 17 = .ok (.ireturn, 1) := by decide +kernel
theorem ok_J3ci : okY "jdk/internal/util/Preconditions" yJ3_checkIndex_8e157 3 := ⟨rfl, by decide, by decide, by decide +kernel⟩
theorem ok_J0ci : okY "java/lang/String" yJ0_checkIndex_df160 2 := ⟨rfl, by decide, by decide, by decide +kernel⟩
theorem ok_J1ca : okY "java/lang/StringLatin1" yJ1_charAt_3b067 2 := ⟨rfl, by decide, by decide, by decide +kernel⟩
theorem ok_J0len : okY "java/lang/String" yJ0_length_8abf5 0 := ⟨rfl, by decide, by decide, by decide +kernel⟩
theorem ok_J0ca : okY "java/lang/String" yJ0_charAt_5068e 1 := ⟨rfl, by decide, by decide, by decide +kernel⟩
theorem ok_J0cod : okY "java/lang/String" yJ0_coder_7d493 0 := ⟨rfl, by decide, by decide, by decide +kernel⟩
theorem ok_J0lat : okY "java/lang/String" yJ0_isLatin1_aae02 0 := ⟨rfl, by decide, by decide, by decide +kernel⟩
def r_J3ci : Room := { frames := 0, cells := 0, slots := 0, locals := 0 }
def r_J0ci : Room := { frames := 1, cells := 0, slots := 0, locals := 22 }
def r_J1ca : Room := { frames := 2, cells := 0, slots := 0, locals := 43 }
def r_J0cod : Room := { frames := 0, cells := 0, slots := 0, locals := 0 }
def r_J0len : Room := { frames := 1, cells := 0, slots := 0, locals := 20 }
def r_J0ca : Room := { frames := 3, cells := 0, slots := 0, locals := 64 }
set_option maxHeartbeats 4000000 in
theorem c_J3ci (l : Launch) (D : va_G) (ev : EvT) (cy : Nat → ClassId) (i m : Int32) (v : Value) (hv : v = .null ∨ ∃ t : Nat, v = .ref t) (h0 : ¬ i < 0) (h1 : i < m) : Fn l yJ3_checkIndex_8e157 cJ3_checkIndex_8e157 3 (some .int) r_J3ci D ev cy [.int i, .int m, v] [] (fun r G => r = some (.int i) ∧ G = []) := by
  have hsl : (lg_sl [.int i, .int m, v]).length ≤ 3 := by rcases hv with rfl | ⟨t, rfl⟩ <;> exact Nat.le_of_ble_eq_true rfl
  refine Fn_of (by decide) hsl (fun X A Q h hQ _ => ?_)
  refine ww_lo [0, 1] (lo' := [(0, .int i), (1, .int m)]) (by rcases hv with rfl | ⟨t, rfl⟩ <;> rfl) ?_
  refine ww_iload_n h dJ3_checkIndex_8e157_0 rfl 0 rfl 1 rfl ?_
  refine ww_if_lt h dJ3_checkIndex_8e157_1 9 (by decide) 4 rfl (fun c => absurd c h0) (fun c => ?_)
  refine ww_iload_n h dJ3_checkIndex_8e157_4 rfl 0 rfl 5 rfl ?_
  refine ww_iload_n h dJ3_checkIndex_8e157_5 rfl 1 rfl 6 rfl ?_
  refine ww_icmp_lt h dJ3_checkIndex_8e157_6 16 (by decide) 9 rfl (fun c => ?_) (fun c => absurd h1 c)
  refine ww_iload_n h dJ3_checkIndex_8e157_16 rfl 0 rfl 17 rfl ?_
  exact ww_iret h dJ3_checkIndex_8e157_17 hQ ⟨rfl, rfl⟩
set_option maxHeartbeats 4000000 in
theorem c_J0ci (l : Launch) (D : va_G) (ev : EvT) (cy : Nat → ClassId) (i m : Int32) (h0 : ¬ i < 0) (h1 : i < m) : Fn l yJ0_checkIndex_df160 cJ0_checkIndex_df160 2 none r_J0ci D ev cy [.int i, .int m] [] (fun r G => r = none ∧ G = []) := by
  refine Fn_of (by decide) (Nat.le_of_ble_eq_true rfl) (fun X A Q h hQ _ => ?_)
  show ww X D A 2 Q 0 0 0 [(0, .int i), (1, .int m)] [] []
  refine ww_iload_n h dJ0_checkIndex_df160_0 rfl 0 rfl 1 rfl ?_
  refine ww_iload_n h dJ0_checkIndex_df160_1 rfl 1 rfl 2 rfl ?_
  have go : ∀ v : Value, (v = .null ∨ ∃ t : Nat, v = .ref t) → ww X D A 2 Q 0 0 5 [(0, .int i), (1, .int m)] [v, .int m, .int i] [] := by
    intro v hv
    refine ww_cSi (As := [.int i, .int m, v]) (st := []) h (c_J3ci l D ev cy i m v hv h0 h1) ⟨w_556, w_554, w_555, w_116, ok_J3ci⟩ ⟨by decide, by decide⟩ ⟨by decide, by decide⟩ ⟨rfl, rfl⟩ [] (Rs := []) rfl rfl (by decide) dJ0_checkIndex_df160_5 8 rfl (Gs' := []) rfl ?_
    refine ww_pop h dJ0_checkIndex_df160_8 rfl 9 rfl ?_
    exact ww_vret h dJ0_checkIndex_df160_9 hQ ⟨rfl, rfl⟩
  exact ww_sio h w_552 dJ0_checkIndex_df160_2 5 rfl (go _ (Or.inl rfl)) (fun t => go _ (Or.inr ⟨t, rfl⟩))
/-- a text's char -/
def sch (w : Nat) (i : Int32) : Int32 := (((bytJ.getD w []).getD i.toNatClampNeg 0 &&& 255).toUInt32 % 65536).toInt32
def sln (w : Nat) : Int32 := Int32.ofNat (lenJ.getD w 0)
theorem len_small : ∀ w, w < 21 → lenJ.getD w 0 < 2 ^ 31 := by decide +kernel
theorem ix_sln {w : Nat} {i : Int32} (hw : w < 21) (h : ix i (lenJ.getD w 0) = true) : ¬ i < 0 ∧ i < sln w := by
  obtain ⟨j, hj, rfl⟩ := vp_in_of (ix_in h) (len_small w hw)
  have := len_small w hw
  exact ⟨nI_pos (by omega), nI_lt hj this⟩
set_option maxHeartbeats 4000000 in
theorem c_J1ca (l : Launch) (D : va_G) (ev : EvT) (cy : Nat → ClassId) (w : Nat) (i : Int32) (hw : w < 21) (hi : ix i (lenJ.getD w 0) = true) : Fn l yJ1_charAt_3b067 cJ1_charAt_3b067 2 (some .char) r_J1ca D ev cy [.ref (ev.2.1 w), .int i] [] (fun r G => r = some (.int (sch w i)) ∧ G = []) := by
  refine Fn_of (by decide) (Nat.le_of_ble_eq_true rfl) (fun X A Q h hQ _ => ?_)
  show ww X D A 2 Q 0 0 0 [(0, .ref (ev.2.1 w)), (1, .int i)] [] []
  refine ww_iload_n h dJ1_charAt_3b067_0 rfl 1 rfl 1 rfl ?_
  refine ww_aload_n h dJ1_charAt_3b067_1 rfl 0 rfl 2 rfl ?_
  refine ww_slen h hw dJ1_charAt_3b067_2 3 rfl ?_
  refine ww_cS (C := "java/lang/String") (As := [.int i, .int (sln w)]) (st := []) none (Cs' := []) h (c_J0ci l D ev cy i (sln w) (ix_sln hw hi).1 (ix_sln hw hi).2) w_551 w_549 w_550 w_114 ok_J0ci ⟨by decide, by decide⟩ ⟨by decide, by decide⟩ [] (Rs := []) rfl rfl (by decide) dJ1_charAt_3b067_3 6 rfl ⟨rfl, rfl⟩ (st' := []) rfl (Gs' := []) rfl ?_
  refine ww_aload_n h dJ1_charAt_3b067_6 rfl 0 rfl 7 rfl ?_
  refine ww_iload_n h dJ1_charAt_3b067_7 rfl 1 rfl 8 rfl ?_
  refine ww_sbyt h hw (ix_in hi) dJ1_charAt_3b067_8 9 rfl ?_
  refine ww_sipush (v := 255) h dJ1_charAt_3b067_9 (by decide) 12 rfl ?_
  refine ww_iand h dJ1_charAt_3b067_12 13 rfl ?_
  refine ww_i2c h dJ1_charAt_3b067_13 14 rfl ?_
  exact ww_cret h (pk_nc _) dJ1_charAt_3b067_14 hQ ⟨rfl, rfl⟩
set_option maxHeartbeats 4000000 in
theorem c_J0cod (l : Launch) (D : va_G) (ev : EvT) (cy : Nat → ClassId) (w : Nat) (hw : w < 21) : Fn l yJ0_coder_7d493 cJ0_coder_7d493 1 (some .byte) r_J0cod D ev cy [.ref (ev.1 w)] [] (fun r G => r = some (.int 0) ∧ G = []) := by
  refine Fn_of (by decide) (Nat.le_of_ble_eq_true rfl) (fun X A Q h hQ _ => ?_)
  show ww X D A 1 Q 0 0 0 [(0, .ref (ev.1 w))] [] []
  refine ww_cs h w_536 dJ0_coder_7d493_0 3 rfl ?_
  refine ww_if_eq h dJ0_coder_7d493_3 13 (by decide) 6 rfl (fun c => absurd c (by decide)) (fun c => ?_)
  refine ww_aload_n h dJ0_coder_7d493_6 rfl 0 rfl 7 rfl ?_
  refine ww_scod h hw w_1776 dJ0_coder_7d493_7 10 rfl ?_
  refine ww_goto h dJ0_coder_7d493_10 14 (by decide) ?_
  exact ww_cret h (by decide) dJ0_coder_7d493_14 hQ ⟨rfl, rfl⟩
set_option maxHeartbeats 4000000 in
theorem c_J0lat (l : Launch) (D : va_G) (ev : EvT) (cy : Nat → ClassId) (w : Nat) (hw : w < 21) : Fn l yJ0_isLatin1_aae02 cJ0_isLatin1_aae02 1 (some .boolean) r_J0cod D ev cy [.ref (ev.1 w)] [] (fun r G => r = some (.int 1) ∧ G = []) := by
  refine Fn_of (by decide) (Nat.le_of_ble_eq_true rfl) (fun X A Q h hQ _ => ?_)
  show ww X D A 1 Q 0 0 0 [(0, .ref (ev.1 w))] [] []
  refine ww_cs h w_536 dJ0_isLatin1_aae02_0 3 rfl ?_
  refine ww_if_eq h dJ0_isLatin1_aae02_3 17 (by decide) 6 rfl (fun c => absurd c (by decide)) (fun c => ?_)
  refine ww_aload_n h dJ0_isLatin1_aae02_6 rfl 0 rfl 7 rfl ?_
  refine ww_scod h hw w_1776 dJ0_isLatin1_aae02_7 10 rfl ?_
  refine ww_if_ne h dJ0_isLatin1_aae02_10 17 (by decide) 13 rfl (fun c => absurd rfl c) (fun c => ?_)
  refine ww_iconst (v := 1) h dJ0_isLatin1_aae02_13 (by decide) 14 rfl ?_
  refine ww_goto h dJ0_isLatin1_aae02_14 18 (by decide) ?_
  exact ww_cret h (by decide) dJ0_isLatin1_aae02_18 hQ ⟨rfl, rfl⟩
set_option maxHeartbeats 4000000 in
theorem c_J0len (l : Launch) (D : va_G) (ev : EvT) (cy : Nat → ClassId) (w : Nat) (hw : w < 21) : Fn l yJ0_length_8abf5 cJ0_length_8abf5 1 (some .int) r_J0len D ev cy [.ref (ev.1 w)] [] (fun r G => r = some (.int (sln w)) ∧ G = []) := by
  refine Fn_of (by decide) (Nat.le_of_ble_eq_true rfl) (fun X A Q h hQ _ => ?_)
  show ww X D A 1 Q 0 0 0 [(0, .ref (ev.1 w))] [] []
  refine ww_aload_n h dJ0_length_8abf5_0 rfl 0 rfl 1 rfl ?_
  refine ww_sval h hw w_1775 dJ0_length_8abf5_1 4 rfl ?_
  refine ww_slen h hw dJ0_length_8abf5_4 5 rfl ?_
  refine ww_aload_n h dJ0_length_8abf5_5 rfl 0 rfl 6 rfl ?_
  refine ww_cT (As := []) (st := [.int (sln w)]) h hw (c_J0cod l D ev cy w hw) ⟨w_535, w_532, w_533, w_534, w_114, ok_J0cod⟩ ⟨by decide, by decide⟩ ⟨by decide, by decide⟩ ⟨rfl, rfl⟩ rfl (Nat.le_of_ble_eq_true rfl) dJ0_length_8abf5_6 9 rfl ?_
  refine ww_ishr h dJ0_length_8abf5_9 10 rfl ?_
  refine ww_st (st' := [.int (sln w)]) (by rw [sb_shr0]) ?_
  exact ww_iret h dJ0_length_8abf5_10 hQ ⟨rfl, rfl⟩
set_option maxHeartbeats 4000000 in
theorem c_J0ca (l : Launch) (D : va_G) (ev : EvT) (cy : Nat → ClassId) (w : Nat) (i : Int32) (hw : w < 21) (hi : ix i (lenJ.getD w 0) = true) : Fn l yJ0_charAt_5068e cJ0_charAt_5068e 2 (some .char) r_J0ca D ev cy [.ref (ev.1 w), .int i] [] (fun r G => r = some (.int (sch w i)) ∧ G = []) := by
  refine Fn_of (by decide) (Nat.le_of_ble_eq_true rfl) (fun X A Q h hQ _ => ?_)
  show ww X D A 2 Q 0 0 0 [(0, .ref (ev.1 w)), (1, .int i)] [] []
  refine ww_aload_n h dJ0_charAt_5068e_0 rfl 0 rfl 1 rfl ?_
  refine ww_cT (As := []) (st := []) h hw (c_J0lat l D ev cy w hw) ⟨w_545, w_542, w_543, w_544, w_114, ok_J0lat⟩ ⟨by decide, by decide⟩ ⟨by decide, by decide⟩ ⟨rfl, rfl⟩ rfl (Nat.le_of_ble_eq_true rfl) dJ0_charAt_5068e_1 4 rfl ?_
  refine ww_if_eq h dJ0_charAt_5068e_4 16 (by decide) 7 rfl (fun c => absurd c (by decide)) (fun c => ?_)
  refine ww_aload_n h dJ0_charAt_5068e_7 rfl 0 rfl 8 rfl ?_
  refine ww_sval h hw w_1775 dJ0_charAt_5068e_8 11 rfl ?_
  refine ww_iload_n h dJ0_charAt_5068e_11 rfl 1 rfl 12 rfl ?_
  refine ww_cSi (As := [.ref (ev.2.1 w), .int i]) (st := []) h (c_J1ca l D ev cy w i hw hi) ⟨w_548, w_546, w_547, w_115, ok_J1ca⟩ ⟨by decide, by decide⟩ ⟨by decide, by decide⟩ ⟨rfl, rfl⟩ [] (Rs := []) rfl rfl (by decide) dJ0_charAt_5068e_12 15 rfl (Gs' := []) rfl ?_
  exact ww_cret h (pk_nc _) dJ0_charAt_5068e_15 hQ ⟨rfl, rfl⟩
