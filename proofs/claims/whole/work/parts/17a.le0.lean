theorem dX9_feed_0 : decode cX9_feed 0 = .ok (.aload_n 0, 1) := by decide +kernel
theorem dX9_feed_1 : decode cX9_feed 1 = .ok (.getfield 14, 3) := by decide +kernel
theorem dX9_feed_4 : decode cX9_feed 4 = .ok (.getfield 85, 3) := by decide +kernel
theorem dX9_feed_7 : decode cX9_feed 7 = .ok (.sipush 480, 3) := by decide +kernel
theorem dX9_feed_10 : decode cX9_feed 10 = .ok (.if_icmp .le 5, 3) := by decide +kernel
theorem dX9_feed_13 : decode cX9_feed 13 = .ok (.iconst (-1), 1) := by decide +kernel
theorem dX9_feed_14 : decode cX9_feed 14 = .ok (.ireturn, 1) := by decide +kernel
theorem dX9_feed_15 : decode cX9_feed 15 = .ok (.aload_n 0, 1) := by decide +kernel
theorem dX9_feed_16 : decode cX9_feed 16 = .ok (.getfield 14, 3) := by decide +kernel
theorem dX9_feed_19 : decode cX9_feed 19 = .ok (.iload_n 1, 1) := by decide +kernel
theorem dX9_feed_20 : decode cX9_feed 20 = .ok (.invokevirtual 89, 3) := by decide +kernel
theorem dX9_feed_23 : decode cX9_feed 23 = .ok (.aload_n 0, 1) := by decide +kernel
theorem dX9_feed_24 : decode cX9_feed 24 = .ok (.getfield 14, 3) := by decide +kernel
theorem dX9_feed_27 : decode cX9_feed 27 = .ok (.iload_n 2, 1) := by decide +kernel
theorem dX9_feed_28 : decode cX9_feed 28 = .ok (.invokevirtual 89, 3) := by decide +kernel
theorem dX9_feed_31 : decode cX9_feed 31 = .ok (.aload_n 0, 1) := by decide +kernel
theorem dX9_feed_32 : decode cX9_feed 32 = .ok (.getfield 14, 3) := by decide +kernel
theorem dX9_feed_35 : decode cX9_feed 35 = .ok (.iload_n 3, 1) := by decide +kernel
theorem dX9_feed_36 : decode cX9_feed 36 = .ok (.invokevirtual 89, 3) := by decide +kernel
theorem dX9_feed_39 : decode cX9_feed 39 = .ok (.aload_n 0, 1) := by decide +kernel
theorem dX9_feed_40 : decode cX9_feed 40 = .ok (.getfield 14, 3) := by decide +kernel
theorem dX9_feed_43 : decode cX9_feed 43 = .ok (.iload 4, 2) := by decide +kernel
theorem dX9_feed_45 : decode cX9_feed 45 = .ok (.invokevirtual 89, 3) := by decide +kernel
theorem dX9_feed_48 : decode cX9_feed 48 = .ok (.aload_n 0, 1) := by decide +kernel
theorem dX9_feed_49 : decode cX9_feed 49 = .ok (.getfield 14, 3) := by decide +kernel
theorem dX9_feed_52 : decode cX9_feed 52 = .ok (.iload 5, 2) := by decide +kernel
theorem dX9_feed_54 : decode cX9_feed 54 = .ok (.invokevirtual 89, 3) := by decide +kernel
theorem dX9_feed_57 : decode cX9_feed 57 = .ok (.aload_n 0, 1) := by decide +kernel
theorem dX9_feed_58 : decode cX9_feed 58 = .ok (.getfield 14, 3) := by decide +kernel
theorem dX9_feed_61 : decode cX9_feed 61 = .ok (.getfield 85, 3) := by decide +kernel
theorem dX9_feed_64 : decode cX9_feed 64 = .ok (.ireturn, 1) := by decide +kernel
theorem ok_X9_feed : okY RX9 yX9_feed 5 := ⟨rfl, by decide, by decide, by decide +kernel⟩
def f_X9_feed (aT : Nat → Nat) (T : OV) (p0 : Int32) (p1 : Int32) (p2 : Int32) (p3 : Int32) (p4 : Int32) : Option (Int32 × OV) := (if (iv T 1) ≤ (480 : Int32) then (f_X0_addFour aT T p0).bind (un1 (fun T_1 => (f_X0_addFour aT T_1 p1).bind (un1 (fun T_3 => (f_X0_addFour aT T_3 p2).bind (un1 (fun T_5 => (f_X0_addFour aT T_5 p3).bind (un1 (fun T_7 => (f_X0_addFour aT T_7 p4).bind (un1 (fun T_9 => some ((iv T_9 1), T_9))))))))))) else some ((-1 : Int32), T))
def r_X9_feed : Room := { frames := 2, cells := 0, slots := 0, locals := 42 }
set_option maxHeartbeats 4000000 in
set_option maxRecDepth 100000 in
theorem c_X9_feed (l : Launch) (D : va_G) (ev : EvT) (cy : Nat → ClassId) (oL : Nat) (aL : Nat → Nat) (L : OV) (aT : Nat → Nat) (T : OV) (p0 : Int32) (p1 : Int32) (p2 : Int32) (p3 : Int32) (p4 : Int32) (o : Int32 × OV) (hf : f_X9_feed aT T p0 p1 p2 p3 p4 = some o) : Fn l yX9_feed cX9_feed 6 (some .int) r_X9_feed D ev cy [.ref oL, .int p0, .int p1, .int p2, .int p3, .int p4] [gX9 cy oL aL L, gX0 cy (aL 0) aT T] (fun v G => v = some (.int o.1) ∧ G = [gX9 cy oL aL L, gX0 cy (aL 0) aT o.2]) := by
  refine Fn_of (by decide) (Nat.le_of_ble_eq_true rfl) (fun X A Q h hQ _ => ?_)
  unfold f_X9_feed at hf
  show ww X D A 6 Q 0 0 0 [(0, .ref oL), (1, .int p0), (2, .int p1), (3, .int p2), (4, .int p3), (5, .int p4)] [] [gX9 cy oL aL L, gX0 cy (aL 0) aT T]
  refine ww_aload_n h dX9_feed_0 rfl 0 rfl 1 rfl ?_
  refine ww_get h inG9 rfl 0 rfl rfl 0 (by decide) w_413 rfl dX9_feed_1 4 rfl ?_
  refine ww_get h inG0 rfl 1 rfl rfl 1 (by decide) w_141 rfl dX9_feed_4 7 rfl ?_
  refine ww_sipush (v := 480) h dX9_feed_7 (by decide) 10 rfl ?_
  refine ww_icmp_le h dX9_feed_10 15 (by decide) 13 rfl (fun c => ?_) (fun c => ?_)
  · replace hf := ite_t c hf
    refine ww_aload_n h dX9_feed_15 rfl 0 rfl 16 rfl ?_
    refine ww_get h inG9 rfl 0 rfl rfl 0 (by decide) w_413 rfl dX9_feed_16 19 rfl ?_
    refine ww_iload_n h dX9_feed_19 rfl 1 rfl 20 rfl ?_
    obtain ⟨T_1, hu2, hf⟩ := ob1 hf
    refine ww_cVv h (c_X0_addFour l D ev cy (aL 0) aT T p0 _ hu2) ⟨w_460, w_457, w_458, w_459, w_102, ok_X0_addFour⟩ ⟨by decide, by decide⟩ ⟨by decide, by decide⟩ ⟨rfl, rfl⟩ [1] rfl 0 rfl rfl rfl rfl (Nat.le_of_ble_eq_true rfl) dX9_feed_20 23 rfl (Gs' := [gX0 cy (aL 0) aT T_1, gX9 cy oL aL L]) rfl ?_
    clear hu2
    refine ww_aload_n h dX9_feed_23 rfl 0 rfl 24 rfl ?_
    refine ww_get h inG9 rfl 1 rfl rfl 0 (by decide) w_413 rfl dX9_feed_24 27 rfl ?_
    refine ww_iload_n h dX9_feed_27 rfl 2 rfl 28 rfl ?_
    obtain ⟨T_3, hu4, hf⟩ := ob1 hf
    refine ww_cVv h (c_X0_addFour l D ev cy (aL 0) aT T_1 p1 _ hu4) ⟨w_460, w_457, w_458, w_459, w_102, ok_X0_addFour⟩ ⟨by decide, by decide⟩ ⟨by decide, by decide⟩ ⟨rfl, rfl⟩ [0] rfl 0 rfl rfl rfl rfl (Nat.le_of_ble_eq_true rfl) dX9_feed_28 31 rfl (Gs' := [gX0 cy (aL 0) aT T_3, gX9 cy oL aL L]) rfl ?_
    clear hu4
    refine ww_aload_n h dX9_feed_31 rfl 0 rfl 32 rfl ?_
    refine ww_get h inG9 rfl 1 rfl rfl 0 (by decide) w_413 rfl dX9_feed_32 35 rfl ?_
    refine ww_iload_n h dX9_feed_35 rfl 3 rfl 36 rfl ?_
    obtain ⟨T_5, hu6, hf⟩ := ob1 hf
    refine ww_cVv h (c_X0_addFour l D ev cy (aL 0) aT T_3 p2 _ hu6) ⟨w_460, w_457, w_458, w_459, w_102, ok_X0_addFour⟩ ⟨by decide, by decide⟩ ⟨by decide, by decide⟩ ⟨rfl, rfl⟩ [0] rfl 0 rfl rfl rfl rfl (Nat.le_of_ble_eq_true rfl) dX9_feed_36 39 rfl (Gs' := [gX0 cy (aL 0) aT T_5, gX9 cy oL aL L]) rfl ?_
    clear hu6
    refine ww_aload_n h dX9_feed_39 rfl 0 rfl 40 rfl ?_
    refine ww_get h inG9 rfl 1 rfl rfl 0 (by decide) w_413 rfl dX9_feed_40 43 rfl ?_
    refine ww_iload h dX9_feed_43 4 rfl 45 rfl ?_
    obtain ⟨T_7, hu8, hf⟩ := ob1 hf
    refine ww_cVv h (c_X0_addFour l D ev cy (aL 0) aT T_5 p3 _ hu8) ⟨w_460, w_457, w_458, w_459, w_102, ok_X0_addFour⟩ ⟨by decide, by decide⟩ ⟨by decide, by decide⟩ ⟨rfl, rfl⟩ [0] rfl 0 rfl rfl rfl rfl (Nat.le_of_ble_eq_true rfl) dX9_feed_45 48 rfl (Gs' := [gX0 cy (aL 0) aT T_7, gX9 cy oL aL L]) rfl ?_
    clear hu8
    refine ww_aload_n h dX9_feed_48 rfl 0 rfl 49 rfl ?_
    refine ww_get h inG9 rfl 1 rfl rfl 0 (by decide) w_413 rfl dX9_feed_49 52 rfl ?_
    refine ww_iload h dX9_feed_52 5 rfl 54 rfl ?_
    obtain ⟨T_9, hu10, hf⟩ := ob1 hf
    refine ww_cVv h (c_X0_addFour l D ev cy (aL 0) aT T_7 p4 _ hu10) ⟨w_460, w_457, w_458, w_459, w_102, ok_X0_addFour⟩ ⟨by decide, by decide⟩ ⟨by decide, by decide⟩ ⟨rfl, rfl⟩ [0] rfl 0 rfl rfl rfl rfl (Nat.le_of_ble_eq_true rfl) dX9_feed_54 57 rfl (Gs' := [gX0 cy (aL 0) aT T_9, gX9 cy oL aL L]) rfl ?_
    clear hu10
    refine ww_aload_n h dX9_feed_57 rfl 0 rfl 58 rfl ?_
    refine ww_get h inG9 rfl 1 rfl rfl 0 (by decide) w_413 rfl dX9_feed_58 61 rfl ?_
    refine ww_get h inG0 rfl 0 rfl rfl 1 (by decide) w_141 rfl dX9_feed_61 64 rfl ?_
    refine ww_perm [1, 0] (Gs' := [gX9 cy oL aL L, gX0 cy (aL 0) aT T_9]) rfl ?_
    obtain rfl := Option.some.inj hf
    exact ww_iret h dX9_feed_64 hQ ⟨rfl, rfl⟩
  · replace hf := ite_f c hf
    refine ww_iconst (v := (-1)) h dX9_feed_13 (by decide) 14 rfl ?_
    obtain rfl := Option.some.inj hf
    exact ww_iret h dX9_feed_14 hQ ⟨rfl, rfl⟩
theorem dX9_back_0 : decode cX9_back 0 = .ok (.iload_n 1, 1) := by decide +kernel
theorem dX9_back_1 : decode cX9_back 1 = .ok (.ifCond .lt 14, 3) := by decide +kernel
theorem dX9_back_4 : decode cX9_back 4 = .ok (.iload_n 1, 1) := by decide +kernel
theorem dX9_back_5 : decode cX9_back 5 = .ok (.aload_n 0, 1) := by decide +kernel
theorem dX9_back_6 : decode cX9_back 6 = .ok (.getfield 14, 3) := by decide +kernel
theorem dX9_back_9 : decode cX9_back 9 = .ok (.getfield 85, 3) := by decide +kernel
theorem dX9_back_12 : decode cX9_back 12 = .ok (.if_icmp .le 5, 3) := by decide +kernel
theorem dX9_back_15 : decode cX9_back 15 = .ok (.iconst (-1), 1) := by decide +kernel
theorem dX9_back_16 : decode cX9_back 16 = .ok (.ireturn, 1) := by decide +kernel
theorem dX9_back_17 : decode cX9_back 17 = .ok (.aload_n 0, 1) := by decide +kernel
theorem dX9_back_18 : decode cX9_back 18 = .ok (.getfield 14, 3) := by decide +kernel
theorem dX9_back_21 : decode cX9_back 21 = .ok (.dup, 1) := by decide +kernel
theorem dX9_back_22 : decode cX9_back 22 = .ok (.getfield 85, 3) := by decide +kernel
theorem dX9_back_25 : decode cX9_back 25 = .ok (.iload_n 1, 1) := by decide +kernel
theorem dX9_back_26 : decode cX9_back 26 = .ok (.isub, 1) := by decide +kernel
theorem dX9_back_27 : decode cX9_back 27 = .ok (.putfield 85, 3) := by decide +kernel
theorem dX9_back_30 : decode cX9_back 30 = .ok (.aload_n 0, 1) := by decide +kernel
theorem dX9_back_31 : decode cX9_back 31 = .ok (.getfield 14, 3) := by decide +kernel
theorem dX9_back_34 : decode cX9_back 34 = .ok (.getfield 85, 3) := by decide +kernel
theorem dX9_back_37 : decode cX9_back 37 = .ok (.ireturn, 1) := by decide +kernel
theorem ok_X9_back : okY RX9 yX9_back 1 := ⟨rfl, by decide, by decide, by decide +kernel⟩
def f_X9_back (T : OV) (p0 : Int32) : Option (Int32 × OV) := (if p0 < 0 then some ((-1 : Int32), T) else (if p0 ≤ (iv T 1) then bnd (sI T 1 ((iv T 1) - p0)) (fun T_1 => some ((iv T_1 1), T_1)) else some ((-1 : Int32), T)))
def r_X9_back : Room := { frames := 0, cells := 0, slots := 0, locals := 0 }
set_option maxHeartbeats 4000000 in
set_option maxRecDepth 100000 in
theorem c_X9_back (l : Launch) (D : va_G) (ev : EvT) (cy : Nat → ClassId) (oL : Nat) (aL : Nat → Nat) (L : OV) (aT : Nat → Nat) (T : OV) (p0 : Int32) (o : Int32 × OV) (hf : f_X9_back T p0 = some o) : Fn l yX9_back cX9_back 2 (some .int) r_X9_back D ev cy [.ref oL, .int p0] [gX9 cy oL aL L, gX0 cy (aL 0) aT T] (fun v G => v = some (.int o.1) ∧ G = [gX9 cy oL aL L, gX0 cy (aL 0) aT o.2]) := by
  refine Fn_of (by decide) (Nat.le_of_ble_eq_true rfl) (fun X A Q h hQ _ => ?_)
  unfold f_X9_back at hf
  show ww X D A 2 Q 0 0 0 [(0, .ref oL), (1, .int p0)] [] [gX9 cy oL aL L, gX0 cy (aL 0) aT T]
  refine ww_iload_n h dX9_back_0 rfl 1 rfl 1 rfl ?_
  refine ww_if_lt h dX9_back_1 15 (by decide) 4 rfl (fun c => ?_) (fun c => ?_)
  · replace hf := ite_t c hf
    refine ww_iconst (v := (-1)) h dX9_back_15 (by decide) 16 rfl ?_
    obtain rfl := Option.some.inj hf
    exact ww_iret h dX9_back_16 hQ ⟨rfl, rfl⟩
  · replace hf := ite_f c hf
    refine ww_iload_n h dX9_back_4 rfl 1 rfl 5 rfl ?_
    refine ww_aload_n h dX9_back_5 rfl 0 rfl 6 rfl ?_
    refine ww_get h inG9 rfl 0 rfl rfl 0 (by decide) w_413 rfl dX9_back_6 9 rfl ?_
    refine ww_get h inG0 rfl 1 rfl rfl 1 (by decide) w_141 rfl dX9_back_9 12 rfl ?_
    refine ww_icmp_le h dX9_back_12 17 (by decide) 15 rfl (fun c => ?_) (fun c => ?_)
    · replace hf := ite_t c hf
      refine ww_aload_n h dX9_back_17 rfl 0 rfl 18 rfl ?_
      refine ww_get h inG9 rfl 0 rfl rfl 0 (by decide) w_413 rfl dX9_back_18 21 rfl ?_
      refine ww_dup h dX9_back_21 rfl 22 rfl ?_
      refine ww_get h inG0 rfl 1 rfl rfl 1 (by decide) w_141 rfl dX9_back_22 25 rfl ?_
      refine ww_iload_n h dX9_back_25 rfl 1 rfl 26 rfl ?_
      refine ww_isub h dX9_back_26 27 rfl ?_
      refine ww_put (ty := .int) h inG0 tyX0_ok nmX0 rfl 1 rfl rfl 1 (by decide) w_141 rfl (by decide +kernel) rfl rfl (Nat.le_of_ble_eq_true rfl) (Nat.le_of_ble_eq_true rfl) dX9_back_27 30 rfl ?_
      refine ww_nm (fun z => [gX9 cy oL aL L, gX0 cy (aL 0) aT z]) (sI T 1 ((iv T 1) - p0)) (fun T_1 e => ?_)
      replace hf := bnd_at e hf
      clear e
      refine ww_aload_n h dX9_back_30 rfl 0 rfl 31 rfl ?_
      refine ww_get h inG9 rfl 0 rfl rfl 0 (by decide) w_413 rfl dX9_back_31 34 rfl ?_
      refine ww_get h inG0 rfl 1 rfl rfl 1 (by decide) w_141 rfl dX9_back_34 37 rfl ?_
      obtain rfl := Option.some.inj hf
      exact ww_iret h dX9_back_37 hQ ⟨rfl, rfl⟩
    · replace hf := ite_f c hf
      refine ww_iconst (v := (-1)) h dX9_back_15 (by decide) 16 rfl ?_
      obtain rfl := Option.some.inj hf
      exact ww_iret h dX9_back_16 hQ ⟨rfl, rfl⟩
theorem dX9_paragraphFault_0 : decode cX9_paragraphFault 0 = .ok (.iconst 0, 1) := by decide +kernel
theorem dX9_paragraphFault_1 : decode cX9_paragraphFault 1 = .ok (.istore_n 1, 1) := by decide +kernel
theorem dX9_paragraphFault_2 : decode cX9_paragraphFault 2 = .ok (.iconst 0, 1) := by decide +kernel
theorem dX9_paragraphFault_3 : decode cX9_paragraphFault 3 = .ok (.istore_n 2, 1) := by decide +kernel
theorem dX9_paragraphFault_4 : decode cX9_paragraphFault 4 = .ok (.iload_n 2, 1) := by decide +kernel
theorem dX9_paragraphFault_5 : decode cX9_paragraphFault 5 = .ok (.aload_n 0, 1) := by decide +kernel
theorem dX9_paragraphFault_6 : decode cX9_paragraphFault 6 = .ok (.getfield 14, 3) := by decide +kernel
theorem dX9_paragraphFault_9 : decode cX9_paragraphFault 9 = .ok (.getfield 85, 3) := by decide +kernel
theorem dX9_paragraphFault_12 : decode cX9_paragraphFault 12 = .ok (.if_icmp .ge 56, 3) := by decide +kernel
theorem dX9_paragraphFault_15 : decode cX9_paragraphFault 15 = .ok (.aload_n 0, 1) := by decide +kernel
theorem dX9_paragraphFault_16 : decode cX9_paragraphFault 16 = .ok (.getfield 14, 3) := by decide +kernel
theorem dX9_paragraphFault_19 : decode cX9_paragraphFault 19 = .ok (.getfield 118, 3) := by decide +kernel
theorem dX9_paragraphFault_22 : decode cX9_paragraphFault 22 = .ok (.iload_n 2, 1) := by decide +kernel
theorem dX9_paragraphFault_23 : decode cX9_paragraphFault 23 = .ok (.iaload, 1) := by decide +kernel
theorem dX9_paragraphFault_24 : decode cX9_paragraphFault 24 = .ok (.bipush 32, 2) := by decide +kernel
theorem dX9_paragraphFault_26 : decode cX9_paragraphFault 26 = .ok (.if_icmp .eq 36, 3) := by decide +kernel
theorem dX9_paragraphFault_29 : decode cX9_paragraphFault 29 = .ok (.aload_n 0, 1) := by decide +kernel
theorem dX9_paragraphFault_30 : decode cX9_paragraphFault 30 = .ok (.getfield 24, 3) := by decide +kernel
theorem dX9_paragraphFault_33 : decode cX9_paragraphFault 33 = .ok (.aload_n 0, 1) := by decide +kernel
theorem dX9_paragraphFault_34 : decode cX9_paragraphFault 34 = .ok (.getfield 14, 3) := by decide +kernel
theorem dX9_paragraphFault_37 : decode cX9_paragraphFault 37 = .ok (.getfield 118, 3) := by decide +kernel
theorem dX9_paragraphFault_40 : decode cX9_paragraphFault 40 = .ok (.iload_n 2, 1) := by decide +kernel
theorem dX9_paragraphFault_41 : decode cX9_paragraphFault 41 = .ok (.iaload, 1) := by decide +kernel
theorem dX9_paragraphFault_42 : decode cX9_paragraphFault 42 = .ok (.bipush 97, 2) := by decide +kernel
theorem dX9_paragraphFault_44 : decode cX9_paragraphFault 44 = .ok (.isub, 1) := by decide +kernel
theorem dX9_paragraphFault_45 : decode cX9_paragraphFault 45 = .ok (.invokevirtual 126, 3) := by decide +kernel
theorem dX9_paragraphFault_48 : decode cX9_paragraphFault 48 = .ok (.ifCond .eq 9, 3) := by decide +kernel
theorem dX9_paragraphFault_51 : decode cX9_paragraphFault 51 = .ok (.iload_n 1, 1) := by decide +kernel
theorem dX9_paragraphFault_52 : decode cX9_paragraphFault 52 = .ok (.bipush 40, 2) := by decide +kernel
theorem dX9_paragraphFault_54 : decode cX9_paragraphFault 54 = .ok (.if_icmp .ne 5, 3) := by decide +kernel
theorem dX9_paragraphFault_57 : decode cX9_paragraphFault 57 = .ok (.iload_n 2, 1) := by decide +kernel
theorem dX9_paragraphFault_58 : decode cX9_paragraphFault 58 = .ok (.ireturn, 1) := by decide +kernel
theorem dX9_paragraphFault_59 : decode cX9_paragraphFault 59 = .ok (.iinc 1 1, 3) := by decide +kernel
theorem dX9_paragraphFault_62 : decode cX9_paragraphFault 62 = .ok (.iinc 2 1, 3) := by decide +kernel
theorem dX9_paragraphFault_65 : decode cX9_paragraphFault 65 = .ok (.goto (-61), 3) := by decide +kernel
theorem dX9_paragraphFault_68 : decode cX9_paragraphFault 68 = .ok (.iconst (-1), 1) := by decide +kernel
theorem dX9_paragraphFault_69 : decode cX9_paragraphFault 69 = .ok (.ireturn, 1) := by decide +kernel
theorem ok_X9_paragraphFault : okY RX9 yX9_paragraphFault 0 := ⟨rfl, by decide, by decide, by decide +kernel⟩
def j_X9_paragraphFault_62_7 (v2_5 : Int32) (v1_6 : Int32) : Option ((Int32 × Int32) ⊕ ((Unit) ⊕ (Int32))) := bnd (v2_5 + 1) (fun v2_8 => some (.inl (v1_6, v2_8)))
def s_X9_paragraphFault_4_3 (oC : Nat) (aT : Nat → Nat) (L : OV) (T : OV) (C : OV) : (Int32 × Int32) → Option ((Int32 × Int32) ⊕ ((Unit) ⊕ (Int32))) := un2 (fun v1_4 v2_5 => (if (iv T 1) ≤ v2_5 then some (.inr (.inl ())) else gd (ix v2_5 (aT 98)) ((if (ar T 0 v2_5.toNatClampNeg) = (32 : Int32) then j_X9_paragraphFault_62_7 v2_5 v1_4 else gd (decide (nv L 10 = oC)) (gd (ix v2_5 (aT 98)) ((f_X1_has C ((ar T 0 v2_5.toNatClampNeg) - (97 : Int32))).bind (un1 (fun r_9 => (if r_9 = 0 then some (.inr (.inr v2_5)) else (if v1_4 = (40 : Int32) then some (.inr (.inr v2_5)) else bnd (v1_4 + 1) (fun v1_11 => j_X9_paragraphFault_62_7 v2_5 v1_11)))))))))))
def f_X9_paragraphFault (L : OV) (aT : Nat → Nat) (T : OV) (oC : Nat) (C : OV) : Option (Int32) := bnd (0 : Int32) (fun v1_1 => bnd (0 : Int32) (fun v2_2 => ((lp (s_X9_paragraphFault_4_3 oC aT L T C) 5000 (v1_1, v2_2)).bind (Sum.elim (un1 (fun (_u : Unit) => some (-1 : Int32))) (fun r => some r)))))
def r_X9_paragraphFault : Room := { frames := 1, cells := 0, slots := 0, locals := 21 }
set_option maxHeartbeats 4000000 in
set_option maxRecDepth 100000 in
theorem c_X9_paragraphFault (l : Launch) (D : va_G) (ev : EvT) (cy : Nat → ClassId) (oL : Nat) (aL : Nat → Nat) (L : OV) (aT : Nat → Nat) (T : OV) (oC : Nat) (aC : Nat → Nat) (C : OV) (o : Int32) (hf : f_X9_paragraphFault L aT T oC C = some o) : Fn l yX9_paragraphFault cX9_paragraphFault 3 (some .int) r_X9_paragraphFault D ev cy [.ref oL] [gX9 cy oL aL L, gX0 cy (aL 0) aT T, gX1 cy oC aC C] (fun v G => v = some (.int o) ∧ G = [gX9 cy oL aL L, gX0 cy (aL 0) aT T, gX1 cy oC aC C]) := by
  refine Fn_of (by decide) (Nat.le_of_ble_eq_true rfl) (fun X A Q h hQ _ => ?_)
  unfold f_X9_paragraphFault at hf
  show ww X D A 3 Q 0 0 0 [(0, .ref oL)] [] [gX9 cy oL aL L, gX0 cy (aL 0) aT T, gX1 cy oC aC C]
  refine ww_iconst (v := 0) h dX9_paragraphFault_0 (by decide) 1 rfl ?_
  refine ww_ist_n h dX9_paragraphFault_1 rfl (by decide) (fun v1_1 => [(1, .int v1_1), (0, .ref oL)]) (fun _ => rfl) 2 rfl (fun v1_1 e => ?_)
  replace hf := bnd_at e hf
  clear e
  refine ww_iconst (v := 0) h dX9_paragraphFault_2 (by decide) 3 rfl ?_
  refine ww_ist_n h dX9_paragraphFault_3 rfl (by decide) (fun v2_2 => [(2, .int v2_2), (1, .int v1_1), (0, .ref oL)]) (fun _ => rfl) 4 rfl (fun v2_2 e => ?_)
  replace hf := bnd_at e hf
  clear e
  refine ww_lo [2, 1, 0] (lo' := [(0, .ref oL), (1, .int v1_1), (2, .int v2_2)]) rfl ?_
  obtain ⟨x3, h3, hf⟩ := ob_some hf
  refine lp_walk (un2 (fun v1_4 v2_5 => ww X D A 3 Q 0 0 4 [(0, .ref oL), (1, .int v1_4), (2, .int v2_5)] [] [gX9 cy oL aL L, gX0 cy (aL 0) aT T, gX1 cy oC aC C])) (Sum.elim (un1 (fun (_u : Unit) => ww X D A 3 Q 0 0 68 [] [] [gX9 cy oL aL L, gX0 cy (aL 0) aT T, gX1 cy oC aC C])) (fun r => r = o)) ?_ _ _ _ h3 ?_
  · clear h3 hf
    intro s3 o3 hf hI3 hE3
    obtain ⟨v1_4, v2_5⟩ := s3
    unfold s_X9_paragraphFault_4_3 at hf
    replace hf := un2_e hf
    show ww X D A 3 Q 0 0 4 [(0, .ref oL), (1, .int v1_4), (2, .int v2_5)] [] [gX9 cy oL aL L, gX0 cy (aL 0) aT T, gX1 cy oC aC C]
    refine ww_iload_n h dX9_paragraphFault_4 rfl 2 rfl 5 rfl ?_
    refine ww_aload_n h dX9_paragraphFault_5 rfl 0 rfl 6 rfl ?_
    refine ww_get h inG9 rfl 0 rfl rfl 0 (by decide) w_413 rfl dX9_paragraphFault_6 9 rfl ?_
    refine ww_get h inG0 rfl 1 rfl rfl 1 (by decide) w_141 rfl dX9_paragraphFault_9 12 rfl ?_
    refine ww_icmp_ge h dX9_paragraphFault_12 68 (by decide) 15 rfl (fun c => ?_) (fun c => ?_)
    · replace hf := ite_t c hf
      refine ww_lo [] (lo' := []) rfl ?_
      exact hE3 (.inl ()) (Option.some.inj hf).symm
    · replace hf := ite_f c hf
      refine ww_aload_n h dX9_paragraphFault_15 rfl 0 rfl 16 rfl ?_
      refine ww_get h inG9 rfl 0 rfl rfl 0 (by decide) w_413 rfl dX9_paragraphFault_16 19 rfl ?_
      refine ww_get h inG0 rfl 1 rfl rfl 0 (by decide) w_137 rfl dX9_paragraphFault_19 22 rfl ?_
      refine ww_iload_n h dX9_paragraphFault_22 rfl 2 rfl 23 rfl ?_
      have hi := (gd_some hf).1
      replace hf := (gd_some hf).2
      refine ww_iald h 1 rfl 1 rfl (ix_in hi) dX9_paragraphFault_23 24 rfl ?_
      clear hi
      refine ww_bipush (v := 32) h dX9_paragraphFault_24 (by decide) 26 rfl ?_
      have hJ62_7 : ∀ (v1_6 : Int32), j_X9_paragraphFault_62_7 v2_5 v1_6 = some o3 → ww X D A 3 Q 0 0 62 [(0, .ref oL), (1, .int v1_6), (2, .int v2_5)] [] [gX9 cy oL aL L, gX0 cy (aL 0) aT T, gX1 cy oC aC C] := by
        intro v1_6 hf
        unfold j_X9_paragraphFault_62_7 at hf
        refine ww_inc (c := 1) h dX9_paragraphFault_62 2 rfl (by decide) (by decide) (fun v2_8 => [(2, .int v2_8), (0, .ref oL), (1, .int v1_6)]) (fun _ => rfl) 65 rfl (fun v2_8 e => ?_)
        replace hf := bnd_at e hf
        clear e
        refine ww_goto h dX9_paragraphFault_65 4 (by decide) ?_
        refine ww_lo [1, 2, 0] (lo' := [(0, .ref oL), (1, .int v1_6), (2, .int v2_8)]) rfl ?_
        exact hI3 (v1_6, v2_8) (Option.some.inj hf).symm
      refine ww_icmp_eq h dX9_paragraphFault_26 62 (by decide) 29 rfl (fun c => ?_) (fun c => ?_)
      · replace hf := ite_t c hf
        exact hJ62_7 v1_4 hf
      · replace hf := ite_f c hf
        refine ww_aload_n h dX9_paragraphFault_29 rfl 0 rfl 30 rfl ?_
        refine ww_get h inG9 rfl 0 rfl rfl 10 (by decide) w_423 rfl dX9_paragraphFault_30 33 rfl ?_
        have hi := (gd_some hf).1
        replace hf := (gd_some hf).2
        refine ww_ref hi ?_
        clear hi
        refine ww_aload_n h dX9_paragraphFault_33 rfl 0 rfl 34 rfl ?_
        refine ww_get h inG9 rfl 0 rfl rfl 0 (by decide) w_413 rfl dX9_paragraphFault_34 37 rfl ?_
        refine ww_get h inG0 rfl 1 rfl rfl 0 (by decide) w_137 rfl dX9_paragraphFault_37 40 rfl ?_
        refine ww_iload_n h dX9_paragraphFault_40 rfl 2 rfl 41 rfl ?_
        have hi := (gd_some hf).1
        replace hf := (gd_some hf).2
        refine ww_iald h 1 rfl 1 rfl (ix_in hi) dX9_paragraphFault_41 42 rfl ?_
        clear hi
        refine ww_bipush (v := 97) h dX9_paragraphFault_42 (by decide) 44 rfl ?_
        refine ww_isub h dX9_paragraphFault_44 45 rfl ?_
        obtain ⟨r_9, hu10, hf⟩ := ob1 hf
        refine ww_cVi h (c_X1_has l D ev cy oC aC C ((ar T 0 v2_5.toNatClampNeg) - (97 : Int32)) _ hu10) ⟨w_591, w_661, w_589, w_590, w_104, ok_X1_has⟩ ⟨by decide, by decide⟩ ⟨by decide, by decide⟩ ⟨rfl, rfl⟩ [2] rfl 0 rfl rfl rfl rfl (Nat.le_of_ble_eq_true rfl) dX9_paragraphFault_45 48 rfl (Gs' := [gX1 cy oC aC C, gX9 cy oL aL L, gX0 cy (aL 0) aT T]) rfl ?_
        clear hu10
        refine ww_if_eq h dX9_paragraphFault_48 57 (by decide) 51 rfl (fun c => ?_) (fun c => ?_)
        · replace hf := ite_t c hf
          refine ww_iload_n h dX9_paragraphFault_57 rfl 2 rfl 58 rfl ?_
          refine ww_perm [1, 1, 0] (Gs' := [gX9 cy oL aL L, gX0 cy (aL 0) aT T, gX1 cy oC aC C]) rfl ?_
          obtain rfl := hE3 (.inr v2_5) (Option.some.inj hf).symm
          exact ww_iret h dX9_paragraphFault_58 hQ ⟨rfl, rfl⟩
        · replace hf := ite_f c hf
          refine ww_iload_n h dX9_paragraphFault_51 rfl 1 rfl 52 rfl ?_
          refine ww_bipush (v := 40) h dX9_paragraphFault_52 (by decide) 54 rfl ?_
          refine ww_icmp_ne h dX9_paragraphFault_54 59 (by decide) 57 rfl (fun c => ?_) (fun c => ?_)
          · replace hf := ite_f c hf
            refine ww_inc (c := 1) h dX9_paragraphFault_59 1 rfl (by decide) (by decide) (fun v1_11 => [(1, .int v1_11), (0, .ref oL), (2, .int v2_5)]) (fun _ => rfl) 62 rfl (fun v1_11 e => ?_)
            replace hf := bnd_at e hf
            clear e
            refine ww_lo [1, 0, 2] (lo' := [(0, .ref oL), (1, .int v1_11), (2, .int v2_5)]) rfl ?_
            refine ww_perm [1, 1, 0] (Gs' := [gX9 cy oL aL L, gX0 cy (aL 0) aT T, gX1 cy oC aC C]) rfl ?_
            exact hJ62_7 v1_11 hf
          · replace hf := ite_t c hf
            refine ww_iload_n h dX9_paragraphFault_57 rfl 2 rfl 58 rfl ?_
            refine ww_perm [1, 1, 0] (Gs' := [gX9 cy oL aL L, gX0 cy (aL 0) aT T, gX1 cy oC aC C]) rfl ?_
            obtain rfl := hE3 (.inr v2_5) (Option.some.inj hf).symm
            exact ww_iret h dX9_paragraphFault_58 hQ ⟨rfl, rfl⟩
  · clear h3
    rcases x3 with x3 | x3
    · replace hf := sel_l hf
      obtain ⟨_u, rfl⟩ : ∃ z, z = x3 := ⟨_, rfl⟩
      replace hf := un1_e hf
      show ww X D A 3 Q 0 0 68 [] [] [gX9 cy oL aL L, gX0 cy (aL 0) aT T, gX1 cy oC aC C]
      refine ww_iconst (v := (-1)) h dX9_paragraphFault_68 (by decide) 69 rfl ?_
      obtain rfl := Option.some.inj hf
      exact ww_iret h dX9_paragraphFault_69 hQ ⟨rfl, rfl⟩
    · replace hf := sel_r hf
      exact Option.some.inj hf
theorem dX9_of_0 : decode cX9_of 0 = .ok (.aload_n 0, 1) := by decide +kernel
theorem dX9_of_1 : decode cX9_of 1 = .ok (.getfield 24, 3) := by decide +kernel
theorem dX9_of_4 : decode cX9_of 4 = .ok (.iload_n 1, 1) := by decide +kernel
theorem dX9_of_5 : decode cX9_of 5 = .ok (.invokevirtual 126, 3) := by decide +kernel
theorem dX9_of_8 : decode cX9_of 8 = .ok (.ifCond .ne 5, 3) := by decide +kernel
theorem dX9_of_11 : decode cX9_of 11 = .ok (.iconst (-1), 1) := by decide +kernel
theorem dX9_of_12 : decode cX9_of 12 = .ok (.ireturn, 1) := by decide +kernel
theorem dX9_of_13 : decode cX9_of 13 = .ok (.iload_n 2, 1) := by decide +kernel
theorem dX9_of_14 : decode cX9_of 14 = .ok (.iconst 1, 1) := by decide +kernel
theorem dX9_of_15 : decode cX9_of 15 = .ok (.if_icmp .ne 15, 3) := by decide +kernel
theorem dX9_of_18 : decode cX9_of 18 = .ok (.aload_n 0, 1) := by decide +kernel
theorem dX9_of_19 : decode cX9_of 19 = .ok (.getfield 34, 3) := by decide +kernel
theorem dX9_of_22 : decode cX9_of 22 = .ok (.getfield 184, 3) := by decide +kernel
theorem dX9_of_25 : decode cX9_of 25 = .ok (.iload_n 1, 1) := by decide +kernel
theorem dX9_of_26 : decode cX9_of 26 = .ok (.invokestatic 180, 3) := by decide +kernel
theorem dX9_of_29 : decode cX9_of 29 = .ok (.ireturn, 1) := by decide +kernel
theorem dX9_of_30 : decode cX9_of 30 = .ok (.iload_n 2, 1) := by decide +kernel
theorem dX9_of_31 : decode cX9_of 31 = .ok (.iconst 2, 1) := by decide +kernel
theorem dX9_of_32 : decode cX9_of 32 = .ok (.if_icmp .ne 15, 3) := by decide +kernel
theorem dX9_of_35 : decode cX9_of 35 = .ok (.aload_n 0, 1) := by decide +kernel
theorem dX9_of_36 : decode cX9_of 36 = .ok (.getfield 34, 3) := by decide +kernel
theorem dX9_of_39 : decode cX9_of 39 = .ok (.getfield 177, 3) := by decide +kernel
theorem dX9_of_42 : decode cX9_of 42 = .ok (.iload_n 1, 1) := by decide +kernel
theorem dX9_of_43 : decode cX9_of 43 = .ok (.invokestatic 180, 3) := by decide +kernel
theorem dX9_of_46 : decode cX9_of 46 = .ok (.ireturn, 1) := by decide +kernel
theorem dX9_of_47 : decode cX9_of 47 = .ok (.iload_n 2, 1) := by decide +kernel
theorem dX9_of_48 : decode cX9_of 48 = .ok (.bipush 9, 2) := by decide +kernel
theorem dX9_of_50 : decode cX9_of 50 = .ok (.if_icmp .ne 12, 3) := by decide +kernel
theorem dX9_of_53 : decode cX9_of 53 = .ok (.aload_n 0, 1) := by decide +kernel
theorem dX9_of_54 : decode cX9_of 54 = .ok (.getfield 34, 3) := by decide +kernel
theorem dX9_of_57 : decode cX9_of 57 = .ok (.iload_n 1, 1) := by decide +kernel
theorem dX9_of_58 : decode cX9_of 58 = .ok (.invokevirtual 152, 3) := by decide +kernel
theorem dX9_of_61 : decode cX9_of 61 = .ok (.ireturn, 1) := by decide +kernel
theorem dX9_of_62 : decode cX9_of 62 = .ok (.iload_n 2, 1) := by decide +kernel
theorem dX9_of_63 : decode cX9_of 63 = .ok (.ifCond .lt 23, 3) := by decide +kernel
theorem dX9_of_66 : decode cX9_of 66 = .ok (.iload_n 2, 1) := by decide +kernel
theorem dX9_of_67 : decode cX9_of 67 = .ok (.bipush 9, 2) := by decide +kernel
theorem dX9_of_69 : decode cX9_of 69 = .ok (.if_icmp .ge 17, 3) := by decide +kernel
theorem dX9_of_72 : decode cX9_of 72 = .ok (.aload_n 0, 1) := by decide +kernel
theorem dX9_of_73 : decode cX9_of 73 = .ok (.getfield 24, 3) := by decide +kernel
theorem dX9_of_76 : decode cX9_of 76 = .ok (.getfield 200, 3) := by decide +kernel
theorem dX9_of_79 : decode cX9_of 79 = .ok (.iload_n 2, 1) := by decide +kernel
theorem dX9_of_80 : decode cX9_of 80 = .ok (.aaload, 1) := by decide +kernel
theorem dX9_of_81 : decode cX9_of 81 = .ok (.iload_n 1, 1) := by decide +kernel
theorem dX9_of_82 : decode cX9_of 82 = .ok (.iaload, 1) := by decide +kernel
theorem dX9_of_83 : decode cX9_of 83 = .ok (.goto 4, 3) := by decide +kernel
theorem dX9_of_86 : decode cX9_of 86 = .ok (.iconst (-1), 1) := by decide +kernel
theorem dX9_of_87 : decode cX9_of 87 = .ok (.ireturn, 1) := by decide +kernel
theorem ok_X9_of : okY RX9 yX9_of 2 := ⟨rfl, by decide, by decide, by decide +kernel⟩
def j_X9_of_86_3 : Option (Int32) := some (-1 : Int32)
def f_X9_of (L : OV) (P : OV) (oC : Nat) (C : OV) (p0 : Int32) (p1 : Int32) : Option (Int32) := gd (decide (nv L 10 = oC)) ((f_X1_has C p0).bind (un1 (fun r_1 => (if r_1 = 0 then some (-1 : Int32) else (if p1 = (1 : Int32) then (f_X9_bitOf (iv P 6) p0).bind (un1 (fun r_9 => some r_9)) else (if p1 = (2 : Int32) then (f_X9_bitOf (iv P 7) p0).bind (un1 (fun r_7 => some r_7)) else (if p1 = (9 : Int32) then (f_X4_signsOf P p0).bind (un1 (fun r_5 => some r_5)) else (if p1 < 0 then j_X9_of_86_3 else (if (9 : Int32) ≤ p1 then j_X9_of_86_3 else gd (decide (nv L 10 = oC)) (gd (ix p1 9) (gd (ix p0 26) (some (gr C 0 p1.toNatClampNeg p0.toNatClampNeg)))))))))))))
def r_X9_of : Room := { frames := 1, cells := 0, slots := 0, locals := 23 }
set_option maxHeartbeats 4000000 in
set_option maxRecDepth 100000 in
theorem c_X9_of (l : Launch) (D : va_G) (ev : EvT) (cy : Nat → ClassId) (oL : Nat) (aL : Nat → Nat) (L : OV) (aP : Nat → Nat) (P : OV) (oC : Nat) (aC : Nat → Nat) (C : OV) (p0 : Int32) (p1 : Int32) (o : Int32) (hf : f_X9_of L P oC C p0 p1 = some o) : Fn l yX9_of cX9_of 3 (some .int) r_X9_of D ev cy [.ref oL, .int p0, .int p1] [gX9 cy oL aL L, gX4 cy (aL 2) aP P, gX1 cy oC aC C] (fun v G => v = some (.int o) ∧ G = [gX9 cy oL aL L, gX4 cy (aL 2) aP P, gX1 cy oC aC C]) := by
  refine Fn_of (by decide) (Nat.le_of_ble_eq_true rfl) (fun X A Q h hQ _ => ?_)
  unfold f_X9_of at hf
  show ww X D A 3 Q 0 0 0 [(0, .ref oL), (1, .int p0), (2, .int p1)] [] [gX9 cy oL aL L, gX4 cy (aL 2) aP P, gX1 cy oC aC C]
  refine ww_aload_n h dX9_of_0 rfl 0 rfl 1 rfl ?_
  refine ww_get h inG9 rfl 0 rfl rfl 10 (by decide) w_423 rfl dX9_of_1 4 rfl ?_
  have hi := (gd_some hf).1
  replace hf := (gd_some hf).2
  refine ww_ref hi ?_
  clear hi
  refine ww_iload_n h dX9_of_4 rfl 1 rfl 5 rfl ?_
  obtain ⟨r_1, hu2, hf⟩ := ob1 hf
  refine ww_cVi h (c_X1_has l D ev cy oC aC C p0 _ hu2) ⟨w_591, w_661, w_589, w_590, w_104, ok_X1_has⟩ ⟨by decide, by decide⟩ ⟨by decide, by decide⟩ ⟨rfl, rfl⟩ [2] rfl 0 rfl rfl rfl rfl (Nat.le_of_ble_eq_true rfl) dX9_of_5 8 rfl (Gs' := [gX1 cy oC aC C, gX9 cy oL aL L, gX4 cy (aL 2) aP P]) rfl ?_
  clear hu2
  refine ww_if_ne h dX9_of_8 13 (by decide) 11 rfl (fun c => ?_) (fun c => ?_)
  · replace hf := ite_f c hf
    refine ww_iload_n h dX9_of_13 rfl 2 rfl 14 rfl ?_
    refine ww_iconst (v := 1) h dX9_of_14 (by decide) 15 rfl ?_
    refine ww_icmp_ne h dX9_of_15 30 (by decide) 18 rfl (fun c => ?_) (fun c => ?_)
    · replace hf := ite_f c hf
      refine ww_iload_n h dX9_of_30 rfl 2 rfl 31 rfl ?_
      refine ww_iconst (v := 2) h dX9_of_31 (by decide) 32 rfl ?_
      refine ww_icmp_ne h dX9_of_32 47 (by decide) 35 rfl (fun c => ?_) (fun c => ?_)
      · replace hf := ite_f c hf
        refine ww_iload_n h dX9_of_47 rfl 2 rfl 48 rfl ?_
        refine ww_bipush (v := 9) h dX9_of_48 (by decide) 50 rfl ?_
        refine ww_icmp_ne h dX9_of_50 62 (by decide) 53 rfl (fun c => ?_) (fun c => ?_)
        · replace hf := ite_f c hf
          refine ww_iload_n h dX9_of_62 rfl 2 rfl 63 rfl ?_
          have hJ86_3 : ∀ (_ : Unit), j_X9_of_86_3 = some o → ww X D A 3 Q 0 0 86 [] [] [gX9 cy oL aL L, gX4 cy (aL 2) aP P, gX1 cy oC aC C] := by
            intro _ hf
            unfold j_X9_of_86_3 at hf
            refine ww_iconst (v := (-1)) h dX9_of_86 (by decide) 87 rfl ?_
            obtain rfl := Option.some.inj hf
            exact ww_iret h dX9_of_87 hQ ⟨rfl, rfl⟩
          refine ww_if_lt h dX9_of_63 86 (by decide) 66 rfl (fun c => ?_) (fun c => ?_)
          · replace hf := ite_t c hf
            refine ww_lo [] (lo' := []) rfl ?_
            refine ww_perm [1, 1, 0] (Gs' := [gX9 cy oL aL L, gX4 cy (aL 2) aP P, gX1 cy oC aC C]) rfl ?_
            exact hJ86_3 () hf
          · replace hf := ite_f c hf
            refine ww_iload_n h dX9_of_66 rfl 2 rfl 67 rfl ?_
            refine ww_bipush (v := 9) h dX9_of_67 (by decide) 69 rfl ?_
            refine ww_icmp_ge h dX9_of_69 86 (by decide) 72 rfl (fun c => ?_) (fun c => ?_)
            · replace hf := ite_t c hf
              refine ww_lo [] (lo' := []) rfl ?_
              refine ww_perm [1, 1, 0] (Gs' := [gX9 cy oL aL L, gX4 cy (aL 2) aP P, gX1 cy oC aC C]) rfl ?_
              exact hJ86_3 () hf
            · replace hf := ite_f c hf
              refine ww_aload_n h dX9_of_72 rfl 0 rfl 73 rfl ?_
              refine ww_get h inG9 rfl 1 rfl rfl 10 (by decide) w_423 rfl dX9_of_73 76 rfl ?_
              have hi := (gd_some hf).1
              replace hf := (gd_some hf).2
              refine ww_ref hi ?_
              clear hi
              refine ww_get h inG1 rfl 0 rfl rfl 0 (by decide) w_160 rfl dX9_of_76 79 rfl ?_
              refine ww_iload_n h dX9_of_79 rfl 2 rfl 80 rfl ?_
              have hi := (gd_some hf).1
              replace hf := (gd_some hf).2
              have hj4 := ix_lt hi
              refine ww_aaldR h 0 rfl 1 rfl 4 rfl rfl (ix_in hi) dX9_of_80 81 rfl ?_
              clear hi
              refine ww_iload_n h dX9_of_81 rfl 1 rfl 82 rfl ?_
              have hi := (gd_some hf).1
              replace hf := (gd_some hf).2
              refine ww_iald h 0 rfl (3 + p1.toNatClampNeg) (gX1_row0 hj4) (ix_in hi) dX9_of_82 83 rfl ?_
              clear hi
              refine ww_goto h dX9_of_83 87 (by decide) ?_
              refine ww_perm [1, 1, 0] (Gs' := [gX9 cy oL aL L, gX4 cy (aL 2) aP P, gX1 cy oC aC C]) rfl ?_
              obtain rfl := Option.some.inj hf
              exact ww_iret h dX9_of_87 hQ ⟨rfl, rfl⟩
        · replace hf := ite_t c hf
          refine ww_aload_n h dX9_of_53 rfl 0 rfl 54 rfl ?_
          refine ww_get h inG9 rfl 1 rfl rfl 2 (by decide) w_415 rfl dX9_of_54 57 rfl ?_
          refine ww_iload_n h dX9_of_57 rfl 1 rfl 58 rfl ?_
          obtain ⟨r_5, hu6, hf⟩ := ob1 hf
          refine ww_cVi h (c_X4_signsOf l D ev cy (aL 2) aP P p0 _ hu6) ⟨w_721, w_718, w_719, w_720, w_105, ok_X4_signsOf⟩ ⟨by decide, by decide⟩ ⟨by decide, by decide⟩ ⟨rfl, rfl⟩ [2] rfl 0 rfl rfl rfl rfl (Nat.le_of_ble_eq_true rfl) dX9_of_58 61 rfl (Gs' := [gX4 cy (aL 2) aP P, gX1 cy oC aC C, gX9 cy oL aL L]) rfl ?_
          clear hu6
          refine ww_perm [2, 0, 0] (Gs' := [gX9 cy oL aL L, gX4 cy (aL 2) aP P, gX1 cy oC aC C]) rfl ?_
          obtain rfl := Option.some.inj hf
          exact ww_iret h dX9_of_61 hQ ⟨rfl, rfl⟩
      · replace hf := ite_t c hf
        refine ww_aload_n h dX9_of_35 rfl 0 rfl 36 rfl ?_
        refine ww_get h inG9 rfl 1 rfl rfl 2 (by decide) w_415 rfl dX9_of_36 39 rfl ?_
        refine ww_get h inG4 rfl 2 rfl rfl 7 (by decide) w_216 rfl dX9_of_39 42 rfl ?_
        refine ww_iload_n h dX9_of_42 rfl 1 rfl 43 rfl ?_
        obtain ⟨r_7, hu8, hf⟩ := ob1 hf
        refine ww_cSi h (c_X9_bitOf l D ev cy (iv P 7) p0 _ hu8) ⟨w_636, w_749, w_635, w_101, ok_X9_bitOf⟩ ⟨by decide, by decide⟩ ⟨by decide, by decide⟩ ⟨rfl, rfl⟩ [] rfl rfl (Nat.le_of_ble_eq_true rfl) dX9_of_43 46 rfl (Gs' := [gX1 cy oC aC C, gX9 cy oL aL L, gX4 cy (aL 2) aP P]) rfl ?_
        clear hu8
        refine ww_perm [1, 1, 0] (Gs' := [gX9 cy oL aL L, gX4 cy (aL 2) aP P, gX1 cy oC aC C]) rfl ?_
        obtain rfl := Option.some.inj hf
        exact ww_iret h dX9_of_46 hQ ⟨rfl, rfl⟩
    · replace hf := ite_t c hf
      refine ww_aload_n h dX9_of_18 rfl 0 rfl 19 rfl ?_
      refine ww_get h inG9 rfl 1 rfl rfl 2 (by decide) w_415 rfl dX9_of_19 22 rfl ?_
      refine ww_get h inG4 rfl 2 rfl rfl 6 (by decide) w_214 rfl dX9_of_22 25 rfl ?_
      refine ww_iload_n h dX9_of_25 rfl 1 rfl 26 rfl ?_
      obtain ⟨r_9, hu10, hf⟩ := ob1 hf
      refine ww_cSi h (c_X9_bitOf l D ev cy (iv P 6) p0 _ hu10) ⟨w_636, w_749, w_635, w_101, ok_X9_bitOf⟩ ⟨by decide, by decide⟩ ⟨by decide, by decide⟩ ⟨rfl, rfl⟩ [] rfl rfl (Nat.le_of_ble_eq_true rfl) dX9_of_26 29 rfl (Gs' := [gX1 cy oC aC C, gX9 cy oL aL L, gX4 cy (aL 2) aP P]) rfl ?_
      clear hu10
      refine ww_perm [1, 1, 0] (Gs' := [gX9 cy oL aL L, gX4 cy (aL 2) aP P, gX1 cy oC aC C]) rfl ?_
      obtain rfl := Option.some.inj hf
      exact ww_iret h dX9_of_29 hQ ⟨rfl, rfl⟩
  · replace hf := ite_t c hf
    refine ww_iconst (v := (-1)) h dX9_of_11 (by decide) 12 rfl ?_
    refine ww_perm [1, 1, 0] (Gs' := [gX9 cy oL aL L, gX4 cy (aL 2) aP P, gX1 cy oC aC C]) rfl ?_
    obtain rfl := Option.some.inj hf
    exact ww_iret h dX9_of_12 hQ ⟨rfl, rfl⟩
theorem dX9_isPair_0 : decode cX9_isPair 0 = .ok (.aload_n 0, 1) := by decide +kernel
theorem dX9_isPair_1 : decode cX9_isPair 1 = .ok (.getfield 24, 3) := by decide +kernel
theorem dX9_isPair_4 : decode cX9_isPair 4 = .ok (.iload_n 1, 1) := by decide +kernel
theorem dX9_isPair_5 : decode cX9_isPair 5 = .ok (.invokevirtual 126, 3) := by decide +kernel
theorem dX9_isPair_8 : decode cX9_isPair 8 = .ok (.ifCond .eq 14, 3) := by decide +kernel
theorem dX9_isPair_11 : decode cX9_isPair 11 = .ok (.aload_n 0, 1) := by decide +kernel
theorem dX9_isPair_12 : decode cX9_isPair 12 = .ok (.getfield 24, 3) := by decide +kernel
theorem dX9_isPair_15 : decode cX9_isPair 15 = .ok (.iload_n 2, 1) := by decide +kernel
theorem dX9_isPair_16 : decode cX9_isPair 16 = .ok (.invokevirtual 126, 3) := by decide +kernel
theorem dX9_isPair_19 : decode cX9_isPair 19 = .ok (.ifCond .ne 5, 3) := by decide +kernel
theorem dX9_isPair_22 : decode cX9_isPair 22 = .ok (.iconst (-1), 1) := by decide +kernel
theorem dX9_isPair_23 : decode cX9_isPair 23 = .ok (.ireturn, 1) := by decide +kernel
theorem dX9_isPair_24 : decode cX9_isPair 24 = .ok (.aload_n 0, 1) := by decide +kernel
theorem dX9_isPair_25 : decode cX9_isPair 25 = .ok (.getfield 34, 3) := by decide +kernel
theorem dX9_isPair_28 : decode cX9_isPair 28 = .ok (.iload_n 1, 1) := by decide +kernel
theorem dX9_isPair_29 : decode cX9_isPair 29 = .ok (.iload_n 2, 1) := by decide +kernel
theorem dX9_isPair_30 : decode cX9_isPair 30 = .ok (.invokevirtual 168, 3) := by decide +kernel
theorem dX9_isPair_33 : decode cX9_isPair 33 = .ok (.ifCond .eq 7, 3) := by decide +kernel
theorem dX9_isPair_36 : decode cX9_isPair 36 = .ok (.iconst 1, 1) := by decide +kernel
theorem dX9_isPair_37 : decode cX9_isPair 37 = .ok (.goto 4, 3) := by decide +kernel
theorem dX9_isPair_40 : decode cX9_isPair 40 = .ok (.iconst 0, 1) := by decide +kernel
theorem dX9_isPair_41 : decode cX9_isPair 41 = .ok (.ireturn, 1) := by decide +kernel
theorem ok_X9_isPair : okY RX9 yX9_isPair 2 := ⟨rfl, by decide, by decide, by decide +kernel⟩
def f_X9_isPair (L : OV) (P : OV) (oC : Nat) (C : OV) (p0 : Int32) (p1 : Int32) : Option (Int32) := gd (decide (nv L 10 = oC)) ((f_X1_has C p0).bind (un1 (fun r_1 => (if r_1 = 0 then some (-1 : Int32) else gd (decide (nv L 10 = oC)) ((f_X1_has C p1).bind (un1 (fun r_3 => (if r_3 = 0 then some (-1 : Int32) else (f_X4_isKept P p0 p1).bind (un1 (fun r_5 => (if r_5 = 0 then some (0 : Int32) else some (1 : Int32))))))))))))
def r_X9_isPair : Room := { frames := 2, cells := 0, slots := 0, locals := 43 }
set_option maxHeartbeats 4000000 in
set_option maxRecDepth 100000 in
theorem c_X9_isPair (l : Launch) (D : va_G) (ev : EvT) (cy : Nat → ClassId) (oL : Nat) (aL : Nat → Nat) (L : OV) (aP : Nat → Nat) (P : OV) (oC : Nat) (aC : Nat → Nat) (C : OV) (p0 : Int32) (p1 : Int32) (o : Int32) (hf : f_X9_isPair L P oC C p0 p1 = some o) : Fn l yX9_isPair cX9_isPair 3 (some .int) r_X9_isPair D ev cy [.ref oL, .int p0, .int p1] [gX9 cy oL aL L, gX4 cy (aL 2) aP P, gX1 cy oC aC C] (fun v G => v = some (.int o) ∧ G = [gX9 cy oL aL L, gX4 cy (aL 2) aP P, gX1 cy oC aC C]) := by
  refine Fn_of (by decide) (Nat.le_of_ble_eq_true rfl) (fun X A Q h hQ _ => ?_)
  unfold f_X9_isPair at hf
  show ww X D A 3 Q 0 0 0 [(0, .ref oL), (1, .int p0), (2, .int p1)] [] [gX9 cy oL aL L, gX4 cy (aL 2) aP P, gX1 cy oC aC C]
  refine ww_aload_n h dX9_isPair_0 rfl 0 rfl 1 rfl ?_
  refine ww_get h inG9 rfl 0 rfl rfl 10 (by decide) w_423 rfl dX9_isPair_1 4 rfl ?_
  have hi := (gd_some hf).1
  replace hf := (gd_some hf).2
  refine ww_ref hi ?_
  clear hi
  refine ww_iload_n h dX9_isPair_4 rfl 1 rfl 5 rfl ?_
  obtain ⟨r_1, hu2, hf⟩ := ob1 hf
  refine ww_cVi h (c_X1_has l D ev cy oC aC C p0 _ hu2) ⟨w_591, w_661, w_589, w_590, w_104, ok_X1_has⟩ ⟨by decide, by decide⟩ ⟨by decide, by decide⟩ ⟨rfl, rfl⟩ [2] rfl 0 rfl rfl rfl rfl (Nat.le_of_ble_eq_true rfl) dX9_isPair_5 8 rfl (Gs' := [gX1 cy oC aC C, gX9 cy oL aL L, gX4 cy (aL 2) aP P]) rfl ?_
  clear hu2
  refine ww_if_eq h dX9_isPair_8 22 (by decide) 11 rfl (fun c => ?_) (fun c => ?_)
  · replace hf := ite_t c hf
    refine ww_iconst (v := (-1)) h dX9_isPair_22 (by decide) 23 rfl ?_
    refine ww_perm [1, 1, 0] (Gs' := [gX9 cy oL aL L, gX4 cy (aL 2) aP P, gX1 cy oC aC C]) rfl ?_
    obtain rfl := Option.some.inj hf
    exact ww_iret h dX9_isPair_23 hQ ⟨rfl, rfl⟩
  · replace hf := ite_f c hf
    refine ww_aload_n h dX9_isPair_11 rfl 0 rfl 12 rfl ?_
    refine ww_get h inG9 rfl 1 rfl rfl 10 (by decide) w_423 rfl dX9_isPair_12 15 rfl ?_
    have hi := (gd_some hf).1
    replace hf := (gd_some hf).2
    refine ww_ref hi ?_
    clear hi
    refine ww_iload_n h dX9_isPair_15 rfl 2 rfl 16 rfl ?_
    obtain ⟨r_3, hu4, hf⟩ := ob1 hf
    refine ww_cVi h (c_X1_has l D ev cy oC aC C p1 _ hu4) ⟨w_591, w_661, w_589, w_590, w_104, ok_X1_has⟩ ⟨by decide, by decide⟩ ⟨by decide, by decide⟩ ⟨rfl, rfl⟩ [0] rfl 0 rfl rfl rfl rfl (Nat.le_of_ble_eq_true rfl) dX9_isPair_16 19 rfl (Gs' := [gX1 cy oC aC C, gX9 cy oL aL L, gX4 cy (aL 2) aP P]) rfl ?_
    clear hu4
    refine ww_if_ne h dX9_isPair_19 24 (by decide) 22 rfl (fun c => ?_) (fun c => ?_)
    · replace hf := ite_f c hf
      refine ww_aload_n h dX9_isPair_24 rfl 0 rfl 25 rfl ?_
      refine ww_get h inG9 rfl 1 rfl rfl 2 (by decide) w_415 rfl dX9_isPair_25 28 rfl ?_
      refine ww_iload_n h dX9_isPair_28 rfl 1 rfl 29 rfl ?_
      refine ww_iload_n h dX9_isPair_29 rfl 2 rfl 30 rfl ?_
      obtain ⟨r_5, hu6, hf⟩ := ob1 hf
      refine ww_cVi h (c_X4_isKept l D ev cy (aL 2) aP P p0 p1 _ hu6) ⟨w_743, w_740, w_741, w_742, w_105, ok_X4_isKept⟩ ⟨by decide, by decide⟩ ⟨by decide, by decide⟩ ⟨rfl, rfl⟩ [2] rfl 0 rfl rfl rfl rfl (Nat.le_of_ble_eq_true rfl) dX9_isPair_30 33 rfl (Gs' := [gX4 cy (aL 2) aP P, gX1 cy oC aC C, gX9 cy oL aL L]) rfl ?_
      clear hu6
      refine ww_if_eq h dX9_isPair_33 40 (by decide) 36 rfl (fun c => ?_) (fun c => ?_)
      · replace hf := ite_t c hf
        refine ww_iconst (v := 0) h dX9_isPair_40 (by decide) 41 rfl ?_
        refine ww_perm [2, 0, 0] (Gs' := [gX9 cy oL aL L, gX4 cy (aL 2) aP P, gX1 cy oC aC C]) rfl ?_
        obtain rfl := Option.some.inj hf
        exact ww_iret h dX9_isPair_41 hQ ⟨rfl, rfl⟩
      · replace hf := ite_f c hf
        refine ww_iconst (v := 1) h dX9_isPair_36 (by decide) 37 rfl ?_
        refine ww_goto h dX9_isPair_37 41 (by decide) ?_
        refine ww_perm [2, 0, 0] (Gs' := [gX9 cy oL aL L, gX4 cy (aL 2) aP P, gX1 cy oC aC C]) rfl ?_
        obtain rfl := Option.some.inj hf
        exact ww_iret h dX9_isPair_41 hQ ⟨rfl, rfl⟩
    · replace hf := ite_t c hf
      refine ww_iconst (v := (-1)) h dX9_isPair_22 (by decide) 23 rfl ?_
      refine ww_perm [1, 1, 0] (Gs' := [gX9 cy oL aL L, gX4 cy (aL 2) aP P, gX1 cy oC aC C]) rfl ?_
      obtain rfl := Option.some.inj hf
      exact ww_iret h dX9_isPair_23 hQ ⟨rfl, rfl⟩
theorem dX9_find_0 : decode cX9_find 0 = .ok (.aload_n 0, 1) := by decide +kernel
theorem dX9_find_1 : decode cX9_find 1 = .ok (.getfield 34, 3) := by decide +kernel
theorem dX9_find_4 : decode cX9_find 4 = .ok (.iload_n 1, 1) := by decide +kernel
theorem dX9_find_5 : decode cX9_find 5 = .ok (.invokevirtual 140, 3) := by decide +kernel
theorem dX9_find_8 : decode cX9_find 8 = .ok (.ifCond .ne 5, 3) := by decide +kernel
theorem dX9_find_11 : decode cX9_find 11 = .ok (.iconst (-1), 1) := by decide +kernel
theorem dX9_find_12 : decode cX9_find 12 = .ok (.ireturn, 1) := by decide +kernel
theorem dX9_find_13 : decode cX9_find 13 = .ok (.aload_n 0, 1) := by decide +kernel
theorem dX9_find_14 : decode cX9_find 14 = .ok (.getfield 14, 3) := by decide +kernel
theorem dX9_find_17 : decode cX9_find 17 = .ok (.invokevirtual 204, 3) := by decide +kernel
theorem dX9_find_20 : decode cX9_find 20 = .ok (.istore_n 2, 1) := by decide +kernel
theorem dX9_find_21 : decode cX9_find 21 = .ok (.aload_n 0, 1) := by decide +kernel
theorem dX9_find_22 : decode cX9_find 22 = .ok (.getfield 14, 3) := by decide +kernel
theorem dX9_find_25 : decode cX9_find 25 = .ok (.getfield 85, 3) := by decide +kernel
theorem dX9_find_28 : decode cX9_find 28 = .ok (.istore_n 3, 1) := by decide +kernel
theorem dX9_find_29 : decode cX9_find 29 = .ok (.aload_n 0, 1) := by decide +kernel
theorem dX9_find_30 : decode cX9_find 30 = .ok (.getfield 14, 3) := by decide +kernel
theorem dX9_find_33 : decode cX9_find 33 = .ok (.iconst 0, 1) := by decide +kernel
theorem dX9_find_34 : decode cX9_find 34 = .ok (.putfield 85, 3) := by decide +kernel
theorem dX9_find_37 : decode cX9_find 37 = .ok (.iload_n 2, 1) := by decide +kernel
theorem dX9_find_38 : decode cX9_find 38 = .ok (.ifCond .eq 7, 3) := by decide +kernel
theorem dX9_find_41 : decode cX9_find 41 = .ok (.iload_n 3, 1) := by decide +kernel
theorem dX9_find_42 : decode cX9_find 42 = .ok (.ifCond .ne 6, 3) := by decide +kernel
theorem dX9_find_45 : decode cX9_find 45 = .ok (.bipush (-2), 2) := by decide +kernel
theorem dX9_find_47 : decode cX9_find 47 = .ok (.ireturn, 1) := by decide +kernel
theorem dX9_find_48 : decode cX9_find 48 = .ok (.iload_n 1, 1) := by decide +kernel
theorem dX9_find_49 : decode cX9_find 49 = .ok (.istore 4, 2) := by decide +kernel
theorem dX9_find_51 : decode cX9_find 51 = .ok (.iload 4, 2) := by decide +kernel
theorem dX9_find_53 : decode cX9_find 53 = .ok (.aload_n 0, 1) := by decide +kernel
theorem dX9_find_54 : decode cX9_find 54 = .ok (.getfield 34, 3) := by decide +kernel
theorem dX9_find_57 : decode cX9_find 57 = .ok (.getfield 117, 3) := by decide +kernel
theorem dX9_find_60 : decode cX9_find 60 = .ok (.iload_n 3, 1) := by decide +kernel
theorem dX9_find_61 : decode cX9_find 61 = .ok (.isub, 1) := by decide +kernel
theorem dX9_find_62 : decode cX9_find 62 = .ok (.if_icmp .gt 29, 3) := by decide +kernel
theorem dX9_find_65 : decode cX9_find 65 = .ok (.aload_n 0, 1) := by decide +kernel
theorem dX9_find_66 : decode cX9_find 66 = .ok (.getfield 34, 3) := by decide +kernel
theorem dX9_find_69 : decode cX9_find 69 = .ok (.aload_n 0, 1) := by decide +kernel
theorem dX9_find_70 : decode cX9_find 70 = .ok (.getfield 14, 3) := by decide +kernel
theorem dX9_find_73 : decode cX9_find 73 = .ok (.iload_n 3, 1) := by decide +kernel
theorem dX9_find_74 : decode cX9_find 74 = .ok (.iload 4, 2) := by decide +kernel
theorem dX9_find_76 : decode cX9_find 76 = .ok (.invokevirtual 208, 3) := by decide +kernel
theorem dX9_find_79 : decode cX9_find 79 = .ok (.ifCond .eq 6, 3) := by decide +kernel
theorem dX9_find_82 : decode cX9_find 82 = .ok (.iload 4, 2) := by decide +kernel
theorem dX9_find_84 : decode cX9_find 84 = .ok (.ireturn, 1) := by decide +kernel
theorem dX9_find_85 : decode cX9_find 85 = .ok (.iinc 4 1, 3) := by decide +kernel
theorem dX9_find_88 : decode cX9_find 88 = .ok (.goto (-37), 3) := by decide +kernel
theorem dX9_find_91 : decode cX9_find 91 = .ok (.bipush (-2), 2) := by decide +kernel
theorem dX9_find_93 : decode cX9_find 93 = .ok (.ireturn, 1) := by decide +kernel
theorem ok_X9_find : okY RX9 yX9_find 1 := ⟨rfl, by decide, by decide, by decide +kernel⟩
def s_X9_find_51_10 (aT : Nat → Nat) (P : OV) (T_8 : OV) (v3_7 : Int32) : (Int32) → Option ((Int32) ⊕ ((Unit) ⊕ (Int32 × OV))) := un1 (fun v4_11 => (if ((iv P 4) - v3_7) < v4_11 then some (.inr (.inl ())) else (f_X4_bears P aT T_8 v3_7 v4_11).bind (un1 (fun r_12 => (if r_12 = 0 then bnd (v4_11 + 1) (fun v4_14 => some (.inl v4_14)) else some (.inr (.inr (v4_11, T_8))))))))
def f_X9_find (aT : Nat → Nat) (T : OV) (P : OV) (p0 : Int32) : Option (Int32 × OV) := (f_X4_has P p0).bind (un1 (fun r_1 => (if r_1 = 0 then some ((-1 : Int32), T) else (f_X0_dropBlanks aT T).bind (un2 (fun r_3 T_4 => bnd r_3 (fun v2_6 => bnd (iv T_4 1) (fun v3_7 => bnd (sI T_4 1 (0 : Int32)) (fun T_8 => (if v2_6 = 0 then some ((-2 : Int32), T_8) else (if v3_7 = 0 then some ((-2 : Int32), T_8) else bnd p0 (fun v4_9 => ((lp (s_X9_find_51_10 aT P T_8 v3_7) 5000 v4_9).bind (Sum.elim (un1 (fun (_u : Unit) => some ((-2 : Int32), T_8))) (fun r => some r))))))))))))))
def r_X9_find : Room := { frames := 2, cells := 0, slots := 0, locals := 45 }
set_option maxHeartbeats 4000000 in
set_option maxRecDepth 100000 in
theorem c_X9_find (l : Launch) (D : va_G) (ev : EvT) (cy : Nat → ClassId) (oL : Nat) (aL : Nat → Nat) (L : OV) (aT : Nat → Nat) (T : OV) (aP : Nat → Nat) (P : OV) (p0 : Int32) (o : Int32 × OV) (hf : f_X9_find aT T P p0 = some o) : Fn l yX9_find cX9_find 5 (some .int) r_X9_find D ev cy [.ref oL, .int p0] [gX9 cy oL aL L, gX0 cy (aL 0) aT T, gX4 cy (aL 2) aP P] (fun v G => v = some (.int o.1) ∧ G = [gX9 cy oL aL L, gX0 cy (aL 0) aT o.2, gX4 cy (aL 2) aP P]) := by
  refine Fn_of (by decide) (Nat.le_of_ble_eq_true rfl) (fun X A Q h hQ _ => ?_)
  unfold f_X9_find at hf
  show ww X D A 5 Q 0 0 0 [(0, .ref oL), (1, .int p0)] [] [gX9 cy oL aL L, gX0 cy (aL 0) aT T, gX4 cy (aL 2) aP P]
  refine ww_aload_n h dX9_find_0 rfl 0 rfl 1 rfl ?_
  refine ww_get h inG9 rfl 0 rfl rfl 2 (by decide) w_415 rfl dX9_find_1 4 rfl ?_
  refine ww_iload_n h dX9_find_4 rfl 1 rfl 5 rfl ?_
  obtain ⟨r_1, hu2, hf⟩ := ob1 hf
  refine ww_cVi h (c_X4_has l D ev cy (aL 2) aP P p0 _ hu2) ⟨w_694, w_704, w_692, w_693, w_105, ok_X4_has⟩ ⟨by decide, by decide⟩ ⟨by decide, by decide⟩ ⟨rfl, rfl⟩ [2] rfl 0 rfl rfl rfl rfl (Nat.le_of_ble_eq_true rfl) dX9_find_5 8 rfl (Gs' := [gX4 cy (aL 2) aP P, gX9 cy oL aL L, gX0 cy (aL 0) aT T]) rfl ?_
  clear hu2
  refine ww_if_ne h dX9_find_8 13 (by decide) 11 rfl (fun c => ?_) (fun c => ?_)
  · replace hf := ite_f c hf
    refine ww_aload_n h dX9_find_13 rfl 0 rfl 14 rfl ?_
    refine ww_get h inG9 rfl 1 rfl rfl 0 (by decide) w_413 rfl dX9_find_14 17 rfl ?_
    obtain ⟨r_3, T_4, hu5, hf⟩ := ob2 hf
    refine ww_cVi h (c_X0_dropBlanks l D ev cy (aL 0) aT T _ hu5) ⟨w_781, w_778, w_779, w_780, w_102, ok_X0_dropBlanks⟩ ⟨by decide, by decide⟩ ⟨by decide, by decide⟩ ⟨rfl, rfl⟩ [2] rfl 0 rfl rfl rfl rfl (Nat.le_of_ble_eq_true rfl) dX9_find_17 20 rfl (Gs' := [gX0 cy (aL 0) aT T_4, gX4 cy (aL 2) aP P, gX9 cy oL aL L]) rfl ?_
    clear hu5
    refine ww_ist_n h dX9_find_20 rfl (by decide) (fun v2_6 => [(2, .int v2_6), (0, .ref oL), (1, .int p0)]) (fun _ => rfl) 21 rfl (fun v2_6 e => ?_)
    replace hf := bnd_at e hf
    clear e
    refine ww_aload_n h dX9_find_21 rfl 1 rfl 22 rfl ?_
    refine ww_get h inG9 rfl 2 rfl rfl 0 (by decide) w_413 rfl dX9_find_22 25 rfl ?_
    refine ww_get h inG0 rfl 0 rfl rfl 1 (by decide) w_141 rfl dX9_find_25 28 rfl ?_
    refine ww_ist_n h dX9_find_28 rfl (by decide) (fun v3_7 => [(3, .int v3_7), (2, .int v2_6), (0, .ref oL), (1, .int p0)]) (fun _ => rfl) 29 rfl (fun v3_7 e => ?_)
    replace hf := bnd_at e hf
    clear e
    refine ww_aload_n h dX9_find_29 rfl 2 rfl 30 rfl ?_
    refine ww_get h inG9 rfl 2 rfl rfl 0 (by decide) w_413 rfl dX9_find_30 33 rfl ?_
    refine ww_iconst (v := 0) h dX9_find_33 (by decide) 34 rfl ?_
    refine ww_put (ty := .int) h inG0 tyX0_ok nmX0 rfl 0 rfl rfl 1 (by decide) w_141 rfl (by decide +kernel) rfl rfl (Nat.le_of_ble_eq_true rfl) (Nat.le_of_ble_eq_true rfl) dX9_find_34 37 rfl ?_
    refine ww_nm (fun z => [gX0 cy (aL 0) aT z, gX4 cy (aL 2) aP P, gX9 cy oL aL L]) (sI T_4 1 (0 : Int32)) (fun T_8 e => ?_)
    replace hf := bnd_at e hf
    clear e
    refine ww_iload_n h dX9_find_37 rfl 1 rfl 38 rfl ?_
    refine ww_if_eq h dX9_find_38 45 (by decide) 41 rfl (fun c => ?_) (fun c => ?_)
    · replace hf := ite_t c hf
      refine ww_bipush (v := (-2)) h dX9_find_45 (by decide) 47 rfl ?_
      refine ww_perm [2, 0, 0] (Gs' := [gX9 cy oL aL L, gX0 cy (aL 0) aT T_8, gX4 cy (aL 2) aP P]) rfl ?_
      obtain rfl := Option.some.inj hf
      exact ww_iret h dX9_find_47 hQ ⟨rfl, rfl⟩
    · replace hf := ite_f c hf
      refine ww_iload_n h dX9_find_41 rfl 0 rfl 42 rfl ?_
      refine ww_if_ne h dX9_find_42 48 (by decide) 45 rfl (fun c => ?_) (fun c => ?_)
      · replace hf := ite_f c hf
        refine ww_iload_n h dX9_find_48 rfl 3 rfl 49 rfl ?_
        refine ww_ist h dX9_find_49 (by decide) (fun v4_9 => [(4, .int v4_9), (3, .int v3_7), (2, .int v2_6), (0, .ref oL), (1, .int p0)]) (fun _ => rfl) 51 rfl (fun v4_9 e => ?_)
        replace hf := bnd_at e hf
        clear e
        refine ww_lo [3, 1, 0] (lo' := [(0, .ref oL), (3, .int v3_7), (4, .int v4_9)]) rfl ?_
        refine ww_perm [2, 0, 0] (Gs' := [gX9 cy oL aL L, gX0 cy (aL 0) aT T_8, gX4 cy (aL 2) aP P]) rfl ?_
        obtain ⟨x10, h10, hf⟩ := ob_some hf
        refine lp_walk (un1 (fun v4_11 => ww X D A 5 Q 0 0 51 [(0, .ref oL), (3, .int v3_7), (4, .int v4_11)] [] [gX9 cy oL aL L, gX0 cy (aL 0) aT T_8, gX4 cy (aL 2) aP P])) (Sum.elim (un1 (fun (_u : Unit) => ww X D A 5 Q 0 0 91 [] [] [gX9 cy oL aL L, gX0 cy (aL 0) aT T_8, gX4 cy (aL 2) aP P])) (fun r => r = o)) ?_ _ _ _ h10 ?_
        · clear h10 hf
          intro s10 o10 hf hI10 hE10
          obtain ⟨v4_11, rfl⟩ : ∃ z, z = s10 := ⟨_, rfl⟩
          unfold s_X9_find_51_10 at hf
          replace hf := un1_e hf
          show ww X D A 5 Q 0 0 51 [(0, .ref oL), (3, .int v3_7), (4, .int v4_11)] [] [gX9 cy oL aL L, gX0 cy (aL 0) aT T_8, gX4 cy (aL 2) aP P]
          refine ww_iload h dX9_find_51 2 rfl 53 rfl ?_
          refine ww_aload_n h dX9_find_53 rfl 0 rfl 54 rfl ?_
          refine ww_get h inG9 rfl 0 rfl rfl 2 (by decide) w_415 rfl dX9_find_54 57 rfl ?_
          refine ww_get h inG4 rfl 2 rfl rfl 4 (by decide) w_209 rfl dX9_find_57 60 rfl ?_
          refine ww_iload_n h dX9_find_60 rfl 1 rfl 61 rfl ?_
          refine ww_isub h dX9_find_61 62 rfl ?_
          refine ww_icmp_gt h dX9_find_62 91 (by decide) 65 rfl (fun c => ?_) (fun c => ?_)
          · replace hf := ite_t c hf
            refine ww_lo [] (lo' := []) rfl ?_
            exact hE10 (.inl ()) (Option.some.inj hf).symm
          · replace hf := ite_f c hf
            refine ww_aload_n h dX9_find_65 rfl 0 rfl 66 rfl ?_
            refine ww_get h inG9 rfl 0 rfl rfl 2 (by decide) w_415 rfl dX9_find_66 69 rfl ?_
            refine ww_aload_n h dX9_find_69 rfl 0 rfl 70 rfl ?_
            refine ww_get h inG9 rfl 0 rfl rfl 0 (by decide) w_413 rfl dX9_find_70 73 rfl ?_
            refine ww_iload_n h dX9_find_73 rfl 1 rfl 74 rfl ?_
            refine ww_iload h dX9_find_74 2 rfl 76 rfl ?_
            obtain ⟨r_12, hu13, hf⟩ := ob1 hf
            refine ww_cVi h (c_X4_bears l D ev cy (aL 2) aP P (aL 0) aT T_8 v3_7 v4_11 _ hu13) ⟨w_785, w_782, w_783, w_784, w_105, ok_X4_bears⟩ ⟨by decide, by decide⟩ ⟨by decide, by decide⟩ ⟨rfl, rfl⟩ [2, 1] rfl 0 rfl rfl rfl rfl (Nat.le_of_ble_eq_true rfl) dX9_find_76 79 rfl (Gs' := [gX4 cy (aL 2) aP P, gX0 cy (aL 0) aT T_8, gX9 cy oL aL L]) rfl ?_
            clear hu13
            refine ww_if_eq h dX9_find_79 85 (by decide) 82 rfl (fun c => ?_) (fun c => ?_)
            · replace hf := ite_t c hf
              refine ww_inc (c := 1) h dX9_find_85 2 rfl (by decide) (by decide) (fun v4_14 => [(4, .int v4_14), (0, .ref oL), (3, .int v3_7)]) (fun _ => rfl) 88 rfl (fun v4_14 e => ?_)
              replace hf := bnd_at e hf
              clear e
              refine ww_goto h dX9_find_88 51 (by decide) ?_
              refine ww_lo [1, 2, 0] (lo' := [(0, .ref oL), (3, .int v3_7), (4, .int v4_14)]) rfl ?_
              refine ww_perm [2, 1, 0] (Gs' := [gX9 cy oL aL L, gX0 cy (aL 0) aT T_8, gX4 cy (aL 2) aP P]) rfl ?_
              exact hI10 v4_14 (Option.some.inj hf).symm
            · replace hf := ite_f c hf
              refine ww_iload h dX9_find_82 2 rfl 84 rfl ?_
              refine ww_perm [2, 1, 0] (Gs' := [gX9 cy oL aL L, gX0 cy (aL 0) aT T_8, gX4 cy (aL 2) aP P]) rfl ?_
              obtain rfl := hE10 (.inr (v4_11, T_8)) (Option.some.inj hf).symm
              exact ww_iret h dX9_find_84 hQ ⟨rfl, rfl⟩
        · clear h10
          rcases x10 with x10 | x10
          · replace hf := sel_l hf
            obtain ⟨_u, rfl⟩ : ∃ z, z = x10 := ⟨_, rfl⟩
            replace hf := un1_e hf
            show ww X D A 5 Q 0 0 91 [] [] [gX9 cy oL aL L, gX0 cy (aL 0) aT T_8, gX4 cy (aL 2) aP P]
            refine ww_bipush (v := (-2)) h dX9_find_91 (by decide) 93 rfl ?_
            obtain rfl := Option.some.inj hf
            exact ww_iret h dX9_find_93 hQ ⟨rfl, rfl⟩
          · replace hf := sel_r hf
            exact Option.some.inj hf
      · replace hf := ite_t c hf
        refine ww_bipush (v := (-2)) h dX9_find_45 (by decide) 47 rfl ?_
        refine ww_perm [2, 0, 0] (Gs' := [gX9 cy oL aL L, gX0 cy (aL 0) aT T_8, gX4 cy (aL 2) aP P]) rfl ?_
        obtain rfl := Option.some.inj hf
        exact ww_iret h dX9_find_47 hQ ⟨rfl, rfl⟩
  · replace hf := ite_t c hf
    refine ww_iconst (v := (-1)) h dX9_find_11 (by decide) 12 rfl ?_
    refine ww_perm [1, 1, 0] (Gs' := [gX9 cy oL aL L, gX0 cy (aL 0) aT T, gX4 cy (aL 2) aP P]) rfl ?_
    obtain rfl := Option.some.inj hf
    exact ww_iret h dX9_find_12 hQ ⟨rfl, rfl⟩
theorem dX9_marked_0 : decode cX9_marked 0 = .ok (.aload_n 0, 1) := by decide +kernel
theorem dX9_marked_1 : decode cX9_marked 1 = .ok (.getfield 34, 3) := by decide +kernel
theorem dX9_marked_4 : decode cX9_marked 4 = .ok (.iload_n 1, 1) := by decide +kernel
theorem dX9_marked_5 : decode cX9_marked 5 = .ok (.invokevirtual 140, 3) := by decide +kernel
theorem dX9_marked_8 : decode cX9_marked 8 = .ok (.ifCond .eq 15, 3) := by decide +kernel
theorem dX9_marked_11 : decode cX9_marked 11 = .ok (.aload_n 0, 1) := by decide +kernel
theorem dX9_marked_12 : decode cX9_marked 12 = .ok (.getfield 34, 3) := by decide +kernel
theorem dX9_marked_15 : decode cX9_marked 15 = .ok (.getfield 159, 3) := by decide +kernel
theorem dX9_marked_18 : decode cX9_marked 18 = .ok (.iload_n 1, 1) := by decide +kernel
theorem dX9_marked_19 : decode cX9_marked 19 = .ok (.iaload, 1) := by decide +kernel
theorem dX9_marked_20 : decode cX9_marked 20 = .ok (.goto 4, 3) := by decide +kernel
theorem dX9_marked_23 : decode cX9_marked 23 = .ok (.iconst (-1), 1) := by decide +kernel
theorem dX9_marked_24 : decode cX9_marked 24 = .ok (.ireturn, 1) := by decide +kernel
theorem ok_X9_marked : okY RX9 yX9_marked 1 := ⟨rfl, by decide, by decide, by decide +kernel⟩
def f_X9_marked (P : OV) (p0 : Int32) : Option (Int32) := (f_X4_has P p0).bind (un1 (fun r_1 => (if r_1 = 0 then some (-1 : Int32) else gd (ix p0 40) (some (ar P 1 p0.toNatClampNeg)))))
def r_X9_marked : Room := { frames := 1, cells := 0, slots := 0, locals := 21 }
set_option maxHeartbeats 4000000 in
set_option maxRecDepth 100000 in
theorem c_X9_marked (l : Launch) (D : va_G) (ev : EvT) (cy : Nat → ClassId) (oL : Nat) (aL : Nat → Nat) (L : OV) (aP : Nat → Nat) (P : OV) (p0 : Int32) (o : Int32) (hf : f_X9_marked P p0 = some o) : Fn l yX9_marked cX9_marked 2 (some .int) r_X9_marked D ev cy [.ref oL, .int p0] [gX9 cy oL aL L, gX4 cy (aL 2) aP P] (fun v G => v = some (.int o) ∧ G = [gX9 cy oL aL L, gX4 cy (aL 2) aP P]) := by
  refine Fn_of (by decide) (Nat.le_of_ble_eq_true rfl) (fun X A Q h hQ _ => ?_)
  unfold f_X9_marked at hf
  show ww X D A 2 Q 0 0 0 [(0, .ref oL), (1, .int p0)] [] [gX9 cy oL aL L, gX4 cy (aL 2) aP P]
  refine ww_aload_n h dX9_marked_0 rfl 0 rfl 1 rfl ?_
  refine ww_get h inG9 rfl 0 rfl rfl 2 (by decide) w_415 rfl dX9_marked_1 4 rfl ?_
  refine ww_iload_n h dX9_marked_4 rfl 1 rfl 5 rfl ?_
  obtain ⟨r_1, hu2, hf⟩ := ob1 hf
  refine ww_cVi h (c_X4_has l D ev cy (aL 2) aP P p0 _ hu2) ⟨w_694, w_704, w_692, w_693, w_105, ok_X4_has⟩ ⟨by decide, by decide⟩ ⟨by decide, by decide⟩ ⟨rfl, rfl⟩ [1] rfl 0 rfl rfl rfl rfl (Nat.le_of_ble_eq_true rfl) dX9_marked_5 8 rfl (Gs' := [gX4 cy (aL 2) aP P, gX9 cy oL aL L]) rfl ?_
  clear hu2
  refine ww_if_eq h dX9_marked_8 23 (by decide) 11 rfl (fun c => ?_) (fun c => ?_)
  · replace hf := ite_t c hf
    refine ww_iconst (v := (-1)) h dX9_marked_23 (by decide) 24 rfl ?_
    refine ww_perm [1, 0] (Gs' := [gX9 cy oL aL L, gX4 cy (aL 2) aP P]) rfl ?_
    obtain rfl := Option.some.inj hf
    exact ww_iret h dX9_marked_24 hQ ⟨rfl, rfl⟩
  · replace hf := ite_f c hf
    refine ww_aload_n h dX9_marked_11 rfl 0 rfl 12 rfl ?_
    refine ww_get h inG9 rfl 1 rfl rfl 2 (by decide) w_415 rfl dX9_marked_12 15 rfl ?_
    refine ww_get h inG4 rfl 0 rfl rfl 1 (by decide) w_201 rfl dX9_marked_15 18 rfl ?_
    refine ww_iload_n h dX9_marked_18 rfl 1 rfl 19 rfl ?_
    have hi := (gd_some hf).1
    replace hf := (gd_some hf).2
    refine ww_iald h 0 rfl 2 rfl (ix_in hi) dX9_marked_19 20 rfl ?_
    clear hi
    refine ww_goto h dX9_marked_20 24 (by decide) ?_
    refine ww_perm [1, 0] (Gs' := [gX9 cy oL aL L, gX4 cy (aL 2) aP P]) rfl ?_
    obtain rfl := Option.some.inj hf
    exact ww_iret h dX9_marked_24 hQ ⟨rfl, rfl⟩
theorem dX9_sign_0 : decode cX9_sign 0 = .ok (.aload_n 0, 1) := by decide +kernel
theorem dX9_sign_1 : decode cX9_sign 1 = .ok (.getfield 34, 3) := by decide +kernel
theorem dX9_sign_4 : decode cX9_sign 4 = .ok (.iload_n 1, 1) := by decide +kernel
theorem dX9_sign_5 : decode cX9_sign 5 = .ok (.invokevirtual 140, 3) := by decide +kernel
theorem dX9_sign_8 : decode cX9_sign 8 = .ok (.ifCond .eq 15, 3) := by decide +kernel
theorem dX9_sign_11 : decode cX9_sign 11 = .ok (.aload_n 0, 1) := by decide +kernel
theorem dX9_sign_12 : decode cX9_sign 12 = .ok (.getfield 34, 3) := by decide +kernel
theorem dX9_sign_15 : decode cX9_sign 15 = .ok (.getfield 141, 3) := by decide +kernel
theorem dX9_sign_18 : decode cX9_sign 18 = .ok (.iload_n 1, 1) := by decide +kernel
theorem dX9_sign_19 : decode cX9_sign 19 = .ok (.iaload, 1) := by decide +kernel
theorem dX9_sign_20 : decode cX9_sign 20 = .ok (.goto 4, 3) := by decide +kernel
theorem dX9_sign_23 : decode cX9_sign 23 = .ok (.iconst (-1), 1) := by decide +kernel
theorem dX9_sign_24 : decode cX9_sign 24 = .ok (.ireturn, 1) := by decide +kernel
theorem ok_X9_sign : okY RX9 yX9_sign 1 := ⟨rfl, by decide, by decide, by decide +kernel⟩
def f_X9_sign (P : OV) (p0 : Int32) : Option (Int32) := (f_X4_has P p0).bind (un1 (fun r_1 => (if r_1 = 0 then some (-1 : Int32) else gd (ix p0 40) (some (ar P 0 p0.toNatClampNeg)))))
def r_X9_sign : Room := { frames := 1, cells := 0, slots := 0, locals := 21 }
set_option maxHeartbeats 4000000 in
set_option maxRecDepth 100000 in
theorem c_X9_sign (l : Launch) (D : va_G) (ev : EvT) (cy : Nat → ClassId) (oL : Nat) (aL : Nat → Nat) (L : OV) (aP : Nat → Nat) (P : OV) (p0 : Int32) (o : Int32) (hf : f_X9_sign P p0 = some o) : Fn l yX9_sign cX9_sign 2 (some .int) r_X9_sign D ev cy [.ref oL, .int p0] [gX9 cy oL aL L, gX4 cy (aL 2) aP P] (fun v G => v = some (.int o) ∧ G = [gX9 cy oL aL L, gX4 cy (aL 2) aP P]) := by
  refine Fn_of (by decide) (Nat.le_of_ble_eq_true rfl) (fun X A Q h hQ _ => ?_)
  unfold f_X9_sign at hf
  show ww X D A 2 Q 0 0 0 [(0, .ref oL), (1, .int p0)] [] [gX9 cy oL aL L, gX4 cy (aL 2) aP P]
  refine ww_aload_n h dX9_sign_0 rfl 0 rfl 1 rfl ?_
  refine ww_get h inG9 rfl 0 rfl rfl 2 (by decide) w_415 rfl dX9_sign_1 4 rfl ?_
  refine ww_iload_n h dX9_sign_4 rfl 1 rfl 5 rfl ?_
  obtain ⟨r_1, hu2, hf⟩ := ob1 hf
  refine ww_cVi h (c_X4_has l D ev cy (aL 2) aP P p0 _ hu2) ⟨w_694, w_704, w_692, w_693, w_105, ok_X4_has⟩ ⟨by decide, by decide⟩ ⟨by decide, by decide⟩ ⟨rfl, rfl⟩ [1] rfl 0 rfl rfl rfl rfl (Nat.le_of_ble_eq_true rfl) dX9_sign_5 8 rfl (Gs' := [gX4 cy (aL 2) aP P, gX9 cy oL aL L]) rfl ?_
  clear hu2
  refine ww_if_eq h dX9_sign_8 23 (by decide) 11 rfl (fun c => ?_) (fun c => ?_)
  · replace hf := ite_t c hf
    refine ww_iconst (v := (-1)) h dX9_sign_23 (by decide) 24 rfl ?_
    refine ww_perm [1, 0] (Gs' := [gX9 cy oL aL L, gX4 cy (aL 2) aP P]) rfl ?_
    obtain rfl := Option.some.inj hf
    exact ww_iret h dX9_sign_24 hQ ⟨rfl, rfl⟩
  · replace hf := ite_f c hf
    refine ww_aload_n h dX9_sign_11 rfl 0 rfl 12 rfl ?_
    refine ww_get h inG9 rfl 1 rfl rfl 2 (by decide) w_415 rfl dX9_sign_12 15 rfl ?_
    refine ww_get h inG4 rfl 0 rfl rfl 0 (by decide) w_197 rfl dX9_sign_15 18 rfl ?_
    refine ww_iload_n h dX9_sign_18 rfl 1 rfl 19 rfl ?_
    have hi := (gd_some hf).1
    replace hf := (gd_some hf).2
    refine ww_iald h 0 rfl 1 rfl (ix_in hi) dX9_sign_19 20 rfl ?_
    clear hi
    refine ww_goto h dX9_sign_20 24 (by decide) ?_
    refine ww_perm [1, 0] (Gs' := [gX9 cy oL aL L, gX4 cy (aL 2) aP P]) rfl ?_
    obtain rfl := Option.some.inj hf
    exact ww_iret h dX9_sign_24 hQ ⟨rfl, rfl⟩
theorem dX9_legal_0 : decode cX9_legal 0 = .ok (.aload_n 0, 1) := by decide +kernel
theorem dX9_legal_1 : decode cX9_legal 1 = .ok (.getfield 34, 3) := by decide +kernel
theorem dX9_legal_4 : decode cX9_legal 4 = .ok (.iload_n 1, 1) := by decide +kernel
theorem dX9_legal_5 : decode cX9_legal 5 = .ok (.invokevirtual 140, 3) := by decide +kernel
theorem dX9_legal_8 : decode cX9_legal 8 = .ok (.ifCond .ne 5, 3) := by decide +kernel
theorem dX9_legal_11 : decode cX9_legal 11 = .ok (.iconst (-1), 1) := by decide +kernel
theorem dX9_legal_12 : decode cX9_legal 12 = .ok (.ireturn, 1) := by decide +kernel
theorem dX9_legal_13 : decode cX9_legal 13 = .ok (.aload_n 0, 1) := by decide +kernel
theorem dX9_legal_14 : decode cX9_legal 14 = .ok (.getfield 34, 3) := by decide +kernel
theorem dX9_legal_17 : decode cX9_legal 17 = .ok (.iload_n 1, 1) := by decide +kernel
theorem dX9_legal_18 : decode cX9_legal 18 = .ok (.invokevirtual 212, 3) := by decide +kernel
theorem dX9_legal_21 : decode cX9_legal 21 = .ok (.ifCond .eq 7, 3) := by decide +kernel
theorem dX9_legal_24 : decode cX9_legal 24 = .ok (.iconst 1, 1) := by decide +kernel
theorem dX9_legal_25 : decode cX9_legal 25 = .ok (.goto 4, 3) := by decide +kernel
theorem dX9_legal_28 : decode cX9_legal 28 = .ok (.iconst 0, 1) := by decide +kernel
theorem dX9_legal_29 : decode cX9_legal 29 = .ok (.ireturn, 1) := by decide +kernel
theorem ok_X9_legal : okY RX9 yX9_legal 1 := ⟨rfl, by decide, by decide, by decide +kernel⟩
def f_X9_legal (P : OV) (p0 : Int32) : Option (Int32) := (f_X4_has P p0).bind (un1 (fun r_1 => (if r_1 = 0 then some (-1 : Int32) else (f_X4_isLegalEnd P p0).bind (un1 (fun r_3 => (if r_3 = 0 then some (0 : Int32) else some (1 : Int32)))))))
def r_X9_legal : Room := { frames := 2, cells := 0, slots := 0, locals := 44 }
set_option maxHeartbeats 4000000 in
set_option maxRecDepth 100000 in
theorem c_X9_legal (l : Launch) (D : va_G) (ev : EvT) (cy : Nat → ClassId) (oL : Nat) (aL : Nat → Nat) (L : OV) (aP : Nat → Nat) (P : OV) (p0 : Int32) (o : Int32) (hf : f_X9_legal P p0 = some o) : Fn l yX9_legal cX9_legal 2 (some .int) r_X9_legal D ev cy [.ref oL, .int p0] [gX9 cy oL aL L, gX4 cy (aL 2) aP P] (fun v G => v = some (.int o) ∧ G = [gX9 cy oL aL L, gX4 cy (aL 2) aP P]) := by
  refine Fn_of (by decide) (Nat.le_of_ble_eq_true rfl) (fun X A Q h hQ _ => ?_)
  unfold f_X9_legal at hf
  show ww X D A 2 Q 0 0 0 [(0, .ref oL), (1, .int p0)] [] [gX9 cy oL aL L, gX4 cy (aL 2) aP P]
  refine ww_aload_n h dX9_legal_0 rfl 0 rfl 1 rfl ?_
  refine ww_get h inG9 rfl 0 rfl rfl 2 (by decide) w_415 rfl dX9_legal_1 4 rfl ?_
  refine ww_iload_n h dX9_legal_4 rfl 1 rfl 5 rfl ?_
  obtain ⟨r_1, hu2, hf⟩ := ob1 hf
  refine ww_cVi h (c_X4_has l D ev cy (aL 2) aP P p0 _ hu2) ⟨w_694, w_704, w_692, w_693, w_105, ok_X4_has⟩ ⟨by decide, by decide⟩ ⟨by decide, by decide⟩ ⟨rfl, rfl⟩ [1] rfl 0 rfl rfl rfl rfl (Nat.le_of_ble_eq_true rfl) dX9_legal_5 8 rfl (Gs' := [gX4 cy (aL 2) aP P, gX9 cy oL aL L]) rfl ?_
  clear hu2
  refine ww_if_ne h dX9_legal_8 13 (by decide) 11 rfl (fun c => ?_) (fun c => ?_)
  · replace hf := ite_f c hf
    refine ww_aload_n h dX9_legal_13 rfl 0 rfl 14 rfl ?_
    refine ww_get h inG9 rfl 1 rfl rfl 2 (by decide) w_415 rfl dX9_legal_14 17 rfl ?_
    refine ww_iload_n h dX9_legal_17 rfl 1 rfl 18 rfl ?_
    obtain ⟨r_3, hu4, hf⟩ := ob1 hf
    refine ww_cVi h (c_X4_isLegalEnd l D ev cy (aL 2) aP P p0 _ hu4) ⟨w_801, w_798, w_799, w_800, w_105, ok_X4_isLegalEnd⟩ ⟨by decide, by decide⟩ ⟨by decide, by decide⟩ ⟨rfl, rfl⟩ [0] rfl 0 rfl rfl rfl rfl (Nat.le_of_ble_eq_true rfl) dX9_legal_18 21 rfl (Gs' := [gX4 cy (aL 2) aP P, gX9 cy oL aL L]) rfl ?_
    clear hu4
    refine ww_if_eq h dX9_legal_21 28 (by decide) 24 rfl (fun c => ?_) (fun c => ?_)
    · replace hf := ite_t c hf
      refine ww_iconst (v := 0) h dX9_legal_28 (by decide) 29 rfl ?_
      refine ww_perm [1, 0] (Gs' := [gX9 cy oL aL L, gX4 cy (aL 2) aP P]) rfl ?_
      obtain rfl := Option.some.inj hf
      exact ww_iret h dX9_legal_29 hQ ⟨rfl, rfl⟩
    · replace hf := ite_f c hf
      refine ww_iconst (v := 1) h dX9_legal_24 (by decide) 25 rfl ?_
      refine ww_goto h dX9_legal_25 29 (by decide) ?_
      refine ww_perm [1, 0] (Gs' := [gX9 cy oL aL L, gX4 cy (aL 2) aP P]) rfl ?_
      obtain rfl := Option.some.inj hf
      exact ww_iret h dX9_legal_29 hQ ⟨rfl, rfl⟩
  · replace hf := ite_t c hf
    refine ww_iconst (v := (-1)) h dX9_legal_11 (by decide) 12 rfl ?_
    refine ww_perm [1, 0] (Gs' := [gX9 cy oL aL L, gX4 cy (aL 2) aP P]) rfl ?_
    obtain rfl := Option.some.inj hf
    exact ww_iret h dX9_legal_12 hQ ⟨rfl, rfl⟩
theorem dX9_spellLine_0 : decode cX9_spellLine 0 = .ok (.aload_n 0, 1) := by decide +kernel
theorem dX9_spellLine_1 : decode cX9_spellLine 1 = .ok (.getfield 18, 3) := by decide +kernel
theorem dX9_spellLine_4 : decode cX9_spellLine 4 = .ok (.iconst 0, 1) := by decide +kernel
theorem dX9_spellLine_5 : decode cX9_spellLine 5 = .ok (.putfield 85, 3) := by decide +kernel
theorem dX9_spellLine_8 : decode cX9_spellLine 8 = .ok (.aload_n 1, 1) := by decide +kernel
theorem dX9_spellLine_9 : decode cX9_spellLine 9 = .ok (.getfield 249, 3) := by decide +kernel
theorem dX9_spellLine_12 : decode cX9_spellLine 12 = .ok (.iconst 1, 1) := by decide +kernel
theorem dX9_spellLine_13 : decode cX9_spellLine 13 = .ok (.aaload, 1) := by decide +kernel
theorem dX9_spellLine_14 : decode cX9_spellLine 14 = .ok (.iload_n 2, 1) := by decide +kernel
theorem dX9_spellLine_15 : decode cX9_spellLine 15 = .ok (.iaload, 1) := by decide +kernel
theorem dX9_spellLine_16 : decode cX9_spellLine 16 = .ok (.istore_n 3, 1) := by decide +kernel
theorem dX9_spellLine_17 : decode cX9_spellLine 17 = .ok (.aload_n 1, 1) := by decide +kernel
theorem dX9_spellLine_18 : decode cX9_spellLine 18 = .ok (.getfield 249, 3) := by decide +kernel
theorem dX9_spellLine_21 : decode cX9_spellLine 21 = .ok (.iconst 0, 1) := by decide +kernel
theorem dX9_spellLine_22 : decode cX9_spellLine 22 = .ok (.aaload, 1) := by decide +kernel
theorem dX9_spellLine_23 : decode cX9_spellLine 23 = .ok (.iload_n 2, 1) := by decide +kernel
theorem dX9_spellLine_24 : decode cX9_spellLine 24 = .ok (.iaload, 1) := by decide +kernel
theorem dX9_spellLine_25 : decode cX9_spellLine 25 = .ok (.istore 4, 2) := by decide +kernel
theorem dX9_spellLine_27 : decode cX9_spellLine 27 = .ok (.iload 4, 2) := by decide +kernel
theorem dX9_spellLine_29 : decode cX9_spellLine 29 = .ok (.iload_n 3, 1) := by decide +kernel
theorem dX9_spellLine_30 : decode cX9_spellLine 30 = .ok (.if_icmp .gt 96, 3) := by decide +kernel
theorem dX9_spellLine_33 : decode cX9_spellLine 33 = .ok (.iload 4, 2) := by decide +kernel
theorem dX9_spellLine_35 : decode cX9_spellLine 35 = .ok (.iload_n 3, 1) := by decide +kernel
theorem dX9_spellLine_36 : decode cX9_spellLine 36 = .ok (.if_icmp .ne 19, 3) := by decide +kernel
theorem dX9_spellLine_39 : decode cX9_spellLine 39 = .ok (.aload_n 1, 1) := by decide +kernel
theorem dX9_spellLine_40 : decode cX9_spellLine 40 = .ok (.getfield 249, 3) := by decide +kernel
theorem dX9_spellLine_43 : decode cX9_spellLine 43 = .ok (.iconst 5, 1) := by decide +kernel
theorem dX9_spellLine_44 : decode cX9_spellLine 44 = .ok (.aaload, 1) := by decide +kernel
theorem dX9_spellLine_45 : decode cX9_spellLine 45 = .ok (.iload_n 2, 1) := by decide +kernel
theorem dX9_spellLine_46 : decode cX9_spellLine 46 = .ok (.iaload, 1) := by decide +kernel
theorem dX9_spellLine_47 : decode cX9_spellLine 47 = .ok (.iconst 1, 1) := by decide +kernel
theorem dX9_spellLine_48 : decode cX9_spellLine 48 = .ok (.if_icmp .ne 7, 3) := by decide +kernel
theorem dX9_spellLine_51 : decode cX9_spellLine 51 = .ok (.iconst 1, 1) := by decide +kernel
theorem dX9_spellLine_52 : decode cX9_spellLine 52 = .ok (.goto 4, 3) := by decide +kernel
theorem dX9_spellLine_55 : decode cX9_spellLine 55 = .ok (.iconst 0, 1) := by decide +kernel
theorem dX9_spellLine_56 : decode cX9_spellLine 56 = .ok (.istore 5, 2) := by decide +kernel
theorem dX9_spellLine_58 : decode cX9_spellLine 58 = .ok (.aload_n 0, 1) := by decide +kernel
theorem dX9_spellLine_59 : decode cX9_spellLine 59 = .ok (.getfield 18, 3) := by decide +kernel
theorem dX9_spellLine_62 : decode cX9_spellLine 62 = .ok (.aload_n 0, 1) := by decide +kernel
theorem dX9_spellLine_63 : decode cX9_spellLine 63 = .ok (.getfield 34, 3) := by decide +kernel
theorem dX9_spellLine_66 : decode cX9_spellLine 66 = .ok (.getfield 141, 3) := by decide +kernel
theorem dX9_spellLine_69 : decode cX9_spellLine 69 = .ok (.iload 4, 2) := by decide +kernel
theorem dX9_spellLine_71 : decode cX9_spellLine 71 = .ok (.iaload, 1) := by decide +kernel
theorem dX9_spellLine_72 : decode cX9_spellLine 72 = .ok (.iload 5, 2) := by decide +kernel
theorem dX9_spellLine_74 : decode cX9_spellLine 74 = .ok (.ifCond .eq 8, 3) := by decide +kernel
theorem dX9_spellLine_77 : decode cX9_spellLine 77 = .ok (.bipush 65, 2) := by decide +kernel
theorem dX9_spellLine_79 : decode cX9_spellLine 79 = .ok (.goto 5, 3) := by decide +kernel
theorem dX9_spellLine_82 : decode cX9_spellLine 82 = .ok (.bipush 97, 2) := by decide +kernel
theorem dX9_spellLine_84 : decode cX9_spellLine 84 = .ok (.iadd, 1) := by decide +kernel
theorem dX9_spellLine_85 : decode cX9_spellLine 85 = .ok (.invokevirtual 282, 3) := by decide +kernel
theorem dX9_spellLine_88 : decode cX9_spellLine 88 = .ok (.aload_n 0, 1) := by decide +kernel
theorem dX9_spellLine_89 : decode cX9_spellLine 89 = .ok (.getfield 18, 3) := by decide +kernel
theorem dX9_spellLine_92 : decode cX9_spellLine 92 = .ok (.bipush 44, 2) := by decide +kernel
theorem dX9_spellLine_94 : decode cX9_spellLine 94 = .ok (.aload_n 1, 1) := by decide +kernel
theorem dX9_spellLine_95 : decode cX9_spellLine 95 = .ok (.getfield 257, 3) := by decide +kernel
theorem dX9_spellLine_98 : decode cX9_spellLine 98 = .ok (.iload 4, 2) := by decide +kernel
theorem dX9_spellLine_100 : decode cX9_spellLine 100 = .ok (.iaload, 1) := by decide +kernel
theorem dX9_spellLine_101 : decode cX9_spellLine 101 = .ok (.invokevirtual 285, 3) := by decide +kernel
theorem dX9_spellLine_104 : decode cX9_spellLine 104 = .ok (.aload_n 0, 1) := by decide +kernel
theorem dX9_spellLine_105 : decode cX9_spellLine 105 = .ok (.getfield 18, 3) := by decide +kernel
theorem dX9_spellLine_108 : decode cX9_spellLine 108 = .ok (.bipush 46, 2) := by decide +kernel
theorem dX9_spellLine_110 : decode cX9_spellLine 110 = .ok (.aload_n 1, 1) := by decide +kernel
theorem dX9_spellLine_111 : decode cX9_spellLine 111 = .ok (.getfield 260, 3) := by decide +kernel
theorem dX9_spellLine_114 : decode cX9_spellLine 114 = .ok (.iload 4, 2) := by decide +kernel
theorem dX9_spellLine_116 : decode cX9_spellLine 116 = .ok (.iaload, 1) := by decide +kernel
theorem dX9_spellLine_117 : decode cX9_spellLine 117 = .ok (.invokevirtual 285, 3) := by decide +kernel
theorem dX9_spellLine_120 : decode cX9_spellLine 120 = .ok (.iinc 4 1, 3) := by decide +kernel
theorem dX9_spellLine_123 : decode cX9_spellLine 123 = .ok (.goto (-96), 3) := by decide +kernel
theorem dX9_spellLine_126 : decode cX9_spellLine 126 = .ok (.aload_n 1, 1) := by decide +kernel
theorem dX9_spellLine_127 : decode cX9_spellLine 127 = .ok (.getfield 249, 3) := by decide +kernel
theorem dX9_spellLine_130 : decode cX9_spellLine 130 = .ok (.bipush 9, 2) := by decide +kernel
theorem dX9_spellLine_132 : decode cX9_spellLine 132 = .ok (.aaload, 1) := by decide +kernel
theorem dX9_spellLine_133 : decode cX9_spellLine 133 = .ok (.iload_n 2, 1) := by decide +kernel
theorem dX9_spellLine_134 : decode cX9_spellLine 134 = .ok (.iaload, 1) := by decide +kernel
theorem dX9_spellLine_135 : decode cX9_spellLine 135 = .ok (.ifCond .ne 12, 3) := by decide +kernel
theorem dX9_spellLine_138 : decode cX9_spellLine 138 = .ok (.aload_n 0, 1) := by decide +kernel
theorem dX9_spellLine_139 : decode cX9_spellLine 139 = .ok (.getfield 18, 3) := by decide +kernel
theorem dX9_spellLine_142 : decode cX9_spellLine 142 = .ok (.bipush 33, 2) := by decide +kernel
theorem dX9_spellLine_144 : decode cX9_spellLine 144 = .ok (.invokevirtual 282, 3) := by decide +kernel
theorem dX9_spellLine_147 : decode cX9_spellLine 147 = .ok (.aload_n 0, 1) := by decide +kernel
theorem dX9_spellLine_148 : decode cX9_spellLine 148 = .ok (.getfield 34, 3) := by decide +kernel
theorem dX9_spellLine_151 : decode cX9_spellLine 151 = .ok (.getfield 159, 3) := by decide +kernel
theorem dX9_spellLine_154 : decode cX9_spellLine 154 = .ok (.iload_n 3, 1) := by decide +kernel
theorem dX9_spellLine_155 : decode cX9_spellLine 155 = .ok (.iaload, 1) := by decide +kernel
theorem dX9_spellLine_156 : decode cX9_spellLine 156 = .ok (.iconst 1, 1) := by decide +kernel
theorem dX9_spellLine_157 : decode cX9_spellLine 157 = .ok (.if_icmp .ne 12, 3) := by decide +kernel
theorem dX9_spellLine_160 : decode cX9_spellLine 160 = .ok (.aload_n 0, 1) := by decide +kernel
theorem dX9_spellLine_161 : decode cX9_spellLine 161 = .ok (.getfield 18, 3) := by decide +kernel
theorem dX9_spellLine_164 : decode cX9_spellLine 164 = .ok (.bipush 47, 2) := by decide +kernel
theorem dX9_spellLine_166 : decode cX9_spellLine 166 = .ok (.invokevirtual 282, 3) := by decide +kernel
theorem dX9_spellLine_169 : decode cX9_spellLine 169 = .ok (.return_, 1) := by decide +kernel
theorem ok_X9_spellLine : okY RX9 yX9_spellLine 2 := ⟨rfl, by decide, by decide, by decide +kernel⟩
def j_X9_spellLine_84_13 (aS : Nat → Nat) (P : OV) (Y : OV) (S_8 : OV) (v4_7 : Int32) (t_12 : Int32) : Option ((Int32 × OV) ⊕ (OV)) := (f_X0_add aS S_8 ((ar P 0 v4_7.toNatClampNeg) + t_12)).bind (un1 (fun S_14 => gd (ix v4_7 40) ((f_X0_addTimes aS S_14 (44 : Int32) (ar Y 1 v4_7.toNatClampNeg)).bind (un1 (fun S_16 => gd (ix v4_7 40) ((f_X0_addTimes aS S_16 (46 : Int32) (ar Y 2 v4_7.toNatClampNeg)).bind (un1 (fun S_18 => bnd (v4_7 + 1) (fun v4_20 => some (.inl (v4_20, S_18)))))))))))
def j_X9_spellLine_56_10 (aS : Nat → Nat) (P : OV) (Y : OV) (S_8 : OV) (v4_7 : Int32) (t_9 : Int32) : Option ((Int32 × OV) ⊕ (OV)) := bnd t_9 (fun v5_11 => gd (ix v4_7 40) ((if v5_11 = 0 then j_X9_spellLine_84_13 aS P Y S_8 v4_7 (97 : Int32) else j_X9_spellLine_84_13 aS P Y S_8 v4_7 (65 : Int32))))
def j_X9_spellLine_55_21 (aS : Nat → Nat) (P : OV) (Y : OV) (S_8 : OV) (v4_7 : Int32) : Option ((Int32 × OV) ⊕ (OV)) := j_X9_spellLine_56_10 aS P Y S_8 v4_7 (0 : Int32)
def s_X9_spellLine_27_6 (aS : Nat → Nat) (P : OV) (Y : OV) (p1 : Int32) (v3_3 : Int32) : (Int32 × OV) → Option ((Int32 × OV) ⊕ (OV)) := un2 (fun v4_7 S_8 => (if v3_3 < v4_7 then some (.inr S_8) else (if v4_7 = v3_3 then gd (ix (5 : Int32) 11) (gd (ix p1 40) ((if (gr Y 0 (5 : Int32).toNatClampNeg p1.toNatClampNeg) = (1 : Int32) then j_X9_spellLine_56_10 aS P Y S_8 v4_7 (1 : Int32) else j_X9_spellLine_55_21 aS P Y S_8 v4_7))) else j_X9_spellLine_55_21 aS P Y S_8 v4_7)))
def j_X9_spellLine_147_26 (aS : Nat → Nat) (P : OV) (v3_3 : Int32) (S_25 : OV) : Option (OV) := gd (ix v3_3 40) ((if (ar P 1 v3_3.toNatClampNeg) = (1 : Int32) then (f_X0_add aS S_25 (47 : Int32)).bind (un1 (fun S_27 => some S_27)) else some S_25))
def f_X9_spellLine (aS : Nat → Nat) (S : OV) (P : OV) (Y : OV) (p1 : Int32) : Option (OV) := bnd (sI S 1 (0 : Int32)) (fun S_1 => gd (ix (1 : Int32) 11) (gd (ix p1 40) (bnd (gr Y 0 (1 : Int32).toNatClampNeg p1.toNatClampNeg) (fun v3_3 => gd (ix (0 : Int32) 11) (gd (ix p1 40) (bnd (gr Y 0 (0 : Int32).toNatClampNeg p1.toNatClampNeg) (fun v4_5 => ((lp (s_X9_spellLine_27_6 aS P Y p1 v3_3) 5000 (v4_5, S_1)).bind (un1 (fun S_23 => gd (ix (9 : Int32) 11) (gd (ix p1 40) ((if (gr Y 0 (9 : Int32).toNatClampNeg p1.toNatClampNeg) = 0 then (f_X0_add aS S_23 (33 : Int32)).bind (un1 (fun S_29 => j_X9_spellLine_147_26 aS P v3_3 S_29)) else j_X9_spellLine_147_26 aS P v3_3 S_23)))))))))))))
def r_X9_spellLine : Room := { frames := 2, cells := 0, slots := 0, locals := 44 }
set_option maxHeartbeats 4000000 in
set_option maxRecDepth 100000 in
theorem c_X9_spellLine (l : Launch) (D : va_G) (ev : EvT) (cy : Nat → ClassId) (oL : Nat) (aL : Nat → Nat) (L : OV) (aS : Nat → Nat) (S : OV) (aP : Nat → Nat) (P : OV) (oY : Nat) (aY : Nat → Nat) (Y : OV) (p1 : Int32) (o : OV) (hf : f_X9_spellLine aS S P Y p1 = some o) : Fn l yX9_spellLine cX9_spellLine 6 none r_X9_spellLine D ev cy [.ref oL, .ref oY, .int p1] [gX9 cy oL aL L, gX0 cy (aL 1) aS S, gX4 cy (aL 2) aP P, gX3 cy oY aY Y] (fun v G => v = none ∧ G = [gX9 cy oL aL L, gX0 cy (aL 1) aS o, gX4 cy (aL 2) aP P, gX3 cy oY aY Y]) := by
  refine Fn_of (by decide) (Nat.le_of_ble_eq_true rfl) (fun X A Q h hQ _ => ?_)
  unfold f_X9_spellLine at hf
  show ww X D A 6 Q 0 0 0 [(0, .ref oL), (1, .ref oY), (2, .int p1)] [] [gX9 cy oL aL L, gX0 cy (aL 1) aS S, gX4 cy (aL 2) aP P, gX3 cy oY aY Y]
  refine ww_aload_n h dX9_spellLine_0 rfl 0 rfl 1 rfl ?_
  refine ww_get h inG9 rfl 0 rfl rfl 1 (by decide) w_414 rfl dX9_spellLine_1 4 rfl ?_
  refine ww_iconst (v := 0) h dX9_spellLine_4 (by decide) 5 rfl ?_
  refine ww_put (ty := .int) h inG0 tyX0_ok nmX0 rfl 1 rfl rfl 1 (by decide) w_141 rfl (by decide +kernel) rfl rfl (Nat.le_of_ble_eq_true rfl) (Nat.le_of_ble_eq_true rfl) dX9_spellLine_5 8 rfl ?_
  refine ww_nm (fun z => [gX9 cy oL aL L, gX0 cy (aL 1) aS z, gX4 cy (aL 2) aP P, gX3 cy oY aY Y]) (sI S 1 (0 : Int32)) (fun S_1 e => ?_)
  replace hf := bnd_at e hf
  clear e
  refine ww_aload_n h dX9_spellLine_8 rfl 1 rfl 9 rfl ?_
  refine ww_get h inG3 rfl 3 rfl rfl 0 (by decide) w_362 rfl dX9_spellLine_9 12 rfl ?_
  refine ww_iconst (v := 1) h dX9_spellLine_12 (by decide) 13 rfl ?_
  have hi := (gd_some hf).1
  replace hf := (gd_some hf).2
  have hj2 := ix_lt hi
  refine ww_aaldR h 3 rfl 1 rfl 4 rfl rfl (ix_in hi) dX9_spellLine_13 14 rfl ?_
  clear hi
  refine ww_iload_n h dX9_spellLine_14 rfl 2 rfl 15 rfl ?_
  have hi := (gd_some hf).1
  replace hf := (gd_some hf).2
  refine ww_iald h 3 rfl (7 + (1 : Int32).toNatClampNeg) (gX3_row0 hj2) (ix_in hi) dX9_spellLine_15 16 rfl ?_
  clear hi
  refine ww_ist_n h dX9_spellLine_16 rfl (by decide) (fun v3_3 => [(3, .int v3_3), (0, .ref oL), (1, .ref oY), (2, .int p1)]) (fun _ => rfl) 17 rfl (fun v3_3 e => ?_)
  replace hf := bnd_at e hf
  clear e
  refine ww_aload_n h dX9_spellLine_17 rfl 2 rfl 18 rfl ?_
  refine ww_get h inG3 rfl 3 rfl rfl 0 (by decide) w_362 rfl dX9_spellLine_18 21 rfl ?_
  refine ww_iconst (v := 0) h dX9_spellLine_21 (by decide) 22 rfl ?_
  have hi := (gd_some hf).1
  replace hf := (gd_some hf).2
  have hj4 := ix_lt hi
  refine ww_aaldR h 3 rfl 1 rfl 4 rfl rfl (ix_in hi) dX9_spellLine_22 23 rfl ?_
  clear hi
  refine ww_iload_n h dX9_spellLine_23 rfl 3 rfl 24 rfl ?_
  have hi := (gd_some hf).1
  replace hf := (gd_some hf).2
  refine ww_iald h 3 rfl (7 + (0 : Int32).toNatClampNeg) (gX3_row0 hj4) (ix_in hi) dX9_spellLine_24 25 rfl ?_
  clear hi
  refine ww_ist h dX9_spellLine_25 (by decide) (fun v4_5 => [(4, .int v4_5), (3, .int v3_3), (0, .ref oL), (1, .ref oY), (2, .int p1)]) (fun _ => rfl) 27 rfl (fun v4_5 e => ?_)
  replace hf := bnd_at e hf
  clear e
  refine ww_lo [2, 3, 4, 1, 0] (lo' := [(0, .ref oL), (1, .ref oY), (2, .int p1), (3, .int v3_3), (4, .int v4_5)]) rfl ?_
  obtain ⟨S_23, h6, hf⟩ := ob1 hf
  refine lp_walk (un2 (fun v4_7 S_8 => ww X D A 6 Q 0 0 27 [(0, .ref oL), (1, .ref oY), (2, .int p1), (3, .int v3_3), (4, .int v4_7)] [] [gX9 cy oL aL L, gX0 cy (aL 1) aS S_8, gX4 cy (aL 2) aP P, gX3 cy oY aY Y])) (un1 (fun S_23 => ww X D A 6 Q 0 0 126 [(0, .ref oL), (1, .ref oY), (2, .int p1), (3, .int v3_3)] [] [gX9 cy oL aL L, gX0 cy (aL 1) aS S_23, gX4 cy (aL 2) aP P, gX3 cy oY aY Y])) ?_ _ _ _ h6 ?_
  · clear h6 hf
    intro s6 o6 hf hI6 hE6
    obtain ⟨v4_7, S_8⟩ := s6
    unfold s_X9_spellLine_27_6 at hf
    replace hf := un2_e hf
    show ww X D A 6 Q 0 0 27 [(0, .ref oL), (1, .ref oY), (2, .int p1), (3, .int v3_3), (4, .int v4_7)] [] [gX9 cy oL aL L, gX0 cy (aL 1) aS S_8, gX4 cy (aL 2) aP P, gX3 cy oY aY Y]
    refine ww_iload h dX9_spellLine_27 4 rfl 29 rfl ?_
    refine ww_iload_n h dX9_spellLine_29 rfl 3 rfl 30 rfl ?_
    refine ww_icmp_gt h dX9_spellLine_30 126 (by decide) 33 rfl (fun c => ?_) (fun c => ?_)
    · replace hf := ite_t c hf
      refine ww_lo [0, 1, 2, 3] (lo' := [(0, .ref oL), (1, .ref oY), (2, .int p1), (3, .int v3_3)]) rfl ?_
      exact hE6 S_8 (Option.some.inj hf).symm
    · replace hf := ite_f c hf
      refine ww_iload h dX9_spellLine_33 4 rfl 35 rfl ?_
      refine ww_iload_n h dX9_spellLine_35 rfl 3 rfl 36 rfl ?_
      have hJ56_10 : ∀ (t_9 : Int32), j_X9_spellLine_56_10 aS P Y S_8 v4_7 t_9 = some o6 → ww X D A 6 Q 0 0 56 [(0, .ref oL), (1, .ref oY), (2, .int p1), (3, .int v3_3), (4, .int v4_7)] [.int t_9] [gX9 cy oL aL L, gX0 cy (aL 1) aS S_8, gX4 cy (aL 2) aP P, gX3 cy oY aY Y] := by
        intro t_9 hf
        unfold j_X9_spellLine_56_10 at hf
        refine ww_ist h dX9_spellLine_56 (by decide) (fun v5_11 => [(5, .int v5_11), (0, .ref oL), (1, .ref oY), (2, .int p1), (3, .int v3_3), (4, .int v4_7)]) (fun _ => rfl) 58 rfl (fun v5_11 e => ?_)
        replace hf := bnd_at e hf
        clear e
        refine ww_aload_n h dX9_spellLine_58 rfl 1 rfl 59 rfl ?_
        refine ww_get h inG9 rfl 0 rfl rfl 1 (by decide) w_414 rfl dX9_spellLine_59 62 rfl ?_
        refine ww_aload_n h dX9_spellLine_62 rfl 1 rfl 63 rfl ?_
        refine ww_get h inG9 rfl 0 rfl rfl 2 (by decide) w_415 rfl dX9_spellLine_63 66 rfl ?_
        refine ww_get h inG4 rfl 2 rfl rfl 0 (by decide) w_197 rfl dX9_spellLine_66 69 rfl ?_
        refine ww_iload h dX9_spellLine_69 5 rfl 71 rfl ?_
        have hi := (gd_some hf).1
        replace hf := (gd_some hf).2
        refine ww_iald h 2 rfl 1 rfl (ix_in hi) dX9_spellLine_71 72 rfl ?_
        clear hi
        refine ww_iload h dX9_spellLine_72 0 rfl 74 rfl ?_
        have hJ84_13 : ∀ (t_12 : Int32), j_X9_spellLine_84_13 aS P Y S_8 v4_7 t_12 = some o6 → ww X D A 6 Q 0 0 84 [(0, .ref oL), (1, .ref oY), (2, .int p1), (3, .int v3_3), (4, .int v4_7)] [.int t_12, .int (ar P 0 v4_7.toNatClampNeg), .ref (aL 1)] [gX9 cy oL aL L, gX0 cy (aL 1) aS S_8, gX4 cy (aL 2) aP P, gX3 cy oY aY Y] := by
          intro t_12 hf
          unfold j_X9_spellLine_84_13 at hf
          refine ww_iadd h dX9_spellLine_84 85 rfl ?_
          obtain ⟨S_14, hu15, hf⟩ := ob1 hf
          refine ww_cVv h (c_X0_add l D ev cy (aL 1) aS S_8 ((ar P 0 v4_7.toNatClampNeg) + t_12) _ hu15) ⟨w_464, w_1024, w_462, w_463, w_102, ok_X0_add⟩ ⟨by decide, by decide⟩ ⟨by decide, by decide⟩ ⟨rfl, rfl⟩ [1] rfl 0 rfl rfl rfl rfl (Nat.le_of_ble_eq_true rfl) dX9_spellLine_85 88 rfl (Gs' := [gX0 cy (aL 1) aS S_14, gX9 cy oL aL L, gX4 cy (aL 2) aP P, gX3 cy oY aY Y]) rfl ?_
          clear hu15
          refine ww_aload_n h dX9_spellLine_88 rfl 0 rfl 89 rfl ?_
          refine ww_get h inG9 rfl 1 rfl rfl 1 (by decide) w_414 rfl dX9_spellLine_89 92 rfl ?_
          refine ww_bipush (v := 44) h dX9_spellLine_92 (by decide) 94 rfl ?_
          refine ww_aload_n h dX9_spellLine_94 rfl 1 rfl 95 rfl ?_
          refine ww_get h inG3 rfl 3 rfl rfl 1 (by decide) w_364 rfl dX9_spellLine_95 98 rfl ?_
          refine ww_iload h dX9_spellLine_98 4 rfl 100 rfl ?_
          have hi := (gd_some hf).1
          replace hf := (gd_some hf).2
          refine ww_iald h 3 rfl 2 rfl (ix_in hi) dX9_spellLine_100 101 rfl ?_
          clear hi
          obtain ⟨S_16, hu17, hf⟩ := ob1 hf
          refine ww_cVv h (c_X0_addTimes l D ev cy (aL 1) aS S_14 (44 : Int32) (ar Y 1 v4_7.toNatClampNeg) _ hu17) ⟨w_1028, w_1025, w_1026, w_1027, w_102, ok_X0_addTimes⟩ ⟨by decide, by decide⟩ ⟨by decide, by decide⟩ ⟨rfl, rfl⟩ [0] rfl 0 rfl rfl rfl rfl (Nat.le_of_ble_eq_true rfl) dX9_spellLine_101 104 rfl (Gs' := [gX0 cy (aL 1) aS S_16, gX9 cy oL aL L, gX4 cy (aL 2) aP P, gX3 cy oY aY Y]) rfl ?_
          clear hu17
          refine ww_aload_n h dX9_spellLine_104 rfl 0 rfl 105 rfl ?_
          refine ww_get h inG9 rfl 1 rfl rfl 1 (by decide) w_414 rfl dX9_spellLine_105 108 rfl ?_
          refine ww_bipush (v := 46) h dX9_spellLine_108 (by decide) 110 rfl ?_
          refine ww_aload_n h dX9_spellLine_110 rfl 1 rfl 111 rfl ?_
          refine ww_get h inG3 rfl 3 rfl rfl 2 (by decide) w_366 rfl dX9_spellLine_111 114 rfl ?_
          refine ww_iload h dX9_spellLine_114 4 rfl 116 rfl ?_
          have hi := (gd_some hf).1
          replace hf := (gd_some hf).2
          refine ww_iald h 3 rfl 3 rfl (ix_in hi) dX9_spellLine_116 117 rfl ?_
          clear hi
          obtain ⟨S_18, hu19, hf⟩ := ob1 hf
          refine ww_cVv h (c_X0_addTimes l D ev cy (aL 1) aS S_16 (46 : Int32) (ar Y 2 v4_7.toNatClampNeg) _ hu19) ⟨w_1028, w_1025, w_1026, w_1027, w_102, ok_X0_addTimes⟩ ⟨by decide, by decide⟩ ⟨by decide, by decide⟩ ⟨rfl, rfl⟩ [0] rfl 0 rfl rfl rfl rfl (Nat.le_of_ble_eq_true rfl) dX9_spellLine_117 120 rfl (Gs' := [gX0 cy (aL 1) aS S_18, gX9 cy oL aL L, gX4 cy (aL 2) aP P, gX3 cy oY aY Y]) rfl ?_
          clear hu19
          refine ww_inc (c := 1) h dX9_spellLine_120 4 rfl (by decide) (by decide) (fun v4_20 => [(4, .int v4_20), (0, .ref oL), (1, .ref oY), (2, .int p1), (3, .int v3_3)]) (fun _ => rfl) 123 rfl (fun v4_20 e => ?_)
          replace hf := bnd_at e hf
          clear e
          refine ww_goto h dX9_spellLine_123 27 (by decide) ?_
          refine ww_lo [1, 2, 3, 4, 0] (lo' := [(0, .ref oL), (1, .ref oY), (2, .int p1), (3, .int v3_3), (4, .int v4_20)]) rfl ?_
          refine ww_perm [1, 0, 0, 0] (Gs' := [gX9 cy oL aL L, gX0 cy (aL 1) aS S_18, gX4 cy (aL 2) aP P, gX3 cy oY aY Y]) rfl ?_
          exact hI6 (v4_20, S_18) (Option.some.inj hf).symm
        refine ww_if_eq h dX9_spellLine_74 82 (by decide) 77 rfl (fun c => ?_) (fun c => ?_)
        · replace hf := ite_t c hf
          refine ww_bipush (v := 97) h dX9_spellLine_82 (by decide) 84 rfl ?_
          refine ww_lo [1, 2, 3, 4, 5] (lo' := [(0, .ref oL), (1, .ref oY), (2, .int p1), (3, .int v3_3), (4, .int v4_7)]) rfl ?_
          exact hJ84_13 (97 : Int32) hf
        · replace hf := ite_f c hf
          refine ww_bipush (v := 65) h dX9_spellLine_77 (by decide) 79 rfl ?_
          refine ww_goto h dX9_spellLine_79 84 (by decide) ?_
          refine ww_lo [1, 2, 3, 4, 5] (lo' := [(0, .ref oL), (1, .ref oY), (2, .int p1), (3, .int v3_3), (4, .int v4_7)]) rfl ?_
          exact hJ84_13 (65 : Int32) hf
      have hJ55_21 : ∀ (_ : Unit), j_X9_spellLine_55_21 aS P Y S_8 v4_7 = some o6 → ww X D A 6 Q 0 0 55 [(0, .ref oL), (1, .ref oY), (2, .int p1), (3, .int v3_3), (4, .int v4_7)] [] [gX9 cy oL aL L, gX0 cy (aL 1) aS S_8, gX4 cy (aL 2) aP P, gX3 cy oY aY Y] := by
        intro _ hf
        unfold j_X9_spellLine_55_21 at hf
        refine ww_iconst (v := 0) h dX9_spellLine_55 (by decide) 56 rfl ?_
        exact hJ56_10 (0 : Int32) hf
      refine ww_icmp_ne h dX9_spellLine_36 55 (by decide) 39 rfl (fun c => ?_) (fun c => ?_)
      · replace hf := ite_f c hf
        exact hJ55_21 () hf
      · replace hf := ite_t c hf
        refine ww_aload_n h dX9_spellLine_39 rfl 1 rfl 40 rfl ?_
        refine ww_get h inG3 rfl 3 rfl rfl 0 (by decide) w_362 rfl dX9_spellLine_40 43 rfl ?_
        refine ww_iconst (v := 5) h dX9_spellLine_43 (by decide) 44 rfl ?_
        have hi := (gd_some hf).1
        replace hf := (gd_some hf).2
        have hj22 := ix_lt hi
        refine ww_aaldR h 3 rfl 1 rfl 4 rfl rfl (ix_in hi) dX9_spellLine_44 45 rfl ?_
        clear hi
        refine ww_iload_n h dX9_spellLine_45 rfl 2 rfl 46 rfl ?_
        have hi := (gd_some hf).1
        replace hf := (gd_some hf).2
        refine ww_iald h 3 rfl (7 + (5 : Int32).toNatClampNeg) (gX3_row0 hj22) (ix_in hi) dX9_spellLine_46 47 rfl ?_
        clear hi
        refine ww_iconst (v := 1) h dX9_spellLine_47 (by decide) 48 rfl ?_
        refine ww_icmp_ne h dX9_spellLine_48 55 (by decide) 51 rfl (fun c => ?_) (fun c => ?_)
        · replace hf := ite_f c hf
          exact hJ55_21 () hf
        · replace hf := ite_t c hf
          refine ww_iconst (v := 1) h dX9_spellLine_51 (by decide) 52 rfl ?_
          refine ww_goto h dX9_spellLine_52 56 (by decide) ?_
          exact hJ56_10 (1 : Int32) hf
  · clear h6
    show ww X D A 6 Q 0 0 126 [(0, .ref oL), (1, .ref oY), (2, .int p1), (3, .int v3_3)] [] [gX9 cy oL aL L, gX0 cy (aL 1) aS S_23, gX4 cy (aL 2) aP P, gX3 cy oY aY Y]
    refine ww_aload_n h dX9_spellLine_126 rfl 1 rfl 127 rfl ?_
    refine ww_get h inG3 rfl 3 rfl rfl 0 (by decide) w_362 rfl dX9_spellLine_127 130 rfl ?_
    refine ww_bipush (v := 9) h dX9_spellLine_130 (by decide) 132 rfl ?_
    have hi := (gd_some hf).1
    replace hf := (gd_some hf).2
    have hj24 := ix_lt hi
    refine ww_aaldR h 3 rfl 1 rfl 4 rfl rfl (ix_in hi) dX9_spellLine_132 133 rfl ?_
    clear hi
    refine ww_iload_n h dX9_spellLine_133 rfl 2 rfl 134 rfl ?_
    have hi := (gd_some hf).1
    replace hf := (gd_some hf).2
    refine ww_iald h 3 rfl (7 + (9 : Int32).toNatClampNeg) (gX3_row0 hj24) (ix_in hi) dX9_spellLine_134 135 rfl ?_
    clear hi
    have hJ147_26 : ∀ (S_25 : OV), j_X9_spellLine_147_26 aS P v3_3 S_25 = some o → ww X D A 6 Q 0 0 147 [(0, .ref oL), (3, .int v3_3)] [] [gX9 cy oL aL L, gX0 cy (aL 1) aS S_25, gX4 cy (aL 2) aP P, gX3 cy oY aY Y] := by
      intro S_25 hf
      unfold j_X9_spellLine_147_26 at hf
      refine ww_aload_n h dX9_spellLine_147 rfl 0 rfl 148 rfl ?_
      refine ww_get h inG9 rfl 0 rfl rfl 2 (by decide) w_415 rfl dX9_spellLine_148 151 rfl ?_
      refine ww_get h inG4 rfl 2 rfl rfl 1 (by decide) w_201 rfl dX9_spellLine_151 154 rfl ?_
      refine ww_iload_n h dX9_spellLine_154 rfl 1 rfl 155 rfl ?_
      have hi := (gd_some hf).1
      replace hf := (gd_some hf).2
      refine ww_iald h 2 rfl 2 rfl (ix_in hi) dX9_spellLine_155 156 rfl ?_
      clear hi
      refine ww_iconst (v := 1) h dX9_spellLine_156 (by decide) 157 rfl ?_
      refine ww_icmp_ne h dX9_spellLine_157 169 (by decide) 160 rfl (fun c => ?_) (fun c => ?_)
      · replace hf := ite_f c hf
        obtain rfl := Option.some.inj hf
        exact ww_vret h dX9_spellLine_169 hQ ⟨rfl, rfl⟩
      · replace hf := ite_t c hf
        refine ww_aload_n h dX9_spellLine_160 rfl 0 rfl 161 rfl ?_
        refine ww_get h inG9 rfl 0 rfl rfl 1 (by decide) w_414 rfl dX9_spellLine_161 164 rfl ?_
        refine ww_bipush (v := 47) h dX9_spellLine_164 (by decide) 166 rfl ?_
        obtain ⟨S_27, hu28, hf⟩ := ob1 hf
        refine ww_cVv h (c_X0_add l D ev cy (aL 1) aS S_25 (47 : Int32) _ hu28) ⟨w_464, w_1024, w_462, w_463, w_102, ok_X0_add⟩ ⟨by decide, by decide⟩ ⟨by decide, by decide⟩ ⟨rfl, rfl⟩ [1] rfl 0 rfl rfl rfl rfl (Nat.le_of_ble_eq_true rfl) dX9_spellLine_166 169 rfl (Gs' := [gX0 cy (aL 1) aS S_27, gX9 cy oL aL L, gX4 cy (aL 2) aP P, gX3 cy oY aY Y]) rfl ?_
        clear hu28
        refine ww_perm [1, 0, 0, 0] (Gs' := [gX9 cy oL aL L, gX0 cy (aL 1) aS S_27, gX4 cy (aL 2) aP P, gX3 cy oY aY Y]) rfl ?_
        obtain rfl := Option.some.inj hf
        exact ww_vret h dX9_spellLine_169 hQ ⟨rfl, rfl⟩
    refine ww_if_ne h dX9_spellLine_135 147 (by decide) 138 rfl (fun c => ?_) (fun c => ?_)
    · replace hf := ite_f c hf
      refine ww_lo [0, 3] (lo' := [(0, .ref oL), (3, .int v3_3)]) rfl ?_
      exact hJ147_26 S_23 hf
    · replace hf := ite_t c hf
      refine ww_aload_n h dX9_spellLine_138 rfl 0 rfl 139 rfl ?_
      refine ww_get h inG9 rfl 0 rfl rfl 1 (by decide) w_414 rfl dX9_spellLine_139 142 rfl ?_
      refine ww_bipush (v := 33) h dX9_spellLine_142 (by decide) 144 rfl ?_
      obtain ⟨S_29, hu30, hf⟩ := ob1 hf
      refine ww_cVv h (c_X0_add l D ev cy (aL 1) aS S_23 (33 : Int32) _ hu30) ⟨w_464, w_1024, w_462, w_463, w_102, ok_X0_add⟩ ⟨by decide, by decide⟩ ⟨by decide, by decide⟩ ⟨rfl, rfl⟩ [1] rfl 0 rfl rfl rfl rfl (Nat.le_of_ble_eq_true rfl) dX9_spellLine_144 147 rfl (Gs' := [gX0 cy (aL 1) aS S_29, gX9 cy oL aL L, gX4 cy (aL 2) aP P, gX3 cy oY aY Y]) rfl ?_
      clear hu30
      refine ww_lo [0, 3] (lo' := [(0, .ref oL), (3, .int v3_3)]) rfl ?_
      refine ww_perm [1, 0, 0, 0] (Gs' := [gX9 cy oL aL L, gX0 cy (aL 1) aS S_29, gX4 cy (aL 2) aP P, gX3 cy oY aY Y]) rfl ?_
      exact hJ147_26 S_29 hf
theorem dX9_spellClass_0 : decode cX9_spellClass 0 = .ok (.aload_n 0, 1) := by decide +kernel
theorem dX9_spellClass_1 : decode cX9_spellClass 1 = .ok (.getfield 18, 3) := by decide +kernel
theorem dX9_spellClass_4 : decode cX9_spellClass 4 = .ok (.ldc_w 294, 3) := by decide +kernel
theorem dX9_spellClass_7 : decode cX9_spellClass 7 = .ok (.invokevirtual 296, 3) := by decide +kernel
theorem dX9_spellClass_10 : decode cX9_spellClass 10 = .ok (.aload_n 0, 1) := by decide +kernel
theorem dX9_spellClass_11 : decode cX9_spellClass 11 = .ok (.getfield 18, 3) := by decide +kernel
theorem dX9_spellClass_14 : decode cX9_spellClass 14 = .ok (.bipush 97, 2) := by decide +kernel
theorem dX9_spellClass_16 : decode cX9_spellClass 16 = .ok (.iload_n 1, 1) := by decide +kernel
theorem dX9_spellClass_17 : decode cX9_spellClass 17 = .ok (.iadd, 1) := by decide +kernel
theorem dX9_spellClass_18 : decode cX9_spellClass 18 = .ok (.invokevirtual 282, 3) := by decide +kernel
theorem dX9_spellClass_21 : decode cX9_spellClass 21 = .ok (.aload_n 0, 1) := by decide +kernel
theorem dX9_spellClass_22 : decode cX9_spellClass 22 = .ok (.getfield 18, 3) := by decide +kernel
theorem dX9_spellClass_25 : decode cX9_spellClass 25 = .ok (.ldc_w 300, 3) := by decide +kernel
theorem dX9_spellClass_28 : decode cX9_spellClass 28 = .ok (.aload_n 0, 1) := by decide +kernel
theorem dX9_spellClass_29 : decode cX9_spellClass 29 = .ok (.getfield 24, 3) := by decide +kernel
theorem dX9_spellClass_32 : decode cX9_spellClass 32 = .ok (.getfield 200, 3) := by decide +kernel
theorem dX9_spellClass_35 : decode cX9_spellClass 35 = .ok (.iconst 0, 1) := by decide +kernel
theorem dX9_spellClass_36 : decode cX9_spellClass 36 = .ok (.aaload, 1) := by decide +kernel
theorem dX9_spellClass_37 : decode cX9_spellClass 37 = .ok (.iload_n 1, 1) := by decide +kernel
theorem dX9_spellClass_38 : decode cX9_spellClass 38 = .ok (.iaload, 1) := by decide +kernel
theorem dX9_spellClass_39 : decode cX9_spellClass 39 = .ok (.invokevirtual 302, 3) := by decide +kernel
theorem dX9_spellClass_42 : decode cX9_spellClass 42 = .ok (.aload_n 0, 1) := by decide +kernel
theorem dX9_spellClass_43 : decode cX9_spellClass 43 = .ok (.getfield 34, 3) := by decide +kernel
theorem dX9_spellClass_46 : decode cX9_spellClass 46 = .ok (.getfield 184, 3) := by decide +kernel
theorem dX9_spellClass_49 : decode cX9_spellClass 49 = .ok (.iload_n 1, 1) := by decide +kernel
theorem dX9_spellClass_50 : decode cX9_spellClass 50 = .ok (.invokestatic 180, 3) := by decide +kernel
theorem dX9_spellClass_53 : decode cX9_spellClass 53 = .ok (.iconst 1, 1) := by decide +kernel
theorem dX9_spellClass_54 : decode cX9_spellClass 54 = .ok (.if_icmp .ne 13, 3) := by decide +kernel
theorem dX9_spellClass_57 : decode cX9_spellClass 57 = .ok (.aload_n 0, 1) := by decide +kernel
theorem dX9_spellClass_58 : decode cX9_spellClass 58 = .ok (.getfield 18, 3) := by decide +kernel
theorem dX9_spellClass_61 : decode cX9_spellClass 61 = .ok (.ldc_w 306, 3) := by decide +kernel
theorem dX9_spellClass_64 : decode cX9_spellClass 64 = .ok (.invokevirtual 296, 3) := by decide +kernel
theorem dX9_spellClass_67 : decode cX9_spellClass 67 = .ok (.aload_n 0, 1) := by decide +kernel
theorem dX9_spellClass_68 : decode cX9_spellClass 68 = .ok (.getfield 34, 3) := by decide +kernel
theorem dX9_spellClass_71 : decode cX9_spellClass 71 = .ok (.getfield 177, 3) := by decide +kernel
theorem dX9_spellClass_74 : decode cX9_spellClass 74 = .ok (.iload_n 1, 1) := by decide +kernel
theorem dX9_spellClass_75 : decode cX9_spellClass 75 = .ok (.invokestatic 180, 3) := by decide +kernel
theorem dX9_spellClass_78 : decode cX9_spellClass 78 = .ok (.iconst 1, 1) := by decide +kernel
theorem dX9_spellClass_79 : decode cX9_spellClass 79 = .ok (.if_icmp .ne 13, 3) := by decide +kernel
theorem dX9_spellClass_82 : decode cX9_spellClass 82 = .ok (.aload_n 0, 1) := by decide +kernel
theorem dX9_spellClass_83 : decode cX9_spellClass 83 = .ok (.getfield 18, 3) := by decide +kernel
theorem dX9_spellClass_86 : decode cX9_spellClass 86 = .ok (.ldc_w 308, 3) := by decide +kernel
theorem dX9_spellClass_89 : decode cX9_spellClass 89 = .ok (.invokevirtual 296, 3) := by decide +kernel
theorem dX9_spellClass_92 : decode cX9_spellClass 92 = .ok (.aload_n 0, 1) := by decide +kernel
theorem dX9_spellClass_93 : decode cX9_spellClass 93 = .ok (.getfield 24, 3) := by decide +kernel
theorem dX9_spellClass_96 : decode cX9_spellClass 96 = .ok (.getfield 200, 3) := by decide +kernel
theorem dX9_spellClass_99 : decode cX9_spellClass 99 = .ok (.iconst 3, 1) := by decide +kernel
theorem dX9_spellClass_100 : decode cX9_spellClass 100 = .ok (.aaload, 1) := by decide +kernel
theorem dX9_spellClass_101 : decode cX9_spellClass 101 = .ok (.iload_n 1, 1) := by decide +kernel
theorem dX9_spellClass_102 : decode cX9_spellClass 102 = .ok (.iaload, 1) := by decide +kernel
theorem dX9_spellClass_103 : decode cX9_spellClass 103 = .ok (.iconst 1, 1) := by decide +kernel
theorem dX9_spellClass_104 : decode cX9_spellClass 104 = .ok (.if_icmp .ne 13, 3) := by decide +kernel
theorem dX9_spellClass_107 : decode cX9_spellClass 107 = .ok (.aload_n 0, 1) := by decide +kernel
theorem dX9_spellClass_108 : decode cX9_spellClass 108 = .ok (.getfield 18, 3) := by decide +kernel
theorem dX9_spellClass_111 : decode cX9_spellClass 111 = .ok (.ldc_w 310, 3) := by decide +kernel
theorem dX9_spellClass_114 : decode cX9_spellClass 114 = .ok (.invokevirtual 296, 3) := by decide +kernel
theorem dX9_spellClass_117 : decode cX9_spellClass 117 = .ok (.aload_n 0, 1) := by decide +kernel
theorem dX9_spellClass_118 : decode cX9_spellClass 118 = .ok (.getfield 24, 3) := by decide +kernel
theorem dX9_spellClass_121 : decode cX9_spellClass 121 = .ok (.getfield 200, 3) := by decide +kernel
theorem dX9_spellClass_124 : decode cX9_spellClass 124 = .ok (.iconst 4, 1) := by decide +kernel
theorem dX9_spellClass_125 : decode cX9_spellClass 125 = .ok (.aaload, 1) := by decide +kernel
theorem dX9_spellClass_126 : decode cX9_spellClass 126 = .ok (.iload_n 1, 1) := by decide +kernel
theorem dX9_spellClass_127 : decode cX9_spellClass 127 = .ok (.iaload, 1) := by decide +kernel
theorem dX9_spellClass_128 : decode cX9_spellClass 128 = .ok (.ifCond .le 24, 3) := by decide +kernel
theorem dX9_spellClass_131 : decode cX9_spellClass 131 = .ok (.aload_n 0, 1) := by decide +kernel
theorem dX9_spellClass_132 : decode cX9_spellClass 132 = .ok (.getfield 18, 3) := by decide +kernel
theorem dX9_spellClass_135 : decode cX9_spellClass 135 = .ok (.ldc_w 312, 3) := by decide +kernel
theorem dX9_spellClass_138 : decode cX9_spellClass 138 = .ok (.aload_n 0, 1) := by decide +kernel
theorem dX9_spellClass_139 : decode cX9_spellClass 139 = .ok (.getfield 24, 3) := by decide +kernel
theorem dX9_spellClass_142 : decode cX9_spellClass 142 = .ok (.getfield 200, 3) := by decide +kernel
theorem dX9_spellClass_145 : decode cX9_spellClass 145 = .ok (.iconst 4, 1) := by decide +kernel
theorem dX9_spellClass_146 : decode cX9_spellClass 146 = .ok (.aaload, 1) := by decide +kernel
theorem dX9_spellClass_147 : decode cX9_spellClass 147 = .ok (.iload_n 1, 1) := by decide +kernel
theorem dX9_spellClass_148 : decode cX9_spellClass 148 = .ok (.iaload, 1) := by decide +kernel
theorem dX9_spellClass_149 : decode cX9_spellClass 149 = .ok (.invokevirtual 302, 3) := by decide +kernel
theorem dX9_spellClass_152 : decode cX9_spellClass 152 = .ok (.aload_n 0, 1) := by decide +kernel
theorem dX9_spellClass_153 : decode cX9_spellClass 153 = .ok (.getfield 24, 3) := by decide +kernel
theorem dX9_spellClass_156 : decode cX9_spellClass 156 = .ok (.getfield 200, 3) := by decide +kernel
theorem dX9_spellClass_159 : decode cX9_spellClass 159 = .ok (.iconst 5, 1) := by decide +kernel
theorem dX9_spellClass_160 : decode cX9_spellClass 160 = .ok (.aaload, 1) := by decide +kernel
theorem dX9_spellClass_161 : decode cX9_spellClass 161 = .ok (.iload_n 1, 1) := by decide +kernel
theorem dX9_spellClass_162 : decode cX9_spellClass 162 = .ok (.iaload, 1) := by decide +kernel
theorem dX9_spellClass_163 : decode cX9_spellClass 163 = .ok (.ifCond .le 46, 3) := by decide +kernel
theorem dX9_spellClass_166 : decode cX9_spellClass 166 = .ok (.aload_n 0, 1) := by decide +kernel
theorem dX9_spellClass_167 : decode cX9_spellClass 167 = .ok (.getfield 18, 3) := by decide +kernel
theorem dX9_spellClass_170 : decode cX9_spellClass 170 = .ok (.ldc_w 314, 3) := by decide +kernel
theorem dX9_spellClass_173 : decode cX9_spellClass 173 = .ok (.aload_n 0, 1) := by decide +kernel
theorem dX9_spellClass_174 : decode cX9_spellClass 174 = .ok (.getfield 24, 3) := by decide +kernel
theorem dX9_spellClass_177 : decode cX9_spellClass 177 = .ok (.getfield 200, 3) := by decide +kernel
theorem dX9_spellClass_180 : decode cX9_spellClass 180 = .ok (.iconst 5, 1) := by decide +kernel
theorem dX9_spellClass_181 : decode cX9_spellClass 181 = .ok (.aaload, 1) := by decide +kernel
theorem dX9_spellClass_182 : decode cX9_spellClass 182 = .ok (.iload_n 1, 1) := by decide +kernel
theorem dX9_spellClass_183 : decode cX9_spellClass 183 = .ok (.iaload, 1) := by decide +kernel
theorem dX9_spellClass_184 : decode cX9_spellClass 184 = .ok (.invokevirtual 302, 3) := by decide +kernel
theorem dX9_spellClass_187 : decode cX9_spellClass 187 = .ok (.aload_n 0, 1) := by decide +kernel
theorem dX9_spellClass_188 : decode cX9_spellClass 188 = .ok (.getfield 18, 3) := by decide +kernel
theorem dX9_spellClass_191 : decode cX9_spellClass 191 = .ok (.ldc_w 316, 3) := by decide +kernel
theorem dX9_spellClass_194 : decode cX9_spellClass 194 = .ok (.aload_n 0, 1) := by decide +kernel
theorem dX9_spellClass_195 : decode cX9_spellClass 195 = .ok (.getfield 24, 3) := by decide +kernel
theorem dX9_spellClass_198 : decode cX9_spellClass 198 = .ok (.getfield 200, 3) := by decide +kernel
theorem dX9_spellClass_201 : decode cX9_spellClass 201 = .ok (.bipush 6, 2) := by decide +kernel
theorem dX9_spellClass_203 : decode cX9_spellClass 203 = .ok (.aaload, 1) := by decide +kernel
theorem dX9_spellClass_204 : decode cX9_spellClass 204 = .ok (.iload_n 1, 1) := by decide +kernel
theorem dX9_spellClass_205 : decode cX9_spellClass 205 = .ok (.iaload, 1) := by decide +kernel
theorem dX9_spellClass_206 : decode cX9_spellClass 206 = .ok (.invokevirtual 302, 3) := by decide +kernel
theorem dX9_spellClass_209 : decode cX9_spellClass 209 = .ok (.aload_n 0, 1) := by decide +kernel
theorem dX9_spellClass_210 : decode cX9_spellClass 210 = .ok (.getfield 24, 3) := by decide +kernel
theorem dX9_spellClass_213 : decode cX9_spellClass 213 = .ok (.getfield 200, 3) := by decide +kernel
theorem dX9_spellClass_216 : decode cX9_spellClass 216 = .ok (.bipush 7, 2) := by decide +kernel
theorem dX9_spellClass_218 : decode cX9_spellClass 218 = .ok (.aaload, 1) := by decide +kernel
theorem dX9_spellClass_219 : decode cX9_spellClass 219 = .ok (.iload_n 1, 1) := by decide +kernel
theorem dX9_spellClass_220 : decode cX9_spellClass 220 = .ok (.iaload, 1) := by decide +kernel
theorem dX9_spellClass_221 : decode cX9_spellClass 221 = .ok (.ifCond .le 47, 3) := by decide +kernel
theorem dX9_spellClass_224 : decode cX9_spellClass 224 = .ok (.aload_n 0, 1) := by decide +kernel
theorem dX9_spellClass_225 : decode cX9_spellClass 225 = .ok (.getfield 18, 3) := by decide +kernel
theorem dX9_spellClass_228 : decode cX9_spellClass 228 = .ok (.ldc_w 318, 3) := by decide +kernel
theorem dX9_spellClass_231 : decode cX9_spellClass 231 = .ok (.aload_n 0, 1) := by decide +kernel
theorem dX9_spellClass_232 : decode cX9_spellClass 232 = .ok (.getfield 24, 3) := by decide +kernel
theorem dX9_spellClass_235 : decode cX9_spellClass 235 = .ok (.getfield 200, 3) := by decide +kernel
theorem dX9_spellClass_238 : decode cX9_spellClass 238 = .ok (.bipush 7, 2) := by decide +kernel
theorem dX9_spellClass_240 : decode cX9_spellClass 240 = .ok (.aaload, 1) := by decide +kernel
theorem dX9_spellClass_241 : decode cX9_spellClass 241 = .ok (.iload_n 1, 1) := by decide +kernel
theorem dX9_spellClass_242 : decode cX9_spellClass 242 = .ok (.iaload, 1) := by decide +kernel
theorem dX9_spellClass_243 : decode cX9_spellClass 243 = .ok (.invokevirtual 302, 3) := by decide +kernel
theorem dX9_spellClass_246 : decode cX9_spellClass 246 = .ok (.aload_n 0, 1) := by decide +kernel
theorem dX9_spellClass_247 : decode cX9_spellClass 247 = .ok (.getfield 18, 3) := by decide +kernel
theorem dX9_spellClass_250 : decode cX9_spellClass 250 = .ok (.ldc_w 316, 3) := by decide +kernel
theorem dX9_spellClass_253 : decode cX9_spellClass 253 = .ok (.aload_n 0, 1) := by decide +kernel
theorem dX9_spellClass_254 : decode cX9_spellClass 254 = .ok (.getfield 24, 3) := by decide +kernel
theorem dX9_spellClass_257 : decode cX9_spellClass 257 = .ok (.getfield 200, 3) := by decide +kernel
theorem dX9_spellClass_260 : decode cX9_spellClass 260 = .ok (.bipush 8, 2) := by decide +kernel
theorem dX9_spellClass_262 : decode cX9_spellClass 262 = .ok (.aaload, 1) := by decide +kernel
theorem dX9_spellClass_263 : decode cX9_spellClass 263 = .ok (.iload_n 1, 1) := by decide +kernel
theorem dX9_spellClass_264 : decode cX9_spellClass 264 = .ok (.iaload, 1) := by decide +kernel
theorem dX9_spellClass_265 : decode cX9_spellClass 265 = .ok (.invokevirtual 302, 3) := by decide +kernel
theorem dX9_spellClass_268 : decode cX9_spellClass 268 = .ok (.aload_n 0, 1) := by decide +kernel
theorem dX9_spellClass_269 : decode cX9_spellClass 269 = .ok (.getfield 18, 3) := by decide +kernel
theorem dX9_spellClass_272 : decode cX9_spellClass 272 = .ok (.bipush 59, 2) := by decide +kernel
theorem dX9_spellClass_274 : decode cX9_spellClass 274 = .ok (.invokevirtual 282, 3) := by decide +kernel
theorem dX9_spellClass_277 : decode cX9_spellClass 277 = .ok (.return_, 1) := by decide +kernel
theorem ok_X9_spellClass : okY RX9 yX9_spellClass 1 := ⟨rfl, by decide, by decide, by decide +kernel⟩
def j_X9_spellClass_268_27 (aS : Nat → Nat) (S_26 : OV) : Option (OV) := (f_X0_add aS S_26 (59 : Int32)).bind (un1 (fun S_28 => some S_28))
def j_X9_spellClass_209_24 (oC : Nat) (aS : Nat → Nat) (L : OV) (C : OV) (p0 : Int32) (S_23 : OV) : Option (OV) := gd (decide (nv L 10 = oC)) (gd (ix (7 : Int32) 9) (gd (ix p0 26) ((if (gr C 0 (7 : Int32).toNatClampNeg p0.toNatClampNeg) ≤ 0 then j_X9_spellClass_268_27 aS S_23 else gd (decide (nv L 10 = oC)) (gd (ix (7 : Int32) 9) (gd (ix p0 26) ((f_X0_addNumber aS S_23 19 (gr C 0 (7 : Int32).toNatClampNeg p0.toNatClampNeg)).bind (un1 (fun S_31 => gd (decide (nv L 10 = oC)) (gd (ix (8 : Int32) 9) (gd (ix p0 26) ((f_X0_addNumber aS S_31 18 (gr C 0 (8 : Int32).toNatClampNeg p0.toNatClampNeg)).bind (un1 (fun S_34 => j_X9_spellClass_268_27 aS S_34))))))))))))))
def j_X9_spellClass_152_21 (oC : Nat) (aS : Nat → Nat) (L : OV) (C : OV) (p0 : Int32) (S_20 : OV) : Option (OV) := gd (decide (nv L 10 = oC)) (gd (ix (5 : Int32) 9) (gd (ix p0 26) ((if (gr C 0 (5 : Int32).toNatClampNeg p0.toNatClampNeg) ≤ 0 then j_X9_spellClass_209_24 oC aS L C p0 S_20 else gd (decide (nv L 10 = oC)) (gd (ix (5 : Int32) 9) (gd (ix p0 26) ((f_X0_addNumber aS S_20 17 (gr C 0 (5 : Int32).toNatClampNeg p0.toNatClampNeg)).bind (un1 (fun S_37 => gd (decide (nv L 10 = oC)) (gd (ix (6 : Int32) 9) (gd (ix p0 26) ((f_X0_addNumber aS S_37 18 (gr C 0 (6 : Int32).toNatClampNeg p0.toNatClampNeg)).bind (un1 (fun S_40 => j_X9_spellClass_209_24 oC aS L C p0 S_40))))))))))))))
def j_X9_spellClass_117_18 (oC : Nat) (aS : Nat → Nat) (L : OV) (C : OV) (p0 : Int32) (S_17 : OV) : Option (OV) := gd (decide (nv L 10 = oC)) (gd (ix (4 : Int32) 9) (gd (ix p0 26) ((if (gr C 0 (4 : Int32).toNatClampNeg p0.toNatClampNeg) ≤ 0 then j_X9_spellClass_152_21 oC aS L C p0 S_17 else gd (decide (nv L 10 = oC)) (gd (ix (4 : Int32) 9) (gd (ix p0 26) ((f_X0_addNumber aS S_17 16 (gr C 0 (4 : Int32).toNatClampNeg p0.toNatClampNeg)).bind (un1 (fun S_43 => j_X9_spellClass_152_21 oC aS L C p0 S_43)))))))))
def j_X9_spellClass_92_15 (oC : Nat) (aS : Nat → Nat) (L : OV) (C : OV) (p0 : Int32) (S_14 : OV) : Option (OV) := gd (decide (nv L 10 = oC)) (gd (ix (3 : Int32) 9) (gd (ix p0 26) ((if (gr C 0 (3 : Int32).toNatClampNeg p0.toNatClampNeg) = (1 : Int32) then (f_X0_addText aS S_14 15).bind (un1 (fun S_45 => j_X9_spellClass_117_18 oC aS L C p0 S_45)) else j_X9_spellClass_117_18 oC aS L C p0 S_14))))
def j_X9_spellClass_67_11 (oC : Nat) (aS : Nat → Nat) (L : OV) (P : OV) (C : OV) (p0 : Int32) (S_10 : OV) : Option (OV) := (f_X9_bitOf (iv P 7) p0).bind (un1 (fun r_12 => (if r_12 = (1 : Int32) then (f_X0_addText aS S_10 14).bind (un1 (fun S_47 => j_X9_spellClass_92_15 oC aS L C p0 S_47)) else j_X9_spellClass_92_15 oC aS L C p0 S_10)))
def f_X9_spellClass (L : OV) (aS : Nat → Nat) (S : OV) (P : OV) (oC : Nat) (C : OV) (p0 : Int32) : Option (OV) := (f_X0_addText aS S 11).bind (un1 (fun S_1 => (f_X0_add aS S_1 ((97 : Int32) + p0)).bind (un1 (fun S_3 => gd (decide (nv L 10 = oC)) (gd (ix (0 : Int32) 9) (gd (ix p0 26) ((f_X0_addNumber aS S_3 12 (gr C 0 (0 : Int32).toNatClampNeg p0.toNatClampNeg)).bind (un1 (fun S_6 => (f_X9_bitOf (iv P 6) p0).bind (un1 (fun r_8 => (if r_8 = (1 : Int32) then (f_X0_addText aS S_6 13).bind (un1 (fun S_49 => j_X9_spellClass_67_11 oC aS L P C p0 S_49)) else j_X9_spellClass_67_11 oC aS L P C p0 S_6))))))))))))
def r_X9_spellClass : Room := { frames := 6, cells := 0, slots := 0, locals := 129 }
set_option maxHeartbeats 4000000 in
set_option maxRecDepth 100000 in
theorem c_X9_spellClass (l : Launch) (D : va_G) (ev : EvT) (cy : Nat → ClassId) (oL : Nat) (aL : Nat → Nat) (L : OV) (aS : Nat → Nat) (S : OV) (aP : Nat → Nat) (P : OV) (oC : Nat) (aC : Nat → Nat) (C : OV) (p0 : Int32) (o : OV) (hf : f_X9_spellClass L aS S P oC C p0 = some o) : Fn l yX9_spellClass cX9_spellClass 2 none r_X9_spellClass D ev cy [.ref oL, .int p0] [gX9 cy oL aL L, gX0 cy (aL 1) aS S, gX4 cy (aL 2) aP P, gX1 cy oC aC C] (fun v G => v = none ∧ G = [gX9 cy oL aL L, gX0 cy (aL 1) aS o, gX4 cy (aL 2) aP P, gX1 cy oC aC C]) := by
  refine Fn_of (by decide) (Nat.le_of_ble_eq_true rfl) (fun X A Q h hQ _ => ?_)
  unfold f_X9_spellClass at hf
  show ww X D A 2 Q 0 0 0 [(0, .ref oL), (1, .int p0)] [] [gX9 cy oL aL L, gX0 cy (aL 1) aS S, gX4 cy (aL 2) aP P, gX1 cy oC aC C]
  refine ww_aload_n h dX9_spellClass_0 rfl 0 rfl 1 rfl ?_
  refine ww_get h inG9 rfl 0 rfl rfl 1 (by decide) w_414 rfl dX9_spellClass_1 4 rfl ?_
  refine ww_ldcSw h 11 rfl dX9_spellClass_4 7 rfl ?_
  obtain ⟨S_1, hu2, hf⟩ := ob1 hf
  refine ww_cVv h (c_X0_addText l D ev cy (aL 1) aS S 11 _ hu2) ⟨w_1045, w_1042, w_1043, w_1044, w_102, ok_X0_addText⟩ ⟨by decide, by decide⟩ ⟨by decide, by decide⟩ ⟨rfl, rfl⟩ [1] rfl 0 rfl rfl rfl rfl (Nat.le_of_ble_eq_true rfl) dX9_spellClass_7 10 rfl (Gs' := [gX0 cy (aL 1) aS S_1, gX9 cy oL aL L, gX4 cy (aL 2) aP P, gX1 cy oC aC C]) rfl ?_
  clear hu2
  refine ww_aload_n h dX9_spellClass_10 rfl 0 rfl 11 rfl ?_
  refine ww_get h inG9 rfl 1 rfl rfl 1 (by decide) w_414 rfl dX9_spellClass_11 14 rfl ?_
  refine ww_bipush (v := 97) h dX9_spellClass_14 (by decide) 16 rfl ?_
  refine ww_iload_n h dX9_spellClass_16 rfl 1 rfl 17 rfl ?_
  refine ww_iadd h dX9_spellClass_17 18 rfl ?_
  obtain ⟨S_3, hu4, hf⟩ := ob1 hf
  refine ww_cVv h (c_X0_add l D ev cy (aL 1) aS S_1 ((97 : Int32) + p0) _ hu4) ⟨w_464, w_1024, w_462, w_463, w_102, ok_X0_add⟩ ⟨by decide, by decide⟩ ⟨by decide, by decide⟩ ⟨rfl, rfl⟩ [0] rfl 0 rfl rfl rfl rfl (Nat.le_of_ble_eq_true rfl) dX9_spellClass_18 21 rfl (Gs' := [gX0 cy (aL 1) aS S_3, gX9 cy oL aL L, gX4 cy (aL 2) aP P, gX1 cy oC aC C]) rfl ?_
  clear hu4
  refine ww_aload_n h dX9_spellClass_21 rfl 0 rfl 22 rfl ?_
  refine ww_get h inG9 rfl 1 rfl rfl 1 (by decide) w_414 rfl dX9_spellClass_22 25 rfl ?_
  refine ww_ldcSw h 12 rfl dX9_spellClass_25 28 rfl ?_
  refine ww_aload_n h dX9_spellClass_28 rfl 0 rfl 29 rfl ?_
  refine ww_get h inG9 rfl 1 rfl rfl 10 (by decide) w_423 rfl dX9_spellClass_29 32 rfl ?_
  have hi := (gd_some hf).1
  replace hf := (gd_some hf).2
  refine ww_ref hi ?_
  clear hi
  refine ww_get h inG1 rfl 3 rfl rfl 0 (by decide) w_160 rfl dX9_spellClass_32 35 rfl ?_
  refine ww_iconst (v := 0) h dX9_spellClass_35 (by decide) 36 rfl ?_
  have hi := (gd_some hf).1
  replace hf := (gd_some hf).2
  have hj5 := ix_lt hi
  refine ww_aaldR h 3 rfl 1 rfl 4 rfl rfl (ix_in hi) dX9_spellClass_36 37 rfl ?_
  clear hi
  refine ww_iload_n h dX9_spellClass_37 rfl 1 rfl 38 rfl ?_
  have hi := (gd_some hf).1
  replace hf := (gd_some hf).2
  refine ww_iald h 3 rfl (3 + (0 : Int32).toNatClampNeg) (gX1_row0 hj5) (ix_in hi) dX9_spellClass_38 39 rfl ?_
  clear hi
  obtain ⟨S_6, hu7, hf⟩ := ob1 hf
  refine ww_cVv h (c_X0_addNumber l D ev cy (aL 1) aS S_3 12 (gr C 0 (0 : Int32).toNatClampNeg p0.toNatClampNeg) _ hu7) ⟨w_1052, w_1049, w_1050, w_1051, w_102, ok_X0_addNumber⟩ ⟨by decide, by decide⟩ ⟨by decide, by decide⟩ ⟨rfl, rfl⟩ [0] rfl 0 rfl rfl rfl rfl (Nat.le_of_ble_eq_true rfl) dX9_spellClass_39 42 rfl (Gs' := [gX0 cy (aL 1) aS S_6, gX9 cy oL aL L, gX4 cy (aL 2) aP P, gX1 cy oC aC C]) rfl ?_
  clear hu7
  refine ww_aload_n h dX9_spellClass_42 rfl 0 rfl 43 rfl ?_
  refine ww_get h inG9 rfl 1 rfl rfl 2 (by decide) w_415 rfl dX9_spellClass_43 46 rfl ?_
  refine ww_get h inG4 rfl 2 rfl rfl 6 (by decide) w_214 rfl dX9_spellClass_46 49 rfl ?_
  refine ww_iload_n h dX9_spellClass_49 rfl 1 rfl 50 rfl ?_
  obtain ⟨r_8, hu9, hf⟩ := ob1 hf
  refine ww_cSi h (c_X9_bitOf l D ev cy (iv P 6) p0 _ hu9) ⟨w_636, w_749, w_635, w_101, ok_X9_bitOf⟩ ⟨by decide, by decide⟩ ⟨by decide, by decide⟩ ⟨rfl, rfl⟩ [] rfl rfl (Nat.le_of_ble_eq_true rfl) dX9_spellClass_50 53 rfl (Gs' := [gX0 cy (aL 1) aS S_6, gX9 cy oL aL L, gX4 cy (aL 2) aP P, gX1 cy oC aC C]) rfl ?_
  clear hu9
  refine ww_iconst (v := 1) h dX9_spellClass_53 (by decide) 54 rfl ?_
  have hJ67_11 : ∀ (S_10 : OV), j_X9_spellClass_67_11 oC aS L P C p0 S_10 = some o → ww X D A 2 Q 0 0 67 [(0, .ref oL), (1, .int p0)] [] [gX9 cy oL aL L, gX0 cy (aL 1) aS S_10, gX4 cy (aL 2) aP P, gX1 cy oC aC C] := by
    intro S_10 hf
    unfold j_X9_spellClass_67_11 at hf
    refine ww_aload_n h dX9_spellClass_67 rfl 0 rfl 68 rfl ?_
    refine ww_get h inG9 rfl 0 rfl rfl 2 (by decide) w_415 rfl dX9_spellClass_68 71 rfl ?_
    refine ww_get h inG4 rfl 2 rfl rfl 7 (by decide) w_216 rfl dX9_spellClass_71 74 rfl ?_
    refine ww_iload_n h dX9_spellClass_74 rfl 1 rfl 75 rfl ?_
    obtain ⟨r_12, hu13, hf⟩ := ob1 hf
    refine ww_cSi h (c_X9_bitOf l D ev cy (iv P 7) p0 _ hu13) ⟨w_636, w_749, w_635, w_101, ok_X9_bitOf⟩ ⟨by decide, by decide⟩ ⟨by decide, by decide⟩ ⟨rfl, rfl⟩ [] rfl rfl (Nat.le_of_ble_eq_true rfl) dX9_spellClass_75 78 rfl (Gs' := [gX9 cy oL aL L, gX0 cy (aL 1) aS S_10, gX4 cy (aL 2) aP P, gX1 cy oC aC C]) rfl ?_
    clear hu13
    refine ww_iconst (v := 1) h dX9_spellClass_78 (by decide) 79 rfl ?_
    have hJ92_15 : ∀ (S_14 : OV), j_X9_spellClass_92_15 oC aS L C p0 S_14 = some o → ww X D A 2 Q 0 0 92 [(0, .ref oL), (1, .int p0)] [] [gX9 cy oL aL L, gX0 cy (aL 1) aS S_14, gX4 cy (aL 2) aP P, gX1 cy oC aC C] := by
      intro S_14 hf
      unfold j_X9_spellClass_92_15 at hf
      refine ww_aload_n h dX9_spellClass_92 rfl 0 rfl 93 rfl ?_
      refine ww_get h inG9 rfl 0 rfl rfl 10 (by decide) w_423 rfl dX9_spellClass_93 96 rfl ?_
      have hi := (gd_some hf).1
      replace hf := (gd_some hf).2
      refine ww_ref hi ?_
      clear hi
      refine ww_get h inG1 rfl 3 rfl rfl 0 (by decide) w_160 rfl dX9_spellClass_96 99 rfl ?_
      refine ww_iconst (v := 3) h dX9_spellClass_99 (by decide) 100 rfl ?_
      have hi := (gd_some hf).1
      replace hf := (gd_some hf).2
      have hj16 := ix_lt hi
      refine ww_aaldR h 3 rfl 1 rfl 4 rfl rfl (ix_in hi) dX9_spellClass_100 101 rfl ?_
      clear hi
      refine ww_iload_n h dX9_spellClass_101 rfl 1 rfl 102 rfl ?_
      have hi := (gd_some hf).1
      replace hf := (gd_some hf).2
      refine ww_iald h 3 rfl (3 + (3 : Int32).toNatClampNeg) (gX1_row0 hj16) (ix_in hi) dX9_spellClass_102 103 rfl ?_
      clear hi
      refine ww_iconst (v := 1) h dX9_spellClass_103 (by decide) 104 rfl ?_
      have hJ117_18 : ∀ (S_17 : OV), j_X9_spellClass_117_18 oC aS L C p0 S_17 = some o → ww X D A 2 Q 0 0 117 [(0, .ref oL), (1, .int p0)] [] [gX9 cy oL aL L, gX0 cy (aL 1) aS S_17, gX4 cy (aL 2) aP P, gX1 cy oC aC C] := by
        intro S_17 hf
        unfold j_X9_spellClass_117_18 at hf
        refine ww_aload_n h dX9_spellClass_117 rfl 0 rfl 118 rfl ?_
        refine ww_get h inG9 rfl 0 rfl rfl 10 (by decide) w_423 rfl dX9_spellClass_118 121 rfl ?_
        have hi := (gd_some hf).1
        replace hf := (gd_some hf).2
        refine ww_ref hi ?_
        clear hi
        refine ww_get h inG1 rfl 3 rfl rfl 0 (by decide) w_160 rfl dX9_spellClass_121 124 rfl ?_
        refine ww_iconst (v := 4) h dX9_spellClass_124 (by decide) 125 rfl ?_
        have hi := (gd_some hf).1
        replace hf := (gd_some hf).2
        have hj19 := ix_lt hi
        refine ww_aaldR h 3 rfl 1 rfl 4 rfl rfl (ix_in hi) dX9_spellClass_125 126 rfl ?_
        clear hi
        refine ww_iload_n h dX9_spellClass_126 rfl 1 rfl 127 rfl ?_
        have hi := (gd_some hf).1
        replace hf := (gd_some hf).2
        refine ww_iald h 3 rfl (3 + (4 : Int32).toNatClampNeg) (gX1_row0 hj19) (ix_in hi) dX9_spellClass_127 128 rfl ?_
        clear hi
        have hJ152_21 : ∀ (S_20 : OV), j_X9_spellClass_152_21 oC aS L C p0 S_20 = some o → ww X D A 2 Q 0 0 152 [(0, .ref oL), (1, .int p0)] [] [gX9 cy oL aL L, gX0 cy (aL 1) aS S_20, gX4 cy (aL 2) aP P, gX1 cy oC aC C] := by
          intro S_20 hf
          unfold j_X9_spellClass_152_21 at hf
          refine ww_aload_n h dX9_spellClass_152 rfl 0 rfl 153 rfl ?_
          refine ww_get h inG9 rfl 0 rfl rfl 10 (by decide) w_423 rfl dX9_spellClass_153 156 rfl ?_
          have hi := (gd_some hf).1
          replace hf := (gd_some hf).2
          refine ww_ref hi ?_
          clear hi
          refine ww_get h inG1 rfl 3 rfl rfl 0 (by decide) w_160 rfl dX9_spellClass_156 159 rfl ?_
          refine ww_iconst (v := 5) h dX9_spellClass_159 (by decide) 160 rfl ?_
          have hi := (gd_some hf).1
          replace hf := (gd_some hf).2
          have hj22 := ix_lt hi
          refine ww_aaldR h 3 rfl 1 rfl 4 rfl rfl (ix_in hi) dX9_spellClass_160 161 rfl ?_
          clear hi
          refine ww_iload_n h dX9_spellClass_161 rfl 1 rfl 162 rfl ?_
          have hi := (gd_some hf).1
          replace hf := (gd_some hf).2
          refine ww_iald h 3 rfl (3 + (5 : Int32).toNatClampNeg) (gX1_row0 hj22) (ix_in hi) dX9_spellClass_162 163 rfl ?_
          clear hi
          have hJ209_24 : ∀ (S_23 : OV), j_X9_spellClass_209_24 oC aS L C p0 S_23 = some o → ww X D A 2 Q 0 0 209 [(0, .ref oL), (1, .int p0)] [] [gX9 cy oL aL L, gX0 cy (aL 1) aS S_23, gX4 cy (aL 2) aP P, gX1 cy oC aC C] := by
            intro S_23 hf
            unfold j_X9_spellClass_209_24 at hf
            refine ww_aload_n h dX9_spellClass_209 rfl 0 rfl 210 rfl ?_
            refine ww_get h inG9 rfl 0 rfl rfl 10 (by decide) w_423 rfl dX9_spellClass_210 213 rfl ?_
            have hi := (gd_some hf).1
            replace hf := (gd_some hf).2
            refine ww_ref hi ?_
            clear hi
            refine ww_get h inG1 rfl 3 rfl rfl 0 (by decide) w_160 rfl dX9_spellClass_213 216 rfl ?_
            refine ww_bipush (v := 7) h dX9_spellClass_216 (by decide) 218 rfl ?_
            have hi := (gd_some hf).1
            replace hf := (gd_some hf).2
            have hj25 := ix_lt hi
            refine ww_aaldR h 3 rfl 1 rfl 4 rfl rfl (ix_in hi) dX9_spellClass_218 219 rfl ?_
            clear hi
            refine ww_iload_n h dX9_spellClass_219 rfl 1 rfl 220 rfl ?_
            have hi := (gd_some hf).1
            replace hf := (gd_some hf).2
            refine ww_iald h 3 rfl (3 + (7 : Int32).toNatClampNeg) (gX1_row0 hj25) (ix_in hi) dX9_spellClass_220 221 rfl ?_
            clear hi
            have hJ268_27 : ∀ (S_26 : OV), j_X9_spellClass_268_27 aS S_26 = some o → ww X D A 2 Q 0 0 268 [(0, .ref oL)] [] [gX9 cy oL aL L, gX0 cy (aL 1) aS S_26, gX4 cy (aL 2) aP P, gX1 cy oC aC C] := by
              intro S_26 hf
              unfold j_X9_spellClass_268_27 at hf
              refine ww_aload_n h dX9_spellClass_268 rfl 0 rfl 269 rfl ?_
              refine ww_get h inG9 rfl 0 rfl rfl 1 (by decide) w_414 rfl dX9_spellClass_269 272 rfl ?_
              refine ww_bipush (v := 59) h dX9_spellClass_272 (by decide) 274 rfl ?_
              obtain ⟨S_28, hu29, hf⟩ := ob1 hf
              refine ww_cVv h (c_X0_add l D ev cy (aL 1) aS S_26 (59 : Int32) _ hu29) ⟨w_464, w_1024, w_462, w_463, w_102, ok_X0_add⟩ ⟨by decide, by decide⟩ ⟨by decide, by decide⟩ ⟨rfl, rfl⟩ [1] rfl 0 rfl rfl rfl rfl (Nat.le_of_ble_eq_true rfl) dX9_spellClass_274 277 rfl (Gs' := [gX0 cy (aL 1) aS S_28, gX9 cy oL aL L, gX4 cy (aL 2) aP P, gX1 cy oC aC C]) rfl ?_
              clear hu29
              refine ww_perm [1, 0, 0, 0] (Gs' := [gX9 cy oL aL L, gX0 cy (aL 1) aS S_28, gX4 cy (aL 2) aP P, gX1 cy oC aC C]) rfl ?_
              obtain rfl := Option.some.inj hf
              exact ww_vret h dX9_spellClass_277 hQ ⟨rfl, rfl⟩
            refine ww_if_le h dX9_spellClass_221 268 (by decide) 224 rfl (fun c => ?_) (fun c => ?_)
            · replace hf := ite_t c hf
              refine ww_lo [0] (lo' := [(0, .ref oL)]) rfl ?_
              exact hJ268_27 S_23 hf
            · replace hf := ite_f c hf
              refine ww_aload_n h dX9_spellClass_224 rfl 0 rfl 225 rfl ?_
              refine ww_get h inG9 rfl 0 rfl rfl 1 (by decide) w_414 rfl dX9_spellClass_225 228 rfl ?_
              refine ww_ldcSw h 19 rfl dX9_spellClass_228 231 rfl ?_
              refine ww_aload_n h dX9_spellClass_231 rfl 0 rfl 232 rfl ?_
              refine ww_get h inG9 rfl 0 rfl rfl 10 (by decide) w_423 rfl dX9_spellClass_232 235 rfl ?_
              have hi := (gd_some hf).1
              replace hf := (gd_some hf).2
              refine ww_ref hi ?_
              clear hi
              refine ww_get h inG1 rfl 3 rfl rfl 0 (by decide) w_160 rfl dX9_spellClass_235 238 rfl ?_
              refine ww_bipush (v := 7) h dX9_spellClass_238 (by decide) 240 rfl ?_
              have hi := (gd_some hf).1
              replace hf := (gd_some hf).2
              have hj30 := ix_lt hi
              refine ww_aaldR h 3 rfl 1 rfl 4 rfl rfl (ix_in hi) dX9_spellClass_240 241 rfl ?_
              clear hi
              refine ww_iload_n h dX9_spellClass_241 rfl 1 rfl 242 rfl ?_
              have hi := (gd_some hf).1
              replace hf := (gd_some hf).2
              refine ww_iald h 3 rfl (3 + (7 : Int32).toNatClampNeg) (gX1_row0 hj30) (ix_in hi) dX9_spellClass_242 243 rfl ?_
              clear hi
              obtain ⟨S_31, hu32, hf⟩ := ob1 hf
              refine ww_cVv h (c_X0_addNumber l D ev cy (aL 1) aS S_23 19 (gr C 0 (7 : Int32).toNatClampNeg p0.toNatClampNeg) _ hu32) ⟨w_1052, w_1049, w_1050, w_1051, w_102, ok_X0_addNumber⟩ ⟨by decide, by decide⟩ ⟨by decide, by decide⟩ ⟨rfl, rfl⟩ [1] rfl 0 rfl rfl rfl rfl (Nat.le_of_ble_eq_true rfl) dX9_spellClass_243 246 rfl (Gs' := [gX0 cy (aL 1) aS S_31, gX9 cy oL aL L, gX4 cy (aL 2) aP P, gX1 cy oC aC C]) rfl ?_
              clear hu32
              refine ww_aload_n h dX9_spellClass_246 rfl 0 rfl 247 rfl ?_
              refine ww_get h inG9 rfl 1 rfl rfl 1 (by decide) w_414 rfl dX9_spellClass_247 250 rfl ?_
              refine ww_ldcSw h 18 rfl dX9_spellClass_250 253 rfl ?_
              refine ww_aload_n h dX9_spellClass_253 rfl 0 rfl 254 rfl ?_
              refine ww_get h inG9 rfl 1 rfl rfl 10 (by decide) w_423 rfl dX9_spellClass_254 257 rfl ?_
              have hi := (gd_some hf).1
              replace hf := (gd_some hf).2
              refine ww_ref hi ?_
              clear hi
              refine ww_get h inG1 rfl 3 rfl rfl 0 (by decide) w_160 rfl dX9_spellClass_257 260 rfl ?_
              refine ww_bipush (v := 8) h dX9_spellClass_260 (by decide) 262 rfl ?_
              have hi := (gd_some hf).1
              replace hf := (gd_some hf).2
              have hj33 := ix_lt hi
              refine ww_aaldR h 3 rfl 1 rfl 4 rfl rfl (ix_in hi) dX9_spellClass_262 263 rfl ?_
              clear hi
              refine ww_iload_n h dX9_spellClass_263 rfl 1 rfl 264 rfl ?_
              have hi := (gd_some hf).1
              replace hf := (gd_some hf).2
              refine ww_iald h 3 rfl (3 + (8 : Int32).toNatClampNeg) (gX1_row0 hj33) (ix_in hi) dX9_spellClass_264 265 rfl ?_
              clear hi
              obtain ⟨S_34, hu35, hf⟩ := ob1 hf
              refine ww_cVv h (c_X0_addNumber l D ev cy (aL 1) aS S_31 18 (gr C 0 (8 : Int32).toNatClampNeg p0.toNatClampNeg) _ hu35) ⟨w_1052, w_1049, w_1050, w_1051, w_102, ok_X0_addNumber⟩ ⟨by decide, by decide⟩ ⟨by decide, by decide⟩ ⟨rfl, rfl⟩ [0] rfl 0 rfl rfl rfl rfl (Nat.le_of_ble_eq_true rfl) dX9_spellClass_265 268 rfl (Gs' := [gX0 cy (aL 1) aS S_34, gX9 cy oL aL L, gX4 cy (aL 2) aP P, gX1 cy oC aC C]) rfl ?_
              clear hu35
              refine ww_lo [0] (lo' := [(0, .ref oL)]) rfl ?_
              refine ww_perm [1, 0, 0, 0] (Gs' := [gX9 cy oL aL L, gX0 cy (aL 1) aS S_34, gX4 cy (aL 2) aP P, gX1 cy oC aC C]) rfl ?_
              exact hJ268_27 S_34 hf
          refine ww_if_le h dX9_spellClass_163 209 (by decide) 166 rfl (fun c => ?_) (fun c => ?_)
          · replace hf := ite_t c hf
            exact hJ209_24 S_20 hf
          · replace hf := ite_f c hf
            refine ww_aload_n h dX9_spellClass_166 rfl 0 rfl 167 rfl ?_
            refine ww_get h inG9 rfl 0 rfl rfl 1 (by decide) w_414 rfl dX9_spellClass_167 170 rfl ?_
            refine ww_ldcSw h 17 rfl dX9_spellClass_170 173 rfl ?_
            refine ww_aload_n h dX9_spellClass_173 rfl 0 rfl 174 rfl ?_
            refine ww_get h inG9 rfl 0 rfl rfl 10 (by decide) w_423 rfl dX9_spellClass_174 177 rfl ?_
            have hi := (gd_some hf).1
            replace hf := (gd_some hf).2
            refine ww_ref hi ?_
            clear hi
            refine ww_get h inG1 rfl 3 rfl rfl 0 (by decide) w_160 rfl dX9_spellClass_177 180 rfl ?_
            refine ww_iconst (v := 5) h dX9_spellClass_180 (by decide) 181 rfl ?_
            have hi := (gd_some hf).1
            replace hf := (gd_some hf).2
            have hj36 := ix_lt hi
            refine ww_aaldR h 3 rfl 1 rfl 4 rfl rfl (ix_in hi) dX9_spellClass_181 182 rfl ?_
            clear hi
            refine ww_iload_n h dX9_spellClass_182 rfl 1 rfl 183 rfl ?_
            have hi := (gd_some hf).1
            replace hf := (gd_some hf).2
            refine ww_iald h 3 rfl (3 + (5 : Int32).toNatClampNeg) (gX1_row0 hj36) (ix_in hi) dX9_spellClass_183 184 rfl ?_
            clear hi
            obtain ⟨S_37, hu38, hf⟩ := ob1 hf
            refine ww_cVv h (c_X0_addNumber l D ev cy (aL 1) aS S_20 17 (gr C 0 (5 : Int32).toNatClampNeg p0.toNatClampNeg) _ hu38) ⟨w_1052, w_1049, w_1050, w_1051, w_102, ok_X0_addNumber⟩ ⟨by decide, by decide⟩ ⟨by decide, by decide⟩ ⟨rfl, rfl⟩ [1] rfl 0 rfl rfl rfl rfl (Nat.le_of_ble_eq_true rfl) dX9_spellClass_184 187 rfl (Gs' := [gX0 cy (aL 1) aS S_37, gX9 cy oL aL L, gX4 cy (aL 2) aP P, gX1 cy oC aC C]) rfl ?_
            clear hu38
            refine ww_aload_n h dX9_spellClass_187 rfl 0 rfl 188 rfl ?_
            refine ww_get h inG9 rfl 1 rfl rfl 1 (by decide) w_414 rfl dX9_spellClass_188 191 rfl ?_
            refine ww_ldcSw h 18 rfl dX9_spellClass_191 194 rfl ?_
            refine ww_aload_n h dX9_spellClass_194 rfl 0 rfl 195 rfl ?_
            refine ww_get h inG9 rfl 1 rfl rfl 10 (by decide) w_423 rfl dX9_spellClass_195 198 rfl ?_
            have hi := (gd_some hf).1
            replace hf := (gd_some hf).2
            refine ww_ref hi ?_
            clear hi
            refine ww_get h inG1 rfl 3 rfl rfl 0 (by decide) w_160 rfl dX9_spellClass_198 201 rfl ?_
            refine ww_bipush (v := 6) h dX9_spellClass_201 (by decide) 203 rfl ?_
            have hi := (gd_some hf).1
            replace hf := (gd_some hf).2
            have hj39 := ix_lt hi
            refine ww_aaldR h 3 rfl 1 rfl 4 rfl rfl (ix_in hi) dX9_spellClass_203 204 rfl ?_
            clear hi
            refine ww_iload_n h dX9_spellClass_204 rfl 1 rfl 205 rfl ?_
            have hi := (gd_some hf).1
            replace hf := (gd_some hf).2
            refine ww_iald h 3 rfl (3 + (6 : Int32).toNatClampNeg) (gX1_row0 hj39) (ix_in hi) dX9_spellClass_205 206 rfl ?_
            clear hi
            obtain ⟨S_40, hu41, hf⟩ := ob1 hf
            refine ww_cVv h (c_X0_addNumber l D ev cy (aL 1) aS S_37 18 (gr C 0 (6 : Int32).toNatClampNeg p0.toNatClampNeg) _ hu41) ⟨w_1052, w_1049, w_1050, w_1051, w_102, ok_X0_addNumber⟩ ⟨by decide, by decide⟩ ⟨by decide, by decide⟩ ⟨rfl, rfl⟩ [0] rfl 0 rfl rfl rfl rfl (Nat.le_of_ble_eq_true rfl) dX9_spellClass_206 209 rfl (Gs' := [gX0 cy (aL 1) aS S_40, gX9 cy oL aL L, gX4 cy (aL 2) aP P, gX1 cy oC aC C]) rfl ?_
            clear hu41
            refine ww_perm [1, 0, 0, 0] (Gs' := [gX9 cy oL aL L, gX0 cy (aL 1) aS S_40, gX4 cy (aL 2) aP P, gX1 cy oC aC C]) rfl ?_
            exact hJ209_24 S_40 hf
        refine ww_if_le h dX9_spellClass_128 152 (by decide) 131 rfl (fun c => ?_) (fun c => ?_)
        · replace hf := ite_t c hf
          exact hJ152_21 S_17 hf
        · replace hf := ite_f c hf
          refine ww_aload_n h dX9_spellClass_131 rfl 0 rfl 132 rfl ?_
          refine ww_get h inG9 rfl 0 rfl rfl 1 (by decide) w_414 rfl dX9_spellClass_132 135 rfl ?_
          refine ww_ldcSw h 16 rfl dX9_spellClass_135 138 rfl ?_
          refine ww_aload_n h dX9_spellClass_138 rfl 0 rfl 139 rfl ?_
          refine ww_get h inG9 rfl 0 rfl rfl 10 (by decide) w_423 rfl dX9_spellClass_139 142 rfl ?_
          have hi := (gd_some hf).1
          replace hf := (gd_some hf).2
          refine ww_ref hi ?_
          clear hi
          refine ww_get h inG1 rfl 3 rfl rfl 0 (by decide) w_160 rfl dX9_spellClass_142 145 rfl ?_
          refine ww_iconst (v := 4) h dX9_spellClass_145 (by decide) 146 rfl ?_
          have hi := (gd_some hf).1
          replace hf := (gd_some hf).2
          have hj42 := ix_lt hi
          refine ww_aaldR h 3 rfl 1 rfl 4 rfl rfl (ix_in hi) dX9_spellClass_146 147 rfl ?_
          clear hi
          refine ww_iload_n h dX9_spellClass_147 rfl 1 rfl 148 rfl ?_
          have hi := (gd_some hf).1
          replace hf := (gd_some hf).2
          refine ww_iald h 3 rfl (3 + (4 : Int32).toNatClampNeg) (gX1_row0 hj42) (ix_in hi) dX9_spellClass_148 149 rfl ?_
          clear hi
          obtain ⟨S_43, hu44, hf⟩ := ob1 hf
          refine ww_cVv h (c_X0_addNumber l D ev cy (aL 1) aS S_17 16 (gr C 0 (4 : Int32).toNatClampNeg p0.toNatClampNeg) _ hu44) ⟨w_1052, w_1049, w_1050, w_1051, w_102, ok_X0_addNumber⟩ ⟨by decide, by decide⟩ ⟨by decide, by decide⟩ ⟨rfl, rfl⟩ [1] rfl 0 rfl rfl rfl rfl (Nat.le_of_ble_eq_true rfl) dX9_spellClass_149 152 rfl (Gs' := [gX0 cy (aL 1) aS S_43, gX9 cy oL aL L, gX4 cy (aL 2) aP P, gX1 cy oC aC C]) rfl ?_
          clear hu44
          refine ww_perm [1, 0, 0, 0] (Gs' := [gX9 cy oL aL L, gX0 cy (aL 1) aS S_43, gX4 cy (aL 2) aP P, gX1 cy oC aC C]) rfl ?_
          exact hJ152_21 S_43 hf
      refine ww_icmp_ne h dX9_spellClass_104 117 (by decide) 107 rfl (fun c => ?_) (fun c => ?_)
      · replace hf := ite_f c hf
        exact hJ117_18 S_14 hf
      · replace hf := ite_t c hf
        refine ww_aload_n h dX9_spellClass_107 rfl 0 rfl 108 rfl ?_
        refine ww_get h inG9 rfl 0 rfl rfl 1 (by decide) w_414 rfl dX9_spellClass_108 111 rfl ?_
        refine ww_ldcSw h 15 rfl dX9_spellClass_111 114 rfl ?_
        obtain ⟨S_45, hu46, hf⟩ := ob1 hf
        refine ww_cVv h (c_X0_addText l D ev cy (aL 1) aS S_14 15 _ hu46) ⟨w_1045, w_1042, w_1043, w_1044, w_102, ok_X0_addText⟩ ⟨by decide, by decide⟩ ⟨by decide, by decide⟩ ⟨rfl, rfl⟩ [1] rfl 0 rfl rfl rfl rfl (Nat.le_of_ble_eq_true rfl) dX9_spellClass_114 117 rfl (Gs' := [gX0 cy (aL 1) aS S_45, gX9 cy oL aL L, gX4 cy (aL 2) aP P, gX1 cy oC aC C]) rfl ?_
        clear hu46
        refine ww_perm [1, 0, 0, 0] (Gs' := [gX9 cy oL aL L, gX0 cy (aL 1) aS S_45, gX4 cy (aL 2) aP P, gX1 cy oC aC C]) rfl ?_
        exact hJ117_18 S_45 hf
    refine ww_icmp_ne h dX9_spellClass_79 92 (by decide) 82 rfl (fun c => ?_) (fun c => ?_)
    · replace hf := ite_f c hf
      exact hJ92_15 S_10 hf
    · replace hf := ite_t c hf
      refine ww_aload_n h dX9_spellClass_82 rfl 0 rfl 83 rfl ?_
      refine ww_get h inG9 rfl 0 rfl rfl 1 (by decide) w_414 rfl dX9_spellClass_83 86 rfl ?_
      refine ww_ldcSw h 14 rfl dX9_spellClass_86 89 rfl ?_
      obtain ⟨S_47, hu48, hf⟩ := ob1 hf
      refine ww_cVv h (c_X0_addText l D ev cy (aL 1) aS S_10 14 _ hu48) ⟨w_1045, w_1042, w_1043, w_1044, w_102, ok_X0_addText⟩ ⟨by decide, by decide⟩ ⟨by decide, by decide⟩ ⟨rfl, rfl⟩ [1] rfl 0 rfl rfl rfl rfl (Nat.le_of_ble_eq_true rfl) dX9_spellClass_89 92 rfl (Gs' := [gX0 cy (aL 1) aS S_47, gX9 cy oL aL L, gX4 cy (aL 2) aP P, gX1 cy oC aC C]) rfl ?_
      clear hu48
      refine ww_perm [1, 0, 0, 0] (Gs' := [gX9 cy oL aL L, gX0 cy (aL 1) aS S_47, gX4 cy (aL 2) aP P, gX1 cy oC aC C]) rfl ?_
      exact hJ92_15 S_47 hf
  refine ww_icmp_ne h dX9_spellClass_54 67 (by decide) 57 rfl (fun c => ?_) (fun c => ?_)
  · replace hf := ite_f c hf
    refine ww_perm [1, 0, 0, 0] (Gs' := [gX9 cy oL aL L, gX0 cy (aL 1) aS S_6, gX4 cy (aL 2) aP P, gX1 cy oC aC C]) rfl ?_
    exact hJ67_11 S_6 hf
  · replace hf := ite_t c hf
    refine ww_aload_n h dX9_spellClass_57 rfl 0 rfl 58 rfl ?_
    refine ww_get h inG9 rfl 1 rfl rfl 1 (by decide) w_414 rfl dX9_spellClass_58 61 rfl ?_
    refine ww_ldcSw h 13 rfl dX9_spellClass_61 64 rfl ?_
    obtain ⟨S_49, hu50, hf⟩ := ob1 hf
    refine ww_cVv h (c_X0_addText l D ev cy (aL 1) aS S_6 13 _ hu50) ⟨w_1045, w_1042, w_1043, w_1044, w_102, ok_X0_addText⟩ ⟨by decide, by decide⟩ ⟨by decide, by decide⟩ ⟨rfl, rfl⟩ [0] rfl 0 rfl rfl rfl rfl (Nat.le_of_ble_eq_true rfl) dX9_spellClass_64 67 rfl (Gs' := [gX0 cy (aL 1) aS S_49, gX9 cy oL aL L, gX4 cy (aL 2) aP P, gX1 cy oC aC C]) rfl ?_
    clear hu50
    refine ww_perm [1, 0, 0, 0] (Gs' := [gX9 cy oL aL L, gX0 cy (aL 1) aS S_49, gX4 cy (aL 2) aP P, gX1 cy oC aC C]) rfl ?_
    exact hJ67_11 S_49 hf
theorem dX9_spellPair_0 : decode cX9_spellPair 0 = .ok (.aload_n 0, 1) := by decide +kernel
theorem dX9_spellPair_1 : decode cX9_spellPair 1 = .ok (.getfield 18, 3) := by decide +kernel
theorem dX9_spellPair_4 : decode cX9_spellPair 4 = .ok (.ldc_w 320, 3) := by decide +kernel
theorem dX9_spellPair_7 : decode cX9_spellPair 7 = .ok (.invokevirtual 296, 3) := by decide +kernel
theorem dX9_spellPair_10 : decode cX9_spellPair 10 = .ok (.aload_n 0, 1) := by decide +kernel
theorem dX9_spellPair_11 : decode cX9_spellPair 11 = .ok (.getfield 18, 3) := by decide +kernel
theorem dX9_spellPair_14 : decode cX9_spellPair 14 = .ok (.bipush 97, 2) := by decide +kernel
theorem dX9_spellPair_16 : decode cX9_spellPair 16 = .ok (.iload_n 1, 1) := by decide +kernel
theorem dX9_spellPair_17 : decode cX9_spellPair 17 = .ok (.iadd, 1) := by decide +kernel
theorem dX9_spellPair_18 : decode cX9_spellPair 18 = .ok (.invokevirtual 282, 3) := by decide +kernel
theorem dX9_spellPair_21 : decode cX9_spellPair 21 = .ok (.aload_n 0, 1) := by decide +kernel
theorem dX9_spellPair_22 : decode cX9_spellPair 22 = .ok (.getfield 18, 3) := by decide +kernel
theorem dX9_spellPair_25 : decode cX9_spellPair 25 = .ok (.bipush 32, 2) := by decide +kernel
theorem dX9_spellPair_27 : decode cX9_spellPair 27 = .ok (.invokevirtual 282, 3) := by decide +kernel
theorem dX9_spellPair_30 : decode cX9_spellPair 30 = .ok (.aload_n 0, 1) := by decide +kernel
theorem dX9_spellPair_31 : decode cX9_spellPair 31 = .ok (.getfield 18, 3) := by decide +kernel
theorem dX9_spellPair_34 : decode cX9_spellPair 34 = .ok (.bipush 97, 2) := by decide +kernel
theorem dX9_spellPair_36 : decode cX9_spellPair 36 = .ok (.iload_n 2, 1) := by decide +kernel
theorem dX9_spellPair_37 : decode cX9_spellPair 37 = .ok (.iadd, 1) := by decide +kernel
theorem dX9_spellPair_38 : decode cX9_spellPair 38 = .ok (.invokevirtual 282, 3) := by decide +kernel
theorem dX9_spellPair_41 : decode cX9_spellPair 41 = .ok (.aload_n 0, 1) := by decide +kernel
theorem dX9_spellPair_42 : decode cX9_spellPair 42 = .ok (.getfield 18, 3) := by decide +kernel
theorem dX9_spellPair_45 : decode cX9_spellPair 45 = .ok (.bipush 59, 2) := by decide +kernel
theorem dX9_spellPair_47 : decode cX9_spellPair 47 = .ok (.invokevirtual 282, 3) := by decide +kernel
theorem dX9_spellPair_50 : decode cX9_spellPair 50 = .ok (.return_, 1) := by decide +kernel
theorem ok_X9_spellPair : okY RX9 yX9_spellPair 2 := ⟨rfl, by decide, by decide, by decide +kernel⟩
def f_X9_spellPair (aS : Nat → Nat) (S : OV) (p0 : Int32) (p1 : Int32) : Option (OV) := (f_X0_addText aS S 20).bind (un1 (fun S_1 => (f_X0_add aS S_1 ((97 : Int32) + p0)).bind (un1 (fun S_3 => (f_X0_add aS S_3 (32 : Int32)).bind (un1 (fun S_5 => (f_X0_add aS S_5 ((97 : Int32) + p1)).bind (un1 (fun S_7 => (f_X0_add aS S_7 (59 : Int32)).bind (un1 (fun S_9 => some S_9))))))))))
def r_X9_spellPair : Room := { frames := 5, cells := 0, slots := 0, locals := 107 }
set_option maxHeartbeats 4000000 in
set_option maxRecDepth 100000 in
theorem c_X9_spellPair (l : Launch) (D : va_G) (ev : EvT) (cy : Nat → ClassId) (oL : Nat) (aL : Nat → Nat) (L : OV) (aS : Nat → Nat) (S : OV) (p0 : Int32) (p1 : Int32) (o : OV) (hf : f_X9_spellPair aS S p0 p1 = some o) : Fn l yX9_spellPair cX9_spellPair 3 none r_X9_spellPair D ev cy [.ref oL, .int p0, .int p1] [gX9 cy oL aL L, gX0 cy (aL 1) aS S] (fun v G => v = none ∧ G = [gX9 cy oL aL L, gX0 cy (aL 1) aS o]) := by
  refine Fn_of (by decide) (Nat.le_of_ble_eq_true rfl) (fun X A Q h hQ _ => ?_)
  unfold f_X9_spellPair at hf
  show ww X D A 3 Q 0 0 0 [(0, .ref oL), (1, .int p0), (2, .int p1)] [] [gX9 cy oL aL L, gX0 cy (aL 1) aS S]
  refine ww_aload_n h dX9_spellPair_0 rfl 0 rfl 1 rfl ?_
  refine ww_get h inG9 rfl 0 rfl rfl 1 (by decide) w_414 rfl dX9_spellPair_1 4 rfl ?_
  refine ww_ldcSw h 20 rfl dX9_spellPair_4 7 rfl ?_
  obtain ⟨S_1, hu2, hf⟩ := ob1 hf
  refine ww_cVv h (c_X0_addText l D ev cy (aL 1) aS S 20 _ hu2) ⟨w_1045, w_1042, w_1043, w_1044, w_102, ok_X0_addText⟩ ⟨by decide, by decide⟩ ⟨by decide, by decide⟩ ⟨rfl, rfl⟩ [1] rfl 0 rfl rfl rfl rfl (Nat.le_of_ble_eq_true rfl) dX9_spellPair_7 10 rfl (Gs' := [gX0 cy (aL 1) aS S_1, gX9 cy oL aL L]) rfl ?_
  clear hu2
  refine ww_aload_n h dX9_spellPair_10 rfl 0 rfl 11 rfl ?_
  refine ww_get h inG9 rfl 1 rfl rfl 1 (by decide) w_414 rfl dX9_spellPair_11 14 rfl ?_
  refine ww_bipush (v := 97) h dX9_spellPair_14 (by decide) 16 rfl ?_
  refine ww_iload_n h dX9_spellPair_16 rfl 1 rfl 17 rfl ?_
  refine ww_iadd h dX9_spellPair_17 18 rfl ?_
  obtain ⟨S_3, hu4, hf⟩ := ob1 hf
  refine ww_cVv h (c_X0_add l D ev cy (aL 1) aS S_1 ((97 : Int32) + p0) _ hu4) ⟨w_464, w_1024, w_462, w_463, w_102, ok_X0_add⟩ ⟨by decide, by decide⟩ ⟨by decide, by decide⟩ ⟨rfl, rfl⟩ [0] rfl 0 rfl rfl rfl rfl (Nat.le_of_ble_eq_true rfl) dX9_spellPair_18 21 rfl (Gs' := [gX0 cy (aL 1) aS S_3, gX9 cy oL aL L]) rfl ?_
  clear hu4
  refine ww_aload_n h dX9_spellPair_21 rfl 0 rfl 22 rfl ?_
  refine ww_get h inG9 rfl 1 rfl rfl 1 (by decide) w_414 rfl dX9_spellPair_22 25 rfl ?_
  refine ww_bipush (v := 32) h dX9_spellPair_25 (by decide) 27 rfl ?_
  obtain ⟨S_5, hu6, hf⟩ := ob1 hf
  refine ww_cVv h (c_X0_add l D ev cy (aL 1) aS S_3 (32 : Int32) _ hu6) ⟨w_464, w_1024, w_462, w_463, w_102, ok_X0_add⟩ ⟨by decide, by decide⟩ ⟨by decide, by decide⟩ ⟨rfl, rfl⟩ [0] rfl 0 rfl rfl rfl rfl (Nat.le_of_ble_eq_true rfl) dX9_spellPair_27 30 rfl (Gs' := [gX0 cy (aL 1) aS S_5, gX9 cy oL aL L]) rfl ?_
  clear hu6
  refine ww_aload_n h dX9_spellPair_30 rfl 0 rfl 31 rfl ?_
  refine ww_get h inG9 rfl 1 rfl rfl 1 (by decide) w_414 rfl dX9_spellPair_31 34 rfl ?_
  refine ww_bipush (v := 97) h dX9_spellPair_34 (by decide) 36 rfl ?_
  refine ww_iload_n h dX9_spellPair_36 rfl 2 rfl 37 rfl ?_
  refine ww_iadd h dX9_spellPair_37 38 rfl ?_
  obtain ⟨S_7, hu8, hf⟩ := ob1 hf
  refine ww_cVv h (c_X0_add l D ev cy (aL 1) aS S_5 ((97 : Int32) + p1) _ hu8) ⟨w_464, w_1024, w_462, w_463, w_102, ok_X0_add⟩ ⟨by decide, by decide⟩ ⟨by decide, by decide⟩ ⟨rfl, rfl⟩ [0] rfl 0 rfl rfl rfl rfl (Nat.le_of_ble_eq_true rfl) dX9_spellPair_38 41 rfl (Gs' := [gX0 cy (aL 1) aS S_7, gX9 cy oL aL L]) rfl ?_
  clear hu8
  refine ww_aload_n h dX9_spellPair_41 rfl 0 rfl 42 rfl ?_
  refine ww_get h inG9 rfl 1 rfl rfl 1 (by decide) w_414 rfl dX9_spellPair_42 45 rfl ?_
  refine ww_bipush (v := 59) h dX9_spellPair_45 (by decide) 47 rfl ?_
  obtain ⟨S_9, hu10, hf⟩ := ob1 hf
  refine ww_cVv h (c_X0_add l D ev cy (aL 1) aS S_7 (59 : Int32) _ hu10) ⟨w_464, w_1024, w_462, w_463, w_102, ok_X0_add⟩ ⟨by decide, by decide⟩ ⟨by decide, by decide⟩ ⟨rfl, rfl⟩ [0] rfl 0 rfl rfl rfl rfl (Nat.le_of_ble_eq_true rfl) dX9_spellPair_47 50 rfl (Gs' := [gX0 cy (aL 1) aS S_9, gX9 cy oL aL L]) rfl ?_
  clear hu10
  refine ww_perm [1, 0] (Gs' := [gX9 cy oL aL L, gX0 cy (aL 1) aS S_9]) rfl ?_
  obtain rfl := Option.some.inj hf
  exact ww_vret h dX9_spellPair_50 hQ ⟨rfl, rfl⟩
theorem dX9_widthFor_0 : decode cX9_widthFor 0 = .ok (.iload_n 1, 1) := by decide +kernel
theorem dX9_widthFor_1 : decode cX9_widthFor 1 = .ok (.iconst 1, 1) := by decide +kernel
theorem dX9_widthFor_2 : decode cX9_widthFor 2 = .ok (.if_icmp .ge 5, 3) := by decide +kernel
theorem dX9_widthFor_5 : decode cX9_widthFor 5 = .ok (.iconst (-1), 1) := by decide +kernel
theorem dX9_widthFor_6 : decode cX9_widthFor 6 = .ok (.ireturn, 1) := by decide +kernel
theorem dX9_widthFor_7 : decode cX9_widthFor 7 = .ok (.aload_n 0, 1) := by decide +kernel
theorem dX9_widthFor_8 : decode cX9_widthFor 8 = .ok (.getfield 34, 3) := by decide +kernel
theorem dX9_widthFor_11 : decode cX9_widthFor 11 = .ok (.getfield 117, 3) := by decide +kernel
theorem dX9_widthFor_14 : decode cX9_widthFor 14 = .ok (.ifCond .ne 6, 3) := by decide +kernel
theorem dX9_widthFor_17 : decode cX9_widthFor 17 = .ok (.bipush (-2), 2) := by decide +kernel
theorem dX9_widthFor_19 : decode cX9_widthFor 19 = .ok (.ireturn, 1) := by decide +kernel
theorem dX9_widthFor_20 : decode cX9_widthFor 20 = .ok (.aload_n 0, 1) := by decide +kernel
theorem dX9_widthFor_21 : decode cX9_widthFor 21 = .ok (.getfield 38, 3) := by decide +kernel
theorem dX9_widthFor_24 : decode cX9_widthFor 24 = .ok (.aload_n 0, 1) := by decide +kernel
theorem dX9_widthFor_25 : decode cX9_widthFor 25 = .ok (.getfield 34, 3) := by decide +kernel
theorem dX9_widthFor_28 : decode cX9_widthFor 28 = .ok (.invokevirtual 144, 3) := by decide +kernel
theorem dX9_widthFor_31 : decode cX9_widthFor 31 = .ok (.aload_n 0, 1) := by decide +kernel
theorem dX9_widthFor_32 : decode cX9_widthFor 32 = .ok (.getfield 57, 3) := by decide +kernel
theorem dX9_widthFor_35 : decode cX9_widthFor 35 = .ok (.aload_n 0, 1) := by decide +kernel
theorem dX9_widthFor_36 : decode cX9_widthFor 36 = .ok (.getfield 24, 3) := by decide +kernel
theorem dX9_widthFor_39 : decode cX9_widthFor 39 = .ok (.aload_n 0, 1) := by decide +kernel
theorem dX9_widthFor_40 : decode cX9_widthFor 40 = .ok (.getfield 38, 3) := by decide +kernel
theorem dX9_widthFor_43 : decode cX9_widthFor 43 = .ok (.invokevirtual 349, 3) := by decide +kernel
theorem dX9_widthFor_46 : decode cX9_widthFor 46 = .ok (.iconst 4, 1) := by decide +kernel
theorem dX9_widthFor_47 : decode cX9_widthFor 47 = .ok (.istore_n 2, 1) := by decide +kernel
theorem dX9_widthFor_48 : decode cX9_widthFor 48 = .ok (.iload_n 2, 1) := by decide +kernel
theorem dX9_widthFor_49 : decode cX9_widthFor 49 = .ok (.bipush 80, 2) := by decide +kernel
theorem dX9_widthFor_51 : decode cX9_widthFor 51 = .ok (.if_icmp .gt 46, 3) := by decide +kernel
theorem dX9_widthFor_54 : decode cX9_widthFor 54 = .ok (.aload_n 0, 1) := by decide +kernel
theorem dX9_widthFor_55 : decode cX9_widthFor 55 = .ok (.getfield 38, 3) := by decide +kernel
theorem dX9_widthFor_58 : decode cX9_widthFor 58 = .ok (.iload_n 2, 1) := by decide +kernel
theorem dX9_widthFor_59 : decode cX9_widthFor 59 = .ok (.putfield 165, 3) := by decide +kernel
theorem dX9_widthFor_62 : decode cX9_widthFor 62 = .ok (.aload_n 0, 1) := by decide +kernel
theorem dX9_widthFor_63 : decode cX9_widthFor 63 = .ok (.getfield 63, 3) := by decide +kernel
theorem dX9_widthFor_66 : decode cX9_widthFor 66 = .ok (.aload_n 0, 1) := by decide +kernel
theorem dX9_widthFor_67 : decode cX9_widthFor 67 = .ok (.getfield 57, 3) := by decide +kernel
theorem dX9_widthFor_70 : decode cX9_widthFor 70 = .ok (.ldc_w 345, 3) := by decide +kernel
theorem dX9_widthFor_73 : decode cX9_widthFor 73 = .ok (.invokevirtual 352, 3) := by decide +kernel
theorem dX9_widthFor_76 : decode cX9_widthFor 76 = .ok (.aload_n 0, 1) := by decide +kernel
theorem dX9_widthFor_77 : decode cX9_widthFor 77 = .ok (.getfield 63, 3) := by decide +kernel
theorem dX9_widthFor_80 : decode cX9_widthFor 80 = .ok (.getfield 356, 3) := by decide +kernel
theorem dX9_widthFor_83 : decode cX9_widthFor 83 = .ok (.iconst 0, 1) := by decide +kernel
theorem dX9_widthFor_84 : decode cX9_widthFor 84 = .ok (.iaload, 1) := by decide +kernel
theorem dX9_widthFor_85 : decode cX9_widthFor 85 = .ok (.iload_n 1, 1) := by decide +kernel
theorem dX9_widthFor_86 : decode cX9_widthFor 86 = .ok (.if_icmp .gt 5, 3) := by decide +kernel
theorem dX9_widthFor_89 : decode cX9_widthFor 89 = .ok (.iload_n 2, 1) := by decide +kernel
theorem dX9_widthFor_90 : decode cX9_widthFor 90 = .ok (.ireturn, 1) := by decide +kernel
theorem dX9_widthFor_91 : decode cX9_widthFor 91 = .ok (.iinc 2 1, 3) := by decide +kernel
theorem dX9_widthFor_94 : decode cX9_widthFor 94 = .ok (.goto (-46), 3) := by decide +kernel
theorem dX9_widthFor_97 : decode cX9_widthFor 97 = .ok (.bipush (-2), 2) := by decide +kernel
theorem dX9_widthFor_99 : decode cX9_widthFor 99 = .ok (.ireturn, 1) := by decide +kernel
theorem ok_X9_widthFor : okY RX9 yX9_widthFor 1 := ⟨rfl, by decide, by decide, by decide +kernel⟩
def s_X9_widthFor_48_6 (aL : Nat → Nat) (p0 : Int32) : (Int32 × OV × OV × OV) → Option ((Int32 × OV × OV × OV) ⊕ ((OV × OV × OV) ⊕ (Int32 × OV × OV × OV))) := un4 (fun v2_7 J_8 U_9 N_10 => (if (80 : Int32) < v2_7 then some (.inr (.inl (J_8, U_9, N_10))) else bnd (sI J_8 5 v2_7) (fun J_11 => (f_X5_planBest N_10 U_9 (aL 3) J_11 (1000000000 : Int32)).bind (un2 (fun N_12 U_13 => gd (ix (0 : Int32) 41) ((if p0 < (ar N_12 1 (0 : Int32).toNatClampNeg) then bnd (v2_7 + 1) (fun v2_15 => some (.inl (v2_15, J_11, U_13, N_12))) else some (.inr (.inr (v2_7, J_11, U_13, N_12))))))))))
def f_X9_widthFor (aL : Nat → Nat) (L : OV) (P : OV) (J : OV) (U : OV) (N : OV) (oC : Nat) (C : OV) (p0 : Int32) : Option (Int32 × OV × OV × OV) := (if (1 : Int32) ≤ p0 then (if (iv P 4) = 0 then some ((-2 : Int32), J, U, N) else (f_X4_copyFrom J P).bind (un1 (fun J_1 => gd (decide (nv L 10 = oC)) ((f_X7_read U oC C (aL 3) J_1).bind (un1 (fun U_3 => bnd (4 : Int32) (fun v2_5 => ((lp (s_X9_widthFor_48_6 aL p0) 5000 (v2_5, J_1, U_3, N)).bind (Sum.elim (un3 (fun J_16 U_17 N_18 => some ((-2 : Int32), J_16, U_17, N_18))) (fun r => some r)))))))))) else some ((-1 : Int32), J, U, N))
def r_X9_widthFor : Room := { frames := 4, cells := 0, slots := 0, locals := 97 }
set_option maxHeartbeats 4000000 in
set_option maxRecDepth 100000 in
theorem c_X9_widthFor (l : Launch) (D : va_G) (ev : EvT) (cy : Nat → ClassId) (oL : Nat) (aL : Nat → Nat) (L : OV) (aP : Nat → Nat) (P : OV) (aJ : Nat → Nat) (J : OV) (aU : Nat → Nat) (U : OV) (aN : Nat → Nat) (N : OV) (oC : Nat) (aC : Nat → Nat) (C : OV) (p0 : Int32) (o : Int32 × OV × OV × OV) (hf : f_X9_widthFor aL L P J U N oC C p0 = some o) : Fn l yX9_widthFor cX9_widthFor 3 (some .int) r_X9_widthFor D ev cy [.ref oL, .int p0] [gX9 cy oL aL L, gX4 cy (aL 2) aP P, gX4 cy (aL 3) aJ J, gX7 cy (aL 6) aU U, gX5 cy (aL 7) aN N, gX1 cy oC aC C] (fun v G => v = some (.int o.1) ∧ G = [gX9 cy oL aL L, gX4 cy (aL 2) aP P, gX4 cy (aL 3) aJ o.2.1, gX7 cy (aL 6) aU o.2.2.1, gX5 cy (aL 7) aN o.2.2.2, gX1 cy oC aC C]) := by
  refine Fn_of (by decide) (Nat.le_of_ble_eq_true rfl) (fun X A Q h hQ _ => ?_)
  unfold f_X9_widthFor at hf
  show ww X D A 3 Q 0 0 0 [(0, .ref oL), (1, .int p0)] [] [gX9 cy oL aL L, gX4 cy (aL 2) aP P, gX4 cy (aL 3) aJ J, gX7 cy (aL 6) aU U, gX5 cy (aL 7) aN N, gX1 cy oC aC C]
  refine ww_iload_n h dX9_widthFor_0 rfl 1 rfl 1 rfl ?_
  refine ww_iconst (v := 1) h dX9_widthFor_1 (by decide) 2 rfl ?_
  refine ww_icmp_ge h dX9_widthFor_2 7 (by decide) 5 rfl (fun c => ?_) (fun c => ?_)
  · replace hf := ite_t c hf
    refine ww_aload_n h dX9_widthFor_7 rfl 0 rfl 8 rfl ?_
    refine ww_get h inG9 rfl 0 rfl rfl 2 (by decide) w_415 rfl dX9_widthFor_8 11 rfl ?_
    refine ww_get h inG4 rfl 1 rfl rfl 4 (by decide) w_209 rfl dX9_widthFor_11 14 rfl ?_
    refine ww_if_ne h dX9_widthFor_14 20 (by decide) 17 rfl (fun c => ?_) (fun c => ?_)
    · replace hf := ite_f c hf
      refine ww_aload_n h dX9_widthFor_20 rfl 0 rfl 21 rfl ?_
      refine ww_get h inG9 rfl 0 rfl rfl 3 (by decide) w_416 rfl dX9_widthFor_21 24 rfl ?_
      refine ww_aload_n h dX9_widthFor_24 rfl 0 rfl 25 rfl ?_
      refine ww_get h inG9 rfl 0 rfl rfl 2 (by decide) w_415 rfl dX9_widthFor_25 28 rfl ?_
      obtain ⟨J_1, hu2, hf⟩ := ob1 hf
      refine ww_cVv h (c_X4_copyFrom l D ev cy (aL 3) aJ J (aL 2) aP P _ hu2) ⟨w_681, w_709, w_679, w_680, w_105, ok_X4_copyFrom⟩ ⟨by decide, by decide⟩ ⟨by decide, by decide⟩ ⟨rfl, rfl⟩ [2, 1] rfl 0 rfl rfl rfl rfl (Nat.le_of_ble_eq_true rfl) dX9_widthFor_28 31 rfl (Gs' := [gX4 cy (aL 3) aJ J_1, gX4 cy (aL 2) aP P, gX9 cy oL aL L, gX7 cy (aL 6) aU U, gX5 cy (aL 7) aN N, gX1 cy oC aC C]) rfl ?_
      clear hu2
      refine ww_aload_n h dX9_widthFor_31 rfl 0 rfl 32 rfl ?_
      refine ww_get h inG9 rfl 2 rfl rfl 6 (by decide) w_419 rfl dX9_widthFor_32 35 rfl ?_
      refine ww_aload_n h dX9_widthFor_35 rfl 0 rfl 36 rfl ?_
      refine ww_get h inG9 rfl 2 rfl rfl 10 (by decide) w_423 rfl dX9_widthFor_36 39 rfl ?_
      have hi := (gd_some hf).1
      replace hf := (gd_some hf).2
      refine ww_ref hi ?_
      clear hi
      refine ww_aload_n h dX9_widthFor_39 rfl 0 rfl 40 rfl ?_
      refine ww_get h inG9 rfl 2 rfl rfl 3 (by decide) w_416 rfl dX9_widthFor_40 43 rfl ?_
      obtain ⟨U_3, hu4, hf⟩ := ob1 hf
      refine ww_cVv h (c_X7_read l D ev cy (aL 6) aU U oC aC C (aL 3) aJ J_1 _ hu4) ⟨w_813, w_810, w_811, w_812, w_107, ok_X7_read⟩ ⟨by decide, by decide⟩ ⟨by decide, by decide⟩ ⟨rfl, rfl⟩ [3, 4, 0] rfl 0 rfl rfl rfl rfl (Nat.le_of_ble_eq_true rfl) dX9_widthFor_43 46 rfl (Gs' := [gX7 cy (aL 6) aU U_3, gX1 cy oC aC C, gX4 cy (aL 3) aJ J_1, gX4 cy (aL 2) aP P, gX9 cy oL aL L, gX5 cy (aL 7) aN N]) rfl ?_
      clear hu4
      refine ww_iconst (v := 4) h dX9_widthFor_46 (by decide) 47 rfl ?_
      refine ww_ist_n h dX9_widthFor_47 rfl (by decide) (fun v2_5 => [(2, .int v2_5), (0, .ref oL), (1, .int p0)]) (fun _ => rfl) 48 rfl (fun v2_5 e => ?_)
      replace hf := bnd_at e hf
      clear e
      refine ww_lo [1, 2, 0] (lo' := [(0, .ref oL), (1, .int p0), (2, .int v2_5)]) rfl ?_
      refine ww_perm [4, 3, 2, 0, 1, 0] (Gs' := [gX9 cy oL aL L, gX4 cy (aL 2) aP P, gX4 cy (aL 3) aJ J_1, gX7 cy (aL 6) aU U_3, gX5 cy (aL 7) aN N, gX1 cy oC aC C]) rfl ?_
      obtain ⟨x6, h6, hf⟩ := ob_some hf
      refine lp_walk (un4 (fun v2_7 J_8 U_9 N_10 => ww X D A 3 Q 0 0 48 [(0, .ref oL), (1, .int p0), (2, .int v2_7)] [] [gX9 cy oL aL L, gX4 cy (aL 2) aP P, gX4 cy (aL 3) aJ J_8, gX7 cy (aL 6) aU U_9, gX5 cy (aL 7) aN N_10, gX1 cy oC aC C])) (Sum.elim (un3 (fun J_16 U_17 N_18 => ww X D A 3 Q 0 0 97 [] [] [gX9 cy oL aL L, gX4 cy (aL 2) aP P, gX4 cy (aL 3) aJ J_16, gX7 cy (aL 6) aU U_17, gX5 cy (aL 7) aN N_18, gX1 cy oC aC C])) (fun r => r = o)) ?_ _ _ _ h6 ?_
      · clear h6 hf
        intro s6 o6 hf hI6 hE6
        obtain ⟨v2_7, J_8, U_9, N_10⟩ := s6
        unfold s_X9_widthFor_48_6 at hf
        replace hf := un4_e hf
        show ww X D A 3 Q 0 0 48 [(0, .ref oL), (1, .int p0), (2, .int v2_7)] [] [gX9 cy oL aL L, gX4 cy (aL 2) aP P, gX4 cy (aL 3) aJ J_8, gX7 cy (aL 6) aU U_9, gX5 cy (aL 7) aN N_10, gX1 cy oC aC C]
        refine ww_iload_n h dX9_widthFor_48 rfl 2 rfl 49 rfl ?_
        refine ww_bipush (v := 80) h dX9_widthFor_49 (by decide) 51 rfl ?_
        refine ww_icmp_gt h dX9_widthFor_51 97 (by decide) 54 rfl (fun c => ?_) (fun c => ?_)
        · replace hf := ite_t c hf
          refine ww_lo [] (lo' := []) rfl ?_
          exact hE6 (.inl (J_8, U_9, N_10)) (Option.some.inj hf).symm
        · replace hf := ite_f c hf
          refine ww_aload_n h dX9_widthFor_54 rfl 0 rfl 55 rfl ?_
          refine ww_get h inG9 rfl 0 rfl rfl 3 (by decide) w_416 rfl dX9_widthFor_55 58 rfl ?_
          refine ww_iload_n h dX9_widthFor_58 rfl 2 rfl 59 rfl ?_
          refine ww_put (ty := .int) h inG4 tyX4_ok nmX4 rfl 2 rfl rfl 5 (by decide) w_212 rfl (by decide +kernel) rfl rfl (Nat.le_of_ble_eq_true rfl) (Nat.le_of_ble_eq_true rfl) dX9_widthFor_59 62 rfl ?_
          refine ww_nm (fun z => [gX9 cy oL aL L, gX4 cy (aL 2) aP P, gX4 cy (aL 3) aJ z, gX7 cy (aL 6) aU U_9, gX5 cy (aL 7) aN N_10, gX1 cy oC aC C]) (sI J_8 5 v2_7) (fun J_11 e => ?_)
          replace hf := bnd_at e hf
          clear e
          refine ww_aload_n h dX9_widthFor_62 rfl 0 rfl 63 rfl ?_
          refine ww_get h inG9 rfl 0 rfl rfl 7 (by decide) w_420 rfl dX9_widthFor_63 66 rfl ?_
          refine ww_aload_n h dX9_widthFor_66 rfl 0 rfl 67 rfl ?_
          refine ww_get h inG9 rfl 0 rfl rfl 6 (by decide) w_419 rfl dX9_widthFor_67 70 rfl ?_
          refine ww_ldcw h w_856 dX9_widthFor_70 73 rfl ?_
          obtain ⟨N_12, U_13, hu14, hf⟩ := ob2 hf
          refine ww_cVv h (c_X5_planBest l D ev cy (aL 7) aN N_10 (aL 6) aU U_9 (aL 3) aJ J_11 (1000000000 : Int32) _ hu14) ⟨w_860, w_857, w_858, w_859, w_108, ok_X5_planBest⟩ ⟨by decide, by decide⟩ ⟨by decide, by decide⟩ ⟨rfl, rfl⟩ [4, 3, 2] rfl 0 rfl rfl rfl rfl (Nat.le_of_ble_eq_true rfl) dX9_widthFor_73 76 rfl (Gs' := [gX5 cy (aL 7) aN N_12, gX7 cy (aL 6) aU U_13, gX4 cy (aL 3) aJ J_11, gX9 cy oL aL L, gX4 cy (aL 2) aP P, gX1 cy oC aC C]) rfl ?_
          clear hu14
          refine ww_aload_n h dX9_widthFor_76 rfl 0 rfl 77 rfl ?_
          refine ww_get h inG9 rfl 3 rfl rfl 7 (by decide) w_420 rfl dX9_widthFor_77 80 rfl ?_
          refine ww_get h inG5 rfl 0 rfl rfl 1 (by decide) w_343 rfl dX9_widthFor_80 83 rfl ?_
          refine ww_iconst (v := 0) h dX9_widthFor_83 (by decide) 84 rfl ?_
          have hi := (gd_some hf).1
          replace hf := (gd_some hf).2
          refine ww_iald h 0 rfl 2 rfl (ix_in hi) dX9_widthFor_84 85 rfl ?_
          clear hi
          refine ww_iload_n h dX9_widthFor_85 rfl 1 rfl 86 rfl ?_
          refine ww_icmp_gt h dX9_widthFor_86 91 (by decide) 89 rfl (fun c => ?_) (fun c => ?_)
          · replace hf := ite_t c hf
            refine ww_inc (c := 1) h dX9_widthFor_91 2 rfl (by decide) (by decide) (fun v2_15 => [(2, .int v2_15), (0, .ref oL), (1, .int p0)]) (fun _ => rfl) 94 rfl (fun v2_15 e => ?_)
            replace hf := bnd_at e hf
            clear e
            refine ww_goto h dX9_widthFor_94 48 (by decide) ?_
            refine ww_lo [1, 2, 0] (lo' := [(0, .ref oL), (1, .int p0), (2, .int v2_15)]) rfl ?_
            refine ww_perm [3, 3, 2, 1, 0, 0] (Gs' := [gX9 cy oL aL L, gX4 cy (aL 2) aP P, gX4 cy (aL 3) aJ J_11, gX7 cy (aL 6) aU U_13, gX5 cy (aL 7) aN N_12, gX1 cy oC aC C]) rfl ?_
            exact hI6 (v2_15, J_11, U_13, N_12) (Option.some.inj hf).symm
          · replace hf := ite_f c hf
            refine ww_iload_n h dX9_widthFor_89 rfl 2 rfl 90 rfl ?_
            refine ww_perm [3, 3, 2, 1, 0, 0] (Gs' := [gX9 cy oL aL L, gX4 cy (aL 2) aP P, gX4 cy (aL 3) aJ J_11, gX7 cy (aL 6) aU U_13, gX5 cy (aL 7) aN N_12, gX1 cy oC aC C]) rfl ?_
            obtain rfl := hE6 (.inr (v2_7, J_11, U_13, N_12)) (Option.some.inj hf).symm
            exact ww_iret h dX9_widthFor_90 hQ ⟨rfl, rfl⟩
      · clear h6
        rcases x6 with x6 | x6
        · replace hf := sel_l hf
          obtain ⟨J_16, U_17, N_18⟩ := x6
          replace hf := un3_e hf
          show ww X D A 3 Q 0 0 97 [] [] [gX9 cy oL aL L, gX4 cy (aL 2) aP P, gX4 cy (aL 3) aJ J_16, gX7 cy (aL 6) aU U_17, gX5 cy (aL 7) aN N_18, gX1 cy oC aC C]
          refine ww_bipush (v := (-2)) h dX9_widthFor_97 (by decide) 99 rfl ?_
          obtain rfl := Option.some.inj hf
          exact ww_iret h dX9_widthFor_99 hQ ⟨rfl, rfl⟩
        · replace hf := sel_r hf
          exact Option.some.inj hf
    · replace hf := ite_t c hf
      refine ww_bipush (v := (-2)) h dX9_widthFor_17 (by decide) 19 rfl ?_
      obtain rfl := Option.some.inj hf
      exact ww_iret h dX9_widthFor_19 hQ ⟨rfl, rfl⟩
  · replace hf := ite_f c hf
    refine ww_iconst (v := (-1)) h dX9_widthFor_5 (by decide) 6 rfl ?_
    obtain rfl := Option.some.inj hf
    exact ww_iret h dX9_widthFor_6 hQ ⟨rfl, rfl⟩
theorem dX9_bestWidth_0 : decode cX9_bestWidth 0 = .ok (.aload_n 0, 1) := by decide +kernel
theorem dX9_bestWidth_1 : decode cX9_bestWidth 1 = .ok (.getfield 38, 3) := by decide +kernel
theorem dX9_bestWidth_4 : decode cX9_bestWidth 4 = .ok (.aload_n 0, 1) := by decide +kernel
theorem dX9_bestWidth_5 : decode cX9_bestWidth 5 = .ok (.getfield 34, 3) := by decide +kernel
theorem dX9_bestWidth_8 : decode cX9_bestWidth 8 = .ok (.invokevirtual 144, 3) := by decide +kernel
theorem dX9_bestWidth_11 : decode cX9_bestWidth 11 = .ok (.aload_n 0, 1) := by decide +kernel
theorem dX9_bestWidth_12 : decode cX9_bestWidth 12 = .ok (.getfield 57, 3) := by decide +kernel
theorem dX9_bestWidth_15 : decode cX9_bestWidth 15 = .ok (.aload_n 0, 1) := by decide +kernel
theorem dX9_bestWidth_16 : decode cX9_bestWidth 16 = .ok (.getfield 24, 3) := by decide +kernel
theorem dX9_bestWidth_19 : decode cX9_bestWidth 19 = .ok (.aload_n 0, 1) := by decide +kernel
theorem dX9_bestWidth_20 : decode cX9_bestWidth 20 = .ok (.getfield 38, 3) := by decide +kernel
theorem dX9_bestWidth_23 : decode cX9_bestWidth 23 = .ok (.invokevirtual 349, 3) := by decide +kernel
theorem dX9_bestWidth_26 : decode cX9_bestWidth 26 = .ok (.iconst 4, 1) := by decide +kernel
theorem dX9_bestWidth_27 : decode cX9_bestWidth 27 = .ok (.istore_n 1, 1) := by decide +kernel
theorem dX9_bestWidth_28 : decode cX9_bestWidth 28 = .ok (.ldc_w 345, 3) := by decide +kernel
theorem dX9_bestWidth_31 : decode cX9_bestWidth 31 = .ok (.istore_n 2, 1) := by decide +kernel
theorem dX9_bestWidth_32 : decode cX9_bestWidth 32 = .ok (.iconst 4, 1) := by decide +kernel
theorem dX9_bestWidth_33 : decode cX9_bestWidth 33 = .ok (.istore_n 3, 1) := by decide +kernel
theorem dX9_bestWidth_34 : decode cX9_bestWidth 34 = .ok (.iload_n 3, 1) := by decide +kernel
theorem dX9_bestWidth_35 : decode cX9_bestWidth 35 = .ok (.bipush 80, 2) := by decide +kernel
theorem dX9_bestWidth_37 : decode cX9_bestWidth 37 = .ok (.if_icmp .gt 56, 3) := by decide +kernel
theorem dX9_bestWidth_40 : decode cX9_bestWidth 40 = .ok (.aload_n 0, 1) := by decide +kernel
theorem dX9_bestWidth_41 : decode cX9_bestWidth 41 = .ok (.getfield 38, 3) := by decide +kernel
theorem dX9_bestWidth_44 : decode cX9_bestWidth 44 = .ok (.iload_n 3, 1) := by decide +kernel
theorem dX9_bestWidth_45 : decode cX9_bestWidth 45 = .ok (.putfield 165, 3) := by decide +kernel
theorem dX9_bestWidth_48 : decode cX9_bestWidth 48 = .ok (.aload_n 0, 1) := by decide +kernel
theorem dX9_bestWidth_49 : decode cX9_bestWidth 49 = .ok (.getfield 63, 3) := by decide +kernel
theorem dX9_bestWidth_52 : decode cX9_bestWidth 52 = .ok (.aload_n 0, 1) := by decide +kernel
theorem dX9_bestWidth_53 : decode cX9_bestWidth 53 = .ok (.getfield 57, 3) := by decide +kernel
theorem dX9_bestWidth_56 : decode cX9_bestWidth 56 = .ok (.ldc_w 345, 3) := by decide +kernel
theorem dX9_bestWidth_59 : decode cX9_bestWidth 59 = .ok (.invokevirtual 352, 3) := by decide +kernel
theorem dX9_bestWidth_62 : decode cX9_bestWidth 62 = .ok (.aload_n 0, 1) := by decide +kernel
theorem dX9_bestWidth_63 : decode cX9_bestWidth 63 = .ok (.getfield 63, 3) := by decide +kernel
theorem dX9_bestWidth_66 : decode cX9_bestWidth 66 = .ok (.getfield 359, 3) := by decide +kernel
theorem dX9_bestWidth_69 : decode cX9_bestWidth 69 = .ok (.iconst 0, 1) := by decide +kernel
theorem dX9_bestWidth_70 : decode cX9_bestWidth 70 = .ok (.iaload, 1) := by decide +kernel
theorem dX9_bestWidth_71 : decode cX9_bestWidth 71 = .ok (.iload_n 2, 1) := by decide +kernel
theorem dX9_bestWidth_72 : decode cX9_bestWidth 72 = .ok (.if_icmp .ge 15, 3) := by decide +kernel
theorem dX9_bestWidth_75 : decode cX9_bestWidth 75 = .ok (.aload_n 0, 1) := by decide +kernel
theorem dX9_bestWidth_76 : decode cX9_bestWidth 76 = .ok (.getfield 63, 3) := by decide +kernel
theorem dX9_bestWidth_79 : decode cX9_bestWidth 79 = .ok (.getfield 359, 3) := by decide +kernel
theorem dX9_bestWidth_82 : decode cX9_bestWidth 82 = .ok (.iconst 0, 1) := by decide +kernel
theorem dX9_bestWidth_83 : decode cX9_bestWidth 83 = .ok (.iaload, 1) := by decide +kernel
theorem dX9_bestWidth_84 : decode cX9_bestWidth 84 = .ok (.istore_n 2, 1) := by decide +kernel
theorem dX9_bestWidth_85 : decode cX9_bestWidth 85 = .ok (.iload_n 3, 1) := by decide +kernel
theorem dX9_bestWidth_86 : decode cX9_bestWidth 86 = .ok (.istore_n 1, 1) := by decide +kernel
theorem dX9_bestWidth_87 : decode cX9_bestWidth 87 = .ok (.iinc 3 1, 3) := by decide +kernel
theorem dX9_bestWidth_90 : decode cX9_bestWidth 90 = .ok (.goto (-56), 3) := by decide +kernel
theorem dX9_bestWidth_93 : decode cX9_bestWidth 93 = .ok (.iload_n 1, 1) := by decide +kernel
theorem dX9_bestWidth_94 : decode cX9_bestWidth 94 = .ok (.ireturn, 1) := by decide +kernel
theorem ok_X9_bestWidth : okY RX9 yX9_bestWidth 0 := ⟨rfl, by decide, by decide, by decide +kernel⟩
def j_X9_bestWidth_87_21 (J_15 : OV) (N_16 : OV) (U_17 : OV) (v3_11 : Int32) (v1_19 : Int32) (v2_20 : Int32) : Option ((Int32 × Int32 × Int32 × OV × OV × OV) ⊕ (Int32 × OV × OV × OV)) := bnd (v3_11 + 1) (fun v3_22 => some (.inl (v1_19, v2_20, v3_22, J_15, U_17, N_16)))
def s_X9_bestWidth_34_8 (aL : Nat → Nat) : (Int32 × Int32 × Int32 × OV × OV × OV) → Option ((Int32 × Int32 × Int32 × OV × OV × OV) ⊕ (Int32 × OV × OV × OV)) := un6 (fun v1_9 v2_10 v3_11 J_12 U_13 N_14 => (if (80 : Int32) < v3_11 then some (.inr (v1_9, J_12, U_13, N_14)) else bnd (sI J_12 5 v3_11) (fun J_15 => (f_X5_planBest N_14 U_13 (aL 3) J_15 (1000000000 : Int32)).bind (un2 (fun N_16 U_17 => gd (ix (0 : Int32) 41) ((if v2_10 ≤ (ar N_16 0 (0 : Int32).toNatClampNeg) then j_X9_bestWidth_87_21 J_15 N_16 U_17 v3_11 v1_9 v2_10 else gd (ix (0 : Int32) 41) (bnd (ar N_16 0 (0 : Int32).toNatClampNeg) (fun v2_23 => bnd v3_11 (fun v1_24 => j_X9_bestWidth_87_21 J_15 N_16 U_17 v3_11 v1_24 v2_23))))))))))
def f_X9_bestWidth (aL : Nat → Nat) (L : OV) (P : OV) (J : OV) (U : OV) (N : OV) (oC : Nat) (C : OV) : Option (Int32 × OV × OV × OV) := (f_X4_copyFrom J P).bind (un1 (fun J_1 => gd (decide (nv L 10 = oC)) ((f_X7_read U oC C (aL 3) J_1).bind (un1 (fun U_3 => bnd (4 : Int32) (fun v1_5 => bnd (1000000000 : Int32) (fun v2_6 => bnd (4 : Int32) (fun v3_7 => ((lp (s_X9_bestWidth_34_8 aL) 5000 (v1_5, v2_6, v3_7, J_1, U_3, N)).bind (un4 (fun v1_25 J_26 U_27 N_28 => some (v1_25, J_26, U_27, N_28))))))))))))
def r_X9_bestWidth : Room := { frames := 4, cells := 0, slots := 0, locals := 97 }
set_option maxHeartbeats 4000000 in
set_option maxRecDepth 100000 in
theorem c_X9_bestWidth (l : Launch) (D : va_G) (ev : EvT) (cy : Nat → ClassId) (oL : Nat) (aL : Nat → Nat) (L : OV) (aP : Nat → Nat) (P : OV) (aJ : Nat → Nat) (J : OV) (aU : Nat → Nat) (U : OV) (aN : Nat → Nat) (N : OV) (oC : Nat) (aC : Nat → Nat) (C : OV) (o : Int32 × OV × OV × OV) (hf : f_X9_bestWidth aL L P J U N oC C = some o) : Fn l yX9_bestWidth cX9_bestWidth 4 (some .int) r_X9_bestWidth D ev cy [.ref oL] [gX9 cy oL aL L, gX4 cy (aL 2) aP P, gX4 cy (aL 3) aJ J, gX7 cy (aL 6) aU U, gX5 cy (aL 7) aN N, gX1 cy oC aC C] (fun v G => v = some (.int o.1) ∧ G = [gX9 cy oL aL L, gX4 cy (aL 2) aP P, gX4 cy (aL 3) aJ o.2.1, gX7 cy (aL 6) aU o.2.2.1, gX5 cy (aL 7) aN o.2.2.2, gX1 cy oC aC C]) := by
  refine Fn_of (by decide) (Nat.le_of_ble_eq_true rfl) (fun X A Q h hQ _ => ?_)
  unfold f_X9_bestWidth at hf
  show ww X D A 4 Q 0 0 0 [(0, .ref oL)] [] [gX9 cy oL aL L, gX4 cy (aL 2) aP P, gX4 cy (aL 3) aJ J, gX7 cy (aL 6) aU U, gX5 cy (aL 7) aN N, gX1 cy oC aC C]
  refine ww_aload_n h dX9_bestWidth_0 rfl 0 rfl 1 rfl ?_
  refine ww_get h inG9 rfl 0 rfl rfl 3 (by decide) w_416 rfl dX9_bestWidth_1 4 rfl ?_
  refine ww_aload_n h dX9_bestWidth_4 rfl 0 rfl 5 rfl ?_
  refine ww_get h inG9 rfl 0 rfl rfl 2 (by decide) w_415 rfl dX9_bestWidth_5 8 rfl ?_
  obtain ⟨J_1, hu2, hf⟩ := ob1 hf
  refine ww_cVv h (c_X4_copyFrom l D ev cy (aL 3) aJ J (aL 2) aP P _ hu2) ⟨w_681, w_709, w_679, w_680, w_105, ok_X4_copyFrom⟩ ⟨by decide, by decide⟩ ⟨by decide, by decide⟩ ⟨rfl, rfl⟩ [2, 1] rfl 0 rfl rfl rfl rfl (Nat.le_of_ble_eq_true rfl) dX9_bestWidth_8 11 rfl (Gs' := [gX4 cy (aL 3) aJ J_1, gX4 cy (aL 2) aP P, gX9 cy oL aL L, gX7 cy (aL 6) aU U, gX5 cy (aL 7) aN N, gX1 cy oC aC C]) rfl ?_
  clear hu2
  refine ww_aload_n h dX9_bestWidth_11 rfl 0 rfl 12 rfl ?_
  refine ww_get h inG9 rfl 2 rfl rfl 6 (by decide) w_419 rfl dX9_bestWidth_12 15 rfl ?_
  refine ww_aload_n h dX9_bestWidth_15 rfl 0 rfl 16 rfl ?_
  refine ww_get h inG9 rfl 2 rfl rfl 10 (by decide) w_423 rfl dX9_bestWidth_16 19 rfl ?_
  have hi := (gd_some hf).1
  replace hf := (gd_some hf).2
  refine ww_ref hi ?_
  clear hi
  refine ww_aload_n h dX9_bestWidth_19 rfl 0 rfl 20 rfl ?_
  refine ww_get h inG9 rfl 2 rfl rfl 3 (by decide) w_416 rfl dX9_bestWidth_20 23 rfl ?_
  obtain ⟨U_3, hu4, hf⟩ := ob1 hf
  refine ww_cVv h (c_X7_read l D ev cy (aL 6) aU U oC aC C (aL 3) aJ J_1 _ hu4) ⟨w_813, w_810, w_811, w_812, w_107, ok_X7_read⟩ ⟨by decide, by decide⟩ ⟨by decide, by decide⟩ ⟨rfl, rfl⟩ [3, 4, 0] rfl 0 rfl rfl rfl rfl (Nat.le_of_ble_eq_true rfl) dX9_bestWidth_23 26 rfl (Gs' := [gX7 cy (aL 6) aU U_3, gX1 cy oC aC C, gX4 cy (aL 3) aJ J_1, gX4 cy (aL 2) aP P, gX9 cy oL aL L, gX5 cy (aL 7) aN N]) rfl ?_
  clear hu4
  refine ww_iconst (v := 4) h dX9_bestWidth_26 (by decide) 27 rfl ?_
  refine ww_ist_n h dX9_bestWidth_27 rfl (by decide) (fun v1_5 => [(1, .int v1_5), (0, .ref oL)]) (fun _ => rfl) 28 rfl (fun v1_5 e => ?_)
  replace hf := bnd_at e hf
  clear e
  refine ww_ldcw h w_856 dX9_bestWidth_28 31 rfl ?_
  refine ww_ist_n h dX9_bestWidth_31 rfl (by decide) (fun v2_6 => [(2, .int v2_6), (1, .int v1_5), (0, .ref oL)]) (fun _ => rfl) 32 rfl (fun v2_6 e => ?_)
  replace hf := bnd_at e hf
  clear e
  refine ww_iconst (v := 4) h dX9_bestWidth_32 (by decide) 33 rfl ?_
  refine ww_ist_n h dX9_bestWidth_33 rfl (by decide) (fun v3_7 => [(3, .int v3_7), (2, .int v2_6), (1, .int v1_5), (0, .ref oL)]) (fun _ => rfl) 34 rfl (fun v3_7 e => ?_)
  replace hf := bnd_at e hf
  clear e
  refine ww_lo [3, 2, 1, 0] (lo' := [(0, .ref oL), (1, .int v1_5), (2, .int v2_6), (3, .int v3_7)]) rfl ?_
  refine ww_perm [4, 3, 2, 0, 1, 0] (Gs' := [gX9 cy oL aL L, gX4 cy (aL 2) aP P, gX4 cy (aL 3) aJ J_1, gX7 cy (aL 6) aU U_3, gX5 cy (aL 7) aN N, gX1 cy oC aC C]) rfl ?_
  obtain ⟨v1_25, J_26, U_27, N_28, h8, hf⟩ := ob4 hf
  refine lp_walk (un6 (fun v1_9 v2_10 v3_11 J_12 U_13 N_14 => ww X D A 4 Q 0 0 34 [(0, .ref oL), (1, .int v1_9), (2, .int v2_10), (3, .int v3_11)] [] [gX9 cy oL aL L, gX4 cy (aL 2) aP P, gX4 cy (aL 3) aJ J_12, gX7 cy (aL 6) aU U_13, gX5 cy (aL 7) aN N_14, gX1 cy oC aC C])) (un4 (fun v1_25 J_26 U_27 N_28 => ww X D A 4 Q 0 0 93 [(1, .int v1_25)] [] [gX9 cy oL aL L, gX4 cy (aL 2) aP P, gX4 cy (aL 3) aJ J_26, gX7 cy (aL 6) aU U_27, gX5 cy (aL 7) aN N_28, gX1 cy oC aC C])) ?_ _ _ _ h8 ?_
  · clear h8 hf
    intro s8 o8 hf hI8 hE8
    obtain ⟨v1_9, v2_10, v3_11, J_12, U_13, N_14⟩ := s8
    unfold s_X9_bestWidth_34_8 at hf
    replace hf := un6_e hf
    show ww X D A 4 Q 0 0 34 [(0, .ref oL), (1, .int v1_9), (2, .int v2_10), (3, .int v3_11)] [] [gX9 cy oL aL L, gX4 cy (aL 2) aP P, gX4 cy (aL 3) aJ J_12, gX7 cy (aL 6) aU U_13, gX5 cy (aL 7) aN N_14, gX1 cy oC aC C]
    refine ww_iload_n h dX9_bestWidth_34 rfl 3 rfl 35 rfl ?_
    refine ww_bipush (v := 80) h dX9_bestWidth_35 (by decide) 37 rfl ?_
    refine ww_icmp_gt h dX9_bestWidth_37 93 (by decide) 40 rfl (fun c => ?_) (fun c => ?_)
    · replace hf := ite_t c hf
      refine ww_lo [1] (lo' := [(1, .int v1_9)]) rfl ?_
      exact hE8 (v1_9, J_12, U_13, N_14) (Option.some.inj hf).symm
    · replace hf := ite_f c hf
      refine ww_aload_n h dX9_bestWidth_40 rfl 0 rfl 41 rfl ?_
      refine ww_get h inG9 rfl 0 rfl rfl 3 (by decide) w_416 rfl dX9_bestWidth_41 44 rfl ?_
      refine ww_iload_n h dX9_bestWidth_44 rfl 3 rfl 45 rfl ?_
      refine ww_put (ty := .int) h inG4 tyX4_ok nmX4 rfl 2 rfl rfl 5 (by decide) w_212 rfl (by decide +kernel) rfl rfl (Nat.le_of_ble_eq_true rfl) (Nat.le_of_ble_eq_true rfl) dX9_bestWidth_45 48 rfl ?_
      refine ww_nm (fun z => [gX9 cy oL aL L, gX4 cy (aL 2) aP P, gX4 cy (aL 3) aJ z, gX7 cy (aL 6) aU U_13, gX5 cy (aL 7) aN N_14, gX1 cy oC aC C]) (sI J_12 5 v3_11) (fun J_15 e => ?_)
      replace hf := bnd_at e hf
      clear e
      refine ww_aload_n h dX9_bestWidth_48 rfl 0 rfl 49 rfl ?_
      refine ww_get h inG9 rfl 0 rfl rfl 7 (by decide) w_420 rfl dX9_bestWidth_49 52 rfl ?_
      refine ww_aload_n h dX9_bestWidth_52 rfl 0 rfl 53 rfl ?_
      refine ww_get h inG9 rfl 0 rfl rfl 6 (by decide) w_419 rfl dX9_bestWidth_53 56 rfl ?_
      refine ww_ldcw h w_856 dX9_bestWidth_56 59 rfl ?_
      obtain ⟨N_16, U_17, hu18, hf⟩ := ob2 hf
      refine ww_cVv h (c_X5_planBest l D ev cy (aL 7) aN N_14 (aL 6) aU U_13 (aL 3) aJ J_15 (1000000000 : Int32) _ hu18) ⟨w_860, w_857, w_858, w_859, w_108, ok_X5_planBest⟩ ⟨by decide, by decide⟩ ⟨by decide, by decide⟩ ⟨rfl, rfl⟩ [4, 3, 2] rfl 0 rfl rfl rfl rfl (Nat.le_of_ble_eq_true rfl) dX9_bestWidth_59 62 rfl (Gs' := [gX5 cy (aL 7) aN N_16, gX7 cy (aL 6) aU U_17, gX4 cy (aL 3) aJ J_15, gX9 cy oL aL L, gX4 cy (aL 2) aP P, gX1 cy oC aC C]) rfl ?_
      clear hu18
      refine ww_aload_n h dX9_bestWidth_62 rfl 0 rfl 63 rfl ?_
      refine ww_get h inG9 rfl 3 rfl rfl 7 (by decide) w_420 rfl dX9_bestWidth_63 66 rfl ?_
      refine ww_get h inG5 rfl 0 rfl rfl 0 (by decide) w_341 rfl dX9_bestWidth_66 69 rfl ?_
      refine ww_iconst (v := 0) h dX9_bestWidth_69 (by decide) 70 rfl ?_
      have hi := (gd_some hf).1
      replace hf := (gd_some hf).2
      refine ww_iald h 0 rfl 1 rfl (ix_in hi) dX9_bestWidth_70 71 rfl ?_
      clear hi
      refine ww_iload_n h dX9_bestWidth_71 rfl 2 rfl 72 rfl ?_
      have hJ87_21 : ∀ (v1_19 : Int32) (v2_20 : Int32), j_X9_bestWidth_87_21 J_15 N_16 U_17 v3_11 v1_19 v2_20 = some o8 → ww X D A 4 Q 0 0 87 [(0, .ref oL), (1, .int v1_19), (2, .int v2_20), (3, .int v3_11)] [] [gX9 cy oL aL L, gX4 cy (aL 2) aP P, gX4 cy (aL 3) aJ J_15, gX7 cy (aL 6) aU U_17, gX5 cy (aL 7) aN N_16, gX1 cy oC aC C] := by
        intro v1_19 v2_20 hf
        unfold j_X9_bestWidth_87_21 at hf
        refine ww_inc (c := 1) h dX9_bestWidth_87 3 rfl (by decide) (by decide) (fun v3_22 => [(3, .int v3_22), (0, .ref oL), (1, .int v1_19), (2, .int v2_20)]) (fun _ => rfl) 90 rfl (fun v3_22 e => ?_)
        replace hf := bnd_at e hf
        clear e
        refine ww_goto h dX9_bestWidth_90 34 (by decide) ?_
        refine ww_lo [1, 2, 3, 0] (lo' := [(0, .ref oL), (1, .int v1_19), (2, .int v2_20), (3, .int v3_22)]) rfl ?_
        exact hI8 (v1_19, v2_20, v3_22, J_15, U_17, N_16) (Option.some.inj hf).symm
      refine ww_icmp_ge h dX9_bestWidth_72 87 (by decide) 75 rfl (fun c => ?_) (fun c => ?_)
      · replace hf := ite_t c hf
        refine ww_perm [3, 3, 2, 1, 0, 0] (Gs' := [gX9 cy oL aL L, gX4 cy (aL 2) aP P, gX4 cy (aL 3) aJ J_15, gX7 cy (aL 6) aU U_17, gX5 cy (aL 7) aN N_16, gX1 cy oC aC C]) rfl ?_
        exact hJ87_21 v1_9 v2_10 hf
      · replace hf := ite_f c hf
        refine ww_aload_n h dX9_bestWidth_75 rfl 0 rfl 76 rfl ?_
        refine ww_get h inG9 rfl 3 rfl rfl 7 (by decide) w_420 rfl dX9_bestWidth_76 79 rfl ?_
        refine ww_get h inG5 rfl 0 rfl rfl 0 (by decide) w_341 rfl dX9_bestWidth_79 82 rfl ?_
        refine ww_iconst (v := 0) h dX9_bestWidth_82 (by decide) 83 rfl ?_
        have hi := (gd_some hf).1
        replace hf := (gd_some hf).2
        refine ww_iald h 0 rfl 1 rfl (ix_in hi) dX9_bestWidth_83 84 rfl ?_
        clear hi
        refine ww_ist_n h dX9_bestWidth_84 rfl (by decide) (fun v2_23 => [(2, .int v2_23), (0, .ref oL), (1, .int v1_9), (3, .int v3_11)]) (fun _ => rfl) 85 rfl (fun v2_23 e => ?_)
        replace hf := bnd_at e hf
        clear e
        refine ww_iload_n h dX9_bestWidth_85 rfl 3 rfl 86 rfl ?_
        refine ww_ist_n h dX9_bestWidth_86 rfl (by decide) (fun v1_24 => [(1, .int v1_24), (2, .int v2_23), (0, .ref oL), (3, .int v3_11)]) (fun _ => rfl) 87 rfl (fun v1_24 e => ?_)
        replace hf := bnd_at e hf
        clear e
        refine ww_lo [2, 0, 1, 3] (lo' := [(0, .ref oL), (1, .int v1_24), (2, .int v2_23), (3, .int v3_11)]) rfl ?_
        refine ww_perm [3, 3, 2, 1, 0, 0] (Gs' := [gX9 cy oL aL L, gX4 cy (aL 2) aP P, gX4 cy (aL 3) aJ J_15, gX7 cy (aL 6) aU U_17, gX5 cy (aL 7) aN N_16, gX1 cy oC aC C]) rfl ?_
        exact hJ87_21 v1_24 v2_23 hf
  · clear h8
    show ww X D A 4 Q 0 0 93 [(1, .int v1_25)] [] [gX9 cy oL aL L, gX4 cy (aL 2) aP P, gX4 cy (aL 3) aJ J_26, gX7 cy (aL 6) aU U_27, gX5 cy (aL 7) aN N_28, gX1 cy oC aC C]
    refine ww_iload_n h dX9_bestWidth_93 rfl 0 rfl 94 rfl ?_
    obtain rfl := Option.some.inj hf
    exact ww_iret h dX9_bestWidth_94 hQ ⟨rfl, rfl⟩
theorem dX9_count_0 : decode cX9_count 0 = .ok (.iload_n 1, 1) := by decide +kernel
theorem dX9_count_1 : decode cX9_count 1 = .ok (.tableswitch 179 0 12 #[67, 75, 83, 91, 99, 107, 115, 123, 131, 141, 151, 161, 170], 67) := by decide +kernel
theorem dX9_count_68 : decode cX9_count 68 = .ok (.aload_n 0, 1) := by decide +kernel
theorem dX9_count_69 : decode cX9_count 69 = .ok (.getfield 24, 3) := by decide +kernel
theorem dX9_count_72 : decode cX9_count 72 = .ok (.getfield 111, 3) := by decide +kernel
theorem dX9_count_75 : decode cX9_count 75 = .ok (.ireturn, 1) := by decide +kernel
theorem dX9_count_76 : decode cX9_count 76 = .ok (.aload_n 0, 1) := by decide +kernel
theorem dX9_count_77 : decode cX9_count 77 = .ok (.getfield 34, 3) := by decide +kernel
theorem dX9_count_80 : decode cX9_count 80 = .ok (.getfield 171, 3) := by decide +kernel
theorem dX9_count_83 : decode cX9_count 83 = .ok (.ireturn, 1) := by decide +kernel
theorem dX9_count_84 : decode cX9_count 84 = .ok (.aload_n 0, 1) := by decide +kernel
theorem dX9_count_85 : decode cX9_count 85 = .ok (.getfield 34, 3) := by decide +kernel
theorem dX9_count_88 : decode cX9_count 88 = .ok (.getfield 117, 3) := by decide +kernel
theorem dX9_count_91 : decode cX9_count 91 = .ok (.ireturn, 1) := by decide +kernel
theorem dX9_count_92 : decode cX9_count 92 = .ok (.aload_n 0, 1) := by decide +kernel
theorem dX9_count_93 : decode cX9_count 93 = .ok (.getfield 34, 3) := by decide +kernel
theorem dX9_count_96 : decode cX9_count 96 = .ok (.getfield 165, 3) := by decide +kernel
theorem dX9_count_99 : decode cX9_count 99 = .ok (.ireturn, 1) := by decide +kernel
theorem dX9_count_100 : decode cX9_count 100 = .ok (.aload_n 0, 1) := by decide +kernel
theorem dX9_count_101 : decode cX9_count 101 = .ok (.getfield 44, 3) := by decide +kernel
theorem dX9_count_104 : decode cX9_count 104 = .ok (.getfield 196, 3) := by decide +kernel
theorem dX9_count_107 : decode cX9_count 107 = .ok (.ireturn, 1) := by decide +kernel
theorem dX9_count_108 : decode cX9_count 108 = .ok (.aload_n 0, 1) := by decide +kernel
theorem dX9_count_109 : decode cX9_count 109 = .ok (.getfield 14, 3) := by decide +kernel
theorem dX9_count_112 : decode cX9_count 112 = .ok (.getfield 85, 3) := by decide +kernel
theorem dX9_count_115 : decode cX9_count 115 = .ok (.ireturn, 1) := by decide +kernel
theorem dX9_count_116 : decode cX9_count 116 = .ok (.aload_n 0, 1) := by decide +kernel
theorem dX9_count_117 : decode cX9_count 117 = .ok (.getfield 34, 3) := by decide +kernel
theorem dX9_count_120 : decode cX9_count 120 = .ok (.invokevirtual 362, 3) := by decide +kernel
theorem dX9_count_123 : decode cX9_count 123 = .ok (.ireturn, 1) := by decide +kernel
theorem dX9_count_124 : decode cX9_count 124 = .ok (.aload_n 0, 1) := by decide +kernel
theorem dX9_count_125 : decode cX9_count 125 = .ok (.getfield 34, 3) := by decide +kernel
theorem dX9_count_128 : decode cX9_count 128 = .ok (.invokevirtual 365, 3) := by decide +kernel
theorem dX9_count_131 : decode cX9_count 131 = .ok (.ireturn, 1) := by decide +kernel
theorem dX9_count_132 : decode cX9_count 132 = .ok (.aload_n 0, 1) := by decide +kernel
theorem dX9_count_133 : decode cX9_count 133 = .ok (.getfield 34, 3) := by decide +kernel
theorem dX9_count_136 : decode cX9_count 136 = .ok (.getfield 193, 3) := by decide +kernel
theorem dX9_count_139 : decode cX9_count 139 = .ok (.iconst 0, 1) := by decide +kernel
theorem dX9_count_140 : decode cX9_count 140 = .ok (.iaload, 1) := by decide +kernel
theorem dX9_count_141 : decode cX9_count 141 = .ok (.ireturn, 1) := by decide +kernel
theorem dX9_count_142 : decode cX9_count 142 = .ok (.aload_n 0, 1) := by decide +kernel
theorem dX9_count_143 : decode cX9_count 143 = .ok (.getfield 34, 3) := by decide +kernel
theorem dX9_count_146 : decode cX9_count 146 = .ok (.getfield 193, 3) := by decide +kernel
theorem dX9_count_149 : decode cX9_count 149 = .ok (.iconst 1, 1) := by decide +kernel
theorem dX9_count_150 : decode cX9_count 150 = .ok (.iaload, 1) := by decide +kernel
theorem dX9_count_151 : decode cX9_count 151 = .ok (.ireturn, 1) := by decide +kernel
theorem dX9_count_152 : decode cX9_count 152 = .ok (.aload_n 0, 1) := by decide +kernel
theorem dX9_count_153 : decode cX9_count 153 = .ok (.getfield 34, 3) := by decide +kernel
theorem dX9_count_156 : decode cX9_count 156 = .ok (.getfield 193, 3) := by decide +kernel
theorem dX9_count_159 : decode cX9_count 159 = .ok (.iconst 2, 1) := by decide +kernel
theorem dX9_count_160 : decode cX9_count 160 = .ok (.iaload, 1) := by decide +kernel
theorem dX9_count_161 : decode cX9_count 161 = .ok (.ireturn, 1) := by decide +kernel
theorem dX9_count_162 : decode cX9_count 162 = .ok (.aload_n 0, 1) := by decide +kernel
theorem dX9_count_163 : decode cX9_count 163 = .ok (.getfield 34, 3) := by decide +kernel
theorem dX9_count_166 : decode cX9_count 166 = .ok (.iconst 1, 1) := by decide +kernel
theorem dX9_count_167 : decode cX9_count 167 = .ok (.invokevirtual 368, 3) := by decide +kernel
theorem dX9_count_170 : decode cX9_count 170 = .ok (.ireturn, 1) := by decide +kernel
theorem dX9_count_171 : decode cX9_count 171 = .ok (.aload_n 0, 1) := by decide +kernel
theorem dX9_count_172 : decode cX9_count 172 = .ok (.getfield 34, 3) := by decide +kernel
theorem dX9_count_175 : decode cX9_count 175 = .ok (.iconst 2, 1) := by decide +kernel
theorem dX9_count_176 : decode cX9_count 176 = .ok (.invokevirtual 368, 3) := by decide +kernel
theorem dX9_count_179 : decode cX9_count 179 = .ok (.ireturn, 1) := by decide +kernel
theorem dX9_count_180 : decode cX9_count 180 = .ok (.iconst (-1), 1) := by decide +kernel
theorem dX9_count_181 : decode cX9_count 181 = .ok (.ireturn, 1) := by decide +kernel
theorem ok_X9_count : okY RX9 yX9_count 1 := ⟨rfl, by decide, by decide, by decide +kernel⟩
def f_X9_count (L : OV) (T : OV) (P : OV) (H : OV) (oC : Nat) (C : OV) (p0 : Int32) : Option (Int32) := (if p0 = 0 then gd (decide (nv L 10 = oC)) (some (iv C 5)) else (if p0 = 1 then some (iv P 8) else (if p0 = 2 then some (iv P 4) else (if p0 = 3 then some (iv P 5) else (if p0 = 4 then some (iv H 2) else (if p0 = 5 then some (iv T 1) else (if p0 = 6 then (f_X4_legalEnds P).bind (un1 (fun r_1 => some r_1)) else (if p0 = 7 then (f_X4_longestStretch P).bind (un1 (fun r_3 => some r_3)) else (if p0 = 8 then gd (ix (0 : Int32) 3) (some (ar P 3 (0 : Int32).toNatClampNeg)) else (if p0 = 9 then gd (ix (1 : Int32) 3) (some (ar P 3 (1 : Int32).toNatClampNeg)) else (if p0 = 10 then gd (ix (2 : Int32) 3) (some (ar P 3 (2 : Int32).toNatClampNeg)) else (if p0 = 11 then (f_X4_marksOf P (1 : Int32)).bind (un1 (fun r_5 => some r_5)) else (if p0 = 12 then (f_X4_marksOf P (2 : Int32)).bind (un1 (fun r_7 => some r_7)) else some (-1 : Int32))))))))))))))
def r_X9_count : Room := { frames := 3, cells := 0, slots := 0, locals := 67 }
set_option maxHeartbeats 4000000 in
set_option maxRecDepth 100000 in
theorem c_X9_count (l : Launch) (D : va_G) (ev : EvT) (cy : Nat → ClassId) (oL : Nat) (aL : Nat → Nat) (L : OV) (aT : Nat → Nat) (T : OV) (aP : Nat → Nat) (P : OV) (aH : Nat → Nat) (H : OV) (oC : Nat) (aC : Nat → Nat) (C : OV) (p0 : Int32) (o : Int32) (hf : f_X9_count L T P H oC C p0 = some o) : Fn l yX9_count cX9_count 2 (some .int) r_X9_count D ev cy [.ref oL, .int p0] [gX9 cy oL aL L, gX0 cy (aL 0) aT T, gX4 cy (aL 2) aP P, gX2 cy (aL 4) aH H, gX1 cy oC aC C] (fun v G => v = some (.int o) ∧ G = [gX9 cy oL aL L, gX0 cy (aL 0) aT T, gX4 cy (aL 2) aP P, gX2 cy (aL 4) aH H, gX1 cy oC aC C]) := by
  refine Fn_of (by decide) (Nat.le_of_ble_eq_true rfl) (fun X A Q h hQ _ => ?_)
  unfold f_X9_count at hf
  show ww X D A 2 Q 0 0 0 [(0, .ref oL), (1, .int p0)] [] [gX9 cy oL aL L, gX0 cy (aL 0) aT T, gX4 cy (aL 2) aP P, gX2 cy (aL 4) aH H, gX1 cy oC aC C]
  refine ww_iload_n h dX9_count_0 rfl 1 rfl 1 rfl ?_
  by_cases c1_0 : p0 = 0
  · replace hf := ite_t c1_0 hf
    refine ww_tabIn h dX9_count_1 (by rw [c1_0]; decide) (by rw [c1_0]; decide) (by rw [c1_0]; rfl) 68 (by decide) ?_
    refine ww_aload_n h dX9_count_68 rfl 0 rfl 69 rfl ?_
    refine ww_get h inG9 rfl 0 rfl rfl 10 (by decide) w_423 rfl dX9_count_69 72 rfl ?_
    have hi := (gd_some hf).1
    replace hf := (gd_some hf).2
    refine ww_ref hi ?_
    clear hi
    refine ww_get h inG1 rfl 4 rfl rfl 5 (by decide) w_175 rfl dX9_count_72 75 rfl ?_
    obtain rfl := Option.some.inj hf
    exact ww_iret h dX9_count_75 hQ ⟨rfl, rfl⟩
  · replace hf := ite_f c1_0 hf
    by_cases c1_1 : p0 = 1
    · replace hf := ite_t c1_1 hf
      refine ww_tabIn h dX9_count_1 (by rw [c1_1]; decide) (by rw [c1_1]; decide) (by rw [c1_1]; rfl) 76 (by decide) ?_
      refine ww_aload_n h dX9_count_76 rfl 0 rfl 77 rfl ?_
      refine ww_get h inG9 rfl 0 rfl rfl 2 (by decide) w_415 rfl dX9_count_77 80 rfl ?_
      refine ww_get h inG4 rfl 2 rfl rfl 8 (by decide) w_218 rfl dX9_count_80 83 rfl ?_
      obtain rfl := Option.some.inj hf
      exact ww_iret h dX9_count_83 hQ ⟨rfl, rfl⟩
    · replace hf := ite_f c1_1 hf
      by_cases c1_2 : p0 = 2
      · replace hf := ite_t c1_2 hf
        refine ww_tabIn h dX9_count_1 (by rw [c1_2]; decide) (by rw [c1_2]; decide) (by rw [c1_2]; rfl) 84 (by decide) ?_
        refine ww_aload_n h dX9_count_84 rfl 0 rfl 85 rfl ?_
        refine ww_get h inG9 rfl 0 rfl rfl 2 (by decide) w_415 rfl dX9_count_85 88 rfl ?_
        refine ww_get h inG4 rfl 2 rfl rfl 4 (by decide) w_209 rfl dX9_count_88 91 rfl ?_
        obtain rfl := Option.some.inj hf
        exact ww_iret h dX9_count_91 hQ ⟨rfl, rfl⟩
      · replace hf := ite_f c1_2 hf
        by_cases c1_3 : p0 = 3
        · replace hf := ite_t c1_3 hf
          refine ww_tabIn h dX9_count_1 (by rw [c1_3]; decide) (by rw [c1_3]; decide) (by rw [c1_3]; rfl) 92 (by decide) ?_
          refine ww_aload_n h dX9_count_92 rfl 0 rfl 93 rfl ?_
          refine ww_get h inG9 rfl 0 rfl rfl 2 (by decide) w_415 rfl dX9_count_93 96 rfl ?_
          refine ww_get h inG4 rfl 2 rfl rfl 5 (by decide) w_212 rfl dX9_count_96 99 rfl ?_
          obtain rfl := Option.some.inj hf
          exact ww_iret h dX9_count_99 hQ ⟨rfl, rfl⟩
        · replace hf := ite_f c1_3 hf
          by_cases c1_4 : p0 = 4
          · replace hf := ite_t c1_4 hf
            refine ww_tabIn h dX9_count_1 (by rw [c1_4]; decide) (by rw [c1_4]; decide) (by rw [c1_4]; rfl) 100 (by decide) ?_
            refine ww_aload_n h dX9_count_100 rfl 0 rfl 101 rfl ?_
            refine ww_get h inG9 rfl 0 rfl rfl 4 (by decide) w_417 rfl dX9_count_101 104 rfl ?_
            refine ww_get h inG2 rfl 3 rfl rfl 2 (by decide) w_250 rfl dX9_count_104 107 rfl ?_
            obtain rfl := Option.some.inj hf
            exact ww_iret h dX9_count_107 hQ ⟨rfl, rfl⟩
          · replace hf := ite_f c1_4 hf
            by_cases c1_5 : p0 = 5
            · replace hf := ite_t c1_5 hf
              refine ww_tabIn h dX9_count_1 (by rw [c1_5]; decide) (by rw [c1_5]; decide) (by rw [c1_5]; rfl) 108 (by decide) ?_
              refine ww_aload_n h dX9_count_108 rfl 0 rfl 109 rfl ?_
              refine ww_get h inG9 rfl 0 rfl rfl 0 (by decide) w_413 rfl dX9_count_109 112 rfl ?_
              refine ww_get h inG0 rfl 1 rfl rfl 1 (by decide) w_141 rfl dX9_count_112 115 rfl ?_
              obtain rfl := Option.some.inj hf
              exact ww_iret h dX9_count_115 hQ ⟨rfl, rfl⟩
            · replace hf := ite_f c1_5 hf
              by_cases c1_6 : p0 = 6
              · replace hf := ite_t c1_6 hf
                refine ww_tabIn h dX9_count_1 (by rw [c1_6]; decide) (by rw [c1_6]; decide) (by rw [c1_6]; rfl) 116 (by decide) ?_
                refine ww_aload_n h dX9_count_116 rfl 0 rfl 117 rfl ?_
                refine ww_get h inG9 rfl 0 rfl rfl 2 (by decide) w_415 rfl dX9_count_117 120 rfl ?_
                obtain ⟨r_1, hu2, hf⟩ := ob1 hf
                refine ww_cVi h (c_X4_legalEnds l D ev cy (aL 2) aP P _ hu2) ⟨w_1141, w_1138, w_1139, w_1140, w_105, ok_X4_legalEnds⟩ ⟨by decide, by decide⟩ ⟨by decide, by decide⟩ ⟨rfl, rfl⟩ [2] rfl 0 rfl rfl rfl rfl (Nat.le_of_ble_eq_true rfl) dX9_count_120 123 rfl (Gs' := [gX4 cy (aL 2) aP P, gX9 cy oL aL L, gX0 cy (aL 0) aT T, gX2 cy (aL 4) aH H, gX1 cy oC aC C]) rfl ?_
                clear hu2
                refine ww_perm [1, 1, 0, 0, 0] (Gs' := [gX9 cy oL aL L, gX0 cy (aL 0) aT T, gX4 cy (aL 2) aP P, gX2 cy (aL 4) aH H, gX1 cy oC aC C]) rfl ?_
                obtain rfl := Option.some.inj hf
                exact ww_iret h dX9_count_123 hQ ⟨rfl, rfl⟩
              · replace hf := ite_f c1_6 hf
                by_cases c1_7 : p0 = 7
                · replace hf := ite_t c1_7 hf
                  refine ww_tabIn h dX9_count_1 (by rw [c1_7]; decide) (by rw [c1_7]; decide) (by rw [c1_7]; rfl) 124 (by decide) ?_
                  refine ww_aload_n h dX9_count_124 rfl 0 rfl 125 rfl ?_
                  refine ww_get h inG9 rfl 0 rfl rfl 2 (by decide) w_415 rfl dX9_count_125 128 rfl ?_
                  obtain ⟨r_3, hu4, hf⟩ := ob1 hf
                  refine ww_cVi h (c_X4_longestStretch l D ev cy (aL 2) aP P _ hu4) ⟨w_1146, w_1143, w_1144, w_1145, w_105, ok_X4_longestStretch⟩ ⟨by decide, by decide⟩ ⟨by decide, by decide⟩ ⟨rfl, rfl⟩ [2] rfl 0 rfl rfl rfl rfl (Nat.le_of_ble_eq_true rfl) dX9_count_128 131 rfl (Gs' := [gX4 cy (aL 2) aP P, gX9 cy oL aL L, gX0 cy (aL 0) aT T, gX2 cy (aL 4) aH H, gX1 cy oC aC C]) rfl ?_
                  clear hu4
                  refine ww_perm [1, 1, 0, 0, 0] (Gs' := [gX9 cy oL aL L, gX0 cy (aL 0) aT T, gX4 cy (aL 2) aP P, gX2 cy (aL 4) aH H, gX1 cy oC aC C]) rfl ?_
                  obtain rfl := Option.some.inj hf
                  exact ww_iret h dX9_count_131 hQ ⟨rfl, rfl⟩
                · replace hf := ite_f c1_7 hf
                  by_cases c1_8 : p0 = 8
                  · replace hf := ite_t c1_8 hf
                    refine ww_tabIn h dX9_count_1 (by rw [c1_8]; decide) (by rw [c1_8]; decide) (by rw [c1_8]; rfl) 132 (by decide) ?_
                    refine ww_aload_n h dX9_count_132 rfl 0 rfl 133 rfl ?_
                    refine ww_get h inG9 rfl 0 rfl rfl 2 (by decide) w_415 rfl dX9_count_133 136 rfl ?_
                    refine ww_get h inG4 rfl 2 rfl rfl 3 (by decide) w_206 rfl dX9_count_136 139 rfl ?_
                    refine ww_iconst (v := 0) h dX9_count_139 (by decide) 140 rfl ?_
                    have hi := (gd_some hf).1
                    replace hf := (gd_some hf).2
                    refine ww_iald h 2 rfl 4 rfl (ix_in hi) dX9_count_140 141 rfl ?_
                    clear hi
                    obtain rfl := Option.some.inj hf
                    exact ww_iret h dX9_count_141 hQ ⟨rfl, rfl⟩
                  · replace hf := ite_f c1_8 hf
                    by_cases c1_9 : p0 = 9
                    · replace hf := ite_t c1_9 hf
                      refine ww_tabIn h dX9_count_1 (by rw [c1_9]; decide) (by rw [c1_9]; decide) (by rw [c1_9]; rfl) 142 (by decide) ?_
                      refine ww_aload_n h dX9_count_142 rfl 0 rfl 143 rfl ?_
                      refine ww_get h inG9 rfl 0 rfl rfl 2 (by decide) w_415 rfl dX9_count_143 146 rfl ?_
                      refine ww_get h inG4 rfl 2 rfl rfl 3 (by decide) w_206 rfl dX9_count_146 149 rfl ?_
                      refine ww_iconst (v := 1) h dX9_count_149 (by decide) 150 rfl ?_
                      have hi := (gd_some hf).1
                      replace hf := (gd_some hf).2
                      refine ww_iald h 2 rfl 4 rfl (ix_in hi) dX9_count_150 151 rfl ?_
                      clear hi
                      obtain rfl := Option.some.inj hf
                      exact ww_iret h dX9_count_151 hQ ⟨rfl, rfl⟩
                    · replace hf := ite_f c1_9 hf
                      by_cases c1_10 : p0 = 10
                      · replace hf := ite_t c1_10 hf
                        refine ww_tabIn h dX9_count_1 (by rw [c1_10]; decide) (by rw [c1_10]; decide) (by rw [c1_10]; rfl) 152 (by decide) ?_
                        refine ww_aload_n h dX9_count_152 rfl 0 rfl 153 rfl ?_
                        refine ww_get h inG9 rfl 0 rfl rfl 2 (by decide) w_415 rfl dX9_count_153 156 rfl ?_
                        refine ww_get h inG4 rfl 2 rfl rfl 3 (by decide) w_206 rfl dX9_count_156 159 rfl ?_
                        refine ww_iconst (v := 2) h dX9_count_159 (by decide) 160 rfl ?_
                        have hi := (gd_some hf).1
                        replace hf := (gd_some hf).2
                        refine ww_iald h 2 rfl 4 rfl (ix_in hi) dX9_count_160 161 rfl ?_
                        clear hi
                        obtain rfl := Option.some.inj hf
                        exact ww_iret h dX9_count_161 hQ ⟨rfl, rfl⟩
                      · replace hf := ite_f c1_10 hf
                        by_cases c1_11 : p0 = 11
                        · replace hf := ite_t c1_11 hf
                          refine ww_tabIn h dX9_count_1 (by rw [c1_11]; decide) (by rw [c1_11]; decide) (by rw [c1_11]; rfl) 162 (by decide) ?_
                          refine ww_aload_n h dX9_count_162 rfl 0 rfl 163 rfl ?_
                          refine ww_get h inG9 rfl 0 rfl rfl 2 (by decide) w_415 rfl dX9_count_163 166 rfl ?_
                          refine ww_iconst (v := 1) h dX9_count_166 (by decide) 167 rfl ?_
                          obtain ⟨r_5, hu6, hf⟩ := ob1 hf
                          refine ww_cVi h (c_X4_marksOf l D ev cy (aL 2) aP P (1 : Int32) _ hu6) ⟨w_1151, w_1148, w_1149, w_1150, w_105, ok_X4_marksOf⟩ ⟨by decide, by decide⟩ ⟨by decide, by decide⟩ ⟨rfl, rfl⟩ [2] rfl 0 rfl rfl rfl rfl (Nat.le_of_ble_eq_true rfl) dX9_count_167 170 rfl (Gs' := [gX4 cy (aL 2) aP P, gX9 cy oL aL L, gX0 cy (aL 0) aT T, gX2 cy (aL 4) aH H, gX1 cy oC aC C]) rfl ?_
                          clear hu6
                          refine ww_perm [1, 1, 0, 0, 0] (Gs' := [gX9 cy oL aL L, gX0 cy (aL 0) aT T, gX4 cy (aL 2) aP P, gX2 cy (aL 4) aH H, gX1 cy oC aC C]) rfl ?_
                          obtain rfl := Option.some.inj hf
                          exact ww_iret h dX9_count_170 hQ ⟨rfl, rfl⟩
                        · replace hf := ite_f c1_11 hf
                          by_cases c1_12 : p0 = 12
                          · replace hf := ite_t c1_12 hf
                            refine ww_tabIn h dX9_count_1 (by rw [c1_12]; decide) (by rw [c1_12]; decide) (by rw [c1_12]; rfl) 171 (by decide) ?_
                            refine ww_aload_n h dX9_count_171 rfl 0 rfl 172 rfl ?_
                            refine ww_get h inG9 rfl 0 rfl rfl 2 (by decide) w_415 rfl dX9_count_172 175 rfl ?_
                            refine ww_iconst (v := 2) h dX9_count_175 (by decide) 176 rfl ?_
                            obtain ⟨r_7, hu8, hf⟩ := ob1 hf
                            refine ww_cVi h (c_X4_marksOf l D ev cy (aL 2) aP P (2 : Int32) _ hu8) ⟨w_1151, w_1148, w_1149, w_1150, w_105, ok_X4_marksOf⟩ ⟨by decide, by decide⟩ ⟨by decide, by decide⟩ ⟨rfl, rfl⟩ [2] rfl 0 rfl rfl rfl rfl (Nat.le_of_ble_eq_true rfl) dX9_count_176 179 rfl (Gs' := [gX4 cy (aL 2) aP P, gX9 cy oL aL L, gX0 cy (aL 0) aT T, gX2 cy (aL 4) aH H, gX1 cy oC aC C]) rfl ?_
                            clear hu8
                            refine ww_perm [1, 1, 0, 0, 0] (Gs' := [gX9 cy oL aL L, gX0 cy (aL 0) aT T, gX4 cy (aL 2) aP P, gX2 cy (aL 4) aH H, gX1 cy oC aC C]) rfl ?_
                            obtain rfl := Option.some.inj hf
                            exact ww_iret h dX9_count_179 hQ ⟨rfl, rfl⟩
                          · replace hf := ite_f c1_12 hf
                            refine ww_tabOut h dX9_count_1 (by have z0 := ne_int c1_0 0 (by decide); have z1 := ne_int c1_1 1 (by decide); have z2 := ne_int c1_2 2 (by decide); have z3 := ne_int c1_3 3 (by decide); have z4 := ne_int c1_4 4 (by decide); have z5 := ne_int c1_5 5 (by decide); have z6 := ne_int c1_6 6 (by decide); have z7 := ne_int c1_7 7 (by decide); have z8 := ne_int c1_8 8 (by decide); have z9 := ne_int c1_9 9 (by decide); have z10 := ne_int c1_10 10 (by decide); have z11 := ne_int c1_11 11 (by decide); have z12 := ne_int c1_12 12 (by decide); omega) 180 (by decide) ?_
                            refine ww_iconst (v := (-1)) h dX9_count_180 (by decide) 181 rfl ?_
                            obtain rfl := Option.some.inj hf
                            exact ww_iret h dX9_count_181 hQ ⟨rfl, rfl⟩
theorem dX9_forget_0 : decode cX9_forget 0 = .ok (.aload_n 0, 1) := by decide +kernel
theorem dX9_forget_1 : decode cX9_forget 1 = .ok (.iconst 0, 1) := by decide +kernel
theorem dX9_forget_2 : decode cX9_forget 2 = .ok (.putfield 81, 3) := by decide +kernel
theorem dX9_forget_5 : decode cX9_forget 5 = .ok (.aload_n 0, 1) := by decide +kernel
theorem dX9_forget_6 : decode cX9_forget 6 = .ok (.getfield 77, 3) := by decide +kernel
theorem dX9_forget_9 : decode cX9_forget 9 = .ok (.iconst 0, 1) := by decide +kernel
theorem dX9_forget_10 : decode cX9_forget 10 = .ok (.putfield 374, 3) := by decide +kernel
theorem dX9_forget_13 : decode cX9_forget 13 = .ok (.iconst 0, 1) := by decide +kernel
theorem dX9_forget_14 : decode cX9_forget 14 = .ok (.istore_n 1, 1) := by decide +kernel
theorem dX9_forget_15 : decode cX9_forget 15 = .ok (.iload_n 1, 1) := by decide +kernel
theorem dX9_forget_16 : decode cX9_forget 16 = .ok (.iconst 4, 1) := by decide +kernel
theorem dX9_forget_17 : decode cX9_forget 17 = .ok (.if_icmp .ge 19, 3) := by decide +kernel
theorem dX9_forget_20 : decode cX9_forget 20 = .ok (.aload_n 0, 1) := by decide +kernel
theorem dX9_forget_21 : decode cX9_forget 21 = .ok (.getfield 69, 3) := by decide +kernel
theorem dX9_forget_24 : decode cX9_forget 24 = .ok (.iload_n 1, 1) := by decide +kernel
theorem dX9_forget_25 : decode cX9_forget 25 = .ok (.aaload, 1) := by decide +kernel
theorem dX9_forget_26 : decode cX9_forget 26 = .ok (.iconst 0, 1) := by decide +kernel
theorem dX9_forget_27 : decode cX9_forget 27 = .ok (.putfield 377, 3) := by decide +kernel
theorem dX9_forget_30 : decode cX9_forget 30 = .ok (.iinc 1 1, 3) := by decide +kernel
theorem dX9_forget_33 : decode cX9_forget 33 = .ok (.goto (-18), 3) := by decide +kernel
theorem dX9_forget_36 : decode cX9_forget 36 = .ok (.return_, 1) := by decide +kernel
theorem ok_X9_forget : okY RX9 yX9_forget 0 := ⟨rfl, by decide, by decide, by decide +kernel⟩
def f_X9_forget (L : OV) (W : OV) (Y0 : OV) (Y1 : OV) (Y2 : OV) (Y3 : OV) : Option (OV × OV × OV × OV × OV × OV) := bnd (sI L 12 (0 : Int32)) (fun L_1 => bnd (sI W 3 (0 : Int32)) (fun W_2 => gd (ix (0 : Int32) 4) (bnd (sI Y0 7 (0 : Int32)) (fun Y0_4 => gd (ix (1 : Int32) 4) (bnd (sI Y1 7 (0 : Int32)) (fun Y1_7 => gd (ix (2 : Int32) 4) (bnd (sI Y2 7 (0 : Int32)) (fun Y2_10 => gd (ix (3 : Int32) 4) (bnd (sI Y3 7 (0 : Int32)) (fun Y3_13 => some (L_1, W_2, Y0_4, Y1_7, Y2_10, Y3_13)))))))))))
def r_X9_forget : Room := { frames := 0, cells := 0, slots := 0, locals := 0 }
set_option maxHeartbeats 4000000 in
set_option maxRecDepth 100000 in
theorem c_X9_forget (l : Launch) (D : va_G) (ev : EvT) (cy : Nat → ClassId) (oL : Nat) (aL : Nat → Nat) (L : OV) (aW : Nat → Nat) (W : OV) (aY0 : Nat → Nat) (Y0 : OV) (aY1 : Nat → Nat) (Y1 : OV) (aY2 : Nat → Nat) (Y2 : OV) (aY3 : Nat → Nat) (Y3 : OV) (o : OV × OV × OV × OV × OV × OV) (hf : f_X9_forget L W Y0 Y1 Y2 Y3 = some o) : Fn l yX9_forget cX9_forget 2 none r_X9_forget D ev cy [.ref oL] [gX9 cy oL aL L, gX8 cy (aL 9) aW W, gX3 cy (aL (900 + 0)) aY0 Y0, gX3 cy (aL (900 + 1)) aY1 Y1, gX3 cy (aL (900 + 2)) aY2 Y2, gX3 cy (aL (900 + 3)) aY3 Y3] (fun v G => v = none ∧ G = [gX9 cy oL aL o.1, gX8 cy (aL 9) aW o.2.1, gX3 cy (aL (900 + 0)) aY0 o.2.2.1, gX3 cy (aL (900 + 1)) aY1 o.2.2.2.1, gX3 cy (aL (900 + 2)) aY2 o.2.2.2.2.1, gX3 cy (aL (900 + 3)) aY3 o.2.2.2.2.2]) := by
  refine Fn_of (by decide) (Nat.le_of_ble_eq_true rfl) (fun X A Q h hQ _ => ?_)
  unfold f_X9_forget at hf
  show ww X D A 2 Q 0 0 0 [(0, .ref oL)] [] [gX9 cy oL aL L, gX8 cy (aL 9) aW W, gX3 cy (aL (900 + 0)) aY0 Y0, gX3 cy (aL (900 + 1)) aY1 Y1, gX3 cy (aL (900 + 2)) aY2 Y2, gX3 cy (aL (900 + 3)) aY3 Y3]
  refine ww_aload_n h dX9_forget_0 rfl 0 rfl 1 rfl ?_
  refine ww_iconst (v := 0) h dX9_forget_1 (by decide) 2 rfl ?_
  refine ww_put (ty := .boolean) h inG9 tyX9_ok nmX9 rfl 0 rfl rfl 12 (by decide) w_425 rfl (by decide +kernel) (by decide) (by decide) (Nat.le_of_ble_eq_true rfl) (Nat.le_of_ble_eq_true rfl) dX9_forget_2 5 rfl ?_
  refine ww_nm (fun z => [gX9 cy oL aL z, gX8 cy (aL 9) aW W, gX3 cy (aL (900 + 0)) aY0 Y0, gX3 cy (aL (900 + 1)) aY1 Y1, gX3 cy (aL (900 + 2)) aY2 Y2, gX3 cy (aL (900 + 3)) aY3 Y3]) (sI L 12 (0 : Int32)) (fun L_1 e => ?_)
  replace hf := bnd_at e hf
  clear e
  refine ww_aload_n h dX9_forget_5 rfl 0 rfl 6 rfl ?_
  refine ww_get h inG9 rfl 0 rfl rfl 9 (by decide) w_422 rfl dX9_forget_6 9 rfl ?_
  refine ww_iconst (v := 0) h dX9_forget_9 (by decide) 10 rfl ?_
  refine ww_put (ty := .boolean) h inG8 tyX8_ok nmX8 rfl 1 rfl rfl 3 (by decide) w_402 rfl (by decide +kernel) (by decide) (by decide) (Nat.le_of_ble_eq_true rfl) (Nat.le_of_ble_eq_true rfl) dX9_forget_10 13 rfl ?_
  refine ww_nm (fun z => [gX9 cy oL aL L_1, gX8 cy (aL 9) aW z, gX3 cy (aL (900 + 0)) aY0 Y0, gX3 cy (aL (900 + 1)) aY1 Y1, gX3 cy (aL (900 + 2)) aY2 Y2, gX3 cy (aL (900 + 3)) aY3 Y3]) (sI W 3 (0 : Int32)) (fun W_2 e => ?_)
  replace hf := bnd_at e hf
  clear e
  refine ww_iconst (v := 0) h dX9_forget_13 (by decide) 14 rfl ?_
  refine ww_istore_n h dX9_forget_14 rfl (by decide) (lo' := [(1, .int (0 : Int32)), (0, .ref oL)]) rfl 15 rfl ?_
  refine ww_iload_n h dX9_forget_15 rfl 0 rfl 16 rfl ?_
  refine ww_iconst (v := 4) h dX9_forget_16 (by decide) 17 rfl ?_
  refine ww_icmp_ge h dX9_forget_17 36 (by decide) 20 rfl (fun c => absurd c (by decide)) (fun c => ?_)
  refine ww_aload_n h dX9_forget_20 rfl 1 rfl 21 rfl ?_
  refine ww_get h inG9 rfl 0 rfl rfl 8 (by decide) w_421 rfl dX9_forget_21 24 rfl ?_
  refine ww_iload_n h dX9_forget_24 rfl 0 rfl 25 rfl ?_
  have hi := (gd_some hf).1
  replace hf := (gd_some hf).2
  have hj3 := ix_lt hi
  refine ww_aaldR h 0 rfl 1 rfl 6 rfl rfl (ix_in hi) dX9_forget_25 26 rfl ?_
  clear hi
  refine ww_refE (congrArg aL (by decide : 900 + (0 : Int32).toNatClampNeg = 900 + 0)) ?_
  refine ww_iconst (v := 0) h dX9_forget_26 (by decide) 27 rfl ?_
  refine ww_put (ty := .boolean) h inG3 tyX3_ok nmX3 rfl 2 rfl rfl 7 (by decide) w_373 rfl (by decide +kernel) (by decide) (by decide) (Nat.le_of_ble_eq_true rfl) (Nat.le_of_ble_eq_true rfl) dX9_forget_27 30 rfl ?_
  refine ww_nm (fun z => [gX9 cy oL aL L_1, gX8 cy (aL 9) aW W_2, gX3 cy (aL (900 + 0)) aY0 z, gX3 cy (aL (900 + 1)) aY1 Y1, gX3 cy (aL (900 + 2)) aY2 Y2, gX3 cy (aL (900 + 3)) aY3 Y3]) (sI Y0 7 (0 : Int32)) (fun Y0_4 e => ?_)
  replace hf := bnd_at e hf
  clear e
  refine ww_inc (c := 1) h dX9_forget_30 0 rfl (by decide) (by decide) (fun v1_5 => [(1, .int v1_5), (0, .ref oL)]) (fun _ => rfl) 33 rfl (fun v1_5 e => ?_)
  obtain rfl : v1_5 = (1 : Int32) := e.trans (by decide)
  clear e
  refine ww_goto h dX9_forget_33 15 (by decide) ?_
  refine ww_iload_n h dX9_forget_15 rfl 0 rfl 16 rfl ?_
  refine ww_iconst (v := 4) h dX9_forget_16 (by decide) 17 rfl ?_
  refine ww_icmp_ge h dX9_forget_17 36 (by decide) 20 rfl (fun c => absurd c (by decide)) (fun c => ?_)
  refine ww_aload_n h dX9_forget_20 rfl 1 rfl 21 rfl ?_
  refine ww_get h inG9 rfl 0 rfl rfl 8 (by decide) w_421 rfl dX9_forget_21 24 rfl ?_
  refine ww_iload_n h dX9_forget_24 rfl 0 rfl 25 rfl ?_
  have hi := (gd_some hf).1
  replace hf := (gd_some hf).2
  have hj6 := ix_lt hi
  refine ww_aaldR h 0 rfl 1 rfl 6 rfl rfl (ix_in hi) dX9_forget_25 26 rfl ?_
  clear hi
  refine ww_refE (congrArg aL (by decide : 900 + (1 : Int32).toNatClampNeg = 900 + 1)) ?_
  refine ww_iconst (v := 0) h dX9_forget_26 (by decide) 27 rfl ?_
  refine ww_put (ty := .boolean) h inG3 tyX3_ok nmX3 rfl 3 rfl rfl 7 (by decide) w_373 rfl (by decide +kernel) (by decide) (by decide) (Nat.le_of_ble_eq_true rfl) (Nat.le_of_ble_eq_true rfl) dX9_forget_27 30 rfl ?_
  refine ww_nm (fun z => [gX9 cy oL aL L_1, gX8 cy (aL 9) aW W_2, gX3 cy (aL (900 + 0)) aY0 Y0_4, gX3 cy (aL (900 + 1)) aY1 z, gX3 cy (aL (900 + 2)) aY2 Y2, gX3 cy (aL (900 + 3)) aY3 Y3]) (sI Y1 7 (0 : Int32)) (fun Y1_7 e => ?_)
  replace hf := bnd_at e hf
  clear e
  refine ww_inc (c := 1) h dX9_forget_30 0 rfl (by decide) (by decide) (fun v1_8 => [(1, .int v1_8), (0, .ref oL)]) (fun _ => rfl) 33 rfl (fun v1_8 e => ?_)
  obtain rfl : v1_8 = (2 : Int32) := e.trans (by decide)
  clear e
  refine ww_goto h dX9_forget_33 15 (by decide) ?_
  refine ww_iload_n h dX9_forget_15 rfl 0 rfl 16 rfl ?_
  refine ww_iconst (v := 4) h dX9_forget_16 (by decide) 17 rfl ?_
  refine ww_icmp_ge h dX9_forget_17 36 (by decide) 20 rfl (fun c => absurd c (by decide)) (fun c => ?_)
  refine ww_aload_n h dX9_forget_20 rfl 1 rfl 21 rfl ?_
  refine ww_get h inG9 rfl 0 rfl rfl 8 (by decide) w_421 rfl dX9_forget_21 24 rfl ?_
  refine ww_iload_n h dX9_forget_24 rfl 0 rfl 25 rfl ?_
  have hi := (gd_some hf).1
  replace hf := (gd_some hf).2
  have hj9 := ix_lt hi
  refine ww_aaldR h 0 rfl 1 rfl 6 rfl rfl (ix_in hi) dX9_forget_25 26 rfl ?_
  clear hi
  refine ww_refE (congrArg aL (by decide : 900 + (2 : Int32).toNatClampNeg = 900 + 2)) ?_
  refine ww_iconst (v := 0) h dX9_forget_26 (by decide) 27 rfl ?_
  refine ww_put (ty := .boolean) h inG3 tyX3_ok nmX3 rfl 4 rfl rfl 7 (by decide) w_373 rfl (by decide +kernel) (by decide) (by decide) (Nat.le_of_ble_eq_true rfl) (Nat.le_of_ble_eq_true rfl) dX9_forget_27 30 rfl ?_
  refine ww_nm (fun z => [gX9 cy oL aL L_1, gX8 cy (aL 9) aW W_2, gX3 cy (aL (900 + 0)) aY0 Y0_4, gX3 cy (aL (900 + 1)) aY1 Y1_7, gX3 cy (aL (900 + 2)) aY2 z, gX3 cy (aL (900 + 3)) aY3 Y3]) (sI Y2 7 (0 : Int32)) (fun Y2_10 e => ?_)
  replace hf := bnd_at e hf
  clear e
  refine ww_inc (c := 1) h dX9_forget_30 0 rfl (by decide) (by decide) (fun v1_11 => [(1, .int v1_11), (0, .ref oL)]) (fun _ => rfl) 33 rfl (fun v1_11 e => ?_)
  obtain rfl : v1_11 = (3 : Int32) := e.trans (by decide)
  clear e
  refine ww_goto h dX9_forget_33 15 (by decide) ?_
  refine ww_iload_n h dX9_forget_15 rfl 0 rfl 16 rfl ?_
  refine ww_iconst (v := 4) h dX9_forget_16 (by decide) 17 rfl ?_
  refine ww_icmp_ge h dX9_forget_17 36 (by decide) 20 rfl (fun c => absurd c (by decide)) (fun c => ?_)
  refine ww_aload_n h dX9_forget_20 rfl 1 rfl 21 rfl ?_
  refine ww_get h inG9 rfl 0 rfl rfl 8 (by decide) w_421 rfl dX9_forget_21 24 rfl ?_
  refine ww_iload_n h dX9_forget_24 rfl 0 rfl 25 rfl ?_
  have hi := (gd_some hf).1
  replace hf := (gd_some hf).2
  have hj12 := ix_lt hi
  refine ww_aaldR h 0 rfl 1 rfl 6 rfl rfl (ix_in hi) dX9_forget_25 26 rfl ?_
  clear hi
  refine ww_refE (congrArg aL (by decide : 900 + (3 : Int32).toNatClampNeg = 900 + 3)) ?_
  refine ww_iconst (v := 0) h dX9_forget_26 (by decide) 27 rfl ?_
  refine ww_put (ty := .boolean) h inG3 tyX3_ok nmX3 rfl 5 rfl rfl 7 (by decide) w_373 rfl (by decide +kernel) (by decide) (by decide) (Nat.le_of_ble_eq_true rfl) (Nat.le_of_ble_eq_true rfl) dX9_forget_27 30 rfl ?_
  refine ww_nm (fun z => [gX9 cy oL aL L_1, gX8 cy (aL 9) aW W_2, gX3 cy (aL (900 + 0)) aY0 Y0_4, gX3 cy (aL (900 + 1)) aY1 Y1_7, gX3 cy (aL (900 + 2)) aY2 Y2_10, gX3 cy (aL (900 + 3)) aY3 z]) (sI Y3 7 (0 : Int32)) (fun Y3_13 e => ?_)
  replace hf := bnd_at e hf
  clear e
  refine ww_inc (c := 1) h dX9_forget_30 0 rfl (by decide) (by decide) (fun v1_14 => [(1, .int v1_14), (0, .ref oL)]) (fun _ => rfl) 33 rfl (fun v1_14 e => ?_)
  obtain rfl : v1_14 = (4 : Int32) := e.trans (by decide)
  clear e
  refine ww_goto h dX9_forget_33 15 (by decide) ?_
  refine ww_iload_n h dX9_forget_15 rfl 0 rfl 16 rfl ?_
  refine ww_iconst (v := 4) h dX9_forget_16 (by decide) 17 rfl ?_
  refine ww_icmp_ge h dX9_forget_17 36 (by decide) 20 rfl (fun c => ?_) (fun c => absurd c (by decide))
  obtain rfl := Option.some.inj hf
  exact ww_vret h dX9_forget_36 hQ ⟨rfl, rfl⟩
theorem dX9_currentRuler_0 : decode cX9_currentRuler 0 = .ok (.aload_n 0, 1) := by decide +kernel
theorem dX9_currentRuler_1 : decode cX9_currentRuler 1 = .ok (.getfield 81, 3) := by decide +kernel
theorem dX9_currentRuler_4 : decode cX9_currentRuler 4 = .ok (.ifCond .ne 23, 3) := by decide +kernel
theorem dX9_currentRuler_7 : decode cX9_currentRuler 7 = .ok (.aload_n 0, 1) := by decide +kernel
theorem dX9_currentRuler_8 : decode cX9_currentRuler 8 = .ok (.getfield 53, 3) := by decide +kernel
theorem dX9_currentRuler_11 : decode cX9_currentRuler 11 = .ok (.aload_n 0, 1) := by decide +kernel
theorem dX9_currentRuler_12 : decode cX9_currentRuler 12 = .ok (.getfield 24, 3) := by decide +kernel
theorem dX9_currentRuler_15 : decode cX9_currentRuler 15 = .ok (.aload_n 0, 1) := by decide +kernel
theorem dX9_currentRuler_16 : decode cX9_currentRuler 16 = .ok (.getfield 34, 3) := by decide +kernel
theorem dX9_currentRuler_19 : decode cX9_currentRuler 19 = .ok (.invokevirtual 349, 3) := by decide +kernel
theorem dX9_currentRuler_22 : decode cX9_currentRuler 22 = .ok (.aload_n 0, 1) := by decide +kernel
theorem dX9_currentRuler_23 : decode cX9_currentRuler 23 = .ok (.iconst 1, 1) := by decide +kernel
theorem dX9_currentRuler_24 : decode cX9_currentRuler 24 = .ok (.putfield 81, 3) := by decide +kernel
theorem dX9_currentRuler_27 : decode cX9_currentRuler 27 = .ok (.aload_n 0, 1) := by decide +kernel
theorem dX9_currentRuler_28 : decode cX9_currentRuler 28 = .ok (.getfield 53, 3) := by decide +kernel
theorem dX9_currentRuler_31 : decode cX9_currentRuler 31 = .ok (.areturn, 1) := by decide +kernel
theorem ok_X9_currentRuler : okY RX9 yX9_currentRuler 0 := ⟨rfl, by decide, by decide, by decide +kernel⟩
def f_X9_currentRuler (aL : Nat → Nat) (L : OV) (P : OV) (R : OV) (oC : Nat) (C : OV) : Option (OV × OV) := (if (iv L 12) = 0 then gd (decide (nv L 10 = oC)) ((f_X7_read R oC C (aL 2) P).bind (un1 (fun R_1 => bnd (sI L 12 (1 : Int32)) (fun L_3 => some (L_3, R_1))))) else some (L, R))
def r_X9_currentRuler : Room := { frames := 3, cells := 0, slots := 0, locals := 71 }
set_option maxHeartbeats 4000000 in
set_option maxRecDepth 100000 in
theorem c_X9_currentRuler (l : Launch) (D : va_G) (ev : EvT) (cy : Nat → ClassId) (oL : Nat) (aL : Nat → Nat) (L : OV) (aP : Nat → Nat) (P : OV) (aR : Nat → Nat) (R : OV) (oC : Nat) (aC : Nat → Nat) (C : OV) (o : OV × OV) (hf : f_X9_currentRuler aL L P R oC C = some o) : Fn l yX9_currentRuler cX9_currentRuler 1 (some (.object "LineEnds$Ruler")) r_X9_currentRuler D ev cy [.ref oL] [gX9 cy oL aL L, gX4 cy (aL 2) aP P, gX7 cy (aL 5) aR R, gX1 cy oC aC C] (fun v G => v = some (.ref (aL 5)) ∧ G = [gX9 cy oL aL o.1, gX4 cy (aL 2) aP P, gX7 cy (aL 5) aR o.2, gX1 cy oC aC C]) := by
  refine Fn_of (by decide) (Nat.le_of_ble_eq_true rfl) (fun X A Q h hQ _ => ?_)
  unfold f_X9_currentRuler at hf
  show ww X D A 1 Q 0 0 0 [(0, .ref oL)] [] [gX9 cy oL aL L, gX4 cy (aL 2) aP P, gX7 cy (aL 5) aR R, gX1 cy oC aC C]
  refine ww_aload_n h dX9_currentRuler_0 rfl 0 rfl 1 rfl ?_
  refine ww_get h inG9 rfl 0 rfl rfl 12 (by decide) w_425 rfl dX9_currentRuler_1 4 rfl ?_
  refine ww_if_ne h dX9_currentRuler_4 27 (by decide) 7 rfl (fun c => ?_) (fun c => ?_)
  · replace hf := ite_f c hf
    refine ww_aload_n h dX9_currentRuler_27 rfl 0 rfl 28 rfl ?_
    refine ww_get h inG9 rfl 0 rfl rfl 5 (by decide) w_418 rfl dX9_currentRuler_28 31 rfl ?_
    obtain rfl := Option.some.inj hf
    exact ww_aret h (Or.inl ⟨_, rfl⟩) dX9_currentRuler_31 hQ ⟨rfl, rfl⟩
  · replace hf := ite_t c hf
    refine ww_aload_n h dX9_currentRuler_7 rfl 0 rfl 8 rfl ?_
    refine ww_get h inG9 rfl 0 rfl rfl 5 (by decide) w_418 rfl dX9_currentRuler_8 11 rfl ?_
    refine ww_aload_n h dX9_currentRuler_11 rfl 0 rfl 12 rfl ?_
    refine ww_get h inG9 rfl 0 rfl rfl 10 (by decide) w_423 rfl dX9_currentRuler_12 15 rfl ?_
    have hi := (gd_some hf).1
    replace hf := (gd_some hf).2
    refine ww_ref hi ?_
    clear hi
    refine ww_aload_n h dX9_currentRuler_15 rfl 0 rfl 16 rfl ?_
    refine ww_get h inG9 rfl 0 rfl rfl 2 (by decide) w_415 rfl dX9_currentRuler_16 19 rfl ?_
    obtain ⟨R_1, hu2, hf⟩ := ob1 hf
    refine ww_cVv h (c_X7_read l D ev cy (aL 5) aR R oC aC C (aL 2) aP P _ hu2) ⟨w_813, w_810, w_811, w_812, w_107, ok_X7_read⟩ ⟨by decide, by decide⟩ ⟨by decide, by decide⟩ ⟨rfl, rfl⟩ [2, 2, 1] rfl 0 rfl rfl rfl rfl (Nat.le_of_ble_eq_true rfl) dX9_currentRuler_19 22 rfl (Gs' := [gX7 cy (aL 5) aR R_1, gX1 cy oC aC C, gX4 cy (aL 2) aP P, gX9 cy oL aL L]) rfl ?_
    clear hu2
    refine ww_aload_n h dX9_currentRuler_22 rfl 0 rfl 23 rfl ?_
    refine ww_iconst (v := 1) h dX9_currentRuler_23 (by decide) 24 rfl ?_
    refine ww_put (ty := .boolean) h inG9 tyX9_ok nmX9 rfl 3 rfl rfl 12 (by decide) w_425 rfl (by decide +kernel) (by decide) (by decide) (Nat.le_of_ble_eq_true rfl) (Nat.le_of_ble_eq_true rfl) dX9_currentRuler_24 27 rfl ?_
    refine ww_nm (fun z => [gX7 cy (aL 5) aR R_1, gX1 cy oC aC C, gX4 cy (aL 2) aP P, gX9 cy oL aL z]) (sI L 12 (1 : Int32)) (fun L_3 e => ?_)
    replace hf := bnd_at e hf
    clear e
    refine ww_aload_n h dX9_currentRuler_27 rfl 0 rfl 28 rfl ?_
    refine ww_get h inG9 rfl 3 rfl rfl 5 (by decide) w_418 rfl dX9_currentRuler_28 31 rfl ?_
    refine ww_perm [3, 2, 0, 0] (Gs' := [gX9 cy oL aL L_3, gX4 cy (aL 2) aP P, gX7 cy (aL 5) aR R_1, gX1 cy oC aC C]) rfl ?_
    obtain rfl := Option.some.inj hf
    exact ww_aret h (Or.inl ⟨_, rfl⟩) dX9_currentRuler_31 hQ ⟨rfl, rfl⟩
theorem dX9_layoutOf_0 : decode cX9_layoutOf 0 = .ok (.aload_n 0, 1) := by decide +kernel
theorem dX9_layoutOf_1 : decode cX9_layoutOf 1 = .ok (.getfield 69, 3) := by decide +kernel
theorem dX9_layoutOf_4 : decode cX9_layoutOf 4 = .ok (.iload_n 1, 1) := by decide +kernel
theorem dX9_layoutOf_5 : decode cX9_layoutOf 5 = .ok (.aaload, 1) := by decide +kernel
theorem dX9_layoutOf_6 : decode cX9_layoutOf 6 = .ok (.astore_n 2, 1) := by decide +kernel
theorem dX9_layoutOf_7 : decode cX9_layoutOf 7 = .ok (.aload_n 2, 1) := by decide +kernel
theorem dX9_layoutOf_8 : decode cX9_layoutOf 8 = .ok (.getfield 377, 3) := by decide +kernel
theorem dX9_layoutOf_11 : decode cX9_layoutOf 11 = .ok (.ifCond .ne 81, 3) := by decide +kernel
theorem dX9_layoutOf_14 : decode cX9_layoutOf 14 = .ok (.aload_n 0, 1) := by decide +kernel
theorem dX9_layoutOf_15 : decode cX9_layoutOf 15 = .ok (.invokevirtual 215, 3) := by decide +kernel
theorem dX9_layoutOf_18 : decode cX9_layoutOf 18 = .ok (.astore_n 3, 1) := by decide +kernel
theorem dX9_layoutOf_19 : decode cX9_layoutOf 19 = .ok (.iload_n 1, 1) := by decide +kernel
theorem dX9_layoutOf_20 : decode cX9_layoutOf 20 = .ok (.iconst 1, 1) := by decide +kernel
theorem dX9_layoutOf_21 : decode cX9_layoutOf 21 = .ok (.if_icmp .ne 17, 3) := by decide +kernel
theorem dX9_layoutOf_24 : decode cX9_layoutOf 24 = .ok (.aload_n 0, 1) := by decide +kernel
theorem dX9_layoutOf_25 : decode cX9_layoutOf 25 = .ok (.getfield 63, 3) := by decide +kernel
theorem dX9_layoutOf_28 : decode cX9_layoutOf 28 = .ok (.aload_n 3, 1) := by decide +kernel
theorem dX9_layoutOf_29 : decode cX9_layoutOf 29 = .ok (.ldc_w 345, 3) := by decide +kernel
theorem dX9_layoutOf_32 : decode cX9_layoutOf 32 = .ok (.invokevirtual 352, 3) := by decide +kernel
theorem dX9_layoutOf_35 : decode cX9_layoutOf 35 = .ok (.goto 45, 3) := by decide +kernel
theorem dX9_layoutOf_38 : decode cX9_layoutOf 38 = .ok (.iload_n 1, 1) := by decide +kernel
theorem dX9_layoutOf_39 : decode cX9_layoutOf 39 = .ok (.iconst 3, 1) := by decide +kernel
theorem dX9_layoutOf_40 : decode cX9_layoutOf 40 = .ok (.if_icmp .ne 22, 3) := by decide +kernel
theorem dX9_layoutOf_43 : decode cX9_layoutOf 43 = .ok (.aload_n 0, 1) := by decide +kernel
theorem dX9_layoutOf_44 : decode cX9_layoutOf 44 = .ok (.getfield 63, 3) := by decide +kernel
theorem dX9_layoutOf_47 : decode cX9_layoutOf 47 = .ok (.aload_n 3, 1) := by decide +kernel
theorem dX9_layoutOf_48 : decode cX9_layoutOf 48 = .ok (.aload_n 0, 1) := by decide +kernel
theorem dX9_layoutOf_49 : decode cX9_layoutOf 49 = .ok (.getfield 63, 3) := by decide +kernel
theorem dX9_layoutOf_52 : decode cX9_layoutOf 52 = .ok (.aload_n 3, 1) := by decide +kernel
theorem dX9_layoutOf_53 : decode cX9_layoutOf 53 = .ok (.invokevirtual 378, 3) := by decide +kernel
theorem dX9_layoutOf_56 : decode cX9_layoutOf 56 = .ok (.invokevirtual 352, 3) := by decide +kernel
theorem dX9_layoutOf_59 : decode cX9_layoutOf 59 = .ok (.goto 21, 3) := by decide +kernel
theorem dX9_layoutOf_62 : decode cX9_layoutOf 62 = .ok (.aload_n 0, 1) := by decide +kernel
theorem dX9_layoutOf_63 : decode cX9_layoutOf 63 = .ok (.getfield 63, 3) := by decide +kernel
theorem dX9_layoutOf_66 : decode cX9_layoutOf 66 = .ok (.aload_n 3, 1) := by decide +kernel
theorem dX9_layoutOf_67 : decode cX9_layoutOf 67 = .ok (.iload_n 1, 1) := by decide +kernel
theorem dX9_layoutOf_68 : decode cX9_layoutOf 68 = .ok (.iconst 2, 1) := by decide +kernel
theorem dX9_layoutOf_69 : decode cX9_layoutOf 69 = .ok (.if_icmp .ne 7, 3) := by decide +kernel
theorem dX9_layoutOf_72 : decode cX9_layoutOf 72 = .ok (.iconst 1, 1) := by decide +kernel
theorem dX9_layoutOf_73 : decode cX9_layoutOf 73 = .ok (.goto 4, 3) := by decide +kernel
theorem dX9_layoutOf_76 : decode cX9_layoutOf 76 = .ok (.iconst 0, 1) := by decide +kernel
theorem dX9_layoutOf_77 : decode cX9_layoutOf 77 = .ok (.invokevirtual 381, 3) := by decide +kernel
theorem dX9_layoutOf_80 : decode cX9_layoutOf 80 = .ok (.aload_n 2, 1) := by decide +kernel
theorem dX9_layoutOf_81 : decode cX9_layoutOf 81 = .ok (.aload_n 3, 1) := by decide +kernel
theorem dX9_layoutOf_82 : decode cX9_layoutOf 82 = .ok (.aload_n 0, 1) := by decide +kernel
theorem dX9_layoutOf_83 : decode cX9_layoutOf 83 = .ok (.getfield 63, 3) := by decide +kernel
theorem dX9_layoutOf_86 : decode cX9_layoutOf 86 = .ok (.getfield 385, 3) := by decide +kernel
theorem dX9_layoutOf_89 : decode cX9_layoutOf 89 = .ok (.invokevirtual 388, 3) := by decide +kernel
theorem dX9_layoutOf_92 : decode cX9_layoutOf 92 = .ok (.aload_n 2, 1) := by decide +kernel
theorem dX9_layoutOf_93 : decode cX9_layoutOf 93 = .ok (.areturn, 1) := by decide +kernel
theorem ok_X9_layoutOf : okY RX9 yX9_layoutOf 1 := ⟨rfl, by decide, by decide, by decide +kernel⟩
def j_X9_layoutOf_80_7 (oC : Nat) (aL : Nat → Nat) (P : OV) (C : OV) (Y : OV) (L_2 : OV) (R_5 : OV) (N_6 : OV) : Option (OV × OV × OV × OV) := (f_X3_fill Y R_5 oC C (aL 2) P N_6).bind (un2 (fun Y_8 R_9 => some (L_2, R_9, N_6, Y_8)))
def j_X9_layoutOf_77_12 (oC : Nat) (aL : Nat → Nat) (P : OV) (N : OV) (C : OV) (Y : OV) (L_2 : OV) (R_3 : OV) (t_11 : Int32) : Option (OV × OV × OV × OV) := (f_X5_planFull N R_3 (aL 2) P t_11).bind (un2 (fun N_13 R_14 => j_X9_layoutOf_80_7 oC aL P C Y L_2 R_14 N_13))
def f_X9_layoutOf (aL : Nat → Nat) (L : OV) (P : OV) (R : OV) (N : OV) (oC : Nat) (C : OV) (oY : Nat) (Y : OV) (p0 : Int32) : Option (OV × OV × OV × OV) := gd (ix p0 4) (gd (decide (aL (900 + p0.toNatClampNeg) = oY)) ((if (iv Y 7) = 0 then (f_X9_currentRuler aL L P R oC C).bind (un2 (fun L_2 R_3 => (if p0 = (1 : Int32) then (f_X5_planBest N R_3 (aL 2) P (1000000000 : Int32)).bind (un2 (fun N_23 R_24 => j_X9_layoutOf_80_7 oC aL P C Y L_2 R_24 N_23)) else (if p0 = (3 : Int32) then (f_X5_leastPeak N R_3 (aL 2) P).bind (un3 (fun r_16 N_17 R_18 => (f_X5_planBest N_17 R_18 (aL 2) P r_16).bind (un2 (fun N_20 R_21 => j_X9_layoutOf_80_7 oC aL P C Y L_2 R_21 N_20)))) else (if p0 = (2 : Int32) then j_X9_layoutOf_77_12 oC aL P N C Y L_2 R_3 (1 : Int32) else j_X9_layoutOf_77_12 oC aL P N C Y L_2 R_3 (0 : Int32)))))) else some (L, R, N, Y))))
def r_X9_layoutOf : Room := { frames := 5, cells := 0, slots := 0, locals := 124 }
set_option maxHeartbeats 4000000 in
set_option maxRecDepth 100000 in
theorem c_X9_layoutOf (l : Launch) (D : va_G) (ev : EvT) (cy : Nat → ClassId) (oL : Nat) (aL : Nat → Nat) (L : OV) (aP : Nat → Nat) (P : OV) (aR : Nat → Nat) (R : OV) (aN : Nat → Nat) (N : OV) (oC : Nat) (aC : Nat → Nat) (C : OV) (oY : Nat) (aY : Nat → Nat) (Y : OV) (p0 : Int32) (o : OV × OV × OV × OV) (hf : f_X9_layoutOf aL L P R N oC C oY Y p0 = some o) : Fn l yX9_layoutOf cX9_layoutOf 4 (some (.object "LineEnds$Layout")) r_X9_layoutOf D ev cy [.ref oL, .int p0] [gX9 cy oL aL L, gX4 cy (aL 2) aP P, gX7 cy (aL 5) aR R, gX5 cy (aL 7) aN N, gX1 cy oC aC C, gX3 cy oY aY Y] (fun v G => v = some (.ref oY) ∧ G = [gX9 cy oL aL o.1, gX4 cy (aL 2) aP P, gX7 cy (aL 5) aR o.2.1, gX5 cy (aL 7) aN o.2.2.1, gX1 cy oC aC C, gX3 cy oY aY o.2.2.2]) := by
  refine Fn_of (by decide) (Nat.le_of_ble_eq_true rfl) (fun X A Q h hQ _ => ?_)
  unfold f_X9_layoutOf at hf
  show ww X D A 4 Q 0 0 0 [(0, .ref oL), (1, .int p0)] [] [gX9 cy oL aL L, gX4 cy (aL 2) aP P, gX7 cy (aL 5) aR R, gX5 cy (aL 7) aN N, gX1 cy oC aC C, gX3 cy oY aY Y]
  refine ww_aload_n h dX9_layoutOf_0 rfl 0 rfl 1 rfl ?_
  refine ww_get h inG9 rfl 0 rfl rfl 8 (by decide) w_421 rfl dX9_layoutOf_1 4 rfl ?_
  refine ww_iload_n h dX9_layoutOf_4 rfl 1 rfl 5 rfl ?_
  have hi := (gd_some hf).1
  replace hf := (gd_some hf).2
  have hj1 := ix_lt hi
  refine ww_aaldR h 0 rfl 1 rfl 6 rfl rfl (ix_in hi) dX9_layoutOf_5 6 rfl ?_
  clear hi
  have hi := (gd_some hf).1
  replace hf := (gd_some hf).2
  refine ww_ref hi ?_
  clear hi
  refine ww_astore_n h dX9_layoutOf_6 rfl (by decide) (lo' := [(2, .ref oY), (0, .ref oL), (1, .int p0)]) rfl 7 rfl ?_
  refine ww_aload_n h dX9_layoutOf_7 rfl 0 rfl 8 rfl ?_
  refine ww_get h inG3 rfl 5 rfl rfl 7 (by decide) w_373 rfl dX9_layoutOf_8 11 rfl ?_
  refine ww_if_ne h dX9_layoutOf_11 92 (by decide) 14 rfl (fun c => ?_) (fun c => ?_)
  · replace hf := ite_f c hf
    refine ww_aload_n h dX9_layoutOf_92 rfl 0 rfl 93 rfl ?_
    obtain rfl := Option.some.inj hf
    exact ww_aret h (Or.inl ⟨_, rfl⟩) dX9_layoutOf_93 hQ ⟨rfl, rfl⟩
  · replace hf := ite_t c hf
    refine ww_aload_n h dX9_layoutOf_14 rfl 1 rfl 15 rfl ?_
    obtain ⟨L_2, R_3, hu4, hf⟩ := ob2 hf
    refine ww_cVr h (c_X9_currentRuler l D ev cy oL aL L aP P aR R oC aC C _ hu4) ⟨w_809, w_806, w_808, w_17, w_101, ok_X9_currentRuler⟩ ⟨by decide, by decide⟩ ⟨by decide, by decide⟩ ⟨rfl, rfl⟩ [0, 0, 0, 1] rfl 0 rfl rfl rfl rfl (Nat.le_of_ble_eq_true rfl) dX9_layoutOf_15 18 rfl (Gs' := [gX9 cy oL aL L_2, gX4 cy (aL 2) aP P, gX7 cy (aL 5) aR R_3, gX1 cy oC aC C, gX5 cy (aL 7) aN N, gX3 cy oY aY Y]) rfl ?_
    clear hu4
    refine ww_astore_n h dX9_layoutOf_18 rfl (by decide) (lo' := [(3, .ref (aL 5)), (2, .ref oY), (0, .ref oL), (1, .int p0)]) rfl 19 rfl ?_
    refine ww_iload_n h dX9_layoutOf_19 rfl 3 rfl 20 rfl ?_
    refine ww_iconst (v := 1) h dX9_layoutOf_20 (by decide) 21 rfl ?_
    have hJ80_7 : ∀ (R_5 : OV) (N_6 : OV), j_X9_layoutOf_80_7 oC aL P C Y L_2 R_5 N_6 = some o → ww X D A 4 Q 0 0 80 [(0, .ref oL), (2, .ref oY), (3, .ref (aL 5))] [] [gX9 cy oL aL L_2, gX4 cy (aL 2) aP P, gX7 cy (aL 5) aR R_5, gX5 cy (aL 7) aN N_6, gX1 cy oC aC C, gX3 cy oY aY Y] := by
      intro R_5 N_6 hf
      unfold j_X9_layoutOf_80_7 at hf
      refine ww_aload_n h dX9_layoutOf_80 rfl 1 rfl 81 rfl ?_
      refine ww_aload_n h dX9_layoutOf_81 rfl 2 rfl 82 rfl ?_
      refine ww_aload_n h dX9_layoutOf_82 rfl 0 rfl 83 rfl ?_
      refine ww_get h inG9 rfl 0 rfl rfl 7 (by decide) w_420 rfl dX9_layoutOf_83 86 rfl ?_
      refine ww_get h inG5 rfl 3 rfl rfl 2 (by decide) w_345 rfl dX9_layoutOf_86 89 rfl ?_
      obtain ⟨Y_8, R_9, hu10, hf⟩ := ob2 hf
      refine ww_cVv h (c_X3_fill l D ev cy oY aY Y (aL 5) aR R_5 oC aC C (aL 2) aP P (aL 7) aN N_6 _ hu10) ⟨w_896, w_893, w_894, w_895, w_109, ok_X3_fill⟩ ⟨by decide, by decide⟩ ⟨by decide, by decide⟩ ⟨rfl, rfl⟩ [5, 2, 3, 1, 1] rfl 0 rfl rfl rfl rfl (Nat.le_of_ble_eq_true rfl) dX9_layoutOf_89 92 rfl (Gs' := [gX3 cy oY aY Y_8, gX7 cy (aL 5) aR R_9, gX1 cy oC aC C, gX4 cy (aL 2) aP P, gX5 cy (aL 7) aN N_6, gX9 cy oL aL L_2]) rfl ?_
      clear hu10
      refine ww_aload_n h dX9_layoutOf_92 rfl 1 rfl 93 rfl ?_
      refine ww_perm [5, 3, 1, 2, 1, 0] (Gs' := [gX9 cy oL aL L_2, gX4 cy (aL 2) aP P, gX7 cy (aL 5) aR R_9, gX5 cy (aL 7) aN N_6, gX1 cy oC aC C, gX3 cy oY aY Y_8]) rfl ?_
      obtain rfl := Option.some.inj hf
      exact ww_aret h (Or.inl ⟨_, rfl⟩) dX9_layoutOf_93 hQ ⟨rfl, rfl⟩
    refine ww_icmp_ne h dX9_layoutOf_21 38 (by decide) 24 rfl (fun c => ?_) (fun c => ?_)
    · replace hf := ite_f c hf
      refine ww_iload_n h dX9_layoutOf_38 rfl 3 rfl 39 rfl ?_
      refine ww_iconst (v := 3) h dX9_layoutOf_39 (by decide) 40 rfl ?_
      refine ww_icmp_ne h dX9_layoutOf_40 62 (by decide) 43 rfl (fun c => ?_) (fun c => ?_)
      · replace hf := ite_f c hf
        refine ww_aload_n h dX9_layoutOf_62 rfl 2 rfl 63 rfl ?_
        refine ww_get h inG9 rfl 0 rfl rfl 7 (by decide) w_420 rfl dX9_layoutOf_63 66 rfl ?_
        refine ww_aload_n h dX9_layoutOf_66 rfl 0 rfl 67 rfl ?_
        refine ww_iload_n h dX9_layoutOf_67 rfl 3 rfl 68 rfl ?_
        refine ww_iconst (v := 2) h dX9_layoutOf_68 (by decide) 69 rfl ?_
        have hJ77_12 : ∀ (t_11 : Int32), j_X9_layoutOf_77_12 oC aL P N C Y L_2 R_3 t_11 = some o → ww X D A 4 Q 0 0 77 [(0, .ref oL), (2, .ref oY), (3, .ref (aL 5))] [.int t_11, .ref (aL 5), .ref (aL 7)] [gX9 cy oL aL L_2, gX4 cy (aL 2) aP P, gX7 cy (aL 5) aR R_3, gX5 cy (aL 7) aN N, gX1 cy oC aC C, gX3 cy oY aY Y] := by
          intro t_11 hf
          unfold j_X9_layoutOf_77_12 at hf
          obtain ⟨N_13, R_14, hu15, hf⟩ := ob2 hf
          refine ww_cVv h (c_X5_planFull l D ev cy (aL 7) aN N (aL 5) aR R_3 (aL 2) aP P t_11 _ hu15) ⟨w_884, w_881, w_882, w_883, w_108, ok_X5_planFull⟩ ⟨by decide, by decide⟩ ⟨by decide, by decide⟩ ⟨rfl, rfl⟩ [3, 2, 1] rfl 0 rfl rfl rfl rfl (Nat.le_of_ble_eq_true rfl) dX9_layoutOf_77 80 rfl (Gs' := [gX5 cy (aL 7) aN N_13, gX7 cy (aL 5) aR R_14, gX4 cy (aL 2) aP P, gX9 cy oL aL L_2, gX1 cy oC aC C, gX3 cy oY aY Y]) rfl ?_
          clear hu15
          refine ww_perm [3, 2, 1, 0, 0, 0] (Gs' := [gX9 cy oL aL L_2, gX4 cy (aL 2) aP P, gX7 cy (aL 5) aR R_14, gX5 cy (aL 7) aN N_13, gX1 cy oC aC C, gX3 cy oY aY Y]) rfl ?_
          exact hJ80_7 R_14 N_13 hf
        refine ww_icmp_ne h dX9_layoutOf_69 76 (by decide) 72 rfl (fun c => ?_) (fun c => ?_)
        · replace hf := ite_f c hf
          refine ww_iconst (v := 0) h dX9_layoutOf_76 (by decide) 77 rfl ?_
          refine ww_lo [2, 1, 0] (lo' := [(0, .ref oL), (2, .ref oY), (3, .ref (aL 5))]) rfl ?_
          refine ww_perm [0, 0, 0, 1, 0, 0] (Gs' := [gX9 cy oL aL L_2, gX4 cy (aL 2) aP P, gX7 cy (aL 5) aR R_3, gX5 cy (aL 7) aN N, gX1 cy oC aC C, gX3 cy oY aY Y]) rfl ?_
          exact hJ77_12 (0 : Int32) hf
        · replace hf := ite_t c hf
          refine ww_iconst (v := 1) h dX9_layoutOf_72 (by decide) 73 rfl ?_
          refine ww_goto h dX9_layoutOf_73 77 (by decide) ?_
          refine ww_lo [2, 1, 0] (lo' := [(0, .ref oL), (2, .ref oY), (3, .ref (aL 5))]) rfl ?_
          refine ww_perm [0, 0, 0, 1, 0, 0] (Gs' := [gX9 cy oL aL L_2, gX4 cy (aL 2) aP P, gX7 cy (aL 5) aR R_3, gX5 cy (aL 7) aN N, gX1 cy oC aC C, gX3 cy oY aY Y]) rfl ?_
          exact hJ77_12 (1 : Int32) hf
      · replace hf := ite_t c hf
        refine ww_aload_n h dX9_layoutOf_43 rfl 2 rfl 44 rfl ?_
        refine ww_get h inG9 rfl 0 rfl rfl 7 (by decide) w_420 rfl dX9_layoutOf_44 47 rfl ?_
        refine ww_aload_n h dX9_layoutOf_47 rfl 0 rfl 48 rfl ?_
        refine ww_aload_n h dX9_layoutOf_48 rfl 2 rfl 49 rfl ?_
        refine ww_get h inG9 rfl 0 rfl rfl 7 (by decide) w_420 rfl dX9_layoutOf_49 52 rfl ?_
        refine ww_aload_n h dX9_layoutOf_52 rfl 0 rfl 53 rfl ?_
        obtain ⟨r_16, N_17, R_18, hu19, hf⟩ := ob3 hf
        refine ww_cVi h (c_X5_leastPeak l D ev cy (aL 7) aN N (aL 5) aR R_3 (aL 2) aP P _ hu19) ⟨w_878, w_875, w_876, w_877, w_108, ok_X5_leastPeak⟩ ⟨by decide, by decide⟩ ⟨by decide, by decide⟩ ⟨rfl, rfl⟩ [4, 2, 1] rfl 0 rfl rfl rfl rfl (Nat.le_of_ble_eq_true rfl) dX9_layoutOf_53 56 rfl (Gs' := [gX5 cy (aL 7) aN N_17, gX7 cy (aL 5) aR R_18, gX4 cy (aL 2) aP P, gX9 cy oL aL L_2, gX1 cy oC aC C, gX3 cy oY aY Y]) rfl ?_
        clear hu19
        obtain ⟨N_20, R_21, hu22, hf⟩ := ob2 hf
        refine ww_cVv h (c_X5_planBest l D ev cy (aL 7) aN N_17 (aL 5) aR R_18 (aL 2) aP P r_16 _ hu22) ⟨w_860, w_857, w_858, w_859, w_108, ok_X5_planBest⟩ ⟨by decide, by decide⟩ ⟨by decide, by decide⟩ ⟨rfl, rfl⟩ [0, 0, 0] rfl 0 rfl rfl rfl rfl (Nat.le_of_ble_eq_true rfl) dX9_layoutOf_56 59 rfl (Gs' := [gX5 cy (aL 7) aN N_20, gX7 cy (aL 5) aR R_21, gX4 cy (aL 2) aP P, gX9 cy oL aL L_2, gX1 cy oC aC C, gX3 cy oY aY Y]) rfl ?_
        clear hu22
        refine ww_goto h dX9_layoutOf_59 80 (by decide) ?_
        refine ww_lo [2, 1, 0] (lo' := [(0, .ref oL), (2, .ref oY), (3, .ref (aL 5))]) rfl ?_
        refine ww_perm [3, 2, 1, 0, 0, 0] (Gs' := [gX9 cy oL aL L_2, gX4 cy (aL 2) aP P, gX7 cy (aL 5) aR R_21, gX5 cy (aL 7) aN N_20, gX1 cy oC aC C, gX3 cy oY aY Y]) rfl ?_
        exact hJ80_7 R_21 N_20 hf
    · replace hf := ite_t c hf
      refine ww_aload_n h dX9_layoutOf_24 rfl 2 rfl 25 rfl ?_
      refine ww_get h inG9 rfl 0 rfl rfl 7 (by decide) w_420 rfl dX9_layoutOf_25 28 rfl ?_
      refine ww_aload_n h dX9_layoutOf_28 rfl 0 rfl 29 rfl ?_
      refine ww_ldcw h w_856 dX9_layoutOf_29 32 rfl ?_
      obtain ⟨N_23, R_24, hu25, hf⟩ := ob2 hf
      refine ww_cVv h (c_X5_planBest l D ev cy (aL 7) aN N (aL 5) aR R_3 (aL 2) aP P (1000000000 : Int32) _ hu25) ⟨w_860, w_857, w_858, w_859, w_108, ok_X5_planBest⟩ ⟨by decide, by decide⟩ ⟨by decide, by decide⟩ ⟨rfl, rfl⟩ [4, 2, 1] rfl 0 rfl rfl rfl rfl (Nat.le_of_ble_eq_true rfl) dX9_layoutOf_32 35 rfl (Gs' := [gX5 cy (aL 7) aN N_23, gX7 cy (aL 5) aR R_24, gX4 cy (aL 2) aP P, gX9 cy oL aL L_2, gX1 cy oC aC C, gX3 cy oY aY Y]) rfl ?_
      clear hu25
      refine ww_goto h dX9_layoutOf_35 80 (by decide) ?_
      refine ww_lo [2, 1, 0] (lo' := [(0, .ref oL), (2, .ref oY), (3, .ref (aL 5))]) rfl ?_
      refine ww_perm [3, 2, 1, 0, 0, 0] (Gs' := [gX9 cy oL aL L_2, gX4 cy (aL 2) aP P, gX7 cy (aL 5) aR R_24, gX5 cy (aL 7) aN N_23, gX1 cy oC aC C, gX3 cy oY aY Y]) rfl ?_
      exact hJ80_7 R_24 N_23 hf
