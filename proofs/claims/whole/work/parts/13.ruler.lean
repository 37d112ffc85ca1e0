theorem dX7_signs_0 : decode cX7_signs 0 = .ok (.aload_n 0, 1) := by decide +kernel
theorem dX7_signs_1 : decode cX7_signs 1 = .ok (.getfield 46, 3) := by decide +kernel
theorem dX7_signs_4 : decode cX7_signs 4 = .ok (.getfield 50, 3) := by decide +kernel
theorem dX7_signs_7 : decode cX7_signs 7 = .ok (.ireturn, 1) := by decide +kernel
theorem ok_X7_signs : okY RX7 yX7_signs 0 := ⟨rfl, by decide, by decide, by decide +kernel⟩
def f_X7_signs (R : OV) (oP : Nat) (P : OV) : Option (Int32) := gd (decide (nv R 1 = oP)) (some (iv P 4))
def r_X7_signs : Room := { frames := 0, cells := 0, slots := 0, locals := 0 }
set_option maxHeartbeats 4000000 in
set_option maxRecDepth 100000 in
theorem c_X7_signs (l : Launch) (D : va_G) (ev : EvT) (cy : Nat → ClassId) (oR : Nat) (aR : Nat → Nat) (R : OV) (oP : Nat) (aP : Nat → Nat) (P : OV) (o : Int32) (hf : f_X7_signs R oP P = some o) : Fn l yX7_signs cX7_signs 1 (some .int) r_X7_signs D ev cy [.ref oR] [gX7 cy oR aR R, gX4 cy oP aP P] (fun v G => v = some (.int o) ∧ G = [gX7 cy oR aR R, gX4 cy oP aP P]) := by
  refine Fn_of (by decide) (Nat.le_of_ble_eq_true rfl) (fun X A Q h hQ _ => ?_)
  unfold f_X7_signs at hf
  show ww X D A 1 Q 0 0 0 [(0, .ref oR)] [] [gX7 cy oR aR R, gX4 cy oP aP P]
  refine ww_aload_n h dX7_signs_0 rfl 0 rfl 1 rfl ?_
  refine ww_get h inG7 rfl 0 rfl rfl 1 (by decide) w_266 rfl dX7_signs_1 4 rfl ?_
  have hi := (gd_some hf).1
  replace hf := (gd_some hf).2
  refine ww_ref hi ?_
  clear hi
  refine ww_get h inG4 rfl 1 rfl rfl 4 (by decide) w_207 rfl dX7_signs_4 7 rfl ?_
  obtain rfl := Option.some.inj hf
  exact ww_iret h dX7_signs_7 hQ ⟨rfl, rfl⟩
theorem dX7_factOf_0 : decode cX7_factOf 0 = .ok (.aload_n 0, 1) := by decide +kernel
theorem dX7_factOf_1 : decode cX7_factOf 1 = .ok (.getfield 42, 3) := by decide +kernel
theorem dX7_factOf_4 : decode cX7_factOf 4 = .ok (.getfield 73, 3) := by decide +kernel
theorem dX7_factOf_7 : decode cX7_factOf 7 = .ok (.iload_n 1, 1) := by decide +kernel
theorem dX7_factOf_8 : decode cX7_factOf 8 = .ok (.aaload, 1) := by decide +kernel
theorem dX7_factOf_9 : decode cX7_factOf 9 = .ok (.aload_n 0, 1) := by decide +kernel
theorem dX7_factOf_10 : decode cX7_factOf 10 = .ok (.getfield 46, 3) := by decide +kernel
theorem dX7_factOf_13 : decode cX7_factOf 13 = .ok (.getfield 78, 3) := by decide +kernel
theorem dX7_factOf_16 : decode cX7_factOf 16 = .ok (.iload_n 2, 1) := by decide +kernel
theorem dX7_factOf_17 : decode cX7_factOf 17 = .ok (.iaload, 1) := by decide +kernel
theorem dX7_factOf_18 : decode cX7_factOf 18 = .ok (.iaload, 1) := by decide +kernel
theorem dX7_factOf_19 : decode cX7_factOf 19 = .ok (.ireturn, 1) := by decide +kernel
theorem ok_X7_factOf : okY RX7 yX7_factOf 2 := ⟨rfl, by decide, by decide, by decide +kernel⟩
def f_X7_factOf (R : OV) (oC : Nat) (C : OV) (oP : Nat) (P : OV) (p0 : Int32) (p1 : Int32) : Option (Int32) := gd (decide (nv R 0 = oC)) (gd (ix p0 9) (gd (decide (nv R 1 = oP)) (gd (ix p1 40) (gd (ix (ar P 0 p1.toNatClampNeg) 26) (some (gr C 0 p0.toNatClampNeg (ar P 0 p1.toNatClampNeg).toNatClampNeg))))))
def r_X7_factOf : Room := { frames := 0, cells := 0, slots := 0, locals := 0 }
set_option maxHeartbeats 4000000 in
set_option maxRecDepth 100000 in
theorem c_X7_factOf (l : Launch) (D : va_G) (ev : EvT) (cy : Nat → ClassId) (oR : Nat) (aR : Nat → Nat) (R : OV) (oC : Nat) (aC : Nat → Nat) (C : OV) (oP : Nat) (aP : Nat → Nat) (P : OV) (p0 : Int32) (p1 : Int32) (o : Int32) (hf : f_X7_factOf R oC C oP P p0 p1 = some o) : Fn l yX7_factOf cX7_factOf 3 (some .int) r_X7_factOf D ev cy [.ref oR, .int p0, .int p1] [gX7 cy oR aR R, gX1 cy oC aC C, gX4 cy oP aP P] (fun v G => v = some (.int o) ∧ G = [gX7 cy oR aR R, gX1 cy oC aC C, gX4 cy oP aP P]) := by
  refine Fn_of (by decide) (Nat.le_of_ble_eq_true rfl) (fun X A Q h hQ _ => ?_)
  unfold f_X7_factOf at hf
  show ww X D A 3 Q 0 0 0 [(0, .ref oR), (1, .int p0), (2, .int p1)] [] [gX7 cy oR aR R, gX1 cy oC aC C, gX4 cy oP aP P]
  refine ww_aload_n h dX7_factOf_0 rfl 0 rfl 1 rfl ?_
  refine ww_get h inG7 rfl 0 rfl rfl 0 (by decide) w_265 rfl dX7_factOf_1 4 rfl ?_
  have hi := (gd_some hf).1
  replace hf := (gd_some hf).2
  refine ww_ref hi ?_
  clear hi
  refine ww_get h inG1 rfl 1 rfl rfl 0 (by decide) w_159 rfl dX7_factOf_4 7 rfl ?_
  refine ww_iload_n h dX7_factOf_7 rfl 1 rfl 8 rfl ?_
  have hi := (gd_some hf).1
  replace hf := (gd_some hf).2
  have hj1 := ix_lt hi
  refine ww_aaldR h 1 rfl 1 rfl 4 rfl rfl (ix_in hi) dX7_factOf_8 9 rfl ?_
  clear hi
  refine ww_aload_n h dX7_factOf_9 rfl 0 rfl 10 rfl ?_
  refine ww_get h inG7 rfl 0 rfl rfl 1 (by decide) w_266 rfl dX7_factOf_10 13 rfl ?_
  have hi := (gd_some hf).1
  replace hf := (gd_some hf).2
  refine ww_ref hi ?_
  clear hi
  refine ww_get h inG4 rfl 2 rfl rfl 0 (by decide) w_196 rfl dX7_factOf_13 16 rfl ?_
  refine ww_iload_n h dX7_factOf_16 rfl 2 rfl 17 rfl ?_
  have hi := (gd_some hf).1
  replace hf := (gd_some hf).2
  refine ww_iald h 2 rfl 1 rfl (ix_in hi) dX7_factOf_17 18 rfl ?_
  clear hi
  have hi := (gd_some hf).1
  replace hf := (gd_some hf).2
  refine ww_iald h 1 rfl (3 + p0.toNatClampNeg) (gX1_row0 hj1) (ix_in hi) dX7_factOf_18 19 rfl ?_
  clear hi
  obtain rfl := Option.some.inj hf
  exact ww_iret h dX7_factOf_19 hQ ⟨rfl, rfl⟩
theorem dX7_isLegal_0 : decode cX7_isLegal 0 = .ok (.aload_n 0, 1) := by decide +kernel
theorem dX7_isLegal_1 : decode cX7_isLegal 1 = .ok (.getfield 39, 3) := by decide +kernel
theorem dX7_isLegal_4 : decode cX7_isLegal 4 = .ok (.iload_n 1, 1) := by decide +kernel
theorem dX7_isLegal_5 : decode cX7_isLegal 5 = .ok (.baload, 1) := by decide +kernel
theorem dX7_isLegal_6 : decode cX7_isLegal 6 = .ok (.ireturn, 1) := by decide +kernel
theorem ok_X7_isLegal : okY RX7 yX7_isLegal 1 := ⟨rfl, by decide, by decide, by decide +kernel⟩
def f_X7_isLegal (R : OV) (p0 : Int32) : Option (Int32) := gd (ix p0 40) (gd (b01 (ar R 10 p0.toNatClampNeg)) (some (ar R 10 p0.toNatClampNeg)))
def r_X7_isLegal : Room := { frames := 0, cells := 0, slots := 0, locals := 0 }
set_option maxHeartbeats 4000000 in
set_option maxRecDepth 100000 in
theorem c_X7_isLegal (l : Launch) (D : va_G) (ev : EvT) (cy : Nat → ClassId) (oR : Nat) (aR : Nat → Nat) (R : OV) (p0 : Int32) (o : Int32) (hf : f_X7_isLegal R p0 = some o) : Fn l yX7_isLegal cX7_isLegal 2 (some .boolean) r_X7_isLegal D ev cy [.ref oR, .int p0] [gX7 cy oR aR R] (fun v G => v = some (.int o) ∧ G = [gX7 cy oR aR R]) := by
  refine Fn_of (by decide) (Nat.le_of_ble_eq_true rfl) (fun X A Q h hQ _ => ?_)
  unfold f_X7_isLegal at hf
  show ww X D A 2 Q 0 0 0 [(0, .ref oR), (1, .int p0)] [] [gX7 cy oR aR R]
  refine ww_aload_n h dX7_isLegal_0 rfl 0 rfl 1 rfl ?_
  refine ww_get h inG7 rfl 0 rfl rfl 10 (by decide) w_275 rfl dX7_isLegal_1 4 rfl ?_
  refine ww_iload_n h dX7_isLegal_4 rfl 1 rfl 5 rfl ?_
  have hi := (gd_some hf).1
  replace hf := (gd_some hf).2
  refine ww_zald h 0 rfl 9 rfl (ix_in hi) dX7_isLegal_5 6 rfl ?_
  clear hi
  have hb := (gd_some hf).1
  replace hf := (gd_some hf).2
  obtain rfl := Option.some.inj hf
  exact ww_zret h (b01_or hb) dX7_isLegal_6 hQ ⟨rfl, rfl⟩
theorem dX7_naturalWidth_0 : decode cX7_naturalWidth 0 = .ok (.aload_n 0, 1) := by decide +kernel
theorem dX7_naturalWidth_1 : decode cX7_naturalWidth 1 = .ok (.getfield 9, 3) := by decide +kernel
theorem dX7_naturalWidth_4 : decode cX7_naturalWidth 4 = .ok (.iload_n 2, 1) := by decide +kernel
theorem dX7_naturalWidth_5 : decode cX7_naturalWidth 5 = .ok (.iconst 1, 1) := by decide +kernel
theorem dX7_naturalWidth_6 : decode cX7_naturalWidth 6 = .ok (.iadd, 1) := by decide +kernel
theorem dX7_naturalWidth_7 : decode cX7_naturalWidth 7 = .ok (.iaload, 1) := by decide +kernel
theorem dX7_naturalWidth_8 : decode cX7_naturalWidth 8 = .ok (.aload_n 0, 1) := by decide +kernel
theorem dX7_naturalWidth_9 : decode cX7_naturalWidth 9 = .ok (.getfield 9, 3) := by decide +kernel
theorem dX7_naturalWidth_12 : decode cX7_naturalWidth 12 = .ok (.iload_n 1, 1) := by decide +kernel
theorem dX7_naturalWidth_13 : decode cX7_naturalWidth 13 = .ok (.iaload, 1) := by decide +kernel
theorem dX7_naturalWidth_14 : decode cX7_naturalWidth 14 = .ok (.isub, 1) := by decide +kernel
theorem dX7_naturalWidth_15 : decode cX7_naturalWidth 15 = .ok (.aload_n 0, 1) := by decide +kernel
theorem dX7_naturalWidth_16 : decode cX7_naturalWidth 16 = .ok (.getfield 26, 3) := by decide +kernel
theorem dX7_naturalWidth_19 : decode cX7_naturalWidth 19 = .ok (.iload_n 2, 1) := by decide +kernel
theorem dX7_naturalWidth_20 : decode cX7_naturalWidth 20 = .ok (.iaload, 1) := by decide +kernel
theorem dX7_naturalWidth_21 : decode cX7_naturalWidth 21 = .ok (.isub, 1) := by decide +kernel
theorem dX7_naturalWidth_22 : decode cX7_naturalWidth 22 = .ok (.ireturn, 1) := by decide +kernel
theorem ok_X7_naturalWidth : okY RX7 yX7_naturalWidth 2 := ⟨rfl, by decide, by decide, by decide +kernel⟩
def f_X7_naturalWidth (R : OV) (p0 : Int32) (p1 : Int32) : Option (Int32) := gd (ix (p1 + (1 : Int32)) 41) (gd (ix p0 41) (gd (ix p1 40) (some (((ar R 2 (p1 + (1 : Int32)).toNatClampNeg) - (ar R 2 p0.toNatClampNeg)) - (ar R 6 p1.toNatClampNeg)))))
def r_X7_naturalWidth : Room := { frames := 0, cells := 0, slots := 0, locals := 0 }
set_option maxHeartbeats 4000000 in
set_option maxRecDepth 100000 in
theorem c_X7_naturalWidth (l : Launch) (D : va_G) (ev : EvT) (cy : Nat → ClassId) (oR : Nat) (aR : Nat → Nat) (R : OV) (p0 : Int32) (p1 : Int32) (o : Int32) (hf : f_X7_naturalWidth R p0 p1 = some o) : Fn l yX7_naturalWidth cX7_naturalWidth 3 (some .int) r_X7_naturalWidth D ev cy [.ref oR, .int p0, .int p1] [gX7 cy oR aR R] (fun v G => v = some (.int o) ∧ G = [gX7 cy oR aR R]) := by
  refine Fn_of (by decide) (Nat.le_of_ble_eq_true rfl) (fun X A Q h hQ _ => ?_)
  unfold f_X7_naturalWidth at hf
  show ww X D A 3 Q 0 0 0 [(0, .ref oR), (1, .int p0), (2, .int p1)] [] [gX7 cy oR aR R]
  refine ww_aload_n h dX7_naturalWidth_0 rfl 0 rfl 1 rfl ?_
  refine ww_get h inG7 rfl 0 rfl rfl 2 (by decide) w_267 rfl dX7_naturalWidth_1 4 rfl ?_
  refine ww_iload_n h dX7_naturalWidth_4 rfl 2 rfl 5 rfl ?_
  refine ww_iconst (v := 1) h dX7_naturalWidth_5 (by decide) 6 rfl ?_
  refine ww_iadd h dX7_naturalWidth_6 7 rfl ?_
  have hi := (gd_some hf).1
  replace hf := (gd_some hf).2
  refine ww_iald h 0 rfl 1 rfl (ix_in hi) dX7_naturalWidth_7 8 rfl ?_
  clear hi
  refine ww_aload_n h dX7_naturalWidth_8 rfl 0 rfl 9 rfl ?_
  refine ww_get h inG7 rfl 0 rfl rfl 2 (by decide) w_267 rfl dX7_naturalWidth_9 12 rfl ?_
  refine ww_iload_n h dX7_naturalWidth_12 rfl 1 rfl 13 rfl ?_
  have hi := (gd_some hf).1
  replace hf := (gd_some hf).2
  refine ww_iald h 0 rfl 1 rfl (ix_in hi) dX7_naturalWidth_13 14 rfl ?_
  clear hi
  refine ww_isub h dX7_naturalWidth_14 15 rfl ?_
  refine ww_aload_n h dX7_naturalWidth_15 rfl 0 rfl 16 rfl ?_
  refine ww_get h inG7 rfl 0 rfl rfl 6 (by decide) w_271 rfl dX7_naturalWidth_16 19 rfl ?_
  refine ww_iload_n h dX7_naturalWidth_19 rfl 2 rfl 20 rfl ?_
  have hi := (gd_some hf).1
  replace hf := (gd_some hf).2
  refine ww_iald h 0 rfl 5 rfl (ix_in hi) dX7_naturalWidth_20 21 rfl ?_
  clear hi
  refine ww_isub h dX7_naturalWidth_21 22 rfl ?_
  obtain rfl := Option.some.inj hf
  exact ww_iret h dX7_naturalWidth_22 hQ ⟨rfl, rfl⟩
theorem dX7_excess_0 : decode cX7_excess 0 = .ok (.aload_n 0, 1) := by decide +kernel
theorem dX7_excess_1 : decode cX7_excess 1 = .ok (.iload_n 1, 1) := by decide +kernel
theorem dX7_excess_2 : decode cX7_excess 2 = .ok (.iload_n 2, 1) := by decide +kernel
theorem dX7_excess_3 : decode cX7_excess 3 = .ok (.invokevirtual 81, 3) := by decide +kernel
theorem dX7_excess_6 : decode cX7_excess 6 = .ok (.aload_n 0, 1) := by decide +kernel
theorem dX7_excess_7 : decode cX7_excess 7 = .ok (.getfield 46, 3) := by decide +kernel
theorem dX7_excess_10 : decode cX7_excess 10 = .ok (.getfield 84, 3) := by decide +kernel
theorem dX7_excess_13 : decode cX7_excess 13 = .ok (.isub, 1) := by decide +kernel
theorem dX7_excess_14 : decode cX7_excess 14 = .ok (.ireturn, 1) := by decide +kernel
theorem ok_X7_excess : okY RX7 yX7_excess 2 := ⟨rfl, by decide, by decide, by decide +kernel⟩
def f_X7_excess (R : OV) (oP : Nat) (P : OV) (p0 : Int32) (p1 : Int32) : Option (Int32) := (f_X7_naturalWidth R p0 p1).bind (un1 (fun r_1 => gd (decide (nv R 1 = oP)) (some (r_1 - (iv P 5)))))
def r_X7_excess : Room := { frames := 1, cells := 0, slots := 0, locals := 22 }
set_option maxHeartbeats 4000000 in
set_option maxRecDepth 100000 in
theorem c_X7_excess (l : Launch) (D : va_G) (ev : EvT) (cy : Nat → ClassId) (oR : Nat) (aR : Nat → Nat) (R : OV) (oP : Nat) (aP : Nat → Nat) (P : OV) (p0 : Int32) (p1 : Int32) (o : Int32) (hf : f_X7_excess R oP P p0 p1 = some o) : Fn l yX7_excess cX7_excess 3 (some .int) r_X7_excess D ev cy [.ref oR, .int p0, .int p1] [gX7 cy oR aR R, gX4 cy oP aP P] (fun v G => v = some (.int o) ∧ G = [gX7 cy oR aR R, gX4 cy oP aP P]) := by
  refine Fn_of (by decide) (Nat.le_of_ble_eq_true rfl) (fun X A Q h hQ _ => ?_)
  unfold f_X7_excess at hf
  show ww X D A 3 Q 0 0 0 [(0, .ref oR), (1, .int p0), (2, .int p1)] [] [gX7 cy oR aR R, gX4 cy oP aP P]
  refine ww_aload_n h dX7_excess_0 rfl 0 rfl 1 rfl ?_
  refine ww_iload_n h dX7_excess_1 rfl 1 rfl 2 rfl ?_
  refine ww_iload_n h dX7_excess_2 rfl 2 rfl 3 rfl ?_
  obtain ⟨r_1, hu2, hf⟩ := ob1 hf
  refine ww_cVi h (c_X7_naturalWidth l D ev cy oR aR R p0 p1 _ hu2) ⟨w_827, w_909, w_825, w_826, w_107, ok_X7_naturalWidth⟩ ⟨by decide, by decide⟩ ⟨by decide, by decide⟩ ⟨rfl, rfl⟩ [0] rfl 0 rfl rfl rfl rfl (Nat.le_of_ble_eq_true rfl) dX7_excess_3 6 rfl (Gs' := [gX7 cy oR aR R, gX4 cy oP aP P]) rfl ?_
  clear hu2
  refine ww_aload_n h dX7_excess_6 rfl 0 rfl 7 rfl ?_
  refine ww_get h inG7 rfl 0 rfl rfl 1 (by decide) w_266 rfl dX7_excess_7 10 rfl ?_
  have hi := (gd_some hf).1
  replace hf := (gd_some hf).2
  refine ww_ref hi ?_
  clear hi
  refine ww_get h inG4 rfl 1 rfl rfl 5 (by decide) w_211 rfl dX7_excess_10 13 rfl ?_
  refine ww_isub h dX7_excess_13 14 rfl ?_
  obtain rfl := Option.some.inj hf
  exact ww_iret h dX7_excess_14 hQ ⟨rfl, rfl⟩
theorem dX7_reach_0 : decode cX7_reach 0 = .ok (.iload_n 1, 1) := by decide +kernel
theorem dX7_reach_1 : decode cX7_reach 1 = .ok (.istore_n 2, 1) := by decide +kernel
theorem dX7_reach_2 : decode cX7_reach 2 = .ok (.iload_n 2, 1) := by decide +kernel
theorem dX7_reach_3 : decode cX7_reach 3 = .ok (.aload_n 0, 1) := by decide +kernel
theorem dX7_reach_4 : decode cX7_reach 4 = .ok (.getfield 46, 3) := by decide +kernel
theorem dX7_reach_7 : decode cX7_reach 7 = .ok (.getfield 50, 3) := by decide +kernel
theorem dX7_reach_10 : decode cX7_reach 10 = .ok (.iconst 1, 1) := by decide +kernel
theorem dX7_reach_11 : decode cX7_reach 11 = .ok (.isub, 1) := by decide +kernel
theorem dX7_reach_12 : decode cX7_reach 12 = .ok (.if_icmp .ge 47, 3) := by decide +kernel
theorem dX7_reach_15 : decode cX7_reach 15 = .ok (.aload_n 0, 1) := by decide +kernel
theorem dX7_reach_16 : decode cX7_reach 16 = .ok (.getfield 46, 3) := by decide +kernel
theorem dX7_reach_19 : decode cX7_reach 19 = .ok (.getfield 87, 3) := by decide +kernel
theorem dX7_reach_22 : decode cX7_reach 22 = .ok (.iload_n 2, 1) := by decide +kernel
theorem dX7_reach_23 : decode cX7_reach 23 = .ok (.iaload, 1) := by decide +kernel
theorem dX7_reach_24 : decode cX7_reach 24 = .ok (.iconst 1, 1) := by decide +kernel
theorem dX7_reach_25 : decode cX7_reach 25 = .ok (.if_icmp .eq 34, 3) := by decide +kernel
theorem dX7_reach_28 : decode cX7_reach 28 = .ok (.aload_n 0, 1) := by decide +kernel
theorem dX7_reach_29 : decode cX7_reach 29 = .ok (.getfield 15, 3) := by decide +kernel
theorem dX7_reach_32 : decode cX7_reach 32 = .ok (.iload_n 2, 1) := by decide +kernel
theorem dX7_reach_33 : decode cX7_reach 33 = .ok (.iconst 1, 1) := by decide +kernel
theorem dX7_reach_34 : decode cX7_reach 34 = .ok (.iadd, 1) := by decide +kernel
theorem dX7_reach_35 : decode cX7_reach 35 = .ok (.iaload, 1) := by decide +kernel
theorem dX7_reach_36 : decode cX7_reach 36 = .ok (.aload_n 0, 1) := by decide +kernel
theorem dX7_reach_37 : decode cX7_reach 37 = .ok (.getfield 15, 3) := by decide +kernel
theorem dX7_reach_40 : decode cX7_reach 40 = .ok (.iload_n 1, 1) := by decide +kernel
theorem dX7_reach_41 : decode cX7_reach 41 = .ok (.iaload, 1) := by decide +kernel
theorem dX7_reach_42 : decode cX7_reach 42 = .ok (.isub, 1) := by decide +kernel
theorem dX7_reach_43 : decode cX7_reach 43 = .ok (.aload_n 0, 1) := by decide +kernel
theorem dX7_reach_44 : decode cX7_reach 44 = .ok (.getfield 46, 3) := by decide +kernel
theorem dX7_reach_47 : decode cX7_reach 47 = .ok (.getfield 84, 3) := by decide +kernel
theorem dX7_reach_50 : decode cX7_reach 50 = .ok (.if_icmp .gt 9, 3) := by decide +kernel
theorem dX7_reach_53 : decode cX7_reach 53 = .ok (.iinc 2 1, 3) := by decide +kernel
theorem dX7_reach_56 : decode cX7_reach 56 = .ok (.goto (-54), 3) := by decide +kernel
theorem dX7_reach_59 : decode cX7_reach 59 = .ok (.iload_n 2, 1) := by decide +kernel
theorem dX7_reach_60 : decode cX7_reach 60 = .ok (.ireturn, 1) := by decide +kernel
theorem ok_X7_reach : okY RX7 yX7_reach 1 := ⟨rfl, by decide, by decide, by decide +kernel⟩
def s_X7_reach_2_2 (oP : Nat) (R : OV) (P : OV) (p0 : Int32) : (Int32) → Option ((Int32) ⊕ (Int32)) := un1 (fun v2_3 => gd (decide (nv R 1 = oP)) ((if ((iv P 4) - (1 : Int32)) ≤ v2_3 then some (.inr v2_3) else gd (decide (nv R 1 = oP)) (gd (ix v2_3 40) ((if (ar P 1 v2_3.toNatClampNeg) = (1 : Int32) then some (.inr v2_3) else gd (ix (v2_3 + (1 : Int32)) 41) (gd (ix p0 41) (gd (decide (nv R 1 = oP)) ((if (iv P 5) < ((ar R 3 (v2_3 + (1 : Int32)).toNatClampNeg) - (ar R 3 p0.toNatClampNeg)) then some (.inr v2_3) else bnd (v2_3 + 1) (fun v2_4 => some (.inl v2_4))))))))))))
def f_X7_reach (R : OV) (oP : Nat) (P : OV) (p0 : Int32) : Option (Int32) := bnd p0 (fun v2_1 => ((lp (s_X7_reach_2_2 oP R P p0) 5000 v2_1).bind (un1 (fun v2_5 => some v2_5))))
def r_X7_reach : Room := { frames := 0, cells := 0, slots := 0, locals := 0 }
set_option maxHeartbeats 4000000 in
set_option maxRecDepth 100000 in
theorem c_X7_reach (l : Launch) (D : va_G) (ev : EvT) (cy : Nat → ClassId) (oR : Nat) (aR : Nat → Nat) (R : OV) (oP : Nat) (aP : Nat → Nat) (P : OV) (p0 : Int32) (o : Int32) (hf : f_X7_reach R oP P p0 = some o) : Fn l yX7_reach cX7_reach 3 (some .int) r_X7_reach D ev cy [.ref oR, .int p0] [gX7 cy oR aR R, gX4 cy oP aP P] (fun v G => v = some (.int o) ∧ G = [gX7 cy oR aR R, gX4 cy oP aP P]) := by
  refine Fn_of (by decide) (Nat.le_of_ble_eq_true rfl) (fun X A Q h hQ _ => ?_)
  unfold f_X7_reach at hf
  show ww X D A 3 Q 0 0 0 [(0, .ref oR), (1, .int p0)] [] [gX7 cy oR aR R, gX4 cy oP aP P]
  refine ww_iload_n h dX7_reach_0 rfl 1 rfl 1 rfl ?_
  refine ww_ist_n h dX7_reach_1 rfl (by decide) (fun v2_1 => [(2, .int v2_1), (0, .ref oR), (1, .int p0)]) (fun _ => rfl) 2 rfl (fun v2_1 e => ?_)
  replace hf := bnd_at e hf
  clear e
  refine ww_lo [1, 2, 0] (lo' := [(0, .ref oR), (1, .int p0), (2, .int v2_1)]) rfl ?_
  obtain ⟨v2_5, h2, hf⟩ := ob1 hf
  refine lp_walk (un1 (fun v2_3 => ww X D A 3 Q 0 0 2 [(0, .ref oR), (1, .int p0), (2, .int v2_3)] [] [gX7 cy oR aR R, gX4 cy oP aP P])) (un1 (fun v2_5 => ww X D A 3 Q 0 0 59 [(2, .int v2_5)] [] [gX7 cy oR aR R, gX4 cy oP aP P])) ?_ _ _ _ h2 ?_
  · clear h2 hf
    intro s2 o2 hf hI2 hE2
    obtain ⟨v2_3, rfl⟩ : ∃ z, z = s2 := ⟨_, rfl⟩
    unfold s_X7_reach_2_2 at hf
    replace hf := un1_e hf
    show ww X D A 3 Q 0 0 2 [(0, .ref oR), (1, .int p0), (2, .int v2_3)] [] [gX7 cy oR aR R, gX4 cy oP aP P]
    refine ww_iload_n h dX7_reach_2 rfl 2 rfl 3 rfl ?_
    refine ww_aload_n h dX7_reach_3 rfl 0 rfl 4 rfl ?_
    refine ww_get h inG7 rfl 0 rfl rfl 1 (by decide) w_266 rfl dX7_reach_4 7 rfl ?_
    have hi := (gd_some hf).1
    replace hf := (gd_some hf).2
    refine ww_ref hi ?_
    clear hi
    refine ww_get h inG4 rfl 1 rfl rfl 4 (by decide) w_207 rfl dX7_reach_7 10 rfl ?_
    refine ww_iconst (v := 1) h dX7_reach_10 (by decide) 11 rfl ?_
    refine ww_isub h dX7_reach_11 12 rfl ?_
    refine ww_icmp_ge h dX7_reach_12 59 (by decide) 15 rfl (fun c => ?_) (fun c => ?_)
    · replace hf := ite_t c hf
      refine ww_lo [2] (lo' := [(2, .int v2_3)]) rfl ?_
      exact hE2 v2_3 (Option.some.inj hf).symm
    · replace hf := ite_f c hf
      refine ww_aload_n h dX7_reach_15 rfl 0 rfl 16 rfl ?_
      refine ww_get h inG7 rfl 0 rfl rfl 1 (by decide) w_266 rfl dX7_reach_16 19 rfl ?_
      have hi := (gd_some hf).1
      replace hf := (gd_some hf).2
      refine ww_ref hi ?_
      clear hi
      refine ww_get h inG4 rfl 1 rfl rfl 1 (by decide) w_200 rfl dX7_reach_19 22 rfl ?_
      refine ww_iload_n h dX7_reach_22 rfl 2 rfl 23 rfl ?_
      have hi := (gd_some hf).1
      replace hf := (gd_some hf).2
      refine ww_iald h 1 rfl 2 rfl (ix_in hi) dX7_reach_23 24 rfl ?_
      clear hi
      refine ww_iconst (v := 1) h dX7_reach_24 (by decide) 25 rfl ?_
      refine ww_icmp_eq h dX7_reach_25 59 (by decide) 28 rfl (fun c => ?_) (fun c => ?_)
      · replace hf := ite_t c hf
        refine ww_lo [2] (lo' := [(2, .int v2_3)]) rfl ?_
        exact hE2 v2_3 (Option.some.inj hf).symm
      · replace hf := ite_f c hf
        refine ww_aload_n h dX7_reach_28 rfl 0 rfl 29 rfl ?_
        refine ww_get h inG7 rfl 0 rfl rfl 3 (by decide) w_268 rfl dX7_reach_29 32 rfl ?_
        refine ww_iload_n h dX7_reach_32 rfl 2 rfl 33 rfl ?_
        refine ww_iconst (v := 1) h dX7_reach_33 (by decide) 34 rfl ?_
        refine ww_iadd h dX7_reach_34 35 rfl ?_
        have hi := (gd_some hf).1
        replace hf := (gd_some hf).2
        refine ww_iald h 0 rfl 2 rfl (ix_in hi) dX7_reach_35 36 rfl ?_
        clear hi
        refine ww_aload_n h dX7_reach_36 rfl 0 rfl 37 rfl ?_
        refine ww_get h inG7 rfl 0 rfl rfl 3 (by decide) w_268 rfl dX7_reach_37 40 rfl ?_
        refine ww_iload_n h dX7_reach_40 rfl 1 rfl 41 rfl ?_
        have hi := (gd_some hf).1
        replace hf := (gd_some hf).2
        refine ww_iald h 0 rfl 2 rfl (ix_in hi) dX7_reach_41 42 rfl ?_
        clear hi
        refine ww_isub h dX7_reach_42 43 rfl ?_
        refine ww_aload_n h dX7_reach_43 rfl 0 rfl 44 rfl ?_
        refine ww_get h inG7 rfl 0 rfl rfl 1 (by decide) w_266 rfl dX7_reach_44 47 rfl ?_
        have hi := (gd_some hf).1
        replace hf := (gd_some hf).2
        refine ww_ref hi ?_
        clear hi
        refine ww_get h inG4 rfl 1 rfl rfl 5 (by decide) w_211 rfl dX7_reach_47 50 rfl ?_
        refine ww_icmp_gt h dX7_reach_50 59 (by decide) 53 rfl (fun c => ?_) (fun c => ?_)
        · replace hf := ite_t c hf
          refine ww_lo [2] (lo' := [(2, .int v2_3)]) rfl ?_
          exact hE2 v2_3 (Option.some.inj hf).symm
        · replace hf := ite_f c hf
          refine ww_inc (c := 1) h dX7_reach_53 2 rfl (by decide) (by decide) (fun v2_4 => [(2, .int v2_4), (0, .ref oR), (1, .int p0)]) (fun _ => rfl) 56 rfl (fun v2_4 e => ?_)
          replace hf := bnd_at e hf
          clear e
          refine ww_goto h dX7_reach_56 2 (by decide) ?_
          refine ww_lo [1, 2, 0] (lo' := [(0, .ref oR), (1, .int p0), (2, .int v2_4)]) rfl ?_
          exact hI2 v2_4 (Option.some.inj hf).symm
  · clear h2
    show ww X D A 3 Q 0 0 59 [(2, .int v2_5)] [] [gX7 cy oR aR R, gX4 cy oP aP P]
    refine ww_iload_n h dX7_reach_59 rfl 0 rfl 60 rfl ?_
    obtain rfl := Option.some.inj hf
    exact ww_iret h dX7_reach_60 hQ ⟨rfl, rfl⟩
theorem dX7_takeAway_0 : decode cX7_takeAway 0 = .ok (.iload_n 3, 1) := by decide +kernel
theorem dX7_takeAway_1 : decode cX7_takeAway 1 = .ok (.istore 4, 2) := by decide +kernel
theorem dX7_takeAway_3 : decode cX7_takeAway 3 = .ok (.iconst 1, 1) := by decide +kernel
theorem dX7_takeAway_4 : decode cX7_takeAway 4 = .ok (.istore 5, 2) := by decide +kernel
theorem dX7_takeAway_6 : decode cX7_takeAway 6 = .ok (.iload 5, 2) := by decide +kernel
theorem dX7_takeAway_8 : decode cX7_takeAway 8 = .ok (.iconst 3, 1) := by decide +kernel
theorem dX7_takeAway_9 : decode cX7_takeAway 9 = .ok (.if_icmp .gt 89, 3) := by decide +kernel
theorem dX7_takeAway_12 : decode cX7_takeAway 12 = .ok (.aload_n 0, 1) := by decide +kernel
theorem dX7_takeAway_13 : decode cX7_takeAway 13 = .ok (.getfield 20, 3) := by decide +kernel
theorem dX7_takeAway_16 : decode cX7_takeAway 16 = .ok (.iload 5, 2) := by decide +kernel
theorem dX7_takeAway_18 : decode cX7_takeAway 18 = .ok (.aaload, 1) := by decide +kernel
theorem dX7_takeAway_19 : decode cX7_takeAway 19 = .ok (.iload_n 2, 1) := by decide +kernel
theorem dX7_takeAway_20 : decode cX7_takeAway 20 = .ok (.iaload, 1) := by decide +kernel
theorem dX7_takeAway_21 : decode cX7_takeAway 21 = .ok (.aload_n 0, 1) := by decide +kernel
theorem dX7_takeAway_22 : decode cX7_takeAway 22 = .ok (.getfield 20, 3) := by decide +kernel
theorem dX7_takeAway_25 : decode cX7_takeAway 25 = .ok (.iload 5, 2) := by decide +kernel
theorem dX7_takeAway_27 : decode cX7_takeAway 27 = .ok (.aaload, 1) := by decide +kernel
theorem dX7_takeAway_28 : decode cX7_takeAway 28 = .ok (.iload_n 1, 1) := by decide +kernel
theorem dX7_takeAway_29 : decode cX7_takeAway 29 = .ok (.iaload, 1) := by decide +kernel
theorem dX7_takeAway_30 : decode cX7_takeAway 30 = .ok (.isub, 1) := by decide +kernel
theorem dX7_takeAway_31 : decode cX7_takeAway 31 = .ok (.istore 6, 2) := by decide +kernel
theorem dX7_takeAway_33 : decode cX7_takeAway 33 = .ok (.aload_n 0, 1) := by decide +kernel
theorem dX7_takeAway_34 : decode cX7_takeAway 34 = .ok (.getfield 32, 3) := by decide +kernel
theorem dX7_takeAway_37 : decode cX7_takeAway 37 = .ok (.iload_n 2, 1) := by decide +kernel
theorem dX7_takeAway_38 : decode cX7_takeAway 38 = .ok (.iaload, 1) := by decide +kernel
theorem dX7_takeAway_39 : decode cX7_takeAway 39 = .ok (.iload 5, 2) := by decide +kernel
theorem dX7_takeAway_41 : decode cX7_takeAway 41 = .ok (.if_icmp .ne 21, 3) := by decide +kernel
theorem dX7_takeAway_44 : decode cX7_takeAway 44 = .ok (.aload_n 0, 1) := by decide +kernel
theorem dX7_takeAway_45 : decode cX7_takeAway 45 = .ok (.getfield 90, 3) := by decide +kernel
theorem dX7_takeAway_48 : decode cX7_takeAway 48 = .ok (.ifCond .ne 14, 3) := by decide +kernel
theorem dX7_takeAway_51 : decode cX7_takeAway 51 = .ok (.iload 6, 2) := by decide +kernel
theorem dX7_takeAway_53 : decode cX7_takeAway 53 = .ok (.aload_n 0, 1) := by decide +kernel
theorem dX7_takeAway_54 : decode cX7_takeAway 54 = .ok (.getfield 29, 3) := by decide +kernel
theorem dX7_takeAway_57 : decode cX7_takeAway 57 = .ok (.iload_n 2, 1) := by decide +kernel
theorem dX7_takeAway_58 : decode cX7_takeAway 58 = .ok (.iaload, 1) := by decide +kernel
theorem dX7_takeAway_59 : decode cX7_takeAway 59 = .ok (.iadd, 1) := by decide +kernel
theorem dX7_takeAway_60 : decode cX7_takeAway 60 = .ok (.istore 6, 2) := by decide +kernel
theorem dX7_takeAway_62 : decode cX7_takeAway 62 = .ok (.iload 6, 2) := by decide +kernel
theorem dX7_takeAway_64 : decode cX7_takeAway 64 = .ok (.iload 4, 2) := by decide +kernel
theorem dX7_takeAway_66 : decode cX7_takeAway 66 = .ok (.invokestatic 122, 3) := by decide +kernel
theorem dX7_takeAway_69 : decode cX7_takeAway 69 = .ok (.istore 7, 2) := by decide +kernel
theorem dX7_takeAway_71 : decode cX7_takeAway 71 = .ok (.aload_n 0, 1) := by decide +kernel
theorem dX7_takeAway_72 : decode cX7_takeAway 72 = .ok (.dup, 1) := by decide +kernel
theorem dX7_takeAway_73 : decode cX7_takeAway 73 = .ok (.getfield 106, 3) := by decide +kernel
theorem dX7_takeAway_76 : decode cX7_takeAway 76 = .ok (.iload 7, 2) := by decide +kernel
theorem dX7_takeAway_78 : decode cX7_takeAway 78 = .ok (.iload 5, 2) := by decide +kernel
theorem dX7_takeAway_80 : decode cX7_takeAway 80 = .ok (.imul, 1) := by decide +kernel
theorem dX7_takeAway_81 : decode cX7_takeAway 81 = .ok (.iadd, 1) := by decide +kernel
theorem dX7_takeAway_82 : decode cX7_takeAway 82 = .ok (.putfield 106, 3) := by decide +kernel
theorem dX7_takeAway_85 : decode cX7_takeAway 85 = .ok (.iload 4, 2) := by decide +kernel
theorem dX7_takeAway_87 : decode cX7_takeAway 87 = .ok (.iload 7, 2) := by decide +kernel
theorem dX7_takeAway_89 : decode cX7_takeAway 89 = .ok (.isub, 1) := by decide +kernel
theorem dX7_takeAway_90 : decode cX7_takeAway 90 = .ok (.istore 4, 2) := by decide +kernel
theorem dX7_takeAway_92 : decode cX7_takeAway 92 = .ok (.iinc 5 1, 3) := by decide +kernel
theorem dX7_takeAway_95 : decode cX7_takeAway 95 = .ok (.goto (-89), 3) := by decide +kernel
theorem dX7_takeAway_98 : decode cX7_takeAway 98 = .ok (.aload_n 0, 1) := by decide +kernel
theorem dX7_takeAway_99 : decode cX7_takeAway 99 = .ok (.iload_n 3, 1) := by decide +kernel
theorem dX7_takeAway_100 : decode cX7_takeAway 100 = .ok (.putfield 97, 3) := by decide +kernel
theorem dX7_takeAway_103 : decode cX7_takeAway 103 = .ok (.iload 4, 2) := by decide +kernel
theorem dX7_takeAway_105 : decode cX7_takeAway 105 = .ok (.ifCond .le 31, 3) := by decide +kernel
theorem dX7_takeAway_108 : decode cX7_takeAway 108 = .ok (.aload_n 0, 1) := by decide +kernel
theorem dX7_takeAway_109 : decode cX7_takeAway 109 = .ok (.iconst 0, 1) := by decide +kernel
theorem dX7_takeAway_110 : decode cX7_takeAway 110 = .ok (.putfield 90, 3) := by decide +kernel
theorem dX7_takeAway_113 : decode cX7_takeAway 113 = .ok (.aload_n 0, 1) := by decide +kernel
theorem dX7_takeAway_114 : decode cX7_takeAway 114 = .ok (.iconst 1, 1) := by decide +kernel
theorem dX7_takeAway_115 : decode cX7_takeAway 115 = .ok (.putfield 94, 3) := by decide +kernel
theorem dX7_takeAway_118 : decode cX7_takeAway 118 = .ok (.aload_n 0, 1) := by decide +kernel
theorem dX7_takeAway_119 : decode cX7_takeAway 119 = .ok (.iconst 0, 1) := by decide +kernel
theorem dX7_takeAway_120 : decode cX7_takeAway 120 = .ok (.putfield 97, 3) := by decide +kernel
theorem dX7_takeAway_123 : decode cX7_takeAway 123 = .ok (.aload_n 0, 1) := by decide +kernel
theorem dX7_takeAway_124 : decode cX7_takeAway 124 = .ok (.aload_n 0, 1) := by decide +kernel
theorem dX7_takeAway_125 : decode cX7_takeAway 125 = .ok (.getfield 46, 3) := by decide +kernel
theorem dX7_takeAway_128 : decode cX7_takeAway 128 = .ok (.getfield 109, 3) := by decide +kernel
theorem dX7_takeAway_131 : decode cX7_takeAway 131 = .ok (.iconst 2, 1) := by decide +kernel
theorem dX7_takeAway_132 : decode cX7_takeAway 132 = .ok (.iaload, 1) := by decide +kernel
theorem dX7_takeAway_133 : decode cX7_takeAway 133 = .ok (.putfield 106, 3) := by decide +kernel
theorem dX7_takeAway_136 : decode cX7_takeAway 136 = .ok (.return_, 1) := by decide +kernel
theorem ok_X7_takeAway : okY RX7 yX7_takeAway 3 := ⟨rfl, by decide, by decide, by decide +kernel⟩
def j_X7_takeAway_62_11 (R_6 : OV) (v4_4 : Int32) (v5_5 : Int32) (v6_10 : Int32) : Option ((Int32 × Int32 × OV) ⊕ (Int32 × OV)) := bnd (if v4_4 < v6_10 then v4_4 else v6_10) (fun v7_12 => bnd (sI R_6 17 ((iv R_6 17) + (v7_12 * v5_5))) (fun R_13 => bnd (v4_4 - v7_12) (fun v4_14 => bnd (v5_5 + 1) (fun v5_15 => some (.inl (v4_14, v5_15, R_13))))))
def s_X7_takeAway_6_3 (p0 : Int32) (p1 : Int32) : (Int32 × Int32 × OV) → Option ((Int32 × Int32 × OV) ⊕ (Int32 × OV)) := un3 (fun v4_4 v5_5 R_6 => (if (3 : Int32) < v5_5 then some (.inr (v4_4, R_6)) else gd (ix v5_5 4) (gd (ix p1 41) (gd (ix v5_5 4) (gd (ix p0 41) (bnd ((gr R_6 4 v5_5.toNatClampNeg p1.toNatClampNeg) - (gr R_6 4 v5_5.toNatClampNeg p0.toNatClampNeg)) (fun v6_9 => gd (ix p1 40) ((if (ar R_6 8 p1.toNatClampNeg) = v5_5 then (if (iv R_6 11) = 0 then gd (ix p1 40) (bnd (v6_9 + (ar R_6 7 p1.toNatClampNeg)) (fun v6_16 => j_X7_takeAway_62_11 R_6 v4_4 v5_5 v6_16)) else j_X7_takeAway_62_11 R_6 v4_4 v5_5 v6_9) else j_X7_takeAway_62_11 R_6 v4_4 v5_5 v6_9)))))))))
def f_X7_takeAway (R : OV) (oP : Nat) (P : OV) (p0 : Int32) (p1 : Int32) (p2 : Int32) : Option (OV) := bnd p2 (fun v4_1 => bnd (1 : Int32) (fun v5_2 => ((lp (s_X7_takeAway_6_3 p0 p1) 5000 (v4_1, v5_2, R)).bind (un2 (fun v4_17 R_18 => bnd (sI R_18 14 p2) (fun R_19 => (if v4_17 ≤ 0 then some R_19 else bnd (sI R_19 11 (0 : Int32)) (fun R_20 => bnd (sI R_20 12 (1 : Int32)) (fun R_21 => bnd (sI R_21 14 (0 : Int32)) (fun R_22 => gd (decide (nv R_22 1 = oP)) (gd (ix (2 : Int32) 3) (bnd (sI R_22 17 (ar P 3 (2 : Int32).toNatClampNeg)) (fun R_23 => some R_23)))))))))))))
def r_X7_takeAway : Room := { frames := 1, cells := 0, slots := 0, locals := 21 }
set_option maxHeartbeats 4000000 in
set_option maxRecDepth 100000 in
theorem c_X7_takeAway (l : Launch) (D : va_G) (ev : EvT) (cy : Nat → ClassId) (oR : Nat) (aR : Nat → Nat) (R : OV) (oP : Nat) (aP : Nat → Nat) (P : OV) (p0 : Int32) (p1 : Int32) (p2 : Int32) (o : OV) (hf : f_X7_takeAway R oP P p0 p1 p2 = some o) : Fn l yX7_takeAway cX7_takeAway 8 none r_X7_takeAway D ev cy [.ref oR, .int p0, .int p1, .int p2] [gX7 cy oR aR R, gX4 cy oP aP P] (fun v G => v = none ∧ G = [gX7 cy oR aR o, gX4 cy oP aP P]) := by
  refine Fn_of (by decide) (Nat.le_of_ble_eq_true rfl) (fun X A Q h hQ _ => ?_)
  unfold f_X7_takeAway at hf
  show ww X D A 8 Q 0 0 0 [(0, .ref oR), (1, .int p0), (2, .int p1), (3, .int p2)] [] [gX7 cy oR aR R, gX4 cy oP aP P]
  refine ww_iload_n h dX7_takeAway_0 rfl 3 rfl 1 rfl ?_
  refine ww_ist h dX7_takeAway_1 (by decide) (fun v4_1 => [(4, .int v4_1), (0, .ref oR), (1, .int p0), (2, .int p1), (3, .int p2)]) (fun _ => rfl) 3 rfl (fun v4_1 e => ?_)
  replace hf := bnd_at e hf
  clear e
  refine ww_iconst (v := 1) h dX7_takeAway_3 (by decide) 4 rfl ?_
  refine ww_ist h dX7_takeAway_4 (by decide) (fun v5_2 => [(5, .int v5_2), (4, .int v4_1), (0, .ref oR), (1, .int p0), (2, .int p1), (3, .int p2)]) (fun _ => rfl) 6 rfl (fun v5_2 e => ?_)
  replace hf := bnd_at e hf
  clear e
  refine ww_lo [2, 3, 4, 5, 1, 0] (lo' := [(0, .ref oR), (1, .int p0), (2, .int p1), (3, .int p2), (4, .int v4_1), (5, .int v5_2)]) rfl ?_
  obtain ⟨v4_17, R_18, h3, hf⟩ := ob2 hf
  refine lp_walk (un3 (fun v4_4 v5_5 R_6 => ww X D A 8 Q 0 0 6 [(0, .ref oR), (1, .int p0), (2, .int p1), (3, .int p2), (4, .int v4_4), (5, .int v5_5)] [] [gX7 cy oR aR R_6, gX4 cy oP aP P])) (un2 (fun v4_17 R_18 => ww X D A 8 Q 0 0 98 [(0, .ref oR), (3, .int p2), (4, .int v4_17)] [] [gX7 cy oR aR R_18, gX4 cy oP aP P])) ?_ _ _ _ h3 ?_
  · clear h3 hf
    intro s3 o3 hf hI3 hE3
    obtain ⟨v4_4, v5_5, R_6⟩ := s3
    unfold s_X7_takeAway_6_3 at hf
    replace hf := un3_e hf
    show ww X D A 8 Q 0 0 6 [(0, .ref oR), (1, .int p0), (2, .int p1), (3, .int p2), (4, .int v4_4), (5, .int v5_5)] [] [gX7 cy oR aR R_6, gX4 cy oP aP P]
    refine ww_iload h dX7_takeAway_6 5 rfl 8 rfl ?_
    refine ww_iconst (v := 3) h dX7_takeAway_8 (by decide) 9 rfl ?_
    refine ww_icmp_gt h dX7_takeAway_9 98 (by decide) 12 rfl (fun c => ?_) (fun c => ?_)
    · replace hf := ite_t c hf
      refine ww_lo [0, 3, 4] (lo' := [(0, .ref oR), (3, .int p2), (4, .int v4_4)]) rfl ?_
      exact hE3 (v4_4, R_6) (Option.some.inj hf).symm
    · replace hf := ite_f c hf
      refine ww_aload_n h dX7_takeAway_12 rfl 0 rfl 13 rfl ?_
      refine ww_get h inG7 rfl 0 rfl rfl 4 (by decide) w_269 rfl dX7_takeAway_13 16 rfl ?_
      refine ww_iload h dX7_takeAway_16 5 rfl 18 rfl ?_
      have hi := (gd_some hf).1
      replace hf := (gd_some hf).2
      have hj7 := ix_lt hi
      refine ww_aaldR h 0 rfl 3 rfl 4 rfl rfl (ix_in hi) dX7_takeAway_18 19 rfl ?_
      clear hi
      refine ww_iload_n h dX7_takeAway_19 rfl 2 rfl 20 rfl ?_
      have hi := (gd_some hf).1
      replace hf := (gd_some hf).2
      refine ww_iald h 0 rfl (10 + v5_5.toNatClampNeg) (gX7_row4 hj7) (ix_in hi) dX7_takeAway_20 21 rfl ?_
      clear hi
      refine ww_aload_n h dX7_takeAway_21 rfl 0 rfl 22 rfl ?_
      refine ww_get h inG7 rfl 0 rfl rfl 4 (by decide) w_269 rfl dX7_takeAway_22 25 rfl ?_
      refine ww_iload h dX7_takeAway_25 5 rfl 27 rfl ?_
      have hi := (gd_some hf).1
      replace hf := (gd_some hf).2
      have hj8 := ix_lt hi
      refine ww_aaldR h 0 rfl 3 rfl 4 rfl rfl (ix_in hi) dX7_takeAway_27 28 rfl ?_
      clear hi
      refine ww_iload_n h dX7_takeAway_28 rfl 1 rfl 29 rfl ?_
      have hi := (gd_some hf).1
      replace hf := (gd_some hf).2
      refine ww_iald h 0 rfl (10 + v5_5.toNatClampNeg) (gX7_row4 hj8) (ix_in hi) dX7_takeAway_29 30 rfl ?_
      clear hi
      refine ww_isub h dX7_takeAway_30 31 rfl ?_
      refine ww_ist h dX7_takeAway_31 (by decide) (fun v6_9 => [(6, .int v6_9), (0, .ref oR), (1, .int p0), (2, .int p1), (3, .int p2), (4, .int v4_4), (5, .int v5_5)]) (fun _ => rfl) 33 rfl (fun v6_9 e => ?_)
      replace hf := bnd_at e hf
      clear e
      refine ww_aload_n h dX7_takeAway_33 rfl 1 rfl 34 rfl ?_
      refine ww_get h inG7 rfl 0 rfl rfl 8 (by decide) w_273 rfl dX7_takeAway_34 37 rfl ?_
      refine ww_iload_n h dX7_takeAway_37 rfl 3 rfl 38 rfl ?_
      have hi := (gd_some hf).1
      replace hf := (gd_some hf).2
      refine ww_iald h 0 rfl 7 rfl (ix_in hi) dX7_takeAway_38 39 rfl ?_
      clear hi
      refine ww_iload h dX7_takeAway_39 6 rfl 41 rfl ?_
      have hJ62_11 : ∀ (v6_10 : Int32), j_X7_takeAway_62_11 R_6 v4_4 v5_5 v6_10 = some o3 → ww X D A 8 Q 0 0 62 [(0, .ref oR), (1, .int p0), (2, .int p1), (3, .int p2), (4, .int v4_4), (5, .int v5_5), (6, .int v6_10)] [] [gX7 cy oR aR R_6, gX4 cy oP aP P] := by
        intro v6_10 hf
        unfold j_X7_takeAway_62_11 at hf
        refine ww_iload h dX7_takeAway_62 6 rfl 64 rfl ?_
        refine ww_iload h dX7_takeAway_64 4 rfl 66 rfl ?_
        refine ww_min h w_840 w_518 w_103 w_519 ⟨by decide, Nat.le_of_ble_eq_true rfl, by decide, by decide⟩ dX7_takeAway_66 69 rfl ?_
        refine ww_ist h dX7_takeAway_69 (by decide) (fun v7_12 => [(7, .int v7_12), (0, .ref oR), (1, .int p0), (2, .int p1), (3, .int p2), (4, .int v4_4), (5, .int v5_5), (6, .int v6_10)]) (fun _ => rfl) 71 rfl (fun v7_12 e => ?_)
        replace hf := bnd_at e hf
        clear e
        refine ww_aload_n h dX7_takeAway_71 rfl 1 rfl 72 rfl ?_
        refine ww_dup h dX7_takeAway_72 rfl 73 rfl ?_
        refine ww_get h inG7 rfl 0 rfl rfl 17 (by decide) w_294 rfl dX7_takeAway_73 76 rfl ?_
        refine ww_iload h dX7_takeAway_76 0 rfl 78 rfl ?_
        refine ww_iload h dX7_takeAway_78 6 rfl 80 rfl ?_
        refine ww_imul h dX7_takeAway_80 81 rfl ?_
        refine ww_iadd h dX7_takeAway_81 82 rfl ?_
        refine ww_put (ty := .int) h inG7 tyX7_ok nmX7 rfl 0 rfl rfl 17 (by decide) w_294 rfl (by decide +kernel) rfl rfl (Nat.le_of_ble_eq_true rfl) (Nat.le_of_ble_eq_true rfl) dX7_takeAway_82 85 rfl ?_
        refine ww_nm (fun z => [gX7 cy oR aR z, gX4 cy oP aP P]) (sI R_6 17 ((iv R_6 17) + (v7_12 * v5_5))) (fun R_13 e => ?_)
        replace hf := bnd_at e hf
        clear e
        refine ww_iload h dX7_takeAway_85 5 rfl 87 rfl ?_
        refine ww_iload h dX7_takeAway_87 0 rfl 89 rfl ?_
        refine ww_isub h dX7_takeAway_89 90 rfl ?_
        refine ww_ist h dX7_takeAway_90 (by decide) (fun v4_14 => [(4, .int v4_14), (7, .int v7_12), (0, .ref oR), (1, .int p0), (2, .int p1), (3, .int p2), (5, .int v5_5), (6, .int v6_10)]) (fun _ => rfl) 92 rfl (fun v4_14 e => ?_)
        replace hf := bnd_at e hf
        clear e
        refine ww_inc (c := 1) h dX7_takeAway_92 6 rfl (by decide) (by decide) (fun v5_15 => [(5, .int v5_15), (4, .int v4_14), (7, .int v7_12), (0, .ref oR), (1, .int p0), (2, .int p1), (3, .int p2), (6, .int v6_10)]) (fun _ => rfl) 95 rfl (fun v5_15 e => ?_)
        replace hf := bnd_at e hf
        clear e
        refine ww_goto h dX7_takeAway_95 6 (by decide) ?_
        refine ww_lo [3, 4, 5, 6, 1, 0] (lo' := [(0, .ref oR), (1, .int p0), (2, .int p1), (3, .int p2), (4, .int v4_14), (5, .int v5_15)]) rfl ?_
        exact hI3 (v4_14, v5_15, R_13) (Option.some.inj hf).symm
      refine ww_icmp_ne h dX7_takeAway_41 62 (by decide) 44 rfl (fun c => ?_) (fun c => ?_)
      · replace hf := ite_f c hf
        refine ww_lo [1, 2, 3, 4, 5, 6, 0] (lo' := [(0, .ref oR), (1, .int p0), (2, .int p1), (3, .int p2), (4, .int v4_4), (5, .int v5_5), (6, .int v6_9)]) rfl ?_
        exact hJ62_11 v6_9 hf
      · replace hf := ite_t c hf
        refine ww_aload_n h dX7_takeAway_44 rfl 1 rfl 45 rfl ?_
        refine ww_get h inG7 rfl 0 rfl rfl 11 (by decide) w_277 rfl dX7_takeAway_45 48 rfl ?_
        refine ww_if_ne h dX7_takeAway_48 62 (by decide) 51 rfl (fun c => ?_) (fun c => ?_)
        · replace hf := ite_f c hf
          refine ww_lo [1, 2, 3, 4, 5, 6, 0] (lo' := [(0, .ref oR), (1, .int p0), (2, .int p1), (3, .int p2), (4, .int v4_4), (5, .int v5_5), (6, .int v6_9)]) rfl ?_
          exact hJ62_11 v6_9 hf
        · replace hf := ite_t c hf
          refine ww_iload h dX7_takeAway_51 0 rfl 53 rfl ?_
          refine ww_aload_n h dX7_takeAway_53 rfl 1 rfl 54 rfl ?_
          refine ww_get h inG7 rfl 0 rfl rfl 7 (by decide) w_272 rfl dX7_takeAway_54 57 rfl ?_
          refine ww_iload_n h dX7_takeAway_57 rfl 3 rfl 58 rfl ?_
          have hi := (gd_some hf).1
          replace hf := (gd_some hf).2
          refine ww_iald h 0 rfl 6 rfl (ix_in hi) dX7_takeAway_58 59 rfl ?_
          clear hi
          refine ww_iadd h dX7_takeAway_59 60 rfl ?_
          refine ww_ist h dX7_takeAway_60 (by decide) (fun v6_16 => [(6, .int v6_16), (0, .ref oR), (1, .int p0), (2, .int p1), (3, .int p2), (4, .int v4_4), (5, .int v5_5)]) (fun _ => rfl) 62 rfl (fun v6_16 e => ?_)
          replace hf := bnd_at e hf
          clear e
          refine ww_lo [1, 2, 3, 4, 5, 6, 0] (lo' := [(0, .ref oR), (1, .int p0), (2, .int p1), (3, .int p2), (4, .int v4_4), (5, .int v5_5), (6, .int v6_16)]) rfl ?_
          exact hJ62_11 v6_16 hf
  · clear h3
    show ww X D A 8 Q 0 0 98 [(0, .ref oR), (3, .int p2), (4, .int v4_17)] [] [gX7 cy oR aR R_18, gX4 cy oP aP P]
    refine ww_aload_n h dX7_takeAway_98 rfl 0 rfl 99 rfl ?_
    refine ww_iload_n h dX7_takeAway_99 rfl 1 rfl 100 rfl ?_
    refine ww_put (ty := .int) h inG7 tyX7_ok nmX7 rfl 0 rfl rfl 14 (by decide) w_287 rfl (by decide +kernel) rfl rfl (Nat.le_of_ble_eq_true rfl) (Nat.le_of_ble_eq_true rfl) dX7_takeAway_100 103 rfl ?_
    refine ww_nm (fun z => [gX7 cy oR aR z, gX4 cy oP aP P]) (sI R_18 14 p2) (fun R_19 e => ?_)
    replace hf := bnd_at e hf
    clear e
    refine ww_iload h dX7_takeAway_103 2 rfl 105 rfl ?_
    refine ww_if_le h dX7_takeAway_105 136 (by decide) 108 rfl (fun c => ?_) (fun c => ?_)
    · replace hf := ite_t c hf
      obtain rfl := Option.some.inj hf
      exact ww_vret h dX7_takeAway_136 hQ ⟨rfl, rfl⟩
    · replace hf := ite_f c hf
      refine ww_aload_n h dX7_takeAway_108 rfl 0 rfl 109 rfl ?_
      refine ww_iconst (v := 0) h dX7_takeAway_109 (by decide) 110 rfl ?_
      refine ww_put (ty := .boolean) h inG7 tyX7_ok nmX7 rfl 0 rfl rfl 11 (by decide) w_277 rfl (by decide +kernel) (by decide) (by decide) (Nat.le_of_ble_eq_true rfl) (Nat.le_of_ble_eq_true rfl) dX7_takeAway_110 113 rfl ?_
      refine ww_nm (fun z => [gX7 cy oR aR z, gX4 cy oP aP P]) (sI R_19 11 (0 : Int32)) (fun R_20 e => ?_)
      replace hf := bnd_at e hf
      clear e
      refine ww_aload_n h dX7_takeAway_113 rfl 0 rfl 114 rfl ?_
      refine ww_iconst (v := 1) h dX7_takeAway_114 (by decide) 115 rfl ?_
      refine ww_put (ty := .boolean) h inG7 tyX7_ok nmX7 rfl 0 rfl rfl 12 (by decide) w_281 rfl (by decide +kernel) (by decide) (by decide) (Nat.le_of_ble_eq_true rfl) (Nat.le_of_ble_eq_true rfl) dX7_takeAway_115 118 rfl ?_
      refine ww_nm (fun z => [gX7 cy oR aR z, gX4 cy oP aP P]) (sI R_20 12 (1 : Int32)) (fun R_21 e => ?_)
      replace hf := bnd_at e hf
      clear e
      refine ww_aload_n h dX7_takeAway_118 rfl 0 rfl 119 rfl ?_
      refine ww_iconst (v := 0) h dX7_takeAway_119 (by decide) 120 rfl ?_
      refine ww_put (ty := .int) h inG7 tyX7_ok nmX7 rfl 0 rfl rfl 14 (by decide) w_287 rfl (by decide +kernel) rfl rfl (Nat.le_of_ble_eq_true rfl) (Nat.le_of_ble_eq_true rfl) dX7_takeAway_120 123 rfl ?_
      refine ww_nm (fun z => [gX7 cy oR aR z, gX4 cy oP aP P]) (sI R_21 14 (0 : Int32)) (fun R_22 e => ?_)
      replace hf := bnd_at e hf
      clear e
      refine ww_aload_n h dX7_takeAway_123 rfl 0 rfl 124 rfl ?_
      refine ww_aload_n h dX7_takeAway_124 rfl 0 rfl 125 rfl ?_
      refine ww_get h inG7 rfl 0 rfl rfl 1 (by decide) w_266 rfl dX7_takeAway_125 128 rfl ?_
      have hi := (gd_some hf).1
      replace hf := (gd_some hf).2
      refine ww_ref hi ?_
      clear hi
      refine ww_get h inG4 rfl 1 rfl rfl 3 (by decide) w_205 rfl dX7_takeAway_128 131 rfl ?_
      refine ww_iconst (v := 2) h dX7_takeAway_131 (by decide) 132 rfl ?_
      have hi := (gd_some hf).1
      replace hf := (gd_some hf).2
      refine ww_iald h 1 rfl 4 rfl (ix_in hi) dX7_takeAway_132 133 rfl ?_
      clear hi
      refine ww_put (ty := .int) h inG7 tyX7_ok nmX7 rfl 0 rfl rfl 17 (by decide) w_294 rfl (by decide +kernel) rfl rfl (Nat.le_of_ble_eq_true rfl) (Nat.le_of_ble_eq_true rfl) dX7_takeAway_133 136 rfl ?_
      refine ww_nm (fun z => [gX7 cy oR aR z, gX4 cy oP aP P]) (sI R_22 17 (ar P 3 (2 : Int32).toNatClampNeg)) (fun R_23 e => ?_)
      replace hf := bnd_at e hf
      clear e
      obtain rfl := Option.some.inj hf
      exact ww_vret h dX7_takeAway_136 hQ ⟨rfl, rfl⟩
theorem dX7_openGaps_0 : decode cX7_openGaps 0 = .ok (.iload_n 3, 1) := by decide +kernel
theorem dX7_openGaps_1 : decode cX7_openGaps 1 = .ok (.istore 4, 2) := by decide +kernel
theorem dX7_openGaps_3 : decode cX7_openGaps 3 = .ok (.iconst 1, 1) := by decide +kernel
theorem dX7_openGaps_4 : decode cX7_openGaps 4 = .ok (.istore 5, 2) := by decide +kernel
theorem dX7_openGaps_6 : decode cX7_openGaps 6 = .ok (.iload 5, 2) := by decide +kernel
theorem dX7_openGaps_8 : decode cX7_openGaps 8 = .ok (.iconst 3, 1) := by decide +kernel
theorem dX7_openGaps_9 : decode cX7_openGaps 9 = .ok (.if_icmp .gt 56, 3) := by decide +kernel
theorem dX7_openGaps_12 : decode cX7_openGaps 12 = .ok (.aload_n 0, 1) := by decide +kernel
theorem dX7_openGaps_13 : decode cX7_openGaps 13 = .ok (.getfield 23, 3) := by decide +kernel
theorem dX7_openGaps_16 : decode cX7_openGaps 16 = .ok (.iload 5, 2) := by decide +kernel
theorem dX7_openGaps_18 : decode cX7_openGaps 18 = .ok (.aaload, 1) := by decide +kernel
theorem dX7_openGaps_19 : decode cX7_openGaps 19 = .ok (.iload_n 2, 1) := by decide +kernel
theorem dX7_openGaps_20 : decode cX7_openGaps 20 = .ok (.iaload, 1) := by decide +kernel
theorem dX7_openGaps_21 : decode cX7_openGaps 21 = .ok (.aload_n 0, 1) := by decide +kernel
theorem dX7_openGaps_22 : decode cX7_openGaps 22 = .ok (.getfield 23, 3) := by decide +kernel
theorem dX7_openGaps_25 : decode cX7_openGaps 25 = .ok (.iload 5, 2) := by decide +kernel
theorem dX7_openGaps_27 : decode cX7_openGaps 27 = .ok (.aaload, 1) := by decide +kernel
theorem dX7_openGaps_28 : decode cX7_openGaps 28 = .ok (.iload_n 1, 1) := by decide +kernel
theorem dX7_openGaps_29 : decode cX7_openGaps 29 = .ok (.iaload, 1) := by decide +kernel
theorem dX7_openGaps_30 : decode cX7_openGaps 30 = .ok (.isub, 1) := by decide +kernel
theorem dX7_openGaps_31 : decode cX7_openGaps 31 = .ok (.iload 4, 2) := by decide +kernel
theorem dX7_openGaps_33 : decode cX7_openGaps 33 = .ok (.invokestatic 122, 3) := by decide +kernel
theorem dX7_openGaps_36 : decode cX7_openGaps 36 = .ok (.istore 6, 2) := by decide +kernel
theorem dX7_openGaps_38 : decode cX7_openGaps 38 = .ok (.aload_n 0, 1) := by decide +kernel
theorem dX7_openGaps_39 : decode cX7_openGaps 39 = .ok (.dup, 1) := by decide +kernel
theorem dX7_openGaps_40 : decode cX7_openGaps 40 = .ok (.getfield 106, 3) := by decide +kernel
theorem dX7_openGaps_43 : decode cX7_openGaps 43 = .ok (.iload 6, 2) := by decide +kernel
theorem dX7_openGaps_45 : decode cX7_openGaps 45 = .ok (.iload 5, 2) := by decide +kernel
theorem dX7_openGaps_47 : decode cX7_openGaps 47 = .ok (.imul, 1) := by decide +kernel
theorem dX7_openGaps_48 : decode cX7_openGaps 48 = .ok (.iadd, 1) := by decide +kernel
theorem dX7_openGaps_49 : decode cX7_openGaps 49 = .ok (.putfield 106, 3) := by decide +kernel
theorem dX7_openGaps_52 : decode cX7_openGaps 52 = .ok (.iload 4, 2) := by decide +kernel
theorem dX7_openGaps_54 : decode cX7_openGaps 54 = .ok (.iload 6, 2) := by decide +kernel
theorem dX7_openGaps_56 : decode cX7_openGaps 56 = .ok (.isub, 1) := by decide +kernel
theorem dX7_openGaps_57 : decode cX7_openGaps 57 = .ok (.istore 4, 2) := by decide +kernel
theorem dX7_openGaps_59 : decode cX7_openGaps 59 = .ok (.iinc 5 1, 3) := by decide +kernel
theorem dX7_openGaps_62 : decode cX7_openGaps 62 = .ok (.goto (-56), 3) := by decide +kernel
theorem dX7_openGaps_65 : decode cX7_openGaps 65 = .ok (.aload_n 0, 1) := by decide +kernel
theorem dX7_openGaps_66 : decode cX7_openGaps 66 = .ok (.iload_n 3, 1) := by decide +kernel
theorem dX7_openGaps_67 : decode cX7_openGaps 67 = .ok (.iload 4, 2) := by decide +kernel
theorem dX7_openGaps_69 : decode cX7_openGaps 69 = .ok (.isub, 1) := by decide +kernel
theorem dX7_openGaps_70 : decode cX7_openGaps 70 = .ok (.putfield 100, 3) := by decide +kernel
theorem dX7_openGaps_73 : decode cX7_openGaps 73 = .ok (.aload_n 0, 1) := by decide +kernel
theorem dX7_openGaps_74 : decode cX7_openGaps 74 = .ok (.iload 4, 2) := by decide +kernel
theorem dX7_openGaps_76 : decode cX7_openGaps 76 = .ok (.putfield 103, 3) := by decide +kernel
theorem dX7_openGaps_79 : decode cX7_openGaps 79 = .ok (.aload_n 0, 1) := by decide +kernel
theorem dX7_openGaps_80 : decode cX7_openGaps 80 = .ok (.dup, 1) := by decide +kernel
theorem dX7_openGaps_81 : decode cX7_openGaps 81 = .ok (.getfield 106, 3) := by decide +kernel
theorem dX7_openGaps_84 : decode cX7_openGaps 84 = .ok (.iload 4, 2) := by decide +kernel
theorem dX7_openGaps_86 : decode cX7_openGaps 86 = .ok (.aload_n 0, 1) := by decide +kernel
theorem dX7_openGaps_87 : decode cX7_openGaps 87 = .ok (.getfield 46, 3) := by decide +kernel
theorem dX7_openGaps_90 : decode cX7_openGaps 90 = .ok (.getfield 109, 3) := by decide +kernel
theorem dX7_openGaps_93 : decode cX7_openGaps 93 = .ok (.iconst 1, 1) := by decide +kernel
theorem dX7_openGaps_94 : decode cX7_openGaps 94 = .ok (.iaload, 1) := by decide +kernel
theorem dX7_openGaps_95 : decode cX7_openGaps 95 = .ok (.imul, 1) := by decide +kernel
theorem dX7_openGaps_96 : decode cX7_openGaps 96 = .ok (.iadd, 1) := by decide +kernel
theorem dX7_openGaps_97 : decode cX7_openGaps 97 = .ok (.putfield 106, 3) := by decide +kernel
theorem dX7_openGaps_100 : decode cX7_openGaps 100 = .ok (.return_, 1) := by decide +kernel
theorem ok_X7_openGaps : okY RX7 yX7_openGaps 3 := ⟨rfl, by decide, by decide, by decide +kernel⟩
def s_X7_openGaps_6_3 (p0 : Int32) (p1 : Int32) : (Int32 × Int32 × OV) → Option ((Int32 × Int32 × OV) ⊕ (Int32 × OV)) := un3 (fun v4_4 v5_5 R_6 => (if (3 : Int32) < v5_5 then some (.inr (v4_4, R_6)) else gd (ix v5_5 4) (gd (ix p1 41) (gd (ix v5_5 4) (gd (ix p0 41) (bnd (if v4_4 < ((gr R_6 5 v5_5.toNatClampNeg p1.toNatClampNeg) - (gr R_6 5 v5_5.toNatClampNeg p0.toNatClampNeg)) then v4_4 else ((gr R_6 5 v5_5.toNatClampNeg p1.toNatClampNeg) - (gr R_6 5 v5_5.toNatClampNeg p0.toNatClampNeg))) (fun v6_9 => bnd (sI R_6 17 ((iv R_6 17) + (v6_9 * v5_5))) (fun R_10 => bnd (v4_4 - v6_9) (fun v4_11 => bnd (v5_5 + 1) (fun v5_12 => some (.inl (v4_11, v5_12, R_10))))))))))))
def f_X7_openGaps (R : OV) (oP : Nat) (P : OV) (p0 : Int32) (p1 : Int32) (p2 : Int32) : Option (OV) := bnd p2 (fun v4_1 => bnd (1 : Int32) (fun v5_2 => ((lp (s_X7_openGaps_6_3 p0 p1) 5000 (v4_1, v5_2, R)).bind (un2 (fun v4_13 R_14 => bnd (sI R_14 15 (p2 - v4_13)) (fun R_15 => bnd (sI R_15 16 v4_13) (fun R_16 => gd (decide (nv R_16 1 = oP)) (gd (ix (1 : Int32) 3) (bnd (sI R_16 17 ((iv R_16 17) + (v4_13 * (ar P 3 (1 : Int32).toNatClampNeg)))) (fun R_17 => some R_17))))))))))
def r_X7_openGaps : Room := { frames := 1, cells := 0, slots := 0, locals := 21 }
set_option maxHeartbeats 4000000 in
set_option maxRecDepth 100000 in
theorem c_X7_openGaps (l : Launch) (D : va_G) (ev : EvT) (cy : Nat → ClassId) (oR : Nat) (aR : Nat → Nat) (R : OV) (oP : Nat) (aP : Nat → Nat) (P : OV) (p0 : Int32) (p1 : Int32) (p2 : Int32) (o : OV) (hf : f_X7_openGaps R oP P p0 p1 p2 = some o) : Fn l yX7_openGaps cX7_openGaps 7 none r_X7_openGaps D ev cy [.ref oR, .int p0, .int p1, .int p2] [gX7 cy oR aR R, gX4 cy oP aP P] (fun v G => v = none ∧ G = [gX7 cy oR aR o, gX4 cy oP aP P]) := by
  refine Fn_of (by decide) (Nat.le_of_ble_eq_true rfl) (fun X A Q h hQ _ => ?_)
  unfold f_X7_openGaps at hf
  show ww X D A 7 Q 0 0 0 [(0, .ref oR), (1, .int p0), (2, .int p1), (3, .int p2)] [] [gX7 cy oR aR R, gX4 cy oP aP P]
  refine ww_iload_n h dX7_openGaps_0 rfl 3 rfl 1 rfl ?_
  refine ww_ist h dX7_openGaps_1 (by decide) (fun v4_1 => [(4, .int v4_1), (0, .ref oR), (1, .int p0), (2, .int p1), (3, .int p2)]) (fun _ => rfl) 3 rfl (fun v4_1 e => ?_)
  replace hf := bnd_at e hf
  clear e
  refine ww_iconst (v := 1) h dX7_openGaps_3 (by decide) 4 rfl ?_
  refine ww_ist h dX7_openGaps_4 (by decide) (fun v5_2 => [(5, .int v5_2), (4, .int v4_1), (0, .ref oR), (1, .int p0), (2, .int p1), (3, .int p2)]) (fun _ => rfl) 6 rfl (fun v5_2 e => ?_)
  replace hf := bnd_at e hf
  clear e
  refine ww_lo [2, 3, 4, 5, 1, 0] (lo' := [(0, .ref oR), (1, .int p0), (2, .int p1), (3, .int p2), (4, .int v4_1), (5, .int v5_2)]) rfl ?_
  obtain ⟨v4_13, R_14, h3, hf⟩ := ob2 hf
  refine lp_walk (un3 (fun v4_4 v5_5 R_6 => ww X D A 7 Q 0 0 6 [(0, .ref oR), (1, .int p0), (2, .int p1), (3, .int p2), (4, .int v4_4), (5, .int v5_5)] [] [gX7 cy oR aR R_6, gX4 cy oP aP P])) (un2 (fun v4_13 R_14 => ww X D A 7 Q 0 0 65 [(0, .ref oR), (3, .int p2), (4, .int v4_13)] [] [gX7 cy oR aR R_14, gX4 cy oP aP P])) ?_ _ _ _ h3 ?_
  · clear h3 hf
    intro s3 o3 hf hI3 hE3
    obtain ⟨v4_4, v5_5, R_6⟩ := s3
    unfold s_X7_openGaps_6_3 at hf
    replace hf := un3_e hf
    show ww X D A 7 Q 0 0 6 [(0, .ref oR), (1, .int p0), (2, .int p1), (3, .int p2), (4, .int v4_4), (5, .int v5_5)] [] [gX7 cy oR aR R_6, gX4 cy oP aP P]
    refine ww_iload h dX7_openGaps_6 5 rfl 8 rfl ?_
    refine ww_iconst (v := 3) h dX7_openGaps_8 (by decide) 9 rfl ?_
    refine ww_icmp_gt h dX7_openGaps_9 65 (by decide) 12 rfl (fun c => ?_) (fun c => ?_)
    · replace hf := ite_t c hf
      refine ww_lo [0, 3, 4] (lo' := [(0, .ref oR), (3, .int p2), (4, .int v4_4)]) rfl ?_
      exact hE3 (v4_4, R_6) (Option.some.inj hf).symm
    · replace hf := ite_f c hf
      refine ww_aload_n h dX7_openGaps_12 rfl 0 rfl 13 rfl ?_
      refine ww_get h inG7 rfl 0 rfl rfl 5 (by decide) w_270 rfl dX7_openGaps_13 16 rfl ?_
      refine ww_iload h dX7_openGaps_16 5 rfl 18 rfl ?_
      have hi := (gd_some hf).1
      replace hf := (gd_some hf).2
      have hj7 := ix_lt hi
      refine ww_aaldR h 0 rfl 4 rfl 4 rfl rfl (ix_in hi) dX7_openGaps_18 19 rfl ?_
      clear hi
      refine ww_iload_n h dX7_openGaps_19 rfl 2 rfl 20 rfl ?_
      have hi := (gd_some hf).1
      replace hf := (gd_some hf).2
      refine ww_iald h 0 rfl (14 + v5_5.toNatClampNeg) (gX7_row5 hj7) (ix_in hi) dX7_openGaps_20 21 rfl ?_
      clear hi
      refine ww_aload_n h dX7_openGaps_21 rfl 0 rfl 22 rfl ?_
      refine ww_get h inG7 rfl 0 rfl rfl 5 (by decide) w_270 rfl dX7_openGaps_22 25 rfl ?_
      refine ww_iload h dX7_openGaps_25 5 rfl 27 rfl ?_
      have hi := (gd_some hf).1
      replace hf := (gd_some hf).2
      have hj8 := ix_lt hi
      refine ww_aaldR h 0 rfl 4 rfl 4 rfl rfl (ix_in hi) dX7_openGaps_27 28 rfl ?_
      clear hi
      refine ww_iload_n h dX7_openGaps_28 rfl 1 rfl 29 rfl ?_
      have hi := (gd_some hf).1
      replace hf := (gd_some hf).2
      refine ww_iald h 0 rfl (14 + v5_5.toNatClampNeg) (gX7_row5 hj8) (ix_in hi) dX7_openGaps_29 30 rfl ?_
      clear hi
      refine ww_isub h dX7_openGaps_30 31 rfl ?_
      refine ww_iload h dX7_openGaps_31 4 rfl 33 rfl ?_
      refine ww_min h w_840 w_518 w_103 w_519 ⟨by decide, Nat.le_of_ble_eq_true rfl, by decide, by decide⟩ dX7_openGaps_33 36 rfl ?_
      refine ww_ist h dX7_openGaps_36 (by decide) (fun v6_9 => [(6, .int v6_9), (0, .ref oR), (1, .int p0), (2, .int p1), (3, .int p2), (4, .int v4_4), (5, .int v5_5)]) (fun _ => rfl) 38 rfl (fun v6_9 e => ?_)
      replace hf := bnd_at e hf
      clear e
      refine ww_aload_n h dX7_openGaps_38 rfl 1 rfl 39 rfl ?_
      refine ww_dup h dX7_openGaps_39 rfl 40 rfl ?_
      refine ww_get h inG7 rfl 0 rfl rfl 17 (by decide) w_294 rfl dX7_openGaps_40 43 rfl ?_
      refine ww_iload h dX7_openGaps_43 0 rfl 45 rfl ?_
      refine ww_iload h dX7_openGaps_45 6 rfl 47 rfl ?_
      refine ww_imul h dX7_openGaps_47 48 rfl ?_
      refine ww_iadd h dX7_openGaps_48 49 rfl ?_
      refine ww_put (ty := .int) h inG7 tyX7_ok nmX7 rfl 0 rfl rfl 17 (by decide) w_294 rfl (by decide +kernel) rfl rfl (Nat.le_of_ble_eq_true rfl) (Nat.le_of_ble_eq_true rfl) dX7_openGaps_49 52 rfl ?_
      refine ww_nm (fun z => [gX7 cy oR aR z, gX4 cy oP aP P]) (sI R_6 17 ((iv R_6 17) + (v6_9 * v5_5))) (fun R_10 e => ?_)
      replace hf := bnd_at e hf
      clear e
      refine ww_iload h dX7_openGaps_52 5 rfl 54 rfl ?_
      refine ww_iload h dX7_openGaps_54 0 rfl 56 rfl ?_
      refine ww_isub h dX7_openGaps_56 57 rfl ?_
      refine ww_ist h dX7_openGaps_57 (by decide) (fun v4_11 => [(4, .int v4_11), (6, .int v6_9), (0, .ref oR), (1, .int p0), (2, .int p1), (3, .int p2), (5, .int v5_5)]) (fun _ => rfl) 59 rfl (fun v4_11 e => ?_)
      replace hf := bnd_at e hf
      clear e
      refine ww_inc (c := 1) h dX7_openGaps_59 6 rfl (by decide) (by decide) (fun v5_12 => [(5, .int v5_12), (4, .int v4_11), (6, .int v6_9), (0, .ref oR), (1, .int p0), (2, .int p1), (3, .int p2)]) (fun _ => rfl) 62 rfl (fun v5_12 e => ?_)
      replace hf := bnd_at e hf
      clear e
      refine ww_goto h dX7_openGaps_62 6 (by decide) ?_
      refine ww_lo [3, 4, 5, 6, 1, 0] (lo' := [(0, .ref oR), (1, .int p0), (2, .int p1), (3, .int p2), (4, .int v4_11), (5, .int v5_12)]) rfl ?_
      exact hI3 (v4_11, v5_12, R_10) (Option.some.inj hf).symm
  · clear h3
    show ww X D A 7 Q 0 0 65 [(0, .ref oR), (3, .int p2), (4, .int v4_13)] [] [gX7 cy oR aR R_14, gX4 cy oP aP P]
    refine ww_aload_n h dX7_openGaps_65 rfl 0 rfl 66 rfl ?_
    refine ww_iload_n h dX7_openGaps_66 rfl 1 rfl 67 rfl ?_
    refine ww_iload h dX7_openGaps_67 2 rfl 69 rfl ?_
    refine ww_isub h dX7_openGaps_69 70 rfl ?_
    refine ww_put (ty := .int) h inG7 tyX7_ok nmX7 rfl 0 rfl rfl 15 (by decide) w_289 rfl (by decide +kernel) rfl rfl (Nat.le_of_ble_eq_true rfl) (Nat.le_of_ble_eq_true rfl) dX7_openGaps_70 73 rfl ?_
    refine ww_nm (fun z => [gX7 cy oR aR z, gX4 cy oP aP P]) (sI R_14 15 (p2 - v4_13)) (fun R_15 e => ?_)
    replace hf := bnd_at e hf
    clear e
    refine ww_aload_n h dX7_openGaps_73 rfl 0 rfl 74 rfl ?_
    refine ww_iload h dX7_openGaps_74 2 rfl 76 rfl ?_
    refine ww_put (ty := .int) h inG7 tyX7_ok nmX7 rfl 0 rfl rfl 16 (by decide) w_291 rfl (by decide +kernel) rfl rfl (Nat.le_of_ble_eq_true rfl) (Nat.le_of_ble_eq_true rfl) dX7_openGaps_76 79 rfl ?_
    refine ww_nm (fun z => [gX7 cy oR aR z, gX4 cy oP aP P]) (sI R_15 16 v4_13) (fun R_16 e => ?_)
    replace hf := bnd_at e hf
    clear e
    refine ww_aload_n h dX7_openGaps_79 rfl 0 rfl 80 rfl ?_
    refine ww_dup h dX7_openGaps_80 rfl 81 rfl ?_
    refine ww_get h inG7 rfl 0 rfl rfl 17 (by decide) w_294 rfl dX7_openGaps_81 84 rfl ?_
    refine ww_iload h dX7_openGaps_84 2 rfl 86 rfl ?_
    refine ww_aload_n h dX7_openGaps_86 rfl 0 rfl 87 rfl ?_
    refine ww_get h inG7 rfl 0 rfl rfl 1 (by decide) w_266 rfl dX7_openGaps_87 90 rfl ?_
    have hi := (gd_some hf).1
    replace hf := (gd_some hf).2
    refine ww_ref hi ?_
    clear hi
    refine ww_get h inG4 rfl 1 rfl rfl 3 (by decide) w_205 rfl dX7_openGaps_90 93 rfl ?_
    refine ww_iconst (v := 1) h dX7_openGaps_93 (by decide) 94 rfl ?_
    have hi := (gd_some hf).1
    replace hf := (gd_some hf).2
    refine ww_iald h 1 rfl 4 rfl (ix_in hi) dX7_openGaps_94 95 rfl ?_
    clear hi
    refine ww_imul h dX7_openGaps_95 96 rfl ?_
    refine ww_iadd h dX7_openGaps_96 97 rfl ?_
    refine ww_put (ty := .int) h inG7 tyX7_ok nmX7 rfl 0 rfl rfl 17 (by decide) w_294 rfl (by decide +kernel) rfl rfl (Nat.le_of_ble_eq_true rfl) (Nat.le_of_ble_eq_true rfl) dX7_openGaps_97 100 rfl ?_
    refine ww_nm (fun z => [gX7 cy oR aR z, gX4 cy oP aP P]) (sI R_16 17 ((iv R_16 17) + (v4_13 * (ar P 3 (1 : Int32).toNatClampNeg)))) (fun R_17 e => ?_)
    replace hf := bnd_at e hf
    clear e
    obtain rfl := Option.some.inj hf
    exact ww_vret h dX7_openGaps_100 hQ ⟨rfl, rfl⟩
theorem dX7_endGives_0 : decode cX7_endGives 0 = .ok (.aload_n 0, 1) := by decide +kernel
theorem dX7_endGives_1 : decode cX7_endGives 1 = .ok (.getfield 90, 3) := by decide +kernel
theorem dX7_endGives_4 : decode cX7_endGives 4 = .ok (.ifCond .eq 7, 3) := by decide +kernel
theorem dX7_endGives_7 : decode cX7_endGives 7 = .ok (.iconst 0, 1) := by decide +kernel
theorem dX7_endGives_8 : decode cX7_endGives 8 = .ok (.goto 9, 3) := by decide +kernel
theorem dX7_endGives_11 : decode cX7_endGives 11 = .ok (.aload_n 0, 1) := by decide +kernel
theorem dX7_endGives_12 : decode cX7_endGives 12 = .ok (.getfield 29, 3) := by decide +kernel
theorem dX7_endGives_15 : decode cX7_endGives 15 = .ok (.iload_n 1, 1) := by decide +kernel
theorem dX7_endGives_16 : decode cX7_endGives 16 = .ok (.iaload, 1) := by decide +kernel
theorem dX7_endGives_17 : decode cX7_endGives 17 = .ok (.ireturn, 1) := by decide +kernel
theorem ok_X7_endGives : okY RX7 yX7_endGives 1 := ⟨rfl, by decide, by decide, by decide +kernel⟩
def f_X7_endGives (R : OV) (p0 : Int32) : Option (Int32) := (if (iv R 11) = 0 then gd (ix p0 40) (some (ar R 7 p0.toNatClampNeg)) else some (0 : Int32))
def r_X7_endGives : Room := { frames := 0, cells := 0, slots := 0, locals := 0 }
set_option maxHeartbeats 4000000 in
set_option maxRecDepth 100000 in
theorem c_X7_endGives (l : Launch) (D : va_G) (ev : EvT) (cy : Nat → ClassId) (oR : Nat) (aR : Nat → Nat) (R : OV) (p0 : Int32) (o : Int32) (hf : f_X7_endGives R p0 = some o) : Fn l yX7_endGives cX7_endGives 2 (some .int) r_X7_endGives D ev cy [.ref oR, .int p0] [gX7 cy oR aR R] (fun v G => v = some (.int o) ∧ G = [gX7 cy oR aR R]) := by
  refine Fn_of (by decide) (Nat.le_of_ble_eq_true rfl) (fun X A Q h hQ _ => ?_)
  unfold f_X7_endGives at hf
  show ww X D A 2 Q 0 0 0 [(0, .ref oR), (1, .int p0)] [] [gX7 cy oR aR R]
  refine ww_aload_n h dX7_endGives_0 rfl 0 rfl 1 rfl ?_
  refine ww_get h inG7 rfl 0 rfl rfl 11 (by decide) w_277 rfl dX7_endGives_1 4 rfl ?_
  refine ww_if_eq h dX7_endGives_4 11 (by decide) 7 rfl (fun c => ?_) (fun c => ?_)
  · replace hf := ite_t c hf
    refine ww_aload_n h dX7_endGives_11 rfl 0 rfl 12 rfl ?_
    refine ww_get h inG7 rfl 0 rfl rfl 7 (by decide) w_272 rfl dX7_endGives_12 15 rfl ?_
    refine ww_iload_n h dX7_endGives_15 rfl 1 rfl 16 rfl ?_
    have hi := (gd_some hf).1
    replace hf := (gd_some hf).2
    refine ww_iald h 0 rfl 6 rfl (ix_in hi) dX7_endGives_16 17 rfl ?_
    clear hi
    obtain rfl := Option.some.inj hf
    exact ww_iret h dX7_endGives_17 hQ ⟨rfl, rfl⟩
  · replace hf := ite_f c hf
    refine ww_iconst (v := 0) h dX7_endGives_7 (by decide) 8 rfl ?_
    refine ww_goto h dX7_endGives_8 17 (by decide) ?_
    obtain rfl := Option.some.inj hf
    exact ww_iret h dX7_endGives_17 hQ ⟨rfl, rfl⟩
theorem dX7_addToSums_0 : decode cX7_addToSums 0 = .ok (.aload_n 0, 1) := by decide +kernel
theorem dX7_addToSums_1 : decode cX7_addToSums 1 = .ok (.iconst 0, 1) := by decide +kernel
theorem dX7_addToSums_2 : decode cX7_addToSums 2 = .ok (.iload_n 1, 1) := by decide +kernel
theorem dX7_addToSums_3 : decode cX7_addToSums 3 = .ok (.invokevirtual 56, 3) := by decide +kernel
theorem dX7_addToSums_6 : decode cX7_addToSums 6 = .ok (.istore_n 2, 1) := by decide +kernel
theorem dX7_addToSums_7 : decode cX7_addToSums 7 = .ok (.aload_n 0, 1) := by decide +kernel
theorem dX7_addToSums_8 : decode cX7_addToSums 8 = .ok (.iconst 5, 1) := by decide +kernel
theorem dX7_addToSums_9 : decode cX7_addToSums 9 = .ok (.iload_n 1, 1) := by decide +kernel
theorem dX7_addToSums_10 : decode cX7_addToSums 10 = .ok (.invokevirtual 56, 3) := by decide +kernel
theorem dX7_addToSums_13 : decode cX7_addToSums 13 = .ok (.istore_n 3, 1) := by decide +kernel
theorem dX7_addToSums_14 : decode cX7_addToSums 14 = .ok (.aload_n 0, 1) := by decide +kernel
theorem dX7_addToSums_15 : decode cX7_addToSums 15 = .ok (.bipush 7, 2) := by decide +kernel
theorem dX7_addToSums_17 : decode cX7_addToSums 17 = .ok (.iload_n 1, 1) := by decide +kernel
theorem dX7_addToSums_18 : decode cX7_addToSums 18 = .ok (.invokevirtual 56, 3) := by decide +kernel
theorem dX7_addToSums_21 : decode cX7_addToSums 21 = .ok (.istore 4, 2) := by decide +kernel
theorem dX7_addToSums_23 : decode cX7_addToSums 23 = .ok (.aload_n 0, 1) := by decide +kernel
theorem dX7_addToSums_24 : decode cX7_addToSums 24 = .ok (.bipush 8, 2) := by decide +kernel
theorem dX7_addToSums_26 : decode cX7_addToSums 26 = .ok (.iload_n 1, 1) := by decide +kernel
theorem dX7_addToSums_27 : decode cX7_addToSums 27 = .ok (.invokevirtual 56, 3) := by decide +kernel
theorem dX7_addToSums_30 : decode cX7_addToSums 30 = .ok (.istore 5, 2) := by decide +kernel
theorem dX7_addToSums_32 : decode cX7_addToSums 32 = .ok (.aload_n 0, 1) := by decide +kernel
theorem dX7_addToSums_33 : decode cX7_addToSums 33 = .ok (.getfield 9, 3) := by decide +kernel
theorem dX7_addToSums_36 : decode cX7_addToSums 36 = .ok (.iload_n 1, 1) := by decide +kernel
theorem dX7_addToSums_37 : decode cX7_addToSums 37 = .ok (.iconst 1, 1) := by decide +kernel
theorem dX7_addToSums_38 : decode cX7_addToSums 38 = .ok (.iadd, 1) := by decide +kernel
theorem dX7_addToSums_39 : decode cX7_addToSums 39 = .ok (.aload_n 0, 1) := by decide +kernel
theorem dX7_addToSums_40 : decode cX7_addToSums 40 = .ok (.getfield 9, 3) := by decide +kernel
theorem dX7_addToSums_43 : decode cX7_addToSums 43 = .ok (.iload_n 1, 1) := by decide +kernel
theorem dX7_addToSums_44 : decode cX7_addToSums 44 = .ok (.iaload, 1) := by decide +kernel
theorem dX7_addToSums_45 : decode cX7_addToSums 45 = .ok (.iload_n 2, 1) := by decide +kernel
theorem dX7_addToSums_46 : decode cX7_addToSums 46 = .ok (.iadd, 1) := by decide +kernel
theorem dX7_addToSums_47 : decode cX7_addToSums 47 = .ok (.iastore, 1) := by decide +kernel
theorem dX7_addToSums_48 : decode cX7_addToSums 48 = .ok (.aload_n 0, 1) := by decide +kernel
theorem dX7_addToSums_49 : decode cX7_addToSums 49 = .ok (.getfield 15, 3) := by decide +kernel
theorem dX7_addToSums_52 : decode cX7_addToSums 52 = .ok (.iload_n 1, 1) := by decide +kernel
theorem dX7_addToSums_53 : decode cX7_addToSums 53 = .ok (.iconst 1, 1) := by decide +kernel
theorem dX7_addToSums_54 : decode cX7_addToSums 54 = .ok (.iadd, 1) := by decide +kernel
theorem dX7_addToSums_55 : decode cX7_addToSums 55 = .ok (.aload_n 0, 1) := by decide +kernel
theorem dX7_addToSums_56 : decode cX7_addToSums 56 = .ok (.getfield 15, 3) := by decide +kernel
theorem dX7_addToSums_59 : decode cX7_addToSums 59 = .ok (.iload_n 1, 1) := by decide +kernel
theorem dX7_addToSums_60 : decode cX7_addToSums 60 = .ok (.iaload, 1) := by decide +kernel
theorem dX7_addToSums_61 : decode cX7_addToSums 61 = .ok (.iload_n 2, 1) := by decide +kernel
theorem dX7_addToSums_62 : decode cX7_addToSums 62 = .ok (.iadd, 1) := by decide +kernel
theorem dX7_addToSums_63 : decode cX7_addToSums 63 = .ok (.iload_n 3, 1) := by decide +kernel
theorem dX7_addToSums_64 : decode cX7_addToSums 64 = .ok (.isub, 1) := by decide +kernel
theorem dX7_addToSums_65 : decode cX7_addToSums 65 = .ok (.iastore, 1) := by decide +kernel
theorem dX7_addToSums_66 : decode cX7_addToSums 66 = .ok (.iconst 1, 1) := by decide +kernel
theorem dX7_addToSums_67 : decode cX7_addToSums 67 = .ok (.istore 6, 2) := by decide +kernel
theorem dX7_addToSums_69 : decode cX7_addToSums 69 = .ok (.iload 6, 2) := by decide +kernel
theorem dX7_addToSums_71 : decode cX7_addToSums 71 = .ok (.iconst 3, 1) := by decide +kernel
theorem dX7_addToSums_72 : decode cX7_addToSums 72 = .ok (.if_icmp .gt 80, 3) := by decide +kernel
theorem dX7_addToSums_75 : decode cX7_addToSums 75 = .ok (.aload_n 0, 1) := by decide +kernel
theorem dX7_addToSums_76 : decode cX7_addToSums 76 = .ok (.getfield 20, 3) := by decide +kernel
theorem dX7_addToSums_79 : decode cX7_addToSums 79 = .ok (.iload 6, 2) := by decide +kernel
theorem dX7_addToSums_81 : decode cX7_addToSums 81 = .ok (.aaload, 1) := by decide +kernel
theorem dX7_addToSums_82 : decode cX7_addToSums 82 = .ok (.iload_n 1, 1) := by decide +kernel
theorem dX7_addToSums_83 : decode cX7_addToSums 83 = .ok (.iconst 1, 1) := by decide +kernel
theorem dX7_addToSums_84 : decode cX7_addToSums 84 = .ok (.iadd, 1) := by decide +kernel
theorem dX7_addToSums_85 : decode cX7_addToSums 85 = .ok (.aload_n 0, 1) := by decide +kernel
theorem dX7_addToSums_86 : decode cX7_addToSums 86 = .ok (.getfield 20, 3) := by decide +kernel
theorem dX7_addToSums_89 : decode cX7_addToSums 89 = .ok (.iload 6, 2) := by decide +kernel
theorem dX7_addToSums_91 : decode cX7_addToSums 91 = .ok (.aaload, 1) := by decide +kernel
theorem dX7_addToSums_92 : decode cX7_addToSums 92 = .ok (.iload_n 1, 1) := by decide +kernel
theorem dX7_addToSums_93 : decode cX7_addToSums 93 = .ok (.iaload, 1) := by decide +kernel
theorem dX7_addToSums_94 : decode cX7_addToSums 94 = .ok (.aload_n 0, 1) := by decide +kernel
theorem dX7_addToSums_95 : decode cX7_addToSums 95 = .ok (.getfield 32, 3) := by decide +kernel
theorem dX7_addToSums_98 : decode cX7_addToSums 98 = .ok (.iload_n 1, 1) := by decide +kernel
theorem dX7_addToSums_99 : decode cX7_addToSums 99 = .ok (.iaload, 1) := by decide +kernel
theorem dX7_addToSums_100 : decode cX7_addToSums 100 = .ok (.iload 6, 2) := by decide +kernel
theorem dX7_addToSums_102 : decode cX7_addToSums 102 = .ok (.if_icmp .ne 7, 3) := by decide +kernel
theorem dX7_addToSums_105 : decode cX7_addToSums 105 = .ok (.iload_n 3, 1) := by decide +kernel
theorem dX7_addToSums_106 : decode cX7_addToSums 106 = .ok (.goto 4, 3) := by decide +kernel
theorem dX7_addToSums_109 : decode cX7_addToSums 109 = .ok (.iconst 0, 1) := by decide +kernel
theorem dX7_addToSums_110 : decode cX7_addToSums 110 = .ok (.iadd, 1) := by decide +kernel
theorem dX7_addToSums_111 : decode cX7_addToSums 111 = .ok (.iastore, 1) := by decide +kernel
theorem dX7_addToSums_112 : decode cX7_addToSums 112 = .ok (.aload_n 0, 1) := by decide +kernel
theorem dX7_addToSums_113 : decode cX7_addToSums 113 = .ok (.getfield 23, 3) := by decide +kernel
theorem dX7_addToSums_116 : decode cX7_addToSums 116 = .ok (.iload 6, 2) := by decide +kernel
theorem dX7_addToSums_118 : decode cX7_addToSums 118 = .ok (.aaload, 1) := by decide +kernel
theorem dX7_addToSums_119 : decode cX7_addToSums 119 = .ok (.iload_n 1, 1) := by decide +kernel
theorem dX7_addToSums_120 : decode cX7_addToSums 120 = .ok (.iconst 1, 1) := by decide +kernel
theorem dX7_addToSums_121 : decode cX7_addToSums 121 = .ok (.iadd, 1) := by decide +kernel
theorem dX7_addToSums_122 : decode cX7_addToSums 122 = .ok (.aload_n 0, 1) := by decide +kernel
theorem dX7_addToSums_123 : decode cX7_addToSums 123 = .ok (.getfield 23, 3) := by decide +kernel
theorem dX7_addToSums_126 : decode cX7_addToSums 126 = .ok (.iload 6, 2) := by decide +kernel
theorem dX7_addToSums_128 : decode cX7_addToSums 128 = .ok (.aaload, 1) := by decide +kernel
theorem dX7_addToSums_129 : decode cX7_addToSums 129 = .ok (.iload_n 1, 1) := by decide +kernel
theorem dX7_addToSums_130 : decode cX7_addToSums 130 = .ok (.iaload, 1) := by decide +kernel
theorem dX7_addToSums_131 : decode cX7_addToSums 131 = .ok (.iload 5, 2) := by decide +kernel
theorem dX7_addToSums_133 : decode cX7_addToSums 133 = .ok (.iload 6, 2) := by decide +kernel
theorem dX7_addToSums_135 : decode cX7_addToSums 135 = .ok (.if_icmp .ne 8, 3) := by decide +kernel
theorem dX7_addToSums_138 : decode cX7_addToSums 138 = .ok (.iload 4, 2) := by decide +kernel
theorem dX7_addToSums_140 : decode cX7_addToSums 140 = .ok (.goto 4, 3) := by decide +kernel
theorem dX7_addToSums_143 : decode cX7_addToSums 143 = .ok (.iconst 0, 1) := by decide +kernel
theorem dX7_addToSums_144 : decode cX7_addToSums 144 = .ok (.iadd, 1) := by decide +kernel
theorem dX7_addToSums_145 : decode cX7_addToSums 145 = .ok (.iastore, 1) := by decide +kernel
theorem dX7_addToSums_146 : decode cX7_addToSums 146 = .ok (.iinc 6 1, 3) := by decide +kernel
theorem dX7_addToSums_149 : decode cX7_addToSums 149 = .ok (.goto (-80), 3) := by decide +kernel
theorem dX7_addToSums_152 : decode cX7_addToSums 152 = .ok (.return_, 1) := by decide +kernel
theorem ok_X7_addToSums : okY RX7 yX7_addToSums 1 := ⟨rfl, by decide, by decide, by decide +kernel⟩
def j_X7_addToSums_144_27 (R_23 : OV) (p0 : Int32) (v6_17 : Int32) (t_26 : Int32) : Option ((Int32 × OV) ⊕ (OV)) := gd (ix (p0 + (1 : Int32)) 41) (bnd (sG R_23 5 v6_17.toNatClampNeg (p0 + (1 : Int32)).toNatClampNeg ((gr R_23 5 v6_17.toNatClampNeg p0.toNatClampNeg) + t_26)) (fun R_28 => bnd (v6_17 + 1) (fun v6_29 => some (.inl (v6_29, R_28)))))
def j_X7_addToSums_110_22 (R_18 : OV) (p0 : Int32) (v4_9 : Int32) (v5_12 : Int32) (v6_17 : Int32) (t_21 : Int32) : Option ((Int32 × OV) ⊕ (OV)) := gd (ix (p0 + (1 : Int32)) 41) (bnd (sG R_18 4 v6_17.toNatClampNeg (p0 + (1 : Int32)).toNatClampNeg ((gr R_18 4 v6_17.toNatClampNeg p0.toNatClampNeg) + t_21)) (fun R_23 => gd (ix v6_17 4) (gd (ix v6_17 4) (gd (ix p0 41) ((if v5_12 = v6_17 then j_X7_addToSums_144_27 R_23 p0 v6_17 v4_9 else j_X7_addToSums_144_27 R_23 p0 v6_17 (0 : Int32)))))))
def s_X7_addToSums_69_16 (p0 : Int32) (v3_6 : Int32) (v4_9 : Int32) (v5_12 : Int32) : (Int32 × OV) → Option ((Int32 × OV) ⊕ (OV)) := un2 (fun v6_17 R_18 => (if (3 : Int32) < v6_17 then some (.inr R_18) else gd (ix v6_17 4) (gd (ix v6_17 4) (gd (ix p0 41) (gd (ix p0 40) ((if (ar R_18 8 p0.toNatClampNeg) = v6_17 then j_X7_addToSums_110_22 R_18 p0 v4_9 v5_12 v6_17 v3_6 else j_X7_addToSums_110_22 R_18 p0 v4_9 v5_12 v6_17 (0 : Int32))))))))
def f_X7_addToSums (R : OV) (oC : Nat) (C : OV) (oP : Nat) (P : OV) (p0 : Int32) : Option (OV) := (f_X7_factOf R oC C oP P (0 : Int32) p0).bind (un1 (fun r_1 => bnd r_1 (fun v2_3 => (f_X7_factOf R oC C oP P (5 : Int32) p0).bind (un1 (fun r_4 => bnd r_4 (fun v3_6 => (f_X7_factOf R oC C oP P (7 : Int32) p0).bind (un1 (fun r_7 => bnd r_7 (fun v4_9 => (f_X7_factOf R oC C oP P (8 : Int32) p0).bind (un1 (fun r_10 => bnd r_10 (fun v5_12 => gd (ix p0 41) (gd (ix (p0 + (1 : Int32)) 41) (bnd (sA R 2 (p0 + (1 : Int32)).toNatClampNeg ((ar R 2 p0.toNatClampNeg) + v2_3)) (fun R_13 => gd (ix p0 41) (gd (ix (p0 + (1 : Int32)) 41) (bnd (sA R_13 3 (p0 + (1 : Int32)).toNatClampNeg (((ar R_13 3 p0.toNatClampNeg) + v2_3) - v3_6)) (fun R_14 => bnd (1 : Int32) (fun v6_15 => ((lp (s_X7_addToSums_69_16 p0 v3_6 v4_9 v5_12) 5000 (v6_15, R_14)).bind (un1 (fun R_30 => some R_30))))))))))))))))))))))
def r_X7_addToSums : Room := { frames := 1, cells := 0, slots := 0, locals := 22 }
set_option maxHeartbeats 4000000 in
set_option maxRecDepth 100000 in
theorem c_X7_addToSums (l : Launch) (D : va_G) (ev : EvT) (cy : Nat → ClassId) (oR : Nat) (aR : Nat → Nat) (R : OV) (oC : Nat) (aC : Nat → Nat) (C : OV) (oP : Nat) (aP : Nat → Nat) (P : OV) (p0 : Int32) (o : OV) (hf : f_X7_addToSums R oC C oP P p0 = some o) : Fn l yX7_addToSums cX7_addToSums 7 none r_X7_addToSums D ev cy [.ref oR, .int p0] [gX7 cy oR aR R, gX1 cy oC aC C, gX4 cy oP aP P] (fun v G => v = none ∧ G = [gX7 cy oR aR o, gX1 cy oC aC C, gX4 cy oP aP P]) := by
  refine Fn_of (by decide) (Nat.le_of_ble_eq_true rfl) (fun X A Q h hQ _ => ?_)
  unfold f_X7_addToSums at hf
  show ww X D A 7 Q 0 0 0 [(0, .ref oR), (1, .int p0)] [] [gX7 cy oR aR R, gX1 cy oC aC C, gX4 cy oP aP P]
  refine ww_aload_n h dX7_addToSums_0 rfl 0 rfl 1 rfl ?_
  refine ww_iconst (v := 0) h dX7_addToSums_1 (by decide) 2 rfl ?_
  refine ww_iload_n h dX7_addToSums_2 rfl 1 rfl 3 rfl ?_
  obtain ⟨r_1, hu2, hf⟩ := ob1 hf
  refine ww_cVi h (c_X7_factOf l D ev cy oR aR R oC aC C oP aP P (0 : Int32) p0 _ hu2) ⟨w_817, w_814, w_815, w_816, w_107, ok_X7_factOf⟩ ⟨by decide, by decide⟩ ⟨by decide, by decide⟩ ⟨rfl, rfl⟩ [0, 0, 0] rfl 0 rfl rfl rfl rfl (Nat.le_of_ble_eq_true rfl) dX7_addToSums_3 6 rfl (Gs' := [gX7 cy oR aR R, gX1 cy oC aC C, gX4 cy oP aP P]) rfl ?_
  clear hu2
  refine ww_ist_n h dX7_addToSums_6 rfl (by decide) (fun v2_3 => [(2, .int v2_3), (0, .ref oR), (1, .int p0)]) (fun _ => rfl) 7 rfl (fun v2_3 e => ?_)
  replace hf := bnd_at e hf
  clear e
  refine ww_aload_n h dX7_addToSums_7 rfl 1 rfl 8 rfl ?_
  refine ww_iconst (v := 5) h dX7_addToSums_8 (by decide) 9 rfl ?_
  refine ww_iload_n h dX7_addToSums_9 rfl 2 rfl 10 rfl ?_
  obtain ⟨r_4, hu5, hf⟩ := ob1 hf
  refine ww_cVi h (c_X7_factOf l D ev cy oR aR R oC aC C oP aP P (5 : Int32) p0 _ hu5) ⟨w_817, w_814, w_815, w_816, w_107, ok_X7_factOf⟩ ⟨by decide, by decide⟩ ⟨by decide, by decide⟩ ⟨rfl, rfl⟩ [0, 0, 0] rfl 0 rfl rfl rfl rfl (Nat.le_of_ble_eq_true rfl) dX7_addToSums_10 13 rfl (Gs' := [gX7 cy oR aR R, gX1 cy oC aC C, gX4 cy oP aP P]) rfl ?_
  clear hu5
  refine ww_ist_n h dX7_addToSums_13 rfl (by decide) (fun v3_6 => [(3, .int v3_6), (2, .int v2_3), (0, .ref oR), (1, .int p0)]) (fun _ => rfl) 14 rfl (fun v3_6 e => ?_)
  replace hf := bnd_at e hf
  clear e
  refine ww_aload_n h dX7_addToSums_14 rfl 2 rfl 15 rfl ?_
  refine ww_bipush (v := 7) h dX7_addToSums_15 (by decide) 17 rfl ?_
  refine ww_iload_n h dX7_addToSums_17 rfl 3 rfl 18 rfl ?_
  obtain ⟨r_7, hu8, hf⟩ := ob1 hf
  refine ww_cVi h (c_X7_factOf l D ev cy oR aR R oC aC C oP aP P (7 : Int32) p0 _ hu8) ⟨w_817, w_814, w_815, w_816, w_107, ok_X7_factOf⟩ ⟨by decide, by decide⟩ ⟨by decide, by decide⟩ ⟨rfl, rfl⟩ [0, 0, 0] rfl 0 rfl rfl rfl rfl (Nat.le_of_ble_eq_true rfl) dX7_addToSums_18 21 rfl (Gs' := [gX7 cy oR aR R, gX1 cy oC aC C, gX4 cy oP aP P]) rfl ?_
  clear hu8
  refine ww_ist h dX7_addToSums_21 (by decide) (fun v4_9 => [(4, .int v4_9), (3, .int v3_6), (2, .int v2_3), (0, .ref oR), (1, .int p0)]) (fun _ => rfl) 23 rfl (fun v4_9 e => ?_)
  replace hf := bnd_at e hf
  clear e
  refine ww_aload_n h dX7_addToSums_23 rfl 3 rfl 24 rfl ?_
  refine ww_bipush (v := 8) h dX7_addToSums_24 (by decide) 26 rfl ?_
  refine ww_iload_n h dX7_addToSums_26 rfl 4 rfl 27 rfl ?_
  obtain ⟨r_10, hu11, hf⟩ := ob1 hf
  refine ww_cVi h (c_X7_factOf l D ev cy oR aR R oC aC C oP aP P (8 : Int32) p0 _ hu11) ⟨w_817, w_814, w_815, w_816, w_107, ok_X7_factOf⟩ ⟨by decide, by decide⟩ ⟨by decide, by decide⟩ ⟨rfl, rfl⟩ [0, 0, 0] rfl 0 rfl rfl rfl rfl (Nat.le_of_ble_eq_true rfl) dX7_addToSums_27 30 rfl (Gs' := [gX7 cy oR aR R, gX1 cy oC aC C, gX4 cy oP aP P]) rfl ?_
  clear hu11
  refine ww_ist h dX7_addToSums_30 (by decide) (fun v5_12 => [(5, .int v5_12), (4, .int v4_9), (3, .int v3_6), (2, .int v2_3), (0, .ref oR), (1, .int p0)]) (fun _ => rfl) 32 rfl (fun v5_12 e => ?_)
  replace hf := bnd_at e hf
  clear e
  refine ww_aload_n h dX7_addToSums_32 rfl 4 rfl 33 rfl ?_
  refine ww_get h inG7 rfl 0 rfl rfl 2 (by decide) w_267 rfl dX7_addToSums_33 36 rfl ?_
  refine ww_iload_n h dX7_addToSums_36 rfl 5 rfl 37 rfl ?_
  refine ww_iconst (v := 1) h dX7_addToSums_37 (by decide) 38 rfl ?_
  refine ww_iadd h dX7_addToSums_38 39 rfl ?_
  refine ww_aload_n h dX7_addToSums_39 rfl 4 rfl 40 rfl ?_
  refine ww_get h inG7 rfl 0 rfl rfl 2 (by decide) w_267 rfl dX7_addToSums_40 43 rfl ?_
  refine ww_iload_n h dX7_addToSums_43 rfl 5 rfl 44 rfl ?_
  have hi := (gd_some hf).1
  replace hf := (gd_some hf).2
  refine ww_iald h 0 rfl 1 rfl (ix_in hi) dX7_addToSums_44 45 rfl ?_
  clear hi
  refine ww_iload_n h dX7_addToSums_45 rfl 3 rfl 46 rfl ?_
  refine ww_iadd h dX7_addToSums_46 47 rfl ?_
  have hi := (gd_some hf).1
  replace hf := (gd_some hf).2
  refine ww_iast h 0 rfl 1 rfl (ix_in hi) dX7_addToSums_47 48 rfl ?_
  clear hi
  refine ww_nm (fun z => [gX7 cy oR aR z, gX1 cy oC aC C, gX4 cy oP aP P]) (sA R 2 (p0 + (1 : Int32)).toNatClampNeg ((ar R 2 p0.toNatClampNeg) + v2_3)) (fun R_13 e => ?_)
  replace hf := bnd_at e hf
  clear e
  refine ww_aload_n h dX7_addToSums_48 rfl 4 rfl 49 rfl ?_
  refine ww_get h inG7 rfl 0 rfl rfl 3 (by decide) w_268 rfl dX7_addToSums_49 52 rfl ?_
  refine ww_iload_n h dX7_addToSums_52 rfl 5 rfl 53 rfl ?_
  refine ww_iconst (v := 1) h dX7_addToSums_53 (by decide) 54 rfl ?_
  refine ww_iadd h dX7_addToSums_54 55 rfl ?_
  refine ww_aload_n h dX7_addToSums_55 rfl 4 rfl 56 rfl ?_
  refine ww_get h inG7 rfl 0 rfl rfl 3 (by decide) w_268 rfl dX7_addToSums_56 59 rfl ?_
  refine ww_iload_n h dX7_addToSums_59 rfl 5 rfl 60 rfl ?_
  have hi := (gd_some hf).1
  replace hf := (gd_some hf).2
  refine ww_iald h 0 rfl 2 rfl (ix_in hi) dX7_addToSums_60 61 rfl ?_
  clear hi
  refine ww_iload_n h dX7_addToSums_61 rfl 3 rfl 62 rfl ?_
  refine ww_iadd h dX7_addToSums_62 63 rfl ?_
  refine ww_iload_n h dX7_addToSums_63 rfl 2 rfl 64 rfl ?_
  refine ww_isub h dX7_addToSums_64 65 rfl ?_
  have hi := (gd_some hf).1
  replace hf := (gd_some hf).2
  refine ww_iast h 0 rfl 2 rfl (ix_in hi) dX7_addToSums_65 66 rfl ?_
  clear hi
  refine ww_nm (fun z => [gX7 cy oR aR z, gX1 cy oC aC C, gX4 cy oP aP P]) (sA R_13 3 (p0 + (1 : Int32)).toNatClampNeg (((ar R_13 3 p0.toNatClampNeg) + v2_3) - v3_6)) (fun R_14 e => ?_)
  replace hf := bnd_at e hf
  clear e
  refine ww_iconst (v := 1) h dX7_addToSums_66 (by decide) 67 rfl ?_
  refine ww_ist h dX7_addToSums_67 (by decide) (fun v6_15 => [(6, .int v6_15), (5, .int v5_12), (4, .int v4_9), (3, .int v3_6), (2, .int v2_3), (0, .ref oR), (1, .int p0)]) (fun _ => rfl) 69 rfl (fun v6_15 e => ?_)
  replace hf := bnd_at e hf
  clear e
  refine ww_lo [5, 6, 3, 2, 1, 0] (lo' := [(0, .ref oR), (1, .int p0), (3, .int v3_6), (4, .int v4_9), (5, .int v5_12), (6, .int v6_15)]) rfl ?_
  obtain ⟨R_30, h16, hf⟩ := ob1 hf
  refine lp_walk (un2 (fun v6_17 R_18 => ww X D A 7 Q 0 0 69 [(0, .ref oR), (1, .int p0), (3, .int v3_6), (4, .int v4_9), (5, .int v5_12), (6, .int v6_17)] [] [gX7 cy oR aR R_18, gX1 cy oC aC C, gX4 cy oP aP P])) (un1 (fun R_30 => ww X D A 7 Q 0 0 152 [] [] [gX7 cy oR aR R_30, gX1 cy oC aC C, gX4 cy oP aP P])) ?_ _ _ _ h16 ?_
  · clear h16 hf
    intro s16 o16 hf hI16 hE16
    obtain ⟨v6_17, R_18⟩ := s16
    unfold s_X7_addToSums_69_16 at hf
    replace hf := un2_e hf
    show ww X D A 7 Q 0 0 69 [(0, .ref oR), (1, .int p0), (3, .int v3_6), (4, .int v4_9), (5, .int v5_12), (6, .int v6_17)] [] [gX7 cy oR aR R_18, gX1 cy oC aC C, gX4 cy oP aP P]
    refine ww_iload h dX7_addToSums_69 5 rfl 71 rfl ?_
    refine ww_iconst (v := 3) h dX7_addToSums_71 (by decide) 72 rfl ?_
    refine ww_icmp_gt h dX7_addToSums_72 152 (by decide) 75 rfl (fun c => ?_) (fun c => ?_)
    · replace hf := ite_t c hf
      refine ww_lo [] (lo' := []) rfl ?_
      exact hE16 R_18 (Option.some.inj hf).symm
    · replace hf := ite_f c hf
      refine ww_aload_n h dX7_addToSums_75 rfl 0 rfl 76 rfl ?_
      refine ww_get h inG7 rfl 0 rfl rfl 4 (by decide) w_269 rfl dX7_addToSums_76 79 rfl ?_
      refine ww_iload h dX7_addToSums_79 5 rfl 81 rfl ?_
      have hi := (gd_some hf).1
      replace hf := (gd_some hf).2
      have hj19 := ix_lt hi
      refine ww_aaldR h 0 rfl 3 rfl 4 rfl rfl (ix_in hi) dX7_addToSums_81 82 rfl ?_
      clear hi
      refine ww_iload_n h dX7_addToSums_82 rfl 1 rfl 83 rfl ?_
      refine ww_iconst (v := 1) h dX7_addToSums_83 (by decide) 84 rfl ?_
      refine ww_iadd h dX7_addToSums_84 85 rfl ?_
      refine ww_aload_n h dX7_addToSums_85 rfl 0 rfl 86 rfl ?_
      refine ww_get h inG7 rfl 0 rfl rfl 4 (by decide) w_269 rfl dX7_addToSums_86 89 rfl ?_
      refine ww_iload h dX7_addToSums_89 5 rfl 91 rfl ?_
      have hi := (gd_some hf).1
      replace hf := (gd_some hf).2
      have hj20 := ix_lt hi
      refine ww_aaldR h 0 rfl 3 rfl 4 rfl rfl (ix_in hi) dX7_addToSums_91 92 rfl ?_
      clear hi
      refine ww_iload_n h dX7_addToSums_92 rfl 1 rfl 93 rfl ?_
      have hi := (gd_some hf).1
      replace hf := (gd_some hf).2
      refine ww_iald h 0 rfl (10 + v6_17.toNatClampNeg) (gX7_row4 hj20) (ix_in hi) dX7_addToSums_93 94 rfl ?_
      clear hi
      refine ww_aload_n h dX7_addToSums_94 rfl 0 rfl 95 rfl ?_
      refine ww_get h inG7 rfl 0 rfl rfl 8 (by decide) w_273 rfl dX7_addToSums_95 98 rfl ?_
      refine ww_iload_n h dX7_addToSums_98 rfl 1 rfl 99 rfl ?_
      have hi := (gd_some hf).1
      replace hf := (gd_some hf).2
      refine ww_iald h 0 rfl 7 rfl (ix_in hi) dX7_addToSums_99 100 rfl ?_
      clear hi
      refine ww_iload h dX7_addToSums_100 5 rfl 102 rfl ?_
      have hJ110_22 : ∀ (t_21 : Int32), j_X7_addToSums_110_22 R_18 p0 v4_9 v5_12 v6_17 t_21 = some o16 → ww X D A 7 Q 0 0 110 [(0, .ref oR), (1, .int p0), (3, .int v3_6), (4, .int v4_9), (5, .int v5_12), (6, .int v6_17)] [.int t_21, .int (gr R_18 4 v6_17.toNatClampNeg p0.toNatClampNeg), .int (p0 + (1 : Int32)), .ref (aR (500 + v6_17.toNatClampNeg))] [gX7 cy oR aR R_18, gX1 cy oC aC C, gX4 cy oP aP P] := by
        intro t_21 hf
        unfold j_X7_addToSums_110_22 at hf
        refine ww_iadd h dX7_addToSums_110 111 rfl ?_
        have hi := (gd_some hf).1
        replace hf := (gd_some hf).2
        refine ww_iastR h 0 rfl (10 + v6_17.toNatClampNeg) (gX7_row4 hj19) (ix_in hi) (gX7_set4 hj19) (Gs' := [gX7 cy oR aR (sG R_18 4 v6_17.toNatClampNeg (p0 + (1 : Int32)).toNatClampNeg ((gr R_18 4 v6_17.toNatClampNeg p0.toNatClampNeg) + t_21)), gX1 cy oC aC C, gX4 cy oP aP P]) rfl dX7_addToSums_111 112 rfl ?_
        clear hi
        refine ww_nm (fun z => [gX7 cy oR aR z, gX1 cy oC aC C, gX4 cy oP aP P]) (sG R_18 4 v6_17.toNatClampNeg (p0 + (1 : Int32)).toNatClampNeg ((gr R_18 4 v6_17.toNatClampNeg p0.toNatClampNeg) + t_21)) (fun R_23 e => ?_)
        replace hf := bnd_at e hf
        clear e
        refine ww_aload_n h dX7_addToSums_112 rfl 0 rfl 113 rfl ?_
        refine ww_get h inG7 rfl 0 rfl rfl 5 (by decide) w_270 rfl dX7_addToSums_113 116 rfl ?_
        refine ww_iload h dX7_addToSums_116 5 rfl 118 rfl ?_
        have hi := (gd_some hf).1
        replace hf := (gd_some hf).2
        have hj24 := ix_lt hi
        refine ww_aaldR h 0 rfl 4 rfl 4 rfl rfl (ix_in hi) dX7_addToSums_118 119 rfl ?_
        clear hi
        refine ww_iload_n h dX7_addToSums_119 rfl 1 rfl 120 rfl ?_
        refine ww_iconst (v := 1) h dX7_addToSums_120 (by decide) 121 rfl ?_
        refine ww_iadd h dX7_addToSums_121 122 rfl ?_
        refine ww_aload_n h dX7_addToSums_122 rfl 0 rfl 123 rfl ?_
        refine ww_get h inG7 rfl 0 rfl rfl 5 (by decide) w_270 rfl dX7_addToSums_123 126 rfl ?_
        refine ww_iload h dX7_addToSums_126 5 rfl 128 rfl ?_
        have hi := (gd_some hf).1
        replace hf := (gd_some hf).2
        have hj25 := ix_lt hi
        refine ww_aaldR h 0 rfl 4 rfl 4 rfl rfl (ix_in hi) dX7_addToSums_128 129 rfl ?_
        clear hi
        refine ww_iload_n h dX7_addToSums_129 rfl 1 rfl 130 rfl ?_
        have hi := (gd_some hf).1
        replace hf := (gd_some hf).2
        refine ww_iald h 0 rfl (14 + v6_17.toNatClampNeg) (gX7_row5 hj25) (ix_in hi) dX7_addToSums_130 131 rfl ?_
        clear hi
        refine ww_iload h dX7_addToSums_131 4 rfl 133 rfl ?_
        refine ww_iload h dX7_addToSums_133 5 rfl 135 rfl ?_
        have hJ144_27 : ∀ (t_26 : Int32), j_X7_addToSums_144_27 R_23 p0 v6_17 t_26 = some o16 → ww X D A 7 Q 0 0 144 [(0, .ref oR), (1, .int p0), (3, .int v3_6), (4, .int v4_9), (5, .int v5_12), (6, .int v6_17)] [.int t_26, .int (gr R_23 5 v6_17.toNatClampNeg p0.toNatClampNeg), .int (p0 + (1 : Int32)), .ref (aR (600 + v6_17.toNatClampNeg))] [gX7 cy oR aR R_23, gX1 cy oC aC C, gX4 cy oP aP P] := by
          intro t_26 hf
          unfold j_X7_addToSums_144_27 at hf
          refine ww_iadd h dX7_addToSums_144 145 rfl ?_
          have hi := (gd_some hf).1
          replace hf := (gd_some hf).2
          refine ww_iastR h 0 rfl (14 + v6_17.toNatClampNeg) (gX7_row5 hj24) (ix_in hi) (gX7_set5 hj24) (Gs' := [gX7 cy oR aR (sG R_23 5 v6_17.toNatClampNeg (p0 + (1 : Int32)).toNatClampNeg ((gr R_23 5 v6_17.toNatClampNeg p0.toNatClampNeg) + t_26)), gX1 cy oC aC C, gX4 cy oP aP P]) rfl dX7_addToSums_145 146 rfl ?_
          clear hi
          refine ww_nm (fun z => [gX7 cy oR aR z, gX1 cy oC aC C, gX4 cy oP aP P]) (sG R_23 5 v6_17.toNatClampNeg (p0 + (1 : Int32)).toNatClampNeg ((gr R_23 5 v6_17.toNatClampNeg p0.toNatClampNeg) + t_26)) (fun R_28 e => ?_)
          replace hf := bnd_at e hf
          clear e
          refine ww_inc (c := 1) h dX7_addToSums_146 5 rfl (by decide) (by decide) (fun v6_29 => [(6, .int v6_29), (0, .ref oR), (1, .int p0), (3, .int v3_6), (4, .int v4_9), (5, .int v5_12)]) (fun _ => rfl) 149 rfl (fun v6_29 e => ?_)
          replace hf := bnd_at e hf
          clear e
          refine ww_goto h dX7_addToSums_149 69 (by decide) ?_
          refine ww_lo [1, 2, 3, 4, 5, 0] (lo' := [(0, .ref oR), (1, .int p0), (3, .int v3_6), (4, .int v4_9), (5, .int v5_12), (6, .int v6_29)]) rfl ?_
          exact hI16 (v6_29, R_28) (Option.some.inj hf).symm
        refine ww_icmp_ne h dX7_addToSums_135 143 (by decide) 138 rfl (fun c => ?_) (fun c => ?_)
        · replace hf := ite_f c hf
          refine ww_iconst (v := 0) h dX7_addToSums_143 (by decide) 144 rfl ?_
          exact hJ144_27 (0 : Int32) hf
        · replace hf := ite_t c hf
          refine ww_iload h dX7_addToSums_138 3 rfl 140 rfl ?_
          refine ww_goto h dX7_addToSums_140 144 (by decide) ?_
          exact hJ144_27 v4_9 hf
      refine ww_icmp_ne h dX7_addToSums_102 109 (by decide) 105 rfl (fun c => ?_) (fun c => ?_)
      · replace hf := ite_f c hf
        refine ww_iconst (v := 0) h dX7_addToSums_109 (by decide) 110 rfl ?_
        exact hJ110_22 (0 : Int32) hf
      · replace hf := ite_t c hf
        refine ww_iload_n h dX7_addToSums_105 rfl 2 rfl 106 rfl ?_
        refine ww_goto h dX7_addToSums_106 110 (by decide) ?_
        exact hJ110_22 v3_6 hf
  · clear h16
    show ww X D A 7 Q 0 0 152 [] [] [gX7 cy oR aR R_30, gX1 cy oC aC C, gX4 cy oP aP P]
    obtain rfl := Option.some.inj hf
    exact ww_vret h dX7_addToSums_152 hQ ⟨rfl, rfl⟩
theorem dX7_measure_0 : decode cX7_measure 0 = .ok (.aload_n 0, 1) := by decide +kernel
theorem dX7_measure_1 : decode cX7_measure 1 = .ok (.iconst 0, 1) := by decide +kernel
theorem dX7_measure_2 : decode cX7_measure 2 = .ok (.putfield 90, 3) := by decide +kernel
theorem dX7_measure_5 : decode cX7_measure 5 = .ok (.aload_n 0, 1) := by decide +kernel
theorem dX7_measure_6 : decode cX7_measure 6 = .ok (.iconst 0, 1) := by decide +kernel
theorem dX7_measure_7 : decode cX7_measure 7 = .ok (.putfield 94, 3) := by decide +kernel
theorem dX7_measure_10 : decode cX7_measure 10 = .ok (.aload_n 0, 1) := by decide +kernel
theorem dX7_measure_11 : decode cX7_measure 11 = .ok (.iconst 0, 1) := by decide +kernel
theorem dX7_measure_12 : decode cX7_measure 12 = .ok (.putfield 97, 3) := by decide +kernel
theorem dX7_measure_15 : decode cX7_measure 15 = .ok (.aload_n 0, 1) := by decide +kernel
theorem dX7_measure_16 : decode cX7_measure 16 = .ok (.iconst 0, 1) := by decide +kernel
theorem dX7_measure_17 : decode cX7_measure 17 = .ok (.putfield 100, 3) := by decide +kernel
theorem dX7_measure_20 : decode cX7_measure 20 = .ok (.aload_n 0, 1) := by decide +kernel
theorem dX7_measure_21 : decode cX7_measure 21 = .ok (.iconst 0, 1) := by decide +kernel
theorem dX7_measure_22 : decode cX7_measure 22 = .ok (.putfield 103, 3) := by decide +kernel
theorem dX7_measure_25 : decode cX7_measure 25 = .ok (.aload_n 0, 1) := by decide +kernel
theorem dX7_measure_26 : decode cX7_measure 26 = .ok (.iconst 0, 1) := by decide +kernel
theorem dX7_measure_27 : decode cX7_measure 27 = .ok (.putfield 106, 3) := by decide +kernel
theorem dX7_measure_30 : decode cX7_measure 30 = .ok (.aload_n 0, 1) := by decide +kernel
theorem dX7_measure_31 : decode cX7_measure 31 = .ok (.getfield 9, 3) := by decide +kernel
theorem dX7_measure_34 : decode cX7_measure 34 = .ok (.iload_n 2, 1) := by decide +kernel
theorem dX7_measure_35 : decode cX7_measure 35 = .ok (.iconst 1, 1) := by decide +kernel
theorem dX7_measure_36 : decode cX7_measure 36 = .ok (.iadd, 1) := by decide +kernel
theorem dX7_measure_37 : decode cX7_measure 37 = .ok (.iaload, 1) := by decide +kernel
theorem dX7_measure_38 : decode cX7_measure 38 = .ok (.aload_n 0, 1) := by decide +kernel
theorem dX7_measure_39 : decode cX7_measure 39 = .ok (.getfield 9, 3) := by decide +kernel
theorem dX7_measure_42 : decode cX7_measure 42 = .ok (.iload_n 1, 1) := by decide +kernel
theorem dX7_measure_43 : decode cX7_measure 43 = .ok (.iaload, 1) := by decide +kernel
theorem dX7_measure_44 : decode cX7_measure 44 = .ok (.isub, 1) := by decide +kernel
theorem dX7_measure_45 : decode cX7_measure 45 = .ok (.aload_n 0, 1) := by decide +kernel
theorem dX7_measure_46 : decode cX7_measure 46 = .ok (.getfield 26, 3) := by decide +kernel
theorem dX7_measure_49 : decode cX7_measure 49 = .ok (.iload_n 2, 1) := by decide +kernel
theorem dX7_measure_50 : decode cX7_measure 50 = .ok (.iaload, 1) := by decide +kernel
theorem dX7_measure_51 : decode cX7_measure 51 = .ok (.isub, 1) := by decide +kernel
theorem dX7_measure_52 : decode cX7_measure 52 = .ok (.aload_n 0, 1) := by decide +kernel
theorem dX7_measure_53 : decode cX7_measure 53 = .ok (.getfield 46, 3) := by decide +kernel
theorem dX7_measure_56 : decode cX7_measure 56 = .ok (.getfield 84, 3) := by decide +kernel
theorem dX7_measure_59 : decode cX7_measure 59 = .ok (.isub, 1) := by decide +kernel
theorem dX7_measure_60 : decode cX7_measure 60 = .ok (.istore_n 3, 1) := by decide +kernel
theorem dX7_measure_61 : decode cX7_measure 61 = .ok (.iload_n 3, 1) := by decide +kernel
theorem dX7_measure_62 : decode cX7_measure 62 = .ok (.ifCond .le 57, 3) := by decide +kernel
theorem dX7_measure_65 : decode cX7_measure 65 = .ok (.iload_n 2, 1) := by decide +kernel
theorem dX7_measure_66 : decode cX7_measure 66 = .ok (.iload_n 1, 1) := by decide +kernel
theorem dX7_measure_67 : decode cX7_measure 67 = .ok (.if_icmp .le 52, 3) := by decide +kernel
theorem dX7_measure_70 : decode cX7_measure 70 = .ok (.aload_n 0, 1) := by decide +kernel
theorem dX7_measure_71 : decode cX7_measure 71 = .ok (.getfield 35, 3) := by decide +kernel
theorem dX7_measure_74 : decode cX7_measure 74 = .ok (.iload_n 2, 1) := by decide +kernel
theorem dX7_measure_75 : decode cX7_measure 75 = .ok (.baload, 1) := by decide +kernel
theorem dX7_measure_76 : decode cX7_measure 76 = .ok (.ifCond .eq 43, 3) := by decide +kernel
theorem dX7_measure_79 : decode cX7_measure 79 = .ok (.aload_n 0, 1) := by decide +kernel
theorem dX7_measure_80 : decode cX7_measure 80 = .ok (.iconst 1, 1) := by decide +kernel
theorem dX7_measure_81 : decode cX7_measure 81 = .ok (.putfield 90, 3) := by decide +kernel
theorem dX7_measure_84 : decode cX7_measure 84 = .ok (.aload_n 0, 1) := by decide +kernel
theorem dX7_measure_85 : decode cX7_measure 85 = .ok (.aload_n 0, 1) := by decide +kernel
theorem dX7_measure_86 : decode cX7_measure 86 = .ok (.getfield 46, 3) := by decide +kernel
theorem dX7_measure_89 : decode cX7_measure 89 = .ok (.getfield 109, 3) := by decide +kernel
theorem dX7_measure_92 : decode cX7_measure 92 = .ok (.iconst 0, 1) := by decide +kernel
theorem dX7_measure_93 : decode cX7_measure 93 = .ok (.iaload, 1) := by decide +kernel
theorem dX7_measure_94 : decode cX7_measure 94 = .ok (.putfield 106, 3) := by decide +kernel
theorem dX7_measure_97 : decode cX7_measure 97 = .ok (.aload_n 0, 1) := by decide +kernel
theorem dX7_measure_98 : decode cX7_measure 98 = .ok (.getfield 9, 3) := by decide +kernel
theorem dX7_measure_101 : decode cX7_measure 101 = .ok (.iload_n 2, 1) := by decide +kernel
theorem dX7_measure_102 : decode cX7_measure 102 = .ok (.iaload, 1) := by decide +kernel
theorem dX7_measure_103 : decode cX7_measure 103 = .ok (.aload_n 0, 1) := by decide +kernel
theorem dX7_measure_104 : decode cX7_measure 104 = .ok (.getfield 9, 3) := by decide +kernel
theorem dX7_measure_107 : decode cX7_measure 107 = .ok (.iload_n 1, 1) := by decide +kernel
theorem dX7_measure_108 : decode cX7_measure 108 = .ok (.iaload, 1) := by decide +kernel
theorem dX7_measure_109 : decode cX7_measure 109 = .ok (.isub, 1) := by decide +kernel
theorem dX7_measure_110 : decode cX7_measure 110 = .ok (.aload_n 0, 1) := by decide +kernel
theorem dX7_measure_111 : decode cX7_measure 111 = .ok (.getfield 46, 3) := by decide +kernel
theorem dX7_measure_114 : decode cX7_measure 114 = .ok (.getfield 84, 3) := by decide +kernel
theorem dX7_measure_117 : decode cX7_measure 117 = .ok (.isub, 1) := by decide +kernel
theorem dX7_measure_118 : decode cX7_measure 118 = .ok (.istore_n 3, 1) := by decide +kernel
theorem dX7_measure_119 : decode cX7_measure 119 = .ok (.iload_n 3, 1) := by decide +kernel
theorem dX7_measure_120 : decode cX7_measure 120 = .ok (.ifCond .le 13, 3) := by decide +kernel
theorem dX7_measure_123 : decode cX7_measure 123 = .ok (.aload_n 0, 1) := by decide +kernel
theorem dX7_measure_124 : decode cX7_measure 124 = .ok (.iload_n 1, 1) := by decide +kernel
theorem dX7_measure_125 : decode cX7_measure 125 = .ok (.iload_n 2, 1) := by decide +kernel
theorem dX7_measure_126 : decode cX7_measure 126 = .ok (.iload_n 3, 1) := by decide +kernel
theorem dX7_measure_127 : decode cX7_measure 127 = .ok (.invokevirtual 112, 3) := by decide +kernel
theorem dX7_measure_130 : decode cX7_measure 130 = .ok (.goto 28, 3) := by decide +kernel
theorem dX7_measure_133 : decode cX7_measure 133 = .ok (.iload_n 3, 1) := by decide +kernel
theorem dX7_measure_134 : decode cX7_measure 134 = .ok (.ifCond .ge 24, 3) := by decide +kernel
theorem dX7_measure_137 : decode cX7_measure 137 = .ok (.iload_n 2, 1) := by decide +kernel
theorem dX7_measure_138 : decode cX7_measure 138 = .ok (.aload_n 0, 1) := by decide +kernel
theorem dX7_measure_139 : decode cX7_measure 139 = .ok (.getfield 46, 3) := by decide +kernel
theorem dX7_measure_142 : decode cX7_measure 142 = .ok (.getfield 50, 3) := by decide +kernel
theorem dX7_measure_145 : decode cX7_measure 145 = .ok (.iconst 1, 1) := by decide +kernel
theorem dX7_measure_146 : decode cX7_measure 146 = .ok (.isub, 1) := by decide +kernel
theorem dX7_measure_147 : decode cX7_measure 147 = .ok (.if_icmp .ge 11, 3) := by decide +kernel
theorem dX7_measure_150 : decode cX7_measure 150 = .ok (.aload_n 0, 1) := by decide +kernel
theorem dX7_measure_151 : decode cX7_measure 151 = .ok (.iload_n 1, 1) := by decide +kernel
theorem dX7_measure_152 : decode cX7_measure 152 = .ok (.iload_n 2, 1) := by decide +kernel
theorem dX7_measure_153 : decode cX7_measure 153 = .ok (.iload_n 3, 1) := by decide +kernel
theorem dX7_measure_154 : decode cX7_measure 154 = .ok (.ineg, 1) := by decide +kernel
theorem dX7_measure_155 : decode cX7_measure 155 = .ok (.invokevirtual 116, 3) := by decide +kernel
theorem dX7_measure_158 : decode cX7_measure 158 = .ok (.aload_n 0, 1) := by decide +kernel
theorem dX7_measure_159 : decode cX7_measure 159 = .ok (.getfield 39, 3) := by decide +kernel
theorem dX7_measure_162 : decode cX7_measure 162 = .ok (.iload_n 2, 1) := by decide +kernel
theorem dX7_measure_163 : decode cX7_measure 163 = .ok (.baload, 1) := by decide +kernel
theorem dX7_measure_164 : decode cX7_measure 164 = .ok (.ifCond .ne 21, 3) := by decide +kernel
theorem dX7_measure_167 : decode cX7_measure 167 = .ok (.aload_n 0, 1) := by decide +kernel
theorem dX7_measure_168 : decode cX7_measure 168 = .ok (.dup, 1) := by decide +kernel
theorem dX7_measure_169 : decode cX7_measure 169 = .ok (.getfield 106, 3) := by decide +kernel
theorem dX7_measure_172 : decode cX7_measure 172 = .ok (.aload_n 0, 1) := by decide +kernel
theorem dX7_measure_173 : decode cX7_measure 173 = .ok (.getfield 46, 3) := by decide +kernel
theorem dX7_measure_176 : decode cX7_measure 176 = .ok (.getfield 109, 3) := by decide +kernel
theorem dX7_measure_179 : decode cX7_measure 179 = .ok (.iconst 2, 1) := by decide +kernel
theorem dX7_measure_180 : decode cX7_measure 180 = .ok (.iaload, 1) := by decide +kernel
theorem dX7_measure_181 : decode cX7_measure 181 = .ok (.iadd, 1) := by decide +kernel
theorem dX7_measure_182 : decode cX7_measure 182 = .ok (.putfield 106, 3) := by decide +kernel
theorem dX7_measure_185 : decode cX7_measure 185 = .ok (.aload_n 0, 1) := by decide +kernel
theorem dX7_measure_186 : decode cX7_measure 186 = .ok (.aload_n 0, 1) := by decide +kernel
theorem dX7_measure_187 : decode cX7_measure 187 = .ok (.getfield 94, 3) := by decide +kernel
theorem dX7_measure_190 : decode cX7_measure 190 = .ok (.ifCond .eq 8, 3) := by decide +kernel
theorem dX7_measure_193 : decode cX7_measure 193 = .ok (.iload_n 2, 1) := by decide +kernel
theorem dX7_measure_194 : decode cX7_measure 194 = .ok (.iload_n 1, 1) := by decide +kernel
theorem dX7_measure_195 : decode cX7_measure 195 = .ok (.if_icmp .ne 7, 3) := by decide +kernel
theorem dX7_measure_198 : decode cX7_measure 198 = .ok (.iconst 1, 1) := by decide +kernel
theorem dX7_measure_199 : decode cX7_measure 199 = .ok (.goto 4, 3) := by decide +kernel
theorem dX7_measure_202 : decode cX7_measure 202 = .ok (.iconst 0, 1) := by decide +kernel
theorem dX7_measure_203 : decode cX7_measure 203 = .ok (.putfield 119, 3) := by decide +kernel
theorem dX7_measure_206 : decode cX7_measure 206 = .ok (.return_, 1) := by decide +kernel
theorem ok_X7_measure : okY RX7 yX7_measure 2 := ⟨rfl, by decide, by decide, by decide +kernel⟩
def j_X7_measure_198_15 (R_13 : OV) : Option (OV) := bnd (sI R_13 13 (1 : Int32)) (fun R_16 => some R_16)
def j_X7_measure_185_14 (p0 : Int32) (p1 : Int32) (R_13 : OV) : Option (OV) := (if (iv R_13 12) = 0 then j_X7_measure_198_15 R_13 else (if p1 = p0 then j_X7_measure_198_15 R_13 else bnd (sI R_13 13 (0 : Int32)) (fun R_17 => some R_17)))
def j_X7_measure_158_12 (oP : Nat) (P : OV) (p0 : Int32) (p1 : Int32) (R_11 : OV) : Option (OV) := gd (ix p1 40) ((if (ar R_11 10 p1.toNatClampNeg) = 0 then gd (decide (nv R_11 1 = oP)) (gd (ix (2 : Int32) 3) (bnd (sI R_11 17 ((iv R_11 17) + (ar P 3 (2 : Int32).toNatClampNeg))) (fun R_18 => j_X7_measure_185_14 p0 p1 R_18))) else j_X7_measure_185_14 p0 p1 R_11))
def j_X7_measure_119_10 (oP : Nat) (P : OV) (p0 : Int32) (p1 : Int32) (v3_8 : Int32) (R_9 : OV) : Option (OV) := (if v3_8 ≤ 0 then (if 0 ≤ v3_8 then j_X7_measure_158_12 oP P p0 p1 R_9 else gd (decide (nv R_9 1 = oP)) ((if ((iv P 4) - (1 : Int32)) ≤ p1 then j_X7_measure_158_12 oP P p0 p1 R_9 else (f_X7_openGaps R_9 oP P p0 p1 (-v3_8)).bind (un1 (fun R_19 => j_X7_measure_158_12 oP P p0 p1 R_19))))) else (f_X7_takeAway R_9 oP P p0 p1 v3_8).bind (un1 (fun R_21 => j_X7_measure_158_12 oP P p0 p1 R_21)))
def f_X7_measure (R : OV) (oP : Nat) (P : OV) (p0 : Int32) (p1 : Int32) : Option (OV) := bnd (sI R 11 (0 : Int32)) (fun R_1 => bnd (sI R_1 12 (0 : Int32)) (fun R_2 => bnd (sI R_2 14 (0 : Int32)) (fun R_3 => bnd (sI R_3 15 (0 : Int32)) (fun R_4 => bnd (sI R_4 16 (0 : Int32)) (fun R_5 => bnd (sI R_5 17 (0 : Int32)) (fun R_6 => gd (ix (p1 + (1 : Int32)) 41) (gd (ix p0 41) (gd (ix p1 40) (gd (decide (nv R_6 1 = oP)) (bnd ((((ar R_6 2 (p1 + (1 : Int32)).toNatClampNeg) - (ar R_6 2 p0.toNatClampNeg)) - (ar R_6 6 p1.toNatClampNeg)) - (iv P 5)) (fun v3_7 => (if v3_7 ≤ 0 then j_X7_measure_119_10 oP P p0 p1 v3_7 R_6 else (if p1 ≤ p0 then j_X7_measure_119_10 oP P p0 p1 v3_7 R_6 else gd (ix p1 40) ((if (ar R_6 9 p1.toNatClampNeg) = 0 then j_X7_measure_119_10 oP P p0 p1 v3_7 R_6 else bnd (sI R_6 11 (1 : Int32)) (fun R_23 => gd (decide (nv R_23 1 = oP)) (gd (ix (0 : Int32) 3) (bnd (sI R_23 17 (ar P 3 (0 : Int32).toNatClampNeg)) (fun R_24 => gd (ix p1 41) (gd (ix p0 41) (gd (decide (nv R_24 1 = oP)) (bnd (((ar R_24 2 p1.toNatClampNeg) - (ar R_24 2 p0.toNatClampNeg)) - (iv P 5)) (fun v3_25 => j_X7_measure_119_10 oP P p0 p1 v3_25 R_24)))))))))))))))))))))))
def r_X7_measure : Room := { frames := 2, cells := 0, slots := 0, locals := 48 }
set_option maxHeartbeats 4000000 in
set_option maxRecDepth 100000 in
theorem c_X7_measure (l : Launch) (D : va_G) (ev : EvT) (cy : Nat → ClassId) (oR : Nat) (aR : Nat → Nat) (R : OV) (oP : Nat) (aP : Nat → Nat) (P : OV) (p0 : Int32) (p1 : Int32) (o : OV) (hf : f_X7_measure R oP P p0 p1 = some o) : Fn l yX7_measure cX7_measure 4 none r_X7_measure D ev cy [.ref oR, .int p0, .int p1] [gX7 cy oR aR R, gX4 cy oP aP P] (fun v G => v = none ∧ G = [gX7 cy oR aR o, gX4 cy oP aP P]) := by
  refine Fn_of (by decide) (Nat.le_of_ble_eq_true rfl) (fun X A Q h hQ _ => ?_)
  unfold f_X7_measure at hf
  show ww X D A 4 Q 0 0 0 [(0, .ref oR), (1, .int p0), (2, .int p1)] [] [gX7 cy oR aR R, gX4 cy oP aP P]
  refine ww_aload_n h dX7_measure_0 rfl 0 rfl 1 rfl ?_
  refine ww_iconst (v := 0) h dX7_measure_1 (by decide) 2 rfl ?_
  refine ww_put (ty := .boolean) h inG7 tyX7_ok nmX7 rfl 0 rfl rfl 11 (by decide) w_277 rfl (by decide +kernel) (by decide) (by decide) (Nat.le_of_ble_eq_true rfl) (Nat.le_of_ble_eq_true rfl) dX7_measure_2 5 rfl ?_
  refine ww_nm (fun z => [gX7 cy oR aR z, gX4 cy oP aP P]) (sI R 11 (0 : Int32)) (fun R_1 e => ?_)
  replace hf := bnd_at e hf
  clear e
  refine ww_aload_n h dX7_measure_5 rfl 0 rfl 6 rfl ?_
  refine ww_iconst (v := 0) h dX7_measure_6 (by decide) 7 rfl ?_
  refine ww_put (ty := .boolean) h inG7 tyX7_ok nmX7 rfl 0 rfl rfl 12 (by decide) w_281 rfl (by decide +kernel) (by decide) (by decide) (Nat.le_of_ble_eq_true rfl) (Nat.le_of_ble_eq_true rfl) dX7_measure_7 10 rfl ?_
  refine ww_nm (fun z => [gX7 cy oR aR z, gX4 cy oP aP P]) (sI R_1 12 (0 : Int32)) (fun R_2 e => ?_)
  replace hf := bnd_at e hf
  clear e
  refine ww_aload_n h dX7_measure_10 rfl 0 rfl 11 rfl ?_
  refine ww_iconst (v := 0) h dX7_measure_11 (by decide) 12 rfl ?_
  refine ww_put (ty := .int) h inG7 tyX7_ok nmX7 rfl 0 rfl rfl 14 (by decide) w_287 rfl (by decide +kernel) rfl rfl (Nat.le_of_ble_eq_true rfl) (Nat.le_of_ble_eq_true rfl) dX7_measure_12 15 rfl ?_
  refine ww_nm (fun z => [gX7 cy oR aR z, gX4 cy oP aP P]) (sI R_2 14 (0 : Int32)) (fun R_3 e => ?_)
  replace hf := bnd_at e hf
  clear e
  refine ww_aload_n h dX7_measure_15 rfl 0 rfl 16 rfl ?_
  refine ww_iconst (v := 0) h dX7_measure_16 (by decide) 17 rfl ?_
  refine ww_put (ty := .int) h inG7 tyX7_ok nmX7 rfl 0 rfl rfl 15 (by decide) w_289 rfl (by decide +kernel) rfl rfl (Nat.le_of_ble_eq_true rfl) (Nat.le_of_ble_eq_true rfl) dX7_measure_17 20 rfl ?_
  refine ww_nm (fun z => [gX7 cy oR aR z, gX4 cy oP aP P]) (sI R_3 15 (0 : Int32)) (fun R_4 e => ?_)
  replace hf := bnd_at e hf
  clear e
  refine ww_aload_n h dX7_measure_20 rfl 0 rfl 21 rfl ?_
  refine ww_iconst (v := 0) h dX7_measure_21 (by decide) 22 rfl ?_
  refine ww_put (ty := .int) h inG7 tyX7_ok nmX7 rfl 0 rfl rfl 16 (by decide) w_291 rfl (by decide +kernel) rfl rfl (Nat.le_of_ble_eq_true rfl) (Nat.le_of_ble_eq_true rfl) dX7_measure_22 25 rfl ?_
  refine ww_nm (fun z => [gX7 cy oR aR z, gX4 cy oP aP P]) (sI R_4 16 (0 : Int32)) (fun R_5 e => ?_)
  replace hf := bnd_at e hf
  clear e
  refine ww_aload_n h dX7_measure_25 rfl 0 rfl 26 rfl ?_
  refine ww_iconst (v := 0) h dX7_measure_26 (by decide) 27 rfl ?_
  refine ww_put (ty := .int) h inG7 tyX7_ok nmX7 rfl 0 rfl rfl 17 (by decide) w_294 rfl (by decide +kernel) rfl rfl (Nat.le_of_ble_eq_true rfl) (Nat.le_of_ble_eq_true rfl) dX7_measure_27 30 rfl ?_
  refine ww_nm (fun z => [gX7 cy oR aR z, gX4 cy oP aP P]) (sI R_5 17 (0 : Int32)) (fun R_6 e => ?_)
  replace hf := bnd_at e hf
  clear e
  refine ww_aload_n h dX7_measure_30 rfl 0 rfl 31 rfl ?_
  refine ww_get h inG7 rfl 0 rfl rfl 2 (by decide) w_267 rfl dX7_measure_31 34 rfl ?_
  refine ww_iload_n h dX7_measure_34 rfl 2 rfl 35 rfl ?_
  refine ww_iconst (v := 1) h dX7_measure_35 (by decide) 36 rfl ?_
  refine ww_iadd h dX7_measure_36 37 rfl ?_
  have hi := (gd_some hf).1
  replace hf := (gd_some hf).2
  refine ww_iald h 0 rfl 1 rfl (ix_in hi) dX7_measure_37 38 rfl ?_
  clear hi
  refine ww_aload_n h dX7_measure_38 rfl 0 rfl 39 rfl ?_
  refine ww_get h inG7 rfl 0 rfl rfl 2 (by decide) w_267 rfl dX7_measure_39 42 rfl ?_
  refine ww_iload_n h dX7_measure_42 rfl 1 rfl 43 rfl ?_
  have hi := (gd_some hf).1
  replace hf := (gd_some hf).2
  refine ww_iald h 0 rfl 1 rfl (ix_in hi) dX7_measure_43 44 rfl ?_
  clear hi
  refine ww_isub h dX7_measure_44 45 rfl ?_
  refine ww_aload_n h dX7_measure_45 rfl 0 rfl 46 rfl ?_
  refine ww_get h inG7 rfl 0 rfl rfl 6 (by decide) w_271 rfl dX7_measure_46 49 rfl ?_
  refine ww_iload_n h dX7_measure_49 rfl 2 rfl 50 rfl ?_
  have hi := (gd_some hf).1
  replace hf := (gd_some hf).2
  refine ww_iald h 0 rfl 5 rfl (ix_in hi) dX7_measure_50 51 rfl ?_
  clear hi
  refine ww_isub h dX7_measure_51 52 rfl ?_
  refine ww_aload_n h dX7_measure_52 rfl 0 rfl 53 rfl ?_
  refine ww_get h inG7 rfl 0 rfl rfl 1 (by decide) w_266 rfl dX7_measure_53 56 rfl ?_
  have hi := (gd_some hf).1
  replace hf := (gd_some hf).2
  refine ww_ref hi ?_
  clear hi
  refine ww_get h inG4 rfl 1 rfl rfl 5 (by decide) w_211 rfl dX7_measure_56 59 rfl ?_
  refine ww_isub h dX7_measure_59 60 rfl ?_
  refine ww_ist_n h dX7_measure_60 rfl (by decide) (fun v3_7 => [(3, .int v3_7), (0, .ref oR), (1, .int p0), (2, .int p1)]) (fun _ => rfl) 61 rfl (fun v3_7 e => ?_)
  replace hf := bnd_at e hf
  clear e
  refine ww_iload_n h dX7_measure_61 rfl 0 rfl 62 rfl ?_
  have hJ119_10 : ∀ (v3_8 : Int32) (R_9 : OV), j_X7_measure_119_10 oP P p0 p1 v3_8 R_9 = some o → ww X D A 4 Q 0 0 119 [(0, .ref oR), (1, .int p0), (2, .int p1), (3, .int v3_8)] [] [gX7 cy oR aR R_9, gX4 cy oP aP P] := by
    intro v3_8 R_9 hf
    unfold j_X7_measure_119_10 at hf
    refine ww_iload_n h dX7_measure_119 rfl 3 rfl 120 rfl ?_
    have hJ158_12 : ∀ (R_11 : OV), j_X7_measure_158_12 oP P p0 p1 R_11 = some o → ww X D A 4 Q 0 0 158 [(0, .ref oR), (1, .int p0), (2, .int p1)] [] [gX7 cy oR aR R_11, gX4 cy oP aP P] := by
      intro R_11 hf
      unfold j_X7_measure_158_12 at hf
      refine ww_aload_n h dX7_measure_158 rfl 0 rfl 159 rfl ?_
      refine ww_get h inG7 rfl 0 rfl rfl 10 (by decide) w_275 rfl dX7_measure_159 162 rfl ?_
      refine ww_iload_n h dX7_measure_162 rfl 2 rfl 163 rfl ?_
      have hi := (gd_some hf).1
      replace hf := (gd_some hf).2
      refine ww_zald h 0 rfl 9 rfl (ix_in hi) dX7_measure_163 164 rfl ?_
      clear hi
      have hJ185_14 : ∀ (R_13 : OV), j_X7_measure_185_14 p0 p1 R_13 = some o → ww X D A 4 Q 0 0 185 [(0, .ref oR), (1, .int p0), (2, .int p1)] [] [gX7 cy oR aR R_13, gX4 cy oP aP P] := by
        intro R_13 hf
        unfold j_X7_measure_185_14 at hf
        refine ww_aload_n h dX7_measure_185 rfl 0 rfl 186 rfl ?_
        refine ww_aload_n h dX7_measure_186 rfl 0 rfl 187 rfl ?_
        refine ww_get h inG7 rfl 0 rfl rfl 12 (by decide) w_281 rfl dX7_measure_187 190 rfl ?_
        have hJ198_15 : ∀ (_ : Unit), j_X7_measure_198_15 R_13 = some o → ww X D A 4 Q 0 0 198 [] [.ref oR] [gX7 cy oR aR R_13, gX4 cy oP aP P] := by
          intro _ hf
          unfold j_X7_measure_198_15 at hf
          refine ww_iconst (v := 1) h dX7_measure_198 (by decide) 199 rfl ?_
          refine ww_goto h dX7_measure_199 203 (by decide) ?_
          refine ww_put (ty := .boolean) h inG7 tyX7_ok nmX7 rfl 0 rfl rfl 13 (by decide) w_284 rfl (by decide +kernel) (by decide) (by decide) (Nat.le_of_ble_eq_true rfl) (Nat.le_of_ble_eq_true rfl) dX7_measure_203 206 rfl ?_
          refine ww_nm (fun z => [gX7 cy oR aR z, gX4 cy oP aP P]) (sI R_13 13 (1 : Int32)) (fun R_16 e => ?_)
          replace hf := bnd_at e hf
          clear e
          obtain rfl := Option.some.inj hf
          exact ww_vret h dX7_measure_206 hQ ⟨rfl, rfl⟩
        refine ww_if_eq h dX7_measure_190 198 (by decide) 193 rfl (fun c => ?_) (fun c => ?_)
        · replace hf := ite_t c hf
          refine ww_lo [] (lo' := []) rfl ?_
          exact hJ198_15 () hf
        · replace hf := ite_f c hf
          refine ww_iload_n h dX7_measure_193 rfl 2 rfl 194 rfl ?_
          refine ww_iload_n h dX7_measure_194 rfl 1 rfl 195 rfl ?_
          refine ww_icmp_ne h dX7_measure_195 202 (by decide) 198 rfl (fun c => ?_) (fun c => ?_)
          · replace hf := ite_f c hf
            refine ww_iconst (v := 0) h dX7_measure_202 (by decide) 203 rfl ?_
            refine ww_put (ty := .boolean) h inG7 tyX7_ok nmX7 rfl 0 rfl rfl 13 (by decide) w_284 rfl (by decide +kernel) (by decide) (by decide) (Nat.le_of_ble_eq_true rfl) (Nat.le_of_ble_eq_true rfl) dX7_measure_203 206 rfl ?_
            refine ww_nm (fun z => [gX7 cy oR aR z, gX4 cy oP aP P]) (sI R_13 13 (0 : Int32)) (fun R_17 e => ?_)
            replace hf := bnd_at e hf
            clear e
            obtain rfl := Option.some.inj hf
            exact ww_vret h dX7_measure_206 hQ ⟨rfl, rfl⟩
          · replace hf := ite_t c hf
            refine ww_lo [] (lo' := []) rfl ?_
            exact hJ198_15 () hf
      refine ww_if_ne h dX7_measure_164 185 (by decide) 167 rfl (fun c => ?_) (fun c => ?_)
      · replace hf := ite_f c hf
        exact hJ185_14 R_11 hf
      · replace hf := ite_t c hf
        refine ww_aload_n h dX7_measure_167 rfl 0 rfl 168 rfl ?_
        refine ww_dup h dX7_measure_168 rfl 169 rfl ?_
        refine ww_get h inG7 rfl 0 rfl rfl 17 (by decide) w_294 rfl dX7_measure_169 172 rfl ?_
        refine ww_aload_n h dX7_measure_172 rfl 0 rfl 173 rfl ?_
        refine ww_get h inG7 rfl 0 rfl rfl 1 (by decide) w_266 rfl dX7_measure_173 176 rfl ?_
        have hi := (gd_some hf).1
        replace hf := (gd_some hf).2
        refine ww_ref hi ?_
        clear hi
        refine ww_get h inG4 rfl 1 rfl rfl 3 (by decide) w_205 rfl dX7_measure_176 179 rfl ?_
        refine ww_iconst (v := 2) h dX7_measure_179 (by decide) 180 rfl ?_
        have hi := (gd_some hf).1
        replace hf := (gd_some hf).2
        refine ww_iald h 1 rfl 4 rfl (ix_in hi) dX7_measure_180 181 rfl ?_
        clear hi
        refine ww_iadd h dX7_measure_181 182 rfl ?_
        refine ww_put (ty := .int) h inG7 tyX7_ok nmX7 rfl 0 rfl rfl 17 (by decide) w_294 rfl (by decide +kernel) rfl rfl (Nat.le_of_ble_eq_true rfl) (Nat.le_of_ble_eq_true rfl) dX7_measure_182 185 rfl ?_
        refine ww_nm (fun z => [gX7 cy oR aR z, gX4 cy oP aP P]) (sI R_11 17 ((iv R_11 17) + (ar P 3 (2 : Int32).toNatClampNeg))) (fun R_18 e => ?_)
        replace hf := bnd_at e hf
        clear e
        exact hJ185_14 R_18 hf
    refine ww_if_le h dX7_measure_120 133 (by decide) 123 rfl (fun c => ?_) (fun c => ?_)
    · replace hf := ite_t c hf
      refine ww_iload_n h dX7_measure_133 rfl 3 rfl 134 rfl ?_
      refine ww_if_ge h dX7_measure_134 158 (by decide) 137 rfl (fun c => ?_) (fun c => ?_)
      · replace hf := ite_t c hf
        refine ww_lo [0, 1, 2] (lo' := [(0, .ref oR), (1, .int p0), (2, .int p1)]) rfl ?_
        exact hJ158_12 R_9 hf
      · replace hf := ite_f c hf
        refine ww_iload_n h dX7_measure_137 rfl 2 rfl 138 rfl ?_
        refine ww_aload_n h dX7_measure_138 rfl 0 rfl 139 rfl ?_
        refine ww_get h inG7 rfl 0 rfl rfl 1 (by decide) w_266 rfl dX7_measure_139 142 rfl ?_
        have hi := (gd_some hf).1
        replace hf := (gd_some hf).2
        refine ww_ref hi ?_
        clear hi
        refine ww_get h inG4 rfl 1 rfl rfl 4 (by decide) w_207 rfl dX7_measure_142 145 rfl ?_
        refine ww_iconst (v := 1) h dX7_measure_145 (by decide) 146 rfl ?_
        refine ww_isub h dX7_measure_146 147 rfl ?_
        refine ww_icmp_ge h dX7_measure_147 158 (by decide) 150 rfl (fun c => ?_) (fun c => ?_)
        · replace hf := ite_t c hf
          refine ww_lo [0, 1, 2] (lo' := [(0, .ref oR), (1, .int p0), (2, .int p1)]) rfl ?_
          exact hJ158_12 R_9 hf
        · replace hf := ite_f c hf
          refine ww_aload_n h dX7_measure_150 rfl 0 rfl 151 rfl ?_
          refine ww_iload_n h dX7_measure_151 rfl 1 rfl 152 rfl ?_
          refine ww_iload_n h dX7_measure_152 rfl 2 rfl 153 rfl ?_
          refine ww_iload_n h dX7_measure_153 rfl 3 rfl 154 rfl ?_
          refine ww_ineg h dX7_measure_154 155 rfl ?_
          obtain ⟨R_19, hu20, hf⟩ := ob1 hf
          refine ww_cVv h (c_X7_openGaps l D ev cy oR aR R_9 oP aP P p0 p1 (-v3_8) _ hu20) ⟨w_844, w_841, w_843, w_20, w_107, ok_X7_openGaps⟩ ⟨by decide, by decide⟩ ⟨by decide, by decide⟩ ⟨rfl, rfl⟩ [0, 0] rfl 0 rfl rfl rfl rfl (Nat.le_of_ble_eq_true rfl) dX7_measure_155 158 rfl (Gs' := [gX7 cy oR aR R_19, gX4 cy oP aP P]) rfl ?_
          clear hu20
          refine ww_lo [0, 1, 2] (lo' := [(0, .ref oR), (1, .int p0), (2, .int p1)]) rfl ?_
          exact hJ158_12 R_19 hf
    · replace hf := ite_f c hf
      refine ww_aload_n h dX7_measure_123 rfl 0 rfl 124 rfl ?_
      refine ww_iload_n h dX7_measure_124 rfl 1 rfl 125 rfl ?_
      refine ww_iload_n h dX7_measure_125 rfl 2 rfl 126 rfl ?_
      refine ww_iload_n h dX7_measure_126 rfl 3 rfl 127 rfl ?_
      obtain ⟨R_21, hu22, hf⟩ := ob1 hf
      refine ww_cVv h (c_X7_takeAway l D ev cy oR aR R_9 oP aP P p0 p1 v3_8 _ hu22) ⟨w_839, w_836, w_838, w_19, w_107, ok_X7_takeAway⟩ ⟨by decide, by decide⟩ ⟨by decide, by decide⟩ ⟨rfl, rfl⟩ [0, 0] rfl 0 rfl rfl rfl rfl (Nat.le_of_ble_eq_true rfl) dX7_measure_127 130 rfl (Gs' := [gX7 cy oR aR R_21, gX4 cy oP aP P]) rfl ?_
      clear hu22
      refine ww_goto h dX7_measure_130 158 (by decide) ?_
      refine ww_lo [0, 1, 2] (lo' := [(0, .ref oR), (1, .int p0), (2, .int p1)]) rfl ?_
      exact hJ158_12 R_21 hf
  refine ww_if_le h dX7_measure_62 119 (by decide) 65 rfl (fun c => ?_) (fun c => ?_)
  · replace hf := ite_t c hf
    refine ww_lo [1, 2, 3, 0] (lo' := [(0, .ref oR), (1, .int p0), (2, .int p1), (3, .int v3_7)]) rfl ?_
    exact hJ119_10 v3_7 R_6 hf
  · replace hf := ite_f c hf
    refine ww_iload_n h dX7_measure_65 rfl 3 rfl 66 rfl ?_
    refine ww_iload_n h dX7_measure_66 rfl 2 rfl 67 rfl ?_
    refine ww_icmp_le h dX7_measure_67 119 (by decide) 70 rfl (fun c => ?_) (fun c => ?_)
    · replace hf := ite_t c hf
      refine ww_lo [1, 2, 3, 0] (lo' := [(0, .ref oR), (1, .int p0), (2, .int p1), (3, .int v3_7)]) rfl ?_
      exact hJ119_10 v3_7 R_6 hf
    · replace hf := ite_f c hf
      refine ww_aload_n h dX7_measure_70 rfl 1 rfl 71 rfl ?_
      refine ww_get h inG7 rfl 0 rfl rfl 9 (by decide) w_274 rfl dX7_measure_71 74 rfl ?_
      refine ww_iload_n h dX7_measure_74 rfl 3 rfl 75 rfl ?_
      have hi := (gd_some hf).1
      replace hf := (gd_some hf).2
      refine ww_zald h 0 rfl 8 rfl (ix_in hi) dX7_measure_75 76 rfl ?_
      clear hi
      refine ww_if_eq h dX7_measure_76 119 (by decide) 79 rfl (fun c => ?_) (fun c => ?_)
      · replace hf := ite_t c hf
        refine ww_lo [1, 2, 3, 0] (lo' := [(0, .ref oR), (1, .int p0), (2, .int p1), (3, .int v3_7)]) rfl ?_
        exact hJ119_10 v3_7 R_6 hf
      · replace hf := ite_f c hf
        refine ww_aload_n h dX7_measure_79 rfl 1 rfl 80 rfl ?_
        refine ww_iconst (v := 1) h dX7_measure_80 (by decide) 81 rfl ?_
        refine ww_put (ty := .boolean) h inG7 tyX7_ok nmX7 rfl 0 rfl rfl 11 (by decide) w_277 rfl (by decide +kernel) (by decide) (by decide) (Nat.le_of_ble_eq_true rfl) (Nat.le_of_ble_eq_true rfl) dX7_measure_81 84 rfl ?_
        refine ww_nm (fun z => [gX7 cy oR aR z, gX4 cy oP aP P]) (sI R_6 11 (1 : Int32)) (fun R_23 e => ?_)
        replace hf := bnd_at e hf
        clear e
        refine ww_aload_n h dX7_measure_84 rfl 1 rfl 85 rfl ?_
        refine ww_aload_n h dX7_measure_85 rfl 1 rfl 86 rfl ?_
        refine ww_get h inG7 rfl 0 rfl rfl 1 (by decide) w_266 rfl dX7_measure_86 89 rfl ?_
        have hi := (gd_some hf).1
        replace hf := (gd_some hf).2
        refine ww_ref hi ?_
        clear hi
        refine ww_get h inG4 rfl 1 rfl rfl 3 (by decide) w_205 rfl dX7_measure_89 92 rfl ?_
        refine ww_iconst (v := 0) h dX7_measure_92 (by decide) 93 rfl ?_
        have hi := (gd_some hf).1
        replace hf := (gd_some hf).2
        refine ww_iald h 1 rfl 4 rfl (ix_in hi) dX7_measure_93 94 rfl ?_
        clear hi
        refine ww_put (ty := .int) h inG7 tyX7_ok nmX7 rfl 0 rfl rfl 17 (by decide) w_294 rfl (by decide +kernel) rfl rfl (Nat.le_of_ble_eq_true rfl) (Nat.le_of_ble_eq_true rfl) dX7_measure_94 97 rfl ?_
        refine ww_nm (fun z => [gX7 cy oR aR z, gX4 cy oP aP P]) (sI R_23 17 (ar P 3 (0 : Int32).toNatClampNeg)) (fun R_24 e => ?_)
        replace hf := bnd_at e hf
        clear e
        refine ww_aload_n h dX7_measure_97 rfl 1 rfl 98 rfl ?_
        refine ww_get h inG7 rfl 0 rfl rfl 2 (by decide) w_267 rfl dX7_measure_98 101 rfl ?_
        refine ww_iload_n h dX7_measure_101 rfl 3 rfl 102 rfl ?_
        have hi := (gd_some hf).1
        replace hf := (gd_some hf).2
        refine ww_iald h 0 rfl 1 rfl (ix_in hi) dX7_measure_102 103 rfl ?_
        clear hi
        refine ww_aload_n h dX7_measure_103 rfl 1 rfl 104 rfl ?_
        refine ww_get h inG7 rfl 0 rfl rfl 2 (by decide) w_267 rfl dX7_measure_104 107 rfl ?_
        refine ww_iload_n h dX7_measure_107 rfl 2 rfl 108 rfl ?_
        have hi := (gd_some hf).1
        replace hf := (gd_some hf).2
        refine ww_iald h 0 rfl 1 rfl (ix_in hi) dX7_measure_108 109 rfl ?_
        clear hi
        refine ww_isub h dX7_measure_109 110 rfl ?_
        refine ww_aload_n h dX7_measure_110 rfl 1 rfl 111 rfl ?_
        refine ww_get h inG7 rfl 0 rfl rfl 1 (by decide) w_266 rfl dX7_measure_111 114 rfl ?_
        have hi := (gd_some hf).1
        replace hf := (gd_some hf).2
        refine ww_ref hi ?_
        clear hi
        refine ww_get h inG4 rfl 1 rfl rfl 5 (by decide) w_211 rfl dX7_measure_114 117 rfl ?_
        refine ww_isub h dX7_measure_117 118 rfl ?_
        refine ww_ist_n h dX7_measure_118 rfl (by decide) (fun v3_25 => [(3, .int v3_25), (0, .ref oR), (1, .int p0), (2, .int p1)]) (fun _ => rfl) 119 rfl (fun v3_25 e => ?_)
        replace hf := bnd_at e hf
        clear e
        refine ww_lo [1, 2, 3, 0] (lo' := [(0, .ref oR), (1, .int p0), (2, .int p1), (3, .int v3_25)]) rfl ?_
        exact hJ119_10 v3_25 R_24 hf
theorem dX7_read_0 : decode cX7_read 0 = .ok (.aload_n 0, 1) := by decide +kernel
theorem dX7_read_1 : decode cX7_read 1 = .ok (.aload_n 1, 1) := by decide +kernel
theorem dX7_read_2 : decode cX7_read 2 = .ok (.putfield 42, 3) := by decide +kernel
theorem dX7_read_5 : decode cX7_read 5 = .ok (.aload_n 0, 1) := by decide +kernel
theorem dX7_read_6 : decode cX7_read 6 = .ok (.aload_n 2, 1) := by decide +kernel
theorem dX7_read_7 : decode cX7_read 7 = .ok (.putfield 46, 3) := by decide +kernel
theorem dX7_read_10 : decode cX7_read 10 = .ok (.iconst 0, 1) := by decide +kernel
theorem dX7_read_11 : decode cX7_read 11 = .ok (.istore_n 3, 1) := by decide +kernel
theorem dX7_read_12 : decode cX7_read 12 = .ok (.iload_n 3, 1) := by decide +kernel
theorem dX7_read_13 : decode cX7_read 13 = .ok (.aload_n 0, 1) := by decide +kernel
theorem dX7_read_14 : decode cX7_read 14 = .ok (.getfield 46, 3) := by decide +kernel
theorem dX7_read_17 : decode cX7_read 17 = .ok (.getfield 50, 3) := by decide +kernel
theorem dX7_read_20 : decode cX7_read 20 = .ok (.if_icmp .ge 97, 3) := by decide +kernel
theorem dX7_read_23 : decode cX7_read 23 = .ok (.aload_n 0, 1) := by decide +kernel
theorem dX7_read_24 : decode cX7_read 24 = .ok (.getfield 26, 3) := by decide +kernel
theorem dX7_read_27 : decode cX7_read 27 = .ok (.iload_n 3, 1) := by decide +kernel
theorem dX7_read_28 : decode cX7_read 28 = .ok (.aload_n 0, 1) := by decide +kernel
theorem dX7_read_29 : decode cX7_read 29 = .ok (.iconst 4, 1) := by decide +kernel
theorem dX7_read_30 : decode cX7_read 30 = .ok (.iload_n 3, 1) := by decide +kernel
theorem dX7_read_31 : decode cX7_read 31 = .ok (.invokevirtual 56, 3) := by decide +kernel
theorem dX7_read_34 : decode cX7_read 34 = .ok (.iastore, 1) := by decide +kernel
theorem dX7_read_35 : decode cX7_read 35 = .ok (.aload_n 0, 1) := by decide +kernel
theorem dX7_read_36 : decode cX7_read 36 = .ok (.getfield 29, 3) := by decide +kernel
theorem dX7_read_39 : decode cX7_read 39 = .ok (.iload_n 3, 1) := by decide +kernel
theorem dX7_read_40 : decode cX7_read 40 = .ok (.aload_n 0, 1) := by decide +kernel
theorem dX7_read_41 : decode cX7_read 41 = .ok (.iconst 5, 1) := by decide +kernel
theorem dX7_read_42 : decode cX7_read 42 = .ok (.iload_n 3, 1) := by decide +kernel
theorem dX7_read_43 : decode cX7_read 43 = .ok (.invokevirtual 56, 3) := by decide +kernel
theorem dX7_read_46 : decode cX7_read 46 = .ok (.aload_n 0, 1) := by decide +kernel
theorem dX7_read_47 : decode cX7_read 47 = .ok (.getfield 26, 3) := by decide +kernel
theorem dX7_read_50 : decode cX7_read 50 = .ok (.iload_n 3, 1) := by decide +kernel
theorem dX7_read_51 : decode cX7_read 51 = .ok (.iaload, 1) := by decide +kernel
theorem dX7_read_52 : decode cX7_read 52 = .ok (.isub, 1) := by decide +kernel
theorem dX7_read_53 : decode cX7_read 53 = .ok (.iconst 0, 1) := by decide +kernel
theorem dX7_read_54 : decode cX7_read 54 = .ok (.invokestatic 60, 3) := by decide +kernel
theorem dX7_read_57 : decode cX7_read 57 = .ok (.iastore, 1) := by decide +kernel
theorem dX7_read_58 : decode cX7_read 58 = .ok (.aload_n 0, 1) := by decide +kernel
theorem dX7_read_59 : decode cX7_read 59 = .ok (.getfield 32, 3) := by decide +kernel
theorem dX7_read_62 : decode cX7_read 62 = .ok (.iload_n 3, 1) := by decide +kernel
theorem dX7_read_63 : decode cX7_read 63 = .ok (.aload_n 0, 1) := by decide +kernel
theorem dX7_read_64 : decode cX7_read 64 = .ok (.bipush 6, 2) := by decide +kernel
theorem dX7_read_66 : decode cX7_read 66 = .ok (.iload_n 3, 1) := by decide +kernel
theorem dX7_read_67 : decode cX7_read 67 = .ok (.invokevirtual 56, 3) := by decide +kernel
theorem dX7_read_70 : decode cX7_read 70 = .ok (.iastore, 1) := by decide +kernel
theorem dX7_read_71 : decode cX7_read 71 = .ok (.aload_n 0, 1) := by decide +kernel
theorem dX7_read_72 : decode cX7_read 72 = .ok (.getfield 35, 3) := by decide +kernel
theorem dX7_read_75 : decode cX7_read 75 = .ok (.iload_n 3, 1) := by decide +kernel
theorem dX7_read_76 : decode cX7_read 76 = .ok (.aload_n 0, 1) := by decide +kernel
theorem dX7_read_77 : decode cX7_read 77 = .ok (.iconst 3, 1) := by decide +kernel
theorem dX7_read_78 : decode cX7_read 78 = .ok (.iload_n 3, 1) := by decide +kernel
theorem dX7_read_79 : decode cX7_read 79 = .ok (.invokevirtual 56, 3) := by decide +kernel
theorem dX7_read_82 : decode cX7_read 82 = .ok (.iconst 1, 1) := by decide +kernel
theorem dX7_read_83 : decode cX7_read 83 = .ok (.if_icmp .ne 7, 3) := by decide +kernel
theorem dX7_read_86 : decode cX7_read 86 = .ok (.iconst 1, 1) := by decide +kernel
theorem dX7_read_87 : decode cX7_read 87 = .ok (.goto 4, 3) := by decide +kernel
theorem dX7_read_90 : decode cX7_read 90 = .ok (.iconst 0, 1) := by decide +kernel
theorem dX7_read_91 : decode cX7_read 91 = .ok (.bastore, 1) := by decide +kernel
theorem dX7_read_92 : decode cX7_read 92 = .ok (.aload_n 0, 1) := by decide +kernel
theorem dX7_read_93 : decode cX7_read 93 = .ok (.getfield 39, 3) := by decide +kernel
theorem dX7_read_96 : decode cX7_read 96 = .ok (.iload_n 3, 1) := by decide +kernel
theorem dX7_read_97 : decode cX7_read 97 = .ok (.aload_n 0, 1) := by decide +kernel
theorem dX7_read_98 : decode cX7_read 98 = .ok (.getfield 46, 3) := by decide +kernel
theorem dX7_read_101 : decode cX7_read 101 = .ok (.iload_n 3, 1) := by decide +kernel
theorem dX7_read_102 : decode cX7_read 102 = .ok (.invokevirtual 65, 3) := by decide +kernel
theorem dX7_read_105 : decode cX7_read 105 = .ok (.bastore, 1) := by decide +kernel
theorem dX7_read_106 : decode cX7_read 106 = .ok (.aload_n 0, 1) := by decide +kernel
theorem dX7_read_107 : decode cX7_read 107 = .ok (.iload_n 3, 1) := by decide +kernel
theorem dX7_read_108 : decode cX7_read 108 = .ok (.invokevirtual 69, 3) := by decide +kernel
theorem dX7_read_111 : decode cX7_read 111 = .ok (.iinc 3 1, 3) := by decide +kernel
theorem dX7_read_114 : decode cX7_read 114 = .ok (.goto (-102), 3) := by decide +kernel
theorem dX7_read_117 : decode cX7_read 117 = .ok (.return_, 1) := by decide +kernel
theorem ok_X7_read : okY RX7 yX7_read 2 := ⟨rfl, by decide, by decide, by decide +kernel⟩
def j_X7_read_91_19 (oC : Nat) (oP : Nat) (C : OV) (P : OV) (R_15 : OV) (v3_5 : Int32) (t_18 : Int32) : Option ((Int32 × OV) ⊕ (OV)) := gd (ix v3_5 40) (bnd (sA R_15 9 v3_5.toNatClampNeg (vp_nar .boolean t_18)) (fun R_20 => gd (decide (nv R_20 1 = oP)) ((f_X4_isLegalEnd P v3_5).bind (un1 (fun r_21 => gd (ix v3_5 40) (bnd (sA R_20 10 v3_5.toNatClampNeg (vp_nar .boolean r_21)) (fun R_23 => (f_X7_addToSums R_23 oC C oP P v3_5).bind (un1 (fun R_24 => bnd (v3_5 + 1) (fun v3_26 => some (.inl (v3_26, R_24))))))))))))
def s_X7_read_12_4 (oC : Nat) (oP : Nat) (C : OV) (P : OV) : (Int32 × OV) → Option ((Int32 × OV) ⊕ (OV)) := un2 (fun v3_5 R_6 => gd (decide (nv R_6 1 = oP)) ((if (iv P 4) ≤ v3_5 then some (.inr R_6) else (f_X7_factOf R_6 oC C oP P (4 : Int32) v3_5).bind (un1 (fun r_7 => gd (ix v3_5 40) (bnd (sA R_6 6 v3_5.toNatClampNeg r_7) (fun R_9 => (f_X7_factOf R_9 oC C oP P (5 : Int32) v3_5).bind (un1 (fun r_10 => gd (ix v3_5 40) (gd (ix v3_5 40) (bnd (sA R_9 7 v3_5.toNatClampNeg (if (r_10 - (ar R_9 6 v3_5.toNatClampNeg)) < (0 : Int32) then (0 : Int32) else (r_10 - (ar R_9 6 v3_5.toNatClampNeg)))) (fun R_12 => (f_X7_factOf R_12 oC C oP P (6 : Int32) v3_5).bind (un1 (fun r_13 => gd (ix v3_5 40) (bnd (sA R_12 8 v3_5.toNatClampNeg r_13) (fun R_15 => (f_X7_factOf R_15 oC C oP P (3 : Int32) v3_5).bind (un1 (fun r_16 => (if r_16 = (1 : Int32) then j_X7_read_91_19 oC oP C P R_15 v3_5 (1 : Int32) else j_X7_read_91_19 oC oP C P R_15 v3_5 (0 : Int32))))))))))))))))))))
def f_X7_read (R : OV) (oC : Nat) (C : OV) (oP : Nat) (P : OV) : Option (OV) := bnd (sN R 0 oC) (fun R_1 => bnd (sN R_1 1 oP) (fun R_2 => bnd (0 : Int32) (fun v3_3 => ((lp (s_X7_read_12_4 oC oP C P) 5000 (v3_3, R_2)).bind (un1 (fun R_27 => some R_27))))))
def r_X7_read : Room := { frames := 2, cells := 0, slots := 0, locals := 48 }
set_option maxHeartbeats 4000000 in
set_option maxRecDepth 100000 in
theorem c_X7_read (l : Launch) (D : va_G) (ev : EvT) (cy : Nat → ClassId) (oR : Nat) (aR : Nat → Nat) (R : OV) (oC : Nat) (aC : Nat → Nat) (C : OV) (oP : Nat) (aP : Nat → Nat) (P : OV) (o : OV) (hf : f_X7_read R oC C oP P = some o) : Fn l yX7_read cX7_read 4 none r_X7_read D ev cy [.ref oR, .ref oC, .ref oP] [gX7 cy oR aR R, gX1 cy oC aC C, gX4 cy oP aP P] (fun v G => v = none ∧ G = [gX7 cy oR aR o, gX1 cy oC aC C, gX4 cy oP aP P]) := by
  refine Fn_of (by decide) (Nat.le_of_ble_eq_true rfl) (fun X A Q h hQ _ => ?_)
  unfold f_X7_read at hf
  show ww X D A 4 Q 0 0 0 [(0, .ref oR), (1, .ref oC), (2, .ref oP)] [] [gX7 cy oR aR R, gX1 cy oC aC C, gX4 cy oP aP P]
  refine ww_aload_n h dX7_read_0 rfl 0 rfl 1 rfl ?_
  refine ww_aload_n h dX7_read_1 rfl 1 rfl 2 rfl ?_
  refine ww_put (ty := (.object "LineEnds$Classes")) h inG7 tyX7_ok nmX7 rfl 0 rfl rfl 0 (by decide) w_265 rfl (by decide +kernel) rfl rfl (Nat.le_of_ble_eq_true rfl) (Nat.le_of_ble_eq_true rfl) dX7_read_2 5 rfl ?_
  refine ww_nm (fun z => [gX7 cy oR aR z, gX1 cy oC aC C, gX4 cy oP aP P]) (sN R 0 oC) (fun R_1 e => ?_)
  replace hf := bnd_at e hf
  clear e
  refine ww_aload_n h dX7_read_5 rfl 0 rfl 6 rfl ?_
  refine ww_aload_n h dX7_read_6 rfl 2 rfl 7 rfl ?_
  refine ww_put (ty := (.object "LineEnds$Page")) h inG7 tyX7_ok nmX7 rfl 0 rfl rfl 1 (by decide) w_266 rfl (by decide +kernel) rfl rfl (Nat.le_of_ble_eq_true rfl) (Nat.le_of_ble_eq_true rfl) dX7_read_7 10 rfl ?_
  refine ww_nm (fun z => [gX7 cy oR aR z, gX1 cy oC aC C, gX4 cy oP aP P]) (sN R_1 1 oP) (fun R_2 e => ?_)
  replace hf := bnd_at e hf
  clear e
  refine ww_iconst (v := 0) h dX7_read_10 (by decide) 11 rfl ?_
  refine ww_ist_n h dX7_read_11 rfl (by decide) (fun v3_3 => [(3, .int v3_3), (0, .ref oR), (1, .ref oC), (2, .ref oP)]) (fun _ => rfl) 12 rfl (fun v3_3 e => ?_)
  replace hf := bnd_at e hf
  clear e
  refine ww_lo [1, 0] (lo' := [(0, .ref oR), (3, .int v3_3)]) rfl ?_
  obtain ⟨R_27, h4, hf⟩ := ob1 hf
  refine lp_walk (un2 (fun v3_5 R_6 => ww X D A 4 Q 0 0 12 [(0, .ref oR), (3, .int v3_5)] [] [gX7 cy oR aR R_6, gX1 cy oC aC C, gX4 cy oP aP P])) (un1 (fun R_27 => ww X D A 4 Q 0 0 117 [] [] [gX7 cy oR aR R_27, gX1 cy oC aC C, gX4 cy oP aP P])) ?_ _ _ _ h4 ?_
  · clear h4 hf
    intro s4 o4 hf hI4 hE4
    obtain ⟨v3_5, R_6⟩ := s4
    unfold s_X7_read_12_4 at hf
    replace hf := un2_e hf
    show ww X D A 4 Q 0 0 12 [(0, .ref oR), (3, .int v3_5)] [] [gX7 cy oR aR R_6, gX1 cy oC aC C, gX4 cy oP aP P]
    refine ww_iload_n h dX7_read_12 rfl 1 rfl 13 rfl ?_
    refine ww_aload_n h dX7_read_13 rfl 0 rfl 14 rfl ?_
    refine ww_get h inG7 rfl 0 rfl rfl 1 (by decide) w_266 rfl dX7_read_14 17 rfl ?_
    have hi := (gd_some hf).1
    replace hf := (gd_some hf).2
    refine ww_ref hi ?_
    clear hi
    refine ww_get h inG4 rfl 2 rfl rfl 4 (by decide) w_207 rfl dX7_read_17 20 rfl ?_
    refine ww_icmp_ge h dX7_read_20 117 (by decide) 23 rfl (fun c => ?_) (fun c => ?_)
    · replace hf := ite_t c hf
      refine ww_lo [] (lo' := []) rfl ?_
      exact hE4 R_6 (Option.some.inj hf).symm
    · replace hf := ite_f c hf
      refine ww_aload_n h dX7_read_23 rfl 0 rfl 24 rfl ?_
      refine ww_get h inG7 rfl 0 rfl rfl 6 (by decide) w_271 rfl dX7_read_24 27 rfl ?_
      refine ww_iload_n h dX7_read_27 rfl 1 rfl 28 rfl ?_
      refine ww_aload_n h dX7_read_28 rfl 0 rfl 29 rfl ?_
      refine ww_iconst (v := 4) h dX7_read_29 (by decide) 30 rfl ?_
      refine ww_iload_n h dX7_read_30 rfl 1 rfl 31 rfl ?_
      obtain ⟨r_7, hu8, hf⟩ := ob1 hf
      refine ww_cVi h (c_X7_factOf l D ev cy oR aR R_6 oC aC C oP aP P (4 : Int32) v3_5 _ hu8) ⟨w_817, w_814, w_815, w_816, w_107, ok_X7_factOf⟩ ⟨by decide, by decide⟩ ⟨by decide, by decide⟩ ⟨rfl, rfl⟩ [0, 0, 0] rfl 0 rfl rfl rfl rfl (Nat.le_of_ble_eq_true rfl) dX7_read_31 34 rfl (Gs' := [gX7 cy oR aR R_6, gX1 cy oC aC C, gX4 cy oP aP P]) rfl ?_
      clear hu8
      have hi := (gd_some hf).1
      replace hf := (gd_some hf).2
      refine ww_iast h 0 rfl 5 rfl (ix_in hi) dX7_read_34 35 rfl ?_
      clear hi
      refine ww_nm (fun z => [gX7 cy oR aR z, gX1 cy oC aC C, gX4 cy oP aP P]) (sA R_6 6 v3_5.toNatClampNeg r_7) (fun R_9 e => ?_)
      replace hf := bnd_at e hf
      clear e
      refine ww_aload_n h dX7_read_35 rfl 0 rfl 36 rfl ?_
      refine ww_get h inG7 rfl 0 rfl rfl 7 (by decide) w_272 rfl dX7_read_36 39 rfl ?_
      refine ww_iload_n h dX7_read_39 rfl 1 rfl 40 rfl ?_
      refine ww_aload_n h dX7_read_40 rfl 0 rfl 41 rfl ?_
      refine ww_iconst (v := 5) h dX7_read_41 (by decide) 42 rfl ?_
      refine ww_iload_n h dX7_read_42 rfl 1 rfl 43 rfl ?_
      obtain ⟨r_10, hu11, hf⟩ := ob1 hf
      refine ww_cVi h (c_X7_factOf l D ev cy oR aR R_9 oC aC C oP aP P (5 : Int32) v3_5 _ hu11) ⟨w_817, w_814, w_815, w_816, w_107, ok_X7_factOf⟩ ⟨by decide, by decide⟩ ⟨by decide, by decide⟩ ⟨rfl, rfl⟩ [0, 0, 0] rfl 0 rfl rfl rfl rfl (Nat.le_of_ble_eq_true rfl) dX7_read_43 46 rfl (Gs' := [gX7 cy oR aR R_9, gX1 cy oC aC C, gX4 cy oP aP P]) rfl ?_
      clear hu11
      refine ww_aload_n h dX7_read_46 rfl 0 rfl 47 rfl ?_
      refine ww_get h inG7 rfl 0 rfl rfl 6 (by decide) w_271 rfl dX7_read_47 50 rfl ?_
      refine ww_iload_n h dX7_read_50 rfl 1 rfl 51 rfl ?_
      have hi := (gd_some hf).1
      replace hf := (gd_some hf).2
      refine ww_iald h 0 rfl 5 rfl (ix_in hi) dX7_read_51 52 rfl ?_
      clear hi
      refine ww_isub h dX7_read_52 53 rfl ?_
      refine ww_iconst (v := 0) h dX7_read_53 (by decide) 54 rfl ?_
      refine ww_max h w_818 w_134 w_103 w_135 ⟨by decide, Nat.le_of_ble_eq_true rfl, by decide, by decide⟩ dX7_read_54 57 rfl ?_
      have hi := (gd_some hf).1
      replace hf := (gd_some hf).2
      refine ww_iast h 0 rfl 6 rfl (ix_in hi) dX7_read_57 58 rfl ?_
      clear hi
      refine ww_nm (fun z => [gX7 cy oR aR z, gX1 cy oC aC C, gX4 cy oP aP P]) (sA R_9 7 v3_5.toNatClampNeg (if (r_10 - (ar R_9 6 v3_5.toNatClampNeg)) < (0 : Int32) then (0 : Int32) else (r_10 - (ar R_9 6 v3_5.toNatClampNeg)))) (fun R_12 e => ?_)
      replace hf := bnd_at e hf
      clear e
      refine ww_aload_n h dX7_read_58 rfl 0 rfl 59 rfl ?_
      refine ww_get h inG7 rfl 0 rfl rfl 8 (by decide) w_273 rfl dX7_read_59 62 rfl ?_
      refine ww_iload_n h dX7_read_62 rfl 1 rfl 63 rfl ?_
      refine ww_aload_n h dX7_read_63 rfl 0 rfl 64 rfl ?_
      refine ww_bipush (v := 6) h dX7_read_64 (by decide) 66 rfl ?_
      refine ww_iload_n h dX7_read_66 rfl 1 rfl 67 rfl ?_
      obtain ⟨r_13, hu14, hf⟩ := ob1 hf
      refine ww_cVi h (c_X7_factOf l D ev cy oR aR R_12 oC aC C oP aP P (6 : Int32) v3_5 _ hu14) ⟨w_817, w_814, w_815, w_816, w_107, ok_X7_factOf⟩ ⟨by decide, by decide⟩ ⟨by decide, by decide⟩ ⟨rfl, rfl⟩ [0, 0, 0] rfl 0 rfl rfl rfl rfl (Nat.le_of_ble_eq_true rfl) dX7_read_67 70 rfl (Gs' := [gX7 cy oR aR R_12, gX1 cy oC aC C, gX4 cy oP aP P]) rfl ?_
      clear hu14
      have hi := (gd_some hf).1
      replace hf := (gd_some hf).2
      refine ww_iast h 0 rfl 7 rfl (ix_in hi) dX7_read_70 71 rfl ?_
      clear hi
      refine ww_nm (fun z => [gX7 cy oR aR z, gX1 cy oC aC C, gX4 cy oP aP P]) (sA R_12 8 v3_5.toNatClampNeg r_13) (fun R_15 e => ?_)
      replace hf := bnd_at e hf
      clear e
      refine ww_aload_n h dX7_read_71 rfl 0 rfl 72 rfl ?_
      refine ww_get h inG7 rfl 0 rfl rfl 9 (by decide) w_274 rfl dX7_read_72 75 rfl ?_
      refine ww_iload_n h dX7_read_75 rfl 1 rfl 76 rfl ?_
      refine ww_aload_n h dX7_read_76 rfl 0 rfl 77 rfl ?_
      refine ww_iconst (v := 3) h dX7_read_77 (by decide) 78 rfl ?_
      refine ww_iload_n h dX7_read_78 rfl 1 rfl 79 rfl ?_
      obtain ⟨r_16, hu17, hf⟩ := ob1 hf
      refine ww_cVi h (c_X7_factOf l D ev cy oR aR R_15 oC aC C oP aP P (3 : Int32) v3_5 _ hu17) ⟨w_817, w_814, w_815, w_816, w_107, ok_X7_factOf⟩ ⟨by decide, by decide⟩ ⟨by decide, by decide⟩ ⟨rfl, rfl⟩ [0, 0, 0] rfl 0 rfl rfl rfl rfl (Nat.le_of_ble_eq_true rfl) dX7_read_79 82 rfl (Gs' := [gX7 cy oR aR R_15, gX1 cy oC aC C, gX4 cy oP aP P]) rfl ?_
      clear hu17
      refine ww_iconst (v := 1) h dX7_read_82 (by decide) 83 rfl ?_
      have hJ91_19 : ∀ (t_18 : Int32), j_X7_read_91_19 oC oP C P R_15 v3_5 t_18 = some o4 → ww X D A 4 Q 0 0 91 [(0, .ref oR), (3, .int v3_5)] [.int t_18, .int v3_5, .ref (aR 9)] [gX7 cy oR aR R_15, gX1 cy oC aC C, gX4 cy oP aP P] := by
        intro t_18 hf
        unfold j_X7_read_91_19 at hf
        have hi := (gd_some hf).1
        replace hf := (gd_some hf).2
        refine ww_zast h 0 rfl 8 rfl (ix_in hi) dX7_read_91 92 rfl ?_
        clear hi
        refine ww_nm (fun z => [gX7 cy oR aR z, gX1 cy oC aC C, gX4 cy oP aP P]) (sA R_15 9 v3_5.toNatClampNeg (vp_nar .boolean t_18)) (fun R_20 e => ?_)
        replace hf := bnd_at e hf
        clear e
        refine ww_aload_n h dX7_read_92 rfl 0 rfl 93 rfl ?_
        refine ww_get h inG7 rfl 0 rfl rfl 10 (by decide) w_275 rfl dX7_read_93 96 rfl ?_
        refine ww_iload_n h dX7_read_96 rfl 1 rfl 97 rfl ?_
        refine ww_aload_n h dX7_read_97 rfl 0 rfl 98 rfl ?_
        refine ww_get h inG7 rfl 0 rfl rfl 1 (by decide) w_266 rfl dX7_read_98 101 rfl ?_
        have hi := (gd_some hf).1
        replace hf := (gd_some hf).2
        refine ww_ref hi ?_
        clear hi
        refine ww_iload_n h dX7_read_101 rfl 1 rfl 102 rfl ?_
        obtain ⟨r_21, hu22, hf⟩ := ob1 hf
        refine ww_cVi h (c_X4_isLegalEnd l D ev cy oP aP P v3_5 _ hu22) ⟨w_801, w_819, w_799, w_800, w_105, ok_X4_isLegalEnd⟩ ⟨by decide, by decide⟩ ⟨by decide, by decide⟩ ⟨rfl, rfl⟩ [2] rfl 0 rfl rfl rfl rfl (Nat.le_of_ble_eq_true rfl) dX7_read_102 105 rfl (Gs' := [gX4 cy oP aP P, gX7 cy oR aR R_20, gX1 cy oC aC C]) rfl ?_
        clear hu22
        have hi := (gd_some hf).1
        replace hf := (gd_some hf).2
        refine ww_zast h 1 rfl 9 rfl (ix_in hi) dX7_read_105 106 rfl ?_
        clear hi
        refine ww_nm (fun z => [gX4 cy oP aP P, gX7 cy oR aR z, gX1 cy oC aC C]) (sA R_20 10 v3_5.toNatClampNeg (vp_nar .boolean r_21)) (fun R_23 e => ?_)
        replace hf := bnd_at e hf
        clear e
        refine ww_aload_n h dX7_read_106 rfl 0 rfl 107 rfl ?_
        refine ww_iload_n h dX7_read_107 rfl 1 rfl 108 rfl ?_
        obtain ⟨R_24, hu25, hf⟩ := ob1 hf
        refine ww_cVv h (c_X7_addToSums l D ev cy oR aR R_23 oC aC C oP aP P v3_5 _ hu25) ⟨w_823, w_820, w_822, w_18, w_107, ok_X7_addToSums⟩ ⟨by decide, by decide⟩ ⟨by decide, by decide⟩ ⟨rfl, rfl⟩ [1, 1, 0] rfl 0 rfl rfl rfl rfl (Nat.le_of_ble_eq_true rfl) dX7_read_108 111 rfl (Gs' := [gX7 cy oR aR R_24, gX1 cy oC aC C, gX4 cy oP aP P]) rfl ?_
        clear hu25
        refine ww_inc (c := 1) h dX7_read_111 1 rfl (by decide) (by decide) (fun v3_26 => [(3, .int v3_26), (0, .ref oR)]) (fun _ => rfl) 114 rfl (fun v3_26 e => ?_)
        replace hf := bnd_at e hf
        clear e
        refine ww_goto h dX7_read_114 12 (by decide) ?_
        refine ww_lo [1, 0] (lo' := [(0, .ref oR), (3, .int v3_26)]) rfl ?_
        exact hI4 (v3_26, R_24) (Option.some.inj hf).symm
      refine ww_icmp_ne h dX7_read_83 90 (by decide) 86 rfl (fun c => ?_) (fun c => ?_)
      · replace hf := ite_f c hf
        refine ww_iconst (v := 0) h dX7_read_90 (by decide) 91 rfl ?_
        exact hJ91_19 (0 : Int32) hf
      · replace hf := ite_t c hf
        refine ww_iconst (v := 1) h dX7_read_86 (by decide) 87 rfl ?_
        refine ww_goto h dX7_read_87 91 (by decide) ?_
        exact hJ91_19 (1 : Int32) hf
  · clear h4
    show ww X D A 4 Q 0 0 117 [] [] [gX7 cy oR aR R_27, gX1 cy oC aC C, gX4 cy oP aP P]
    obtain rfl := Option.some.inj hf
    exact ww_vret h dX7_read_117 hQ ⟨rfl, rfl⟩
