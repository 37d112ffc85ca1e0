theorem dX9_ways_0 : decode cX9_ways 0 = .ok (.aload_n 0, 1) := by decide +kernel
theorem dX9_ways_1 : decode cX9_ways 1 = .ok (.invokevirtual 322, 3) := by decide +kernel
theorem dX9_ways_4 : decode cX9_ways 4 = .ok (.invokevirtual 326, 3) := by decide +kernel
theorem dX9_ways_7 : decode cX9_ways 7 = .ok (.ldc2_w 330, 3) := by decide +kernel
theorem dX9_ways_10 : decode cX9_ways 10 = .ok (.invokestatic 332, 3) := by decide +kernel
theorem dX9_ways_13 : decode cX9_ways 13 = .ok (.l2i, 1) := by decide +kernel
theorem dX9_ways_14 : decode cX9_ways 14 = .ok (.ireturn, 1) := by decide +kernel
theorem ok_X9_ways : okY RX9 yX9_ways 0 := ⟨rfl, by decide, by decide, by decide +kernel⟩
def f_X9_ways (aL : Nat → Nat) (L : OV) (P : OV) (R : OV) (W : OV) (oC : Nat) (C : OV) : Option (Int32 × OV × OV × OV) := (f_X9_currentWays aL L P R W oC C).bind (un3 (fun L_1 R_2 W_3 => (f_X8_total W_3).bind (un1 (fun r_5 => some (((if (1000000000 : Int64) < r_5 then (1000000000 : Int64) else r_5).toInt32), L_1, R_2, W_3)))))
def r_X9_ways : Room := { frames := 6, cells := 0, slots := 0, locals := 138 }
set_option maxHeartbeats 4000000 in
set_option maxRecDepth 100000 in
theorem c_X9_ways (l : Launch) (D : va_G) (ev : EvT) (cy : Nat → ClassId) (oL : Nat) (aL : Nat → Nat) (L : OV) (aP : Nat → Nat) (P : OV) (aR : Nat → Nat) (R : OV) (aW : Nat → Nat) (W : OV) (oC : Nat) (aC : Nat → Nat) (C : OV) (o : Int32 × OV × OV × OV) (hf : f_X9_ways aL L P R W oC C = some o) : Fn l yX9_ways cX9_ways 1 (some .int) r_X9_ways D ev cy [.ref oL] [gX9 cy oL aL L, gX4 cy (aL 2) aP P, gX7 cy (aL 5) aR R, gX8 cy (aL 9) aW W, gX1 cy oC aC C] (fun v G => v = some (.int o.1) ∧ G = [gX9 cy oL aL o.2.1, gX4 cy (aL 2) aP P, gX7 cy (aL 5) aR o.2.2.1, gX8 cy (aL 9) aW o.2.2.2, gX1 cy oC aC C]) := by
  refine Fn_of (by decide) (Nat.le_of_ble_eq_true rfl) (fun X A Q h hQ _ => ?_)
  unfold f_X9_ways at hf
  show ww X D A 1 Q 0 0 0 [(0, .ref oL)] [] [gX9 cy oL aL L, gX4 cy (aL 2) aP P, gX7 cy (aL 5) aR R, gX8 cy (aL 9) aW W, gX1 cy oC aC C]
  refine ww_aload_n h dX9_ways_0 rfl 0 rfl 1 rfl ?_
  obtain ⟨L_1, R_2, W_3, hu4, hf⟩ := ob3 hf
  refine ww_cVr h (c_X9_currentWays l D ev cy oL aL L aP P aR R aW W oC aC C _ hu4) ⟨w_1073, w_1070, w_1072, w_35, w_101, ok_X9_currentWays⟩ ⟨by decide, by decide⟩ ⟨by decide, by decide⟩ ⟨rfl, rfl⟩ [0, 0, 0, 0, 0] rfl 0 rfl rfl rfl rfl (Nat.le_of_ble_eq_true rfl) dX9_ways_1 4 rfl (Gs' := [gX9 cy oL aL L_1, gX4 cy (aL 2) aP P, gX7 cy (aL 5) aR R_2, gX8 cy (aL 9) aW W_3, gX1 cy oC aC C]) rfl ?_
  clear hu4
  obtain ⟨r_5, hu6, hf⟩ := ob1 hf
  refine ww_cVl h (c_X8_total l D ev cy (aL 9) aW W_3 _ hu6) ⟨w_1089, w_1086, w_1087, w_1088, w_110, ok_X8_total⟩ ⟨by decide, by decide⟩ ⟨by decide, by decide⟩ ⟨rfl, rfl⟩ [3] rfl 0 rfl rfl rfl rfl (Nat.le_of_ble_eq_true rfl) dX9_ways_4 7 rfl (Gs' := [gX8 cy (aL 9) aW W_3, gX9 cy oL aL L_1, gX4 cy (aL 2) aP P, gX7 cy (aL 5) aR R_2, gX1 cy oC aC C]) rfl ?_
  clear hu6
  refine ww_ldc2 h w_1090 dX9_ways_7 10 rfl ?_
  refine ww_min_long h w_1091 w_1092 w_103 w_1093 ⟨by decide, Nat.le_of_ble_eq_true rfl, by decide, by decide⟩ dX9_ways_10 13 rfl ?_
  refine ww_l2i h dX9_ways_13 14 rfl ?_
  refine ww_perm [1, 1, 1, 0, 0] (Gs' := [gX9 cy oL aL L_1, gX4 cy (aL 2) aP P, gX7 cy (aL 5) aR R_2, gX8 cy (aL 9) aW W_3, gX1 cy oC aC C]) rfl ?_
  obtain rfl := Option.some.inj hf
  exact ww_iret h dX9_ways_14 hQ ⟨rfl, rfl⟩
theorem dX9_fewest_0 : decode cX9_fewest 0 = .ok (.aload_n 0, 1) := by decide +kernel
theorem dX9_fewest_1 : decode cX9_fewest 1 = .ok (.invokevirtual 322, 3) := by decide +kernel
theorem dX9_fewest_4 : decode cX9_fewest 4 = .ok (.astore_n 1, 1) := by decide +kernel
theorem dX9_fewest_5 : decode cX9_fewest 5 = .ok (.aload_n 1, 1) := by decide +kernel
theorem dX9_fewest_6 : decode cX9_fewest 6 = .ok (.invokevirtual 326, 3) := by decide +kernel
theorem dX9_fewest_9 : decode cX9_fewest 9 = .ok (.lconst 0, 1) := by decide +kernel
theorem dX9_fewest_10 : decode cX9_fewest 10 = .ok (.lcmp, 1) := by decide +kernel
theorem dX9_fewest_11 : decode cX9_fewest 11 = .ok (.ifCond .ne 8, 3) := by decide +kernel
theorem dX9_fewest_14 : decode cX9_fewest 14 = .ok (.bipush (-2), 2) := by decide +kernel
theorem dX9_fewest_16 : decode cX9_fewest 16 = .ok (.goto 9, 3) := by decide +kernel
theorem dX9_fewest_19 : decode cX9_fewest 19 = .ok (.aload_n 1, 1) := by decide +kernel
theorem dX9_fewest_20 : decode cX9_fewest 20 = .ok (.getfield 338, 3) := by decide +kernel
theorem dX9_fewest_23 : decode cX9_fewest 23 = .ok (.iconst 0, 1) := by decide +kernel
theorem dX9_fewest_24 : decode cX9_fewest 24 = .ok (.iaload, 1) := by decide +kernel
theorem dX9_fewest_25 : decode cX9_fewest 25 = .ok (.ireturn, 1) := by decide +kernel
theorem ok_X9_fewest : okY RX9 yX9_fewest 0 := ⟨rfl, by decide, by decide, by decide +kernel⟩
def f_X9_fewest (aL : Nat → Nat) (L : OV) (P : OV) (R : OV) (W : OV) (oC : Nat) (C : OV) : Option (Int32 × OV × OV × OV) := (f_X9_currentWays aL L P R W oC C).bind (un3 (fun L_1 R_2 W_3 => (f_X8_total W_3).bind (un1 (fun r_5 => (if (lg_cmp r_5 (0 : Int64)) = 0 then some ((-2 : Int32), L_1, R_2, W_3) else gd (ix (0 : Int32) 41) (some ((ar W_3 1 (0 : Int32).toNatClampNeg), L_1, R_2, W_3)))))))
def r_X9_fewest : Room := { frames := 6, cells := 0, slots := 0, locals := 138 }
set_option maxHeartbeats 4000000 in
set_option maxRecDepth 100000 in
theorem c_X9_fewest (l : Launch) (D : va_G) (ev : EvT) (cy : Nat → ClassId) (oL : Nat) (aL : Nat → Nat) (L : OV) (aP : Nat → Nat) (P : OV) (aR : Nat → Nat) (R : OV) (aW : Nat → Nat) (W : OV) (oC : Nat) (aC : Nat → Nat) (C : OV) (o : Int32 × OV × OV × OV) (hf : f_X9_fewest aL L P R W oC C = some o) : Fn l yX9_fewest cX9_fewest 2 (some .int) r_X9_fewest D ev cy [.ref oL] [gX9 cy oL aL L, gX4 cy (aL 2) aP P, gX7 cy (aL 5) aR R, gX8 cy (aL 9) aW W, gX1 cy oC aC C] (fun v G => v = some (.int o.1) ∧ G = [gX9 cy oL aL o.2.1, gX4 cy (aL 2) aP P, gX7 cy (aL 5) aR o.2.2.1, gX8 cy (aL 9) aW o.2.2.2, gX1 cy oC aC C]) := by
  refine Fn_of (by decide) (Nat.le_of_ble_eq_true rfl) (fun X A Q h hQ _ => ?_)
  unfold f_X9_fewest at hf
  show ww X D A 2 Q 0 0 0 [(0, .ref oL)] [] [gX9 cy oL aL L, gX4 cy (aL 2) aP P, gX7 cy (aL 5) aR R, gX8 cy (aL 9) aW W, gX1 cy oC aC C]
  refine ww_aload_n h dX9_fewest_0 rfl 0 rfl 1 rfl ?_
  obtain ⟨L_1, R_2, W_3, hu4, hf⟩ := ob3 hf
  refine ww_cVr h (c_X9_currentWays l D ev cy oL aL L aP P aR R aW W oC aC C _ hu4) ⟨w_1073, w_1070, w_1072, w_35, w_101, ok_X9_currentWays⟩ ⟨by decide, by decide⟩ ⟨by decide, by decide⟩ ⟨rfl, rfl⟩ [0, 0, 0, 0, 0] rfl 0 rfl rfl rfl rfl (Nat.le_of_ble_eq_true rfl) dX9_fewest_1 4 rfl (Gs' := [gX9 cy oL aL L_1, gX4 cy (aL 2) aP P, gX7 cy (aL 5) aR R_2, gX8 cy (aL 9) aW W_3, gX1 cy oC aC C]) rfl ?_
  clear hu4
  refine ww_astore_n h dX9_fewest_4 rfl (by decide) (lo' := [(1, .ref (aL 9)), (0, .ref oL)]) rfl 5 rfl ?_
  refine ww_aload_n h dX9_fewest_5 rfl 0 rfl 6 rfl ?_
  obtain ⟨r_5, hu6, hf⟩ := ob1 hf
  refine ww_cVl h (c_X8_total l D ev cy (aL 9) aW W_3 _ hu6) ⟨w_1089, w_1086, w_1087, w_1088, w_110, ok_X8_total⟩ ⟨by decide, by decide⟩ ⟨by decide, by decide⟩ ⟨rfl, rfl⟩ [3] rfl 0 rfl rfl rfl rfl (Nat.le_of_ble_eq_true rfl) dX9_fewest_6 9 rfl (Gs' := [gX8 cy (aL 9) aW W_3, gX9 cy oL aL L_1, gX4 cy (aL 2) aP P, gX7 cy (aL 5) aR R_2, gX1 cy oC aC C]) rfl ?_
  clear hu6
  refine ww_lconst (v := 0) h dX9_fewest_9 (by decide) 10 rfl ?_
  refine ww_lcmp h dX9_fewest_10 11 rfl ?_
  refine ww_if_ne h dX9_fewest_11 19 (by decide) 14 rfl (fun c => ?_) (fun c => ?_)
  · replace hf := ite_f c hf
    refine ww_aload_n h dX9_fewest_19 rfl 0 rfl 20 rfl ?_
    refine ww_get h inG8 rfl 0 rfl rfl 1 (by decide) w_399 rfl dX9_fewest_20 23 rfl ?_
    refine ww_iconst (v := 0) h dX9_fewest_23 (by decide) 24 rfl ?_
    have hi := (gd_some hf).1
    replace hf := (gd_some hf).2
    refine ww_iald h 0 rfl 2 rfl (ix_in hi) dX9_fewest_24 25 rfl ?_
    clear hi
    refine ww_perm [1, 1, 1, 0, 0] (Gs' := [gX9 cy oL aL L_1, gX4 cy (aL 2) aP P, gX7 cy (aL 5) aR R_2, gX8 cy (aL 9) aW W_3, gX1 cy oC aC C]) rfl ?_
    obtain rfl := Option.some.inj hf
    exact ww_iret h dX9_fewest_25 hQ ⟨rfl, rfl⟩
  · replace hf := ite_t c hf
    refine ww_bipush (v := (-2)) h dX9_fewest_14 (by decide) 16 rfl ?_
    refine ww_goto h dX9_fewest_16 25 (by decide) ?_
    refine ww_perm [1, 1, 1, 0, 0] (Gs' := [gX9 cy oL aL L_1, gX4 cy (aL 2) aP P, gX7 cy (aL 5) aR R_2, gX8 cy (aL 9) aW W_3, gX1 cy oC aC C]) rfl ?_
    obtain rfl := Option.some.inj hf
    exact ww_iret h dX9_fewest_25 hQ ⟨rfl, rfl⟩
theorem dX9_way_0 : decode cX9_way 0 = .ok (.iload_n 1, 1) := by decide +kernel
theorem dX9_way_1 : decode cX9_way 1 = .ok (.ifCond .lt 8, 3) := by decide +kernel
theorem dX9_way_4 : decode cX9_way 4 = .ok (.iload_n 2, 1) := by decide +kernel
theorem dX9_way_5 : decode cX9_way 5 = .ok (.iconst (-1), 1) := by decide +kernel
theorem dX9_way_6 : decode cX9_way 6 = .ok (.if_icmp .ge 5, 3) := by decide +kernel
theorem dX9_way_9 : decode cX9_way 9 = .ok (.iconst (-1), 1) := by decide +kernel
theorem dX9_way_10 : decode cX9_way 10 = .ok (.ireturn, 1) := by decide +kernel
theorem dX9_way_11 : decode cX9_way 11 = .ok (.aload_n 0, 1) := by decide +kernel
theorem dX9_way_12 : decode cX9_way 12 = .ok (.invokevirtual 322, 3) := by decide +kernel
theorem dX9_way_15 : decode cX9_way 15 = .ok (.astore_n 3, 1) := by decide +kernel
theorem dX9_way_16 : decode cX9_way 16 = .ok (.iload_n 1, 1) := by decide +kernel
theorem dX9_way_17 : decode cX9_way 17 = .ok (.i2l, 1) := by decide +kernel
theorem dX9_way_18 : decode cX9_way 18 = .ok (.aload_n 3, 1) := by decide +kernel
theorem dX9_way_19 : decode cX9_way 19 = .ok (.invokevirtual 326, 3) := by decide +kernel
theorem dX9_way_22 : decode cX9_way 22 = .ok (.lcmp, 1) := by decide +kernel
theorem dX9_way_23 : decode cX9_way 23 = .ok (.ifCond .lt 8, 3) := by decide +kernel
theorem dX9_way_26 : decode cX9_way 26 = .ok (.bipush (-2), 2) := by decide +kernel
theorem dX9_way_28 : decode cX9_way 28 = .ok (.goto 13, 3) := by decide +kernel
theorem dX9_way_31 : decode cX9_way 31 = .ok (.aload_n 3, 1) := by decide +kernel
theorem dX9_way_32 : decode cX9_way 32 = .ok (.aload_n 0, 1) := by decide +kernel
theorem dX9_way_33 : decode cX9_way 33 = .ok (.invokevirtual 215, 3) := by decide +kernel
theorem dX9_way_36 : decode cX9_way 36 = .ok (.iload_n 1, 1) := by decide +kernel
theorem dX9_way_37 : decode cX9_way 37 = .ok (.iload_n 2, 1) := by decide +kernel
theorem dX9_way_38 : decode cX9_way 38 = .ok (.invokevirtual 341, 3) := by decide +kernel
theorem dX9_way_41 : decode cX9_way 41 = .ok (.ireturn, 1) := by decide +kernel
theorem ok_X9_way : okY RX9 yX9_way 2 := ⟨rfl, by decide, by decide, by decide +kernel⟩
def f_X9_way (aL : Nat → Nat) (L : OV) (P : OV) (R : OV) (W : OV) (oC : Nat) (C : OV) (p0 : Int32) (p1 : Int32) : Option (Int32 × OV × OV × OV) := (if p0 < 0 then some ((-1 : Int32), L, R, W) else (if (-1 : Int32) ≤ p1 then (f_X9_currentWays aL L P R W oC C).bind (un3 (fun L_1 R_2 W_3 => (f_X8_total W_3).bind (un1 (fun r_5 => (if (lg_cmp (p0.toInt64) r_5) < 0 then (f_X9_currentRuler aL L_1 P R_2 oC C).bind (un2 (fun L_7 R_8 => (f_X8_endOf W_3 R_8 (aL 2) P p0 p1).bind (un2 (fun r_10 R_11 => some (r_10, L_7, R_11, W_3))))) else some ((-2 : Int32), L_1, R_2, W_3)))))) else some ((-1 : Int32), L, R, W)))
def r_X9_way : Room := { frames := 6, cells := 0, slots := 0, locals := 138 }
set_option maxHeartbeats 4000000 in
set_option maxRecDepth 100000 in
theorem c_X9_way (l : Launch) (D : va_G) (ev : EvT) (cy : Nat → ClassId) (oL : Nat) (aL : Nat → Nat) (L : OV) (aP : Nat → Nat) (P : OV) (aR : Nat → Nat) (R : OV) (aW : Nat → Nat) (W : OV) (oC : Nat) (aC : Nat → Nat) (C : OV) (p0 : Int32) (p1 : Int32) (o : Int32 × OV × OV × OV) (hf : f_X9_way aL L P R W oC C p0 p1 = some o) : Fn l yX9_way cX9_way 4 (some .int) r_X9_way D ev cy [.ref oL, .int p0, .int p1] [gX9 cy oL aL L, gX4 cy (aL 2) aP P, gX7 cy (aL 5) aR R, gX8 cy (aL 9) aW W, gX1 cy oC aC C] (fun v G => v = some (.int o.1) ∧ G = [gX9 cy oL aL o.2.1, gX4 cy (aL 2) aP P, gX7 cy (aL 5) aR o.2.2.1, gX8 cy (aL 9) aW o.2.2.2, gX1 cy oC aC C]) := by
  refine Fn_of (by decide) (Nat.le_of_ble_eq_true rfl) (fun X A Q h hQ _ => ?_)
  unfold f_X9_way at hf
  show ww X D A 4 Q 0 0 0 [(0, .ref oL), (1, .int p0), (2, .int p1)] [] [gX9 cy oL aL L, gX4 cy (aL 2) aP P, gX7 cy (aL 5) aR R, gX8 cy (aL 9) aW W, gX1 cy oC aC C]
  refine ww_iload_n h dX9_way_0 rfl 1 rfl 1 rfl ?_
  refine ww_if_lt h dX9_way_1 9 (by decide) 4 rfl (fun c => ?_) (fun c => ?_)
  · replace hf := ite_t c hf
    refine ww_iconst (v := (-1)) h dX9_way_9 (by decide) 10 rfl ?_
    obtain rfl := Option.some.inj hf
    exact ww_iret h dX9_way_10 hQ ⟨rfl, rfl⟩
  · replace hf := ite_f c hf
    refine ww_iload_n h dX9_way_4 rfl 2 rfl 5 rfl ?_
    refine ww_iconst (v := (-1)) h dX9_way_5 (by decide) 6 rfl ?_
    refine ww_icmp_ge h dX9_way_6 11 (by decide) 9 rfl (fun c => ?_) (fun c => ?_)
    · replace hf := ite_t c hf
      refine ww_aload_n h dX9_way_11 rfl 0 rfl 12 rfl ?_
      obtain ⟨L_1, R_2, W_3, hu4, hf⟩ := ob3 hf
      refine ww_cVr h (c_X9_currentWays l D ev cy oL aL L aP P aR R aW W oC aC C _ hu4) ⟨w_1073, w_1070, w_1072, w_35, w_101, ok_X9_currentWays⟩ ⟨by decide, by decide⟩ ⟨by decide, by decide⟩ ⟨rfl, rfl⟩ [0, 0, 0, 0, 0] rfl 0 rfl rfl rfl rfl (Nat.le_of_ble_eq_true rfl) dX9_way_12 15 rfl (Gs' := [gX9 cy oL aL L_1, gX4 cy (aL 2) aP P, gX7 cy (aL 5) aR R_2, gX8 cy (aL 9) aW W_3, gX1 cy oC aC C]) rfl ?_
      clear hu4
      refine ww_astore_n h dX9_way_15 rfl (by decide) (lo' := [(3, .ref (aL 9)), (0, .ref oL), (1, .int p0), (2, .int p1)]) rfl 16 rfl ?_
      refine ww_iload_n h dX9_way_16 rfl 2 rfl 17 rfl ?_
      refine ww_i2l h dX9_way_17 18 rfl ?_
      refine ww_aload_n h dX9_way_18 rfl 0 rfl 19 rfl ?_
      obtain ⟨r_5, hu6, hf⟩ := ob1 hf
      refine ww_cVl h (c_X8_total l D ev cy (aL 9) aW W_3 _ hu6) ⟨w_1089, w_1086, w_1087, w_1088, w_110, ok_X8_total⟩ ⟨by decide, by decide⟩ ⟨by decide, by decide⟩ ⟨rfl, rfl⟩ [3] rfl 0 rfl rfl rfl rfl (Nat.le_of_ble_eq_true rfl) dX9_way_19 22 rfl (Gs' := [gX8 cy (aL 9) aW W_3, gX9 cy oL aL L_1, gX4 cy (aL 2) aP P, gX7 cy (aL 5) aR R_2, gX1 cy oC aC C]) rfl ?_
      clear hu6
      refine ww_lcmp h dX9_way_22 23 rfl ?_
      refine ww_if_lt h dX9_way_23 31 (by decide) 26 rfl (fun c => ?_) (fun c => ?_)
      · replace hf := ite_t c hf
        refine ww_aload_n h dX9_way_31 rfl 0 rfl 32 rfl ?_
        refine ww_aload_n h dX9_way_32 rfl 1 rfl 33 rfl ?_
        obtain ⟨L_7, R_8, hu9, hf⟩ := ob2 hf
        refine ww_cVr h (c_X9_currentRuler l D ev cy oL aL L_1 aP P aR R_2 oC aC C _ hu9) ⟨w_809, w_806, w_808, w_17, w_101, ok_X9_currentRuler⟩ ⟨by decide, by decide⟩ ⟨by decide, by decide⟩ ⟨rfl, rfl⟩ [1, 1, 1, 1] rfl 0 rfl rfl rfl rfl (Nat.le_of_ble_eq_true rfl) dX9_way_33 36 rfl (Gs' := [gX9 cy oL aL L_7, gX4 cy (aL 2) aP P, gX7 cy (aL 5) aR R_8, gX1 cy oC aC C, gX8 cy (aL 9) aW W_3]) rfl ?_
        clear hu9
        refine ww_iload_n h dX9_way_36 rfl 2 rfl 37 rfl ?_
        refine ww_iload_n h dX9_way_37 rfl 3 rfl 38 rfl ?_
        obtain ⟨r_10, R_11, hu12, hf⟩ := ob2 hf
        refine ww_cVi h (c_X8_endOf l D ev cy (aL 9) aW W_3 (aL 5) aR R_8 (aL 2) aP P p0 p1 _ hu12) ⟨w_1105, w_1102, w_1103, w_1104, w_110, ok_X8_endOf⟩ ⟨by decide, by decide⟩ ⟨by decide, by decide⟩ ⟨rfl, rfl⟩ [4, 2, 1] rfl 0 rfl rfl rfl rfl (Nat.le_of_ble_eq_true rfl) dX9_way_38 41 rfl (Gs' := [gX8 cy (aL 9) aW W_3, gX7 cy (aL 5) aR R_11, gX4 cy (aL 2) aP P, gX9 cy oL aL L_7, gX1 cy oC aC C]) rfl ?_
        clear hu12
        refine ww_perm [3, 2, 1, 0, 0] (Gs' := [gX9 cy oL aL L_7, gX4 cy (aL 2) aP P, gX7 cy (aL 5) aR R_11, gX8 cy (aL 9) aW W_3, gX1 cy oC aC C]) rfl ?_
        obtain rfl := Option.some.inj hf
        exact ww_iret h dX9_way_41 hQ ⟨rfl, rfl⟩
      · replace hf := ite_f c hf
        refine ww_bipush (v := (-2)) h dX9_way_26 (by decide) 28 rfl ?_
        refine ww_goto h dX9_way_28 41 (by decide) ?_
        refine ww_perm [1, 1, 1, 0, 0] (Gs' := [gX9 cy oL aL L_1, gX4 cy (aL 2) aP P, gX7 cy (aL 5) aR R_2, gX8 cy (aL 9) aW W_3, gX1 cy oC aC C]) rfl ?_
        obtain rfl := Option.some.inj hf
        exact ww_iret h dX9_way_41 hQ ⟨rfl, rfl⟩
    · replace hf := ite_f c hf
      refine ww_iconst (v := (-1)) h dX9_way_9 (by decide) 10 rfl ?_
      obtain rfl := Option.some.inj hf
      exact ww_iret h dX9_way_10 hQ ⟨rfl, rfl⟩
theorem dX9_worst_0 : decode cX9_worst 0 = .ok (.bipush (-2), 2) := by decide +kernel
theorem dX9_worst_2 : decode cX9_worst 2 = .ok (.istore_n 1, 1) := by decide +kernel
theorem dX9_worst_3 : decode cX9_worst 3 = .ok (.ldc_w 345, 3) := by decide +kernel
theorem dX9_worst_6 : decode cX9_worst 6 = .ok (.istore_n 2, 1) := by decide +kernel
theorem dX9_worst_7 : decode cX9_worst 7 = .ok (.iconst 0, 1) := by decide +kernel
theorem dX9_worst_8 : decode cX9_worst 8 = .ok (.istore_n 3, 1) := by decide +kernel
theorem dX9_worst_9 : decode cX9_worst 9 = .ok (.iload_n 3, 1) := by decide +kernel
theorem dX9_worst_10 : decode cX9_worst 10 = .ok (.aload_n 0, 1) := by decide +kernel
theorem dX9_worst_11 : decode cX9_worst 11 = .ok (.getfield 34, 3) := by decide +kernel
theorem dX9_worst_14 : decode cX9_worst 14 = .ok (.getfield 117, 3) := by decide +kernel
theorem dX9_worst_17 : decode cX9_worst 17 = .ok (.if_icmp .ge 46, 3) := by decide +kernel
theorem dX9_worst_20 : decode cX9_worst 20 = .ok (.aload_n 0, 1) := by decide +kernel
theorem dX9_worst_21 : decode cX9_worst 21 = .ok (.getfield 38, 3) := by decide +kernel
theorem dX9_worst_24 : decode cX9_worst 24 = .ok (.aload_n 0, 1) := by decide +kernel
theorem dX9_worst_25 : decode cX9_worst 25 = .ok (.getfield 34, 3) := by decide +kernel
theorem dX9_worst_28 : decode cX9_worst 28 = .ok (.invokevirtual 144, 3) := by decide +kernel
theorem dX9_worst_31 : decode cX9_worst 31 = .ok (.aload_n 0, 1) := by decide +kernel
theorem dX9_worst_32 : decode cX9_worst 32 = .ok (.getfield 38, 3) := by decide +kernel
theorem dX9_worst_35 : decode cX9_worst 35 = .ok (.iload_n 3, 1) := by decide +kernel
theorem dX9_worst_36 : decode cX9_worst 36 = .ok (.iconst 1, 1) := by decide +kernel
theorem dX9_worst_37 : decode cX9_worst 37 = .ok (.invokevirtual 137, 3) := by decide +kernel
theorem dX9_worst_40 : decode cX9_worst 40 = .ok (.aload_n 0, 1) := by decide +kernel
theorem dX9_worst_41 : decode cX9_worst 41 = .ok (.invokevirtual 346, 3) := by decide +kernel
theorem dX9_worst_44 : decode cX9_worst 44 = .ok (.istore 4, 2) := by decide +kernel
theorem dX9_worst_46 : decode cX9_worst 46 = .ok (.iload 4, 2) := by decide +kernel
theorem dX9_worst_48 : decode cX9_worst 48 = .ok (.iload_n 2, 1) := by decide +kernel
theorem dX9_worst_49 : decode cX9_worst 49 = .ok (.if_icmp .ge 8, 3) := by decide +kernel
theorem dX9_worst_52 : decode cX9_worst 52 = .ok (.iload 4, 2) := by decide +kernel
theorem dX9_worst_54 : decode cX9_worst 54 = .ok (.istore_n 2, 1) := by decide +kernel
theorem dX9_worst_55 : decode cX9_worst 55 = .ok (.iload_n 3, 1) := by decide +kernel
theorem dX9_worst_56 : decode cX9_worst 56 = .ok (.istore_n 1, 1) := by decide +kernel
theorem dX9_worst_57 : decode cX9_worst 57 = .ok (.iinc 3 1, 3) := by decide +kernel
theorem dX9_worst_60 : decode cX9_worst 60 = .ok (.goto (-51), 3) := by decide +kernel
theorem dX9_worst_63 : decode cX9_worst 63 = .ok (.iload_n 1, 1) := by decide +kernel
theorem dX9_worst_64 : decode cX9_worst 64 = .ok (.ireturn, 1) := by decide +kernel
theorem ok_X9_worst : okY RX9 yX9_worst 0 := ⟨rfl, by decide, by decide, by decide +kernel⟩
def j_X9_worst_57_22 (J_13 : OV) (U_16 : OV) (N_17 : OV) (v3_7 : Int32) (v1_20 : Int32) (v2_21 : Int32) : Option ((Int32 × Int32 × Int32 × OV × OV × OV) ⊕ (Int32 × OV × OV × OV)) := bnd (v3_7 + 1) (fun v3_23 => some (.inl (v1_20, v2_21, v3_23, J_13, U_16, N_17)))
def s_X9_worst_9_4 (oC : Nat) (aL : Nat → Nat) (L : OV) (P : OV) (C : OV) : (Int32 × Int32 × Int32 × OV × OV × OV) → Option ((Int32 × Int32 × Int32 × OV × OV × OV) ⊕ (Int32 × OV × OV × OV)) := un6 (fun v1_5 v2_6 v3_7 J_8 U_9 N_10 => (if (iv P 4) ≤ v3_7 then some (.inr (v1_5, J_8, U_9, N_10)) else (f_X4_copyFrom J_8 P).bind (un1 (fun J_11 => (f_X4_takeOut J_11 v3_7 (1 : Int32)).bind (un1 (fun J_13 => (f_X9_trialCost aL L J_13 U_9 N_10 oC C).bind (un3 (fun r_15 U_16 N_17 => bnd r_15 (fun v4_19 => (if v2_6 ≤ v4_19 then j_X9_worst_57_22 J_13 U_16 N_17 v3_7 v1_5 v2_6 else bnd v4_19 (fun v2_24 => bnd v3_7 (fun v1_25 => j_X9_worst_57_22 J_13 U_16 N_17 v3_7 v1_25 v2_24))))))))))))
def f_X9_worst (aL : Nat → Nat) (L : OV) (P : OV) (J : OV) (U : OV) (N : OV) (oC : Nat) (C : OV) : Option (Int32 × OV × OV × OV) := bnd (-2 : Int32) (fun v1_1 => bnd (1000000000 : Int32) (fun v2_2 => bnd (0 : Int32) (fun v3_3 => ((lp (s_X9_worst_9_4 oC aL L P C) 5000 (v1_1, v2_2, v3_3, J, U, N)).bind (un4 (fun v1_26 J_27 U_28 N_29 => some (v1_26, J_27, U_28, N_29)))))))
def r_X9_worst : Room := { frames := 5, cells := 0, slots := 0, locals := 117 }
set_option maxHeartbeats 4000000 in
set_option maxRecDepth 100000 in
theorem c_X9_worst (l : Launch) (D : va_G) (ev : EvT) (cy : Nat → ClassId) (oL : Nat) (aL : Nat → Nat) (L : OV) (aP : Nat → Nat) (P : OV) (aJ : Nat → Nat) (J : OV) (aU : Nat → Nat) (U : OV) (aN : Nat → Nat) (N : OV) (oC : Nat) (aC : Nat → Nat) (C : OV) (o : Int32 × OV × OV × OV) (hf : f_X9_worst aL L P J U N oC C = some o) : Fn l yX9_worst cX9_worst 5 (some .int) r_X9_worst D ev cy [.ref oL] [gX9 cy oL aL L, gX4 cy (aL 2) aP P, gX4 cy (aL 3) aJ J, gX7 cy (aL 6) aU U, gX5 cy (aL 7) aN N, gX1 cy oC aC C] (fun v G => v = some (.int o.1) ∧ G = [gX9 cy oL aL L, gX4 cy (aL 2) aP P, gX4 cy (aL 3) aJ o.2.1, gX7 cy (aL 6) aU o.2.2.1, gX5 cy (aL 7) aN o.2.2.2, gX1 cy oC aC C]) := by
  refine Fn_of (by decide) (Nat.le_of_ble_eq_true rfl) (fun X A Q h hQ _ => ?_)
  unfold f_X9_worst at hf
  show ww X D A 5 Q 0 0 0 [(0, .ref oL)] [] [gX9 cy oL aL L, gX4 cy (aL 2) aP P, gX4 cy (aL 3) aJ J, gX7 cy (aL 6) aU U, gX5 cy (aL 7) aN N, gX1 cy oC aC C]
  refine ww_bipush (v := (-2)) h dX9_worst_0 (by decide) 2 rfl ?_
  refine ww_ist_n h dX9_worst_2 rfl (by decide) (fun v1_1 => [(1, .int v1_1), (0, .ref oL)]) (fun _ => rfl) 3 rfl (fun v1_1 e => ?_)
  replace hf := bnd_at e hf
  clear e
  refine ww_ldcw h w_856 dX9_worst_3 6 rfl ?_
  refine ww_ist_n h dX9_worst_6 rfl (by decide) (fun v2_2 => [(2, .int v2_2), (1, .int v1_1), (0, .ref oL)]) (fun _ => rfl) 7 rfl (fun v2_2 e => ?_)
  replace hf := bnd_at e hf
  clear e
  refine ww_iconst (v := 0) h dX9_worst_7 (by decide) 8 rfl ?_
  refine ww_ist_n h dX9_worst_8 rfl (by decide) (fun v3_3 => [(3, .int v3_3), (2, .int v2_2), (1, .int v1_1), (0, .ref oL)]) (fun _ => rfl) 9 rfl (fun v3_3 e => ?_)
  replace hf := bnd_at e hf
  clear e
  refine ww_lo [3, 2, 1, 0] (lo' := [(0, .ref oL), (1, .int v1_1), (2, .int v2_2), (3, .int v3_3)]) rfl ?_
  obtain ⟨v1_26, J_27, U_28, N_29, h4, hf⟩ := ob4 hf
  refine lp_walk (un6 (fun v1_5 v2_6 v3_7 J_8 U_9 N_10 => ww X D A 5 Q 0 0 9 [(0, .ref oL), (1, .int v1_5), (2, .int v2_6), (3, .int v3_7)] [] [gX9 cy oL aL L, gX4 cy (aL 2) aP P, gX4 cy (aL 3) aJ J_8, gX7 cy (aL 6) aU U_9, gX5 cy (aL 7) aN N_10, gX1 cy oC aC C])) (un4 (fun v1_26 J_27 U_28 N_29 => ww X D A 5 Q 0 0 63 [(1, .int v1_26)] [] [gX9 cy oL aL L, gX4 cy (aL 2) aP P, gX4 cy (aL 3) aJ J_27, gX7 cy (aL 6) aU U_28, gX5 cy (aL 7) aN N_29, gX1 cy oC aC C])) ?_ _ _ _ h4 ?_
  · clear h4 hf
    intro s4 o4 hf hI4 hE4
    obtain ⟨v1_5, v2_6, v3_7, J_8, U_9, N_10⟩ := s4
    unfold s_X9_worst_9_4 at hf
    replace hf := un6_e hf
    show ww X D A 5 Q 0 0 9 [(0, .ref oL), (1, .int v1_5), (2, .int v2_6), (3, .int v3_7)] [] [gX9 cy oL aL L, gX4 cy (aL 2) aP P, gX4 cy (aL 3) aJ J_8, gX7 cy (aL 6) aU U_9, gX5 cy (aL 7) aN N_10, gX1 cy oC aC C]
    refine ww_iload_n h dX9_worst_9 rfl 3 rfl 10 rfl ?_
    refine ww_aload_n h dX9_worst_10 rfl 0 rfl 11 rfl ?_
    refine ww_get h inG9 rfl 0 rfl rfl 2 (by decide) w_415 rfl dX9_worst_11 14 rfl ?_
    refine ww_get h inG4 rfl 1 rfl rfl 4 (by decide) w_209 rfl dX9_worst_14 17 rfl ?_
    refine ww_icmp_ge h dX9_worst_17 63 (by decide) 20 rfl (fun c => ?_) (fun c => ?_)
    · replace hf := ite_t c hf
      refine ww_lo [1] (lo' := [(1, .int v1_5)]) rfl ?_
      exact hE4 (v1_5, J_8, U_9, N_10) (Option.some.inj hf).symm
    · replace hf := ite_f c hf
      refine ww_aload_n h dX9_worst_20 rfl 0 rfl 21 rfl ?_
      refine ww_get h inG9 rfl 0 rfl rfl 3 (by decide) w_416 rfl dX9_worst_21 24 rfl ?_
      refine ww_aload_n h dX9_worst_24 rfl 0 rfl 25 rfl ?_
      refine ww_get h inG9 rfl 0 rfl rfl 2 (by decide) w_415 rfl dX9_worst_25 28 rfl ?_
      obtain ⟨J_11, hu12, hf⟩ := ob1 hf
      refine ww_cVv h (c_X4_copyFrom l D ev cy (aL 3) aJ J_8 (aL 2) aP P _ hu12) ⟨w_681, w_709, w_679, w_680, w_105, ok_X4_copyFrom⟩ ⟨by decide, by decide⟩ ⟨by decide, by decide⟩ ⟨rfl, rfl⟩ [2, 1] rfl 0 rfl rfl rfl rfl (Nat.le_of_ble_eq_true rfl) dX9_worst_28 31 rfl (Gs' := [gX4 cy (aL 3) aJ J_11, gX4 cy (aL 2) aP P, gX9 cy oL aL L, gX7 cy (aL 6) aU U_9, gX5 cy (aL 7) aN N_10, gX1 cy oC aC C]) rfl ?_
      clear hu12
      refine ww_aload_n h dX9_worst_31 rfl 0 rfl 32 rfl ?_
      refine ww_get h inG9 rfl 2 rfl rfl 3 (by decide) w_416 rfl dX9_worst_32 35 rfl ?_
      refine ww_iload_n h dX9_worst_35 rfl 3 rfl 36 rfl ?_
      refine ww_iconst (v := 1) h dX9_worst_36 (by decide) 37 rfl ?_
      obtain ⟨J_13, hu14, hf⟩ := ob1 hf
      refine ww_cVv h (c_X4_takeOut l D ev cy (aL 3) aJ J_11 v3_7 (1 : Int32) _ hu14) ⟨w_698, w_695, w_696, w_697, w_105, ok_X4_takeOut⟩ ⟨by decide, by decide⟩ ⟨by decide, by decide⟩ ⟨rfl, rfl⟩ [0] rfl 0 rfl rfl rfl rfl (Nat.le_of_ble_eq_true rfl) dX9_worst_37 40 rfl (Gs' := [gX4 cy (aL 3) aJ J_13, gX4 cy (aL 2) aP P, gX9 cy oL aL L, gX7 cy (aL 6) aU U_9, gX5 cy (aL 7) aN N_10, gX1 cy oC aC C]) rfl ?_
      clear hu14
      refine ww_aload_n h dX9_worst_40 rfl 0 rfl 41 rfl ?_
      obtain ⟨r_15, U_16, N_17, hu18, hf⟩ := ob3 hf
      refine ww_cVi h (c_X9_trialCost l D ev cy oL aL L aJ J_13 aU U_9 aN N_10 oC aC C _ hu18) ⟨w_1113, w_1110, w_1112, w_36, w_101, ok_X9_trialCost⟩ ⟨by decide, by decide⟩ ⟨by decide, by decide⟩ ⟨rfl, rfl⟩ [2, 0, 1, 1, 1] rfl 0 rfl rfl rfl rfl (Nat.le_of_ble_eq_true rfl) dX9_worst_41 44 rfl (Gs' := [gX9 cy oL aL L, gX4 cy (aL 3) aJ J_13, gX7 cy (aL 6) aU U_16, gX5 cy (aL 7) aN N_17, gX1 cy oC aC C, gX4 cy (aL 2) aP P]) rfl ?_
      clear hu18
      refine ww_ist h dX9_worst_44 (by decide) (fun v4_19 => [(4, .int v4_19), (0, .ref oL), (1, .int v1_5), (2, .int v2_6), (3, .int v3_7)]) (fun _ => rfl) 46 rfl (fun v4_19 e => ?_)
      replace hf := bnd_at e hf
      clear e
      refine ww_iload h dX9_worst_46 0 rfl 48 rfl ?_
      refine ww_iload_n h dX9_worst_48 rfl 3 rfl 49 rfl ?_
      have hJ57_22 : ∀ (v1_20 : Int32) (v2_21 : Int32), j_X9_worst_57_22 J_13 U_16 N_17 v3_7 v1_20 v2_21 = some o4 → ww X D A 5 Q 0 0 57 [(0, .ref oL), (1, .int v1_20), (2, .int v2_21), (3, .int v3_7)] [] [gX9 cy oL aL L, gX4 cy (aL 2) aP P, gX4 cy (aL 3) aJ J_13, gX7 cy (aL 6) aU U_16, gX5 cy (aL 7) aN N_17, gX1 cy oC aC C] := by
        intro v1_20 v2_21 hf
        unfold j_X9_worst_57_22 at hf
        refine ww_inc (c := 1) h dX9_worst_57 3 rfl (by decide) (by decide) (fun v3_23 => [(3, .int v3_23), (0, .ref oL), (1, .int v1_20), (2, .int v2_21)]) (fun _ => rfl) 60 rfl (fun v3_23 e => ?_)
        replace hf := bnd_at e hf
        clear e
        refine ww_goto h dX9_worst_60 9 (by decide) ?_
        refine ww_lo [1, 2, 3, 0] (lo' := [(0, .ref oL), (1, .int v1_20), (2, .int v2_21), (3, .int v3_23)]) rfl ?_
        exact hI4 (v1_20, v2_21, v3_23, J_13, U_16, N_17) (Option.some.inj hf).symm
      refine ww_icmp_ge h dX9_worst_49 57 (by decide) 52 rfl (fun c => ?_) (fun c => ?_)
      · replace hf := ite_t c hf
        refine ww_lo [1, 2, 3, 4] (lo' := [(0, .ref oL), (1, .int v1_5), (2, .int v2_6), (3, .int v3_7)]) rfl ?_
        refine ww_perm [0, 4, 0, 0, 0, 0] (Gs' := [gX9 cy oL aL L, gX4 cy (aL 2) aP P, gX4 cy (aL 3) aJ J_13, gX7 cy (aL 6) aU U_16, gX5 cy (aL 7) aN N_17, gX1 cy oC aC C]) rfl ?_
        exact hJ57_22 v1_5 v2_6 hf
      · replace hf := ite_f c hf
        refine ww_iload h dX9_worst_52 0 rfl 54 rfl ?_
        refine ww_ist_n h dX9_worst_54 rfl (by decide) (fun v2_24 => [(2, .int v2_24), (4, .int v4_19), (0, .ref oL), (1, .int v1_5), (3, .int v3_7)]) (fun _ => rfl) 55 rfl (fun v2_24 e => ?_)
        replace hf := bnd_at e hf
        clear e
        refine ww_iload_n h dX9_worst_55 rfl 4 rfl 56 rfl ?_
        refine ww_ist_n h dX9_worst_56 rfl (by decide) (fun v1_25 => [(1, .int v1_25), (2, .int v2_24), (4, .int v4_19), (0, .ref oL), (3, .int v3_7)]) (fun _ => rfl) 57 rfl (fun v1_25 e => ?_)
        replace hf := bnd_at e hf
        clear e
        refine ww_lo [3, 0, 1, 4] (lo' := [(0, .ref oL), (1, .int v1_25), (2, .int v2_24), (3, .int v3_7)]) rfl ?_
        refine ww_perm [0, 4, 0, 0, 0, 0] (Gs' := [gX9 cy oL aL L, gX4 cy (aL 2) aP P, gX4 cy (aL 3) aJ J_13, gX7 cy (aL 6) aU U_16, gX5 cy (aL 7) aN N_17, gX1 cy oC aC C]) rfl ?_
        exact hJ57_22 v1_25 v2_24 hf
  · clear h4
    show ww X D A 5 Q 0 0 63 [(1, .int v1_26)] [] [gX9 cy oL aL L, gX4 cy (aL 2) aP P, gX4 cy (aL 3) aJ J_27, gX7 cy (aL 6) aU U_28, gX5 cy (aL 7) aN N_29, gX1 cy oC aC C]
    refine ww_iload_n h dX9_worst_63 rfl 0 rfl 64 rfl ?_
    obtain rfl := Option.some.inj hf
    exact ww_iret h dX9_worst_64 hQ ⟨rfl, rfl⟩
theorem dX9_costMarked_0 : decode cX9_costMarked 0 = .ok (.aload_n 0, 1) := by decide +kernel
theorem dX9_costMarked_1 : decode cX9_costMarked 1 = .ok (.getfield 34, 3) := by decide +kernel
theorem dX9_costMarked_4 : decode cX9_costMarked 4 = .ok (.iload_n 1, 1) := by decide +kernel
theorem dX9_costMarked_5 : decode cX9_costMarked 5 = .ok (.invokevirtual 140, 3) := by decide +kernel
theorem dX9_costMarked_8 : decode cX9_costMarked 8 = .ok (.ifCond .eq 10, 3) := by decide +kernel
theorem dX9_costMarked_11 : decode cX9_costMarked 11 = .ok (.iload_n 2, 1) := by decide +kernel
theorem dX9_costMarked_12 : decode cX9_costMarked 12 = .ok (.invokestatic 156, 3) := by decide +kernel
theorem dX9_costMarked_15 : decode cX9_costMarked 15 = .ok (.ifCond .ne 5, 3) := by decide +kernel
theorem dX9_costMarked_18 : decode cX9_costMarked 18 = .ok (.iconst (-1), 1) := by decide +kernel
theorem dX9_costMarked_19 : decode cX9_costMarked 19 = .ok (.ireturn, 1) := by decide +kernel
theorem dX9_costMarked_20 : decode cX9_costMarked 20 = .ok (.aload_n 0, 1) := by decide +kernel
theorem dX9_costMarked_21 : decode cX9_costMarked 21 = .ok (.getfield 38, 3) := by decide +kernel
theorem dX9_costMarked_24 : decode cX9_costMarked 24 = .ok (.aload_n 0, 1) := by decide +kernel
theorem dX9_costMarked_25 : decode cX9_costMarked 25 = .ok (.getfield 34, 3) := by decide +kernel
theorem dX9_costMarked_28 : decode cX9_costMarked 28 = .ok (.invokevirtual 144, 3) := by decide +kernel
theorem dX9_costMarked_31 : decode cX9_costMarked 31 = .ok (.aload_n 0, 1) := by decide +kernel
theorem dX9_costMarked_32 : decode cX9_costMarked 32 = .ok (.getfield 38, 3) := by decide +kernel
theorem dX9_costMarked_35 : decode cX9_costMarked 35 = .ok (.getfield 159, 3) := by decide +kernel
theorem dX9_costMarked_38 : decode cX9_costMarked 38 = .ok (.iload_n 1, 1) := by decide +kernel
theorem dX9_costMarked_39 : decode cX9_costMarked 39 = .ok (.iload_n 2, 1) := by decide +kernel
theorem dX9_costMarked_40 : decode cX9_costMarked 40 = .ok (.iastore, 1) := by decide +kernel
theorem dX9_costMarked_41 : decode cX9_costMarked 41 = .ok (.aload_n 0, 1) := by decide +kernel
theorem dX9_costMarked_42 : decode cX9_costMarked 42 = .ok (.invokevirtual 346, 3) := by decide +kernel
theorem dX9_costMarked_45 : decode cX9_costMarked 45 = .ok (.ireturn, 1) := by decide +kernel
theorem ok_X9_costMarked : okY RX9 yX9_costMarked 2 := ⟨rfl, by decide, by decide, by decide +kernel⟩
def f_X9_costMarked (aL : Nat → Nat) (L : OV) (P : OV) (J : OV) (U : OV) (N : OV) (oC : Nat) (C : OV) (p0 : Int32) (p1 : Int32) : Option (Int32 × OV × OV × OV) := (f_X4_has P p0).bind (un1 (fun r_1 => (if r_1 = 0 then some ((-1 : Int32), J, U, N) else (f_X9_isMark p1).bind (un1 (fun r_3 => (if r_3 = 0 then some ((-1 : Int32), J, U, N) else (f_X4_copyFrom J P).bind (un1 (fun J_5 => gd (ix p0 40) (bnd (sA J_5 1 p0.toNatClampNeg p1) (fun J_7 => (f_X9_trialCost aL L J_7 U N oC C).bind (un3 (fun r_8 U_9 N_10 => some (r_8, J_7, U_9, N_10)))))))))))))
def r_X9_costMarked : Room := { frames := 5, cells := 0, slots := 0, locals := 117 }
set_option maxHeartbeats 4000000 in
set_option maxRecDepth 100000 in
theorem c_X9_costMarked (l : Launch) (D : va_G) (ev : EvT) (cy : Nat → ClassId) (oL : Nat) (aL : Nat → Nat) (L : OV) (aP : Nat → Nat) (P : OV) (aJ : Nat → Nat) (J : OV) (aU : Nat → Nat) (U : OV) (aN : Nat → Nat) (N : OV) (oC : Nat) (aC : Nat → Nat) (C : OV) (p0 : Int32) (p1 : Int32) (o : Int32 × OV × OV × OV) (hf : f_X9_costMarked aL L P J U N oC C p0 p1 = some o) : Fn l yX9_costMarked cX9_costMarked 3 (some .int) r_X9_costMarked D ev cy [.ref oL, .int p0, .int p1] [gX9 cy oL aL L, gX4 cy (aL 2) aP P, gX4 cy (aL 3) aJ J, gX7 cy (aL 6) aU U, gX5 cy (aL 7) aN N, gX1 cy oC aC C] (fun v G => v = some (.int o.1) ∧ G = [gX9 cy oL aL L, gX4 cy (aL 2) aP P, gX4 cy (aL 3) aJ o.2.1, gX7 cy (aL 6) aU o.2.2.1, gX5 cy (aL 7) aN o.2.2.2, gX1 cy oC aC C]) := by
  refine Fn_of (by decide) (Nat.le_of_ble_eq_true rfl) (fun X A Q h hQ _ => ?_)
  unfold f_X9_costMarked at hf
  show ww X D A 3 Q 0 0 0 [(0, .ref oL), (1, .int p0), (2, .int p1)] [] [gX9 cy oL aL L, gX4 cy (aL 2) aP P, gX4 cy (aL 3) aJ J, gX7 cy (aL 6) aU U, gX5 cy (aL 7) aN N, gX1 cy oC aC C]
  refine ww_aload_n h dX9_costMarked_0 rfl 0 rfl 1 rfl ?_
  refine ww_get h inG9 rfl 0 rfl rfl 2 (by decide) w_415 rfl dX9_costMarked_1 4 rfl ?_
  refine ww_iload_n h dX9_costMarked_4 rfl 1 rfl 5 rfl ?_
  obtain ⟨r_1, hu2, hf⟩ := ob1 hf
  refine ww_cVi h (c_X4_has l D ev cy (aL 2) aP P p0 _ hu2) ⟨w_694, w_704, w_692, w_693, w_105, ok_X4_has⟩ ⟨by decide, by decide⟩ ⟨by decide, by decide⟩ ⟨rfl, rfl⟩ [1] rfl 0 rfl rfl rfl rfl (Nat.le_of_ble_eq_true rfl) dX9_costMarked_5 8 rfl (Gs' := [gX4 cy (aL 2) aP P, gX9 cy oL aL L, gX4 cy (aL 3) aJ J, gX7 cy (aL 6) aU U, gX5 cy (aL 7) aN N, gX1 cy oC aC C]) rfl ?_
  clear hu2
  refine ww_if_eq h dX9_costMarked_8 18 (by decide) 11 rfl (fun c => ?_) (fun c => ?_)
  · replace hf := ite_t c hf
    refine ww_iconst (v := (-1)) h dX9_costMarked_18 (by decide) 19 rfl ?_
    refine ww_perm [1, 0, 0, 0, 0, 0] (Gs' := [gX9 cy oL aL L, gX4 cy (aL 2) aP P, gX4 cy (aL 3) aJ J, gX7 cy (aL 6) aU U, gX5 cy (aL 7) aN N, gX1 cy oC aC C]) rfl ?_
    obtain rfl := Option.some.inj hf
    exact ww_iret h dX9_costMarked_19 hQ ⟨rfl, rfl⟩
  · replace hf := ite_f c hf
    refine ww_iload_n h dX9_costMarked_11 rfl 2 rfl 12 rfl ?_
    obtain ⟨r_3, hu4, hf⟩ := ob1 hf
    refine ww_cSi h (c_X9_isMark l D ev cy p1 _ hu4) ⟨w_728, w_726, w_727, w_101, ok_X9_isMark⟩ ⟨by decide, by decide⟩ ⟨by decide, by decide⟩ ⟨rfl, rfl⟩ [] rfl rfl (Nat.le_of_ble_eq_true rfl) dX9_costMarked_12 15 rfl (Gs' := [gX4 cy (aL 2) aP P, gX9 cy oL aL L, gX4 cy (aL 3) aJ J, gX7 cy (aL 6) aU U, gX5 cy (aL 7) aN N, gX1 cy oC aC C]) rfl ?_
    clear hu4
    refine ww_if_ne h dX9_costMarked_15 20 (by decide) 18 rfl (fun c => ?_) (fun c => ?_)
    · replace hf := ite_f c hf
      refine ww_aload_n h dX9_costMarked_20 rfl 0 rfl 21 rfl ?_
      refine ww_get h inG9 rfl 1 rfl rfl 3 (by decide) w_416 rfl dX9_costMarked_21 24 rfl ?_
      refine ww_aload_n h dX9_costMarked_24 rfl 0 rfl 25 rfl ?_
      refine ww_get h inG9 rfl 1 rfl rfl 2 (by decide) w_415 rfl dX9_costMarked_25 28 rfl ?_
      obtain ⟨J_5, hu6, hf⟩ := ob1 hf
      refine ww_cVv h (c_X4_copyFrom l D ev cy (aL 3) aJ J (aL 2) aP P _ hu6) ⟨w_681, w_709, w_679, w_680, w_105, ok_X4_copyFrom⟩ ⟨by decide, by decide⟩ ⟨by decide, by decide⟩ ⟨rfl, rfl⟩ [2, 0] rfl 0 rfl rfl rfl rfl (Nat.le_of_ble_eq_true rfl) dX9_costMarked_28 31 rfl (Gs' := [gX4 cy (aL 3) aJ J_5, gX4 cy (aL 2) aP P, gX9 cy oL aL L, gX7 cy (aL 6) aU U, gX5 cy (aL 7) aN N, gX1 cy oC aC C]) rfl ?_
      clear hu6
      refine ww_aload_n h dX9_costMarked_31 rfl 0 rfl 32 rfl ?_
      refine ww_get h inG9 rfl 2 rfl rfl 3 (by decide) w_416 rfl dX9_costMarked_32 35 rfl ?_
      refine ww_get h inG4 rfl 0 rfl rfl 1 (by decide) w_201 rfl dX9_costMarked_35 38 rfl ?_
      refine ww_iload_n h dX9_costMarked_38 rfl 1 rfl 39 rfl ?_
      refine ww_iload_n h dX9_costMarked_39 rfl 2 rfl 40 rfl ?_
      have hi := (gd_some hf).1
      replace hf := (gd_some hf).2
      refine ww_iast h 0 rfl 2 rfl (ix_in hi) dX9_costMarked_40 41 rfl ?_
      clear hi
      refine ww_nm (fun z => [gX4 cy (aL 3) aJ z, gX4 cy (aL 2) aP P, gX9 cy oL aL L, gX7 cy (aL 6) aU U, gX5 cy (aL 7) aN N, gX1 cy oC aC C]) (sA J_5 1 p0.toNatClampNeg p1) (fun J_7 e => ?_)
      replace hf := bnd_at e hf
      clear e
      refine ww_aload_n h dX9_costMarked_41 rfl 0 rfl 42 rfl ?_
      obtain ⟨r_8, U_9, N_10, hu11, hf⟩ := ob3 hf
      refine ww_cVi h (c_X9_trialCost l D ev cy oL aL L aJ J_7 aU U aN N oC aC C _ hu11) ⟨w_1113, w_1110, w_1112, w_36, w_101, ok_X9_trialCost⟩ ⟨by decide, by decide⟩ ⟨by decide, by decide⟩ ⟨rfl, rfl⟩ [2, 0, 1, 1, 1] rfl 0 rfl rfl rfl rfl (Nat.le_of_ble_eq_true rfl) dX9_costMarked_42 45 rfl (Gs' := [gX9 cy oL aL L, gX4 cy (aL 3) aJ J_7, gX7 cy (aL 6) aU U_9, gX5 cy (aL 7) aN N_10, gX1 cy oC aC C, gX4 cy (aL 2) aP P]) rfl ?_
      clear hu11
      refine ww_perm [0, 4, 0, 0, 0, 0] (Gs' := [gX9 cy oL aL L, gX4 cy (aL 2) aP P, gX4 cy (aL 3) aJ J_7, gX7 cy (aL 6) aU U_9, gX5 cy (aL 7) aN N_10, gX1 cy oC aC C]) rfl ?_
      obtain rfl := Option.some.inj hf
      exact ww_iret h dX9_costMarked_45 hQ ⟨rfl, rfl⟩
    · replace hf := ite_t c hf
      refine ww_iconst (v := (-1)) h dX9_costMarked_18 (by decide) 19 rfl ?_
      refine ww_perm [1, 0, 0, 0, 0, 0] (Gs' := [gX9 cy oL aL L, gX4 cy (aL 2) aP P, gX4 cy (aL 3) aJ J, gX7 cy (aL 6) aU U, gX5 cy (aL 7) aN N, gX1 cy oC aC C]) rfl ?_
      obtain rfl := Option.some.inj hf
      exact ww_iret h dX9_costMarked_19 hQ ⟨rfl, rfl⟩
theorem dX9_costBy_0 : decode cX9_costBy 0 = .ok (.iload_n 1, 1) := by decide +kernel
theorem dX9_costBy_1 : decode cX9_costBy 1 = .ok (.invokestatic 162, 3) := by decide +kernel
theorem dX9_costBy_4 : decode cX9_costBy 4 = .ok (.ifCond .ne 5, 3) := by decide +kernel
theorem dX9_costBy_7 : decode cX9_costBy 7 = .ok (.iconst (-1), 1) := by decide +kernel
theorem dX9_costBy_8 : decode cX9_costBy 8 = .ok (.ireturn, 1) := by decide +kernel
theorem dX9_costBy_9 : decode cX9_costBy 9 = .ok (.aload_n 0, 1) := by decide +kernel
theorem dX9_costBy_10 : decode cX9_costBy 10 = .ok (.getfield 38, 3) := by decide +kernel
theorem dX9_costBy_13 : decode cX9_costBy 13 = .ok (.aload_n 0, 1) := by decide +kernel
theorem dX9_costBy_14 : decode cX9_costBy 14 = .ok (.getfield 34, 3) := by decide +kernel
theorem dX9_costBy_17 : decode cX9_costBy 17 = .ok (.invokevirtual 144, 3) := by decide +kernel
theorem dX9_costBy_20 : decode cX9_costBy 20 = .ok (.aload_n 0, 1) := by decide +kernel
theorem dX9_costBy_21 : decode cX9_costBy 21 = .ok (.getfield 38, 3) := by decide +kernel
theorem dX9_costBy_24 : decode cX9_costBy 24 = .ok (.iload_n 1, 1) := by decide +kernel
theorem dX9_costBy_25 : decode cX9_costBy 25 = .ok (.putfield 165, 3) := by decide +kernel
theorem dX9_costBy_28 : decode cX9_costBy 28 = .ok (.aload_n 0, 1) := by decide +kernel
theorem dX9_costBy_29 : decode cX9_costBy 29 = .ok (.invokevirtual 346, 3) := by decide +kernel
theorem dX9_costBy_32 : decode cX9_costBy 32 = .ok (.ireturn, 1) := by decide +kernel
theorem ok_X9_costBy : okY RX9 yX9_costBy 1 := ⟨rfl, by decide, by decide, by decide +kernel⟩
def f_X9_costBy (aL : Nat → Nat) (L : OV) (P : OV) (J : OV) (U : OV) (N : OV) (oC : Nat) (C : OV) (p0 : Int32) : Option (Int32 × OV × OV × OV) := (f_X9_isWidth p0).bind (un1 (fun r_1 => (if r_1 = 0 then some ((-1 : Int32), J, U, N) else (f_X4_copyFrom J P).bind (un1 (fun J_3 => bnd (sI J_3 5 p0) (fun J_5 => (f_X9_trialCost aL L J_5 U N oC C).bind (un3 (fun r_6 U_7 N_8 => some (r_6, J_5, U_7, N_8)))))))))
def r_X9_costBy : Room := { frames := 5, cells := 0, slots := 0, locals := 117 }
set_option maxHeartbeats 4000000 in
set_option maxRecDepth 100000 in
theorem c_X9_costBy (l : Launch) (D : va_G) (ev : EvT) (cy : Nat → ClassId) (oL : Nat) (aL : Nat → Nat) (L : OV) (aP : Nat → Nat) (P : OV) (aJ : Nat → Nat) (J : OV) (aU : Nat → Nat) (U : OV) (aN : Nat → Nat) (N : OV) (oC : Nat) (aC : Nat → Nat) (C : OV) (p0 : Int32) (o : Int32 × OV × OV × OV) (hf : f_X9_costBy aL L P J U N oC C p0 = some o) : Fn l yX9_costBy cX9_costBy 2 (some .int) r_X9_costBy D ev cy [.ref oL, .int p0] [gX9 cy oL aL L, gX4 cy (aL 2) aP P, gX4 cy (aL 3) aJ J, gX7 cy (aL 6) aU U, gX5 cy (aL 7) aN N, gX1 cy oC aC C] (fun v G => v = some (.int o.1) ∧ G = [gX9 cy oL aL L, gX4 cy (aL 2) aP P, gX4 cy (aL 3) aJ o.2.1, gX7 cy (aL 6) aU o.2.2.1, gX5 cy (aL 7) aN o.2.2.2, gX1 cy oC aC C]) := by
  refine Fn_of (by decide) (Nat.le_of_ble_eq_true rfl) (fun X A Q h hQ _ => ?_)
  unfold f_X9_costBy at hf
  show ww X D A 2 Q 0 0 0 [(0, .ref oL), (1, .int p0)] [] [gX9 cy oL aL L, gX4 cy (aL 2) aP P, gX4 cy (aL 3) aJ J, gX7 cy (aL 6) aU U, gX5 cy (aL 7) aN N, gX1 cy oC aC C]
  refine ww_iload_n h dX9_costBy_0 rfl 1 rfl 1 rfl ?_
  obtain ⟨r_1, hu2, hf⟩ := ob1 hf
  refine ww_cSi h (c_X9_isWidth l D ev cy p0 _ hu2) ⟨w_735, w_733, w_734, w_101, ok_X9_isWidth⟩ ⟨by decide, by decide⟩ ⟨by decide, by decide⟩ ⟨rfl, rfl⟩ [] rfl rfl (Nat.le_of_ble_eq_true rfl) dX9_costBy_1 4 rfl (Gs' := [gX9 cy oL aL L, gX4 cy (aL 2) aP P, gX4 cy (aL 3) aJ J, gX7 cy (aL 6) aU U, gX5 cy (aL 7) aN N, gX1 cy oC aC C]) rfl ?_
  clear hu2
  refine ww_if_ne h dX9_costBy_4 9 (by decide) 7 rfl (fun c => ?_) (fun c => ?_)
  · replace hf := ite_f c hf
    refine ww_aload_n h dX9_costBy_9 rfl 0 rfl 10 rfl ?_
    refine ww_get h inG9 rfl 0 rfl rfl 3 (by decide) w_416 rfl dX9_costBy_10 13 rfl ?_
    refine ww_aload_n h dX9_costBy_13 rfl 0 rfl 14 rfl ?_
    refine ww_get h inG9 rfl 0 rfl rfl 2 (by decide) w_415 rfl dX9_costBy_14 17 rfl ?_
    obtain ⟨J_3, hu4, hf⟩ := ob1 hf
    refine ww_cVv h (c_X4_copyFrom l D ev cy (aL 3) aJ J (aL 2) aP P _ hu4) ⟨w_681, w_709, w_679, w_680, w_105, ok_X4_copyFrom⟩ ⟨by decide, by decide⟩ ⟨by decide, by decide⟩ ⟨rfl, rfl⟩ [2, 1] rfl 0 rfl rfl rfl rfl (Nat.le_of_ble_eq_true rfl) dX9_costBy_17 20 rfl (Gs' := [gX4 cy (aL 3) aJ J_3, gX4 cy (aL 2) aP P, gX9 cy oL aL L, gX7 cy (aL 6) aU U, gX5 cy (aL 7) aN N, gX1 cy oC aC C]) rfl ?_
    clear hu4
    refine ww_aload_n h dX9_costBy_20 rfl 0 rfl 21 rfl ?_
    refine ww_get h inG9 rfl 2 rfl rfl 3 (by decide) w_416 rfl dX9_costBy_21 24 rfl ?_
    refine ww_iload_n h dX9_costBy_24 rfl 1 rfl 25 rfl ?_
    refine ww_put (ty := .int) h inG4 tyX4_ok nmX4 rfl 0 rfl rfl 5 (by decide) w_212 rfl (by decide +kernel) rfl rfl (Nat.le_of_ble_eq_true rfl) (Nat.le_of_ble_eq_true rfl) dX9_costBy_25 28 rfl ?_
    refine ww_nm (fun z => [gX4 cy (aL 3) aJ z, gX4 cy (aL 2) aP P, gX9 cy oL aL L, gX7 cy (aL 6) aU U, gX5 cy (aL 7) aN N, gX1 cy oC aC C]) (sI J_3 5 p0) (fun J_5 e => ?_)
    replace hf := bnd_at e hf
    clear e
    refine ww_aload_n h dX9_costBy_28 rfl 0 rfl 29 rfl ?_
    obtain ⟨r_6, U_7, N_8, hu9, hf⟩ := ob3 hf
    refine ww_cVi h (c_X9_trialCost l D ev cy oL aL L aJ J_5 aU U aN N oC aC C _ hu9) ⟨w_1113, w_1110, w_1112, w_36, w_101, ok_X9_trialCost⟩ ⟨by decide, by decide⟩ ⟨by decide, by decide⟩ ⟨rfl, rfl⟩ [2, 0, 1, 1, 1] rfl 0 rfl rfl rfl rfl (Nat.le_of_ble_eq_true rfl) dX9_costBy_29 32 rfl (Gs' := [gX9 cy oL aL L, gX4 cy (aL 3) aJ J_5, gX7 cy (aL 6) aU U_7, gX5 cy (aL 7) aN N_8, gX1 cy oC aC C, gX4 cy (aL 2) aP P]) rfl ?_
    clear hu9
    refine ww_perm [0, 4, 0, 0, 0, 0] (Gs' := [gX9 cy oL aL L, gX4 cy (aL 2) aP P, gX4 cy (aL 3) aJ J_5, gX7 cy (aL 6) aU U_7, gX5 cy (aL 7) aN N_8, gX1 cy oC aC C]) rfl ?_
    obtain rfl := Option.some.inj hf
    exact ww_iret h dX9_costBy_32 hQ ⟨rfl, rfl⟩
  · replace hf := ite_t c hf
    refine ww_iconst (v := (-1)) h dX9_costBy_7 (by decide) 8 rfl ?_
    obtain rfl := Option.some.inj hf
    exact ww_iret h dX9_costBy_8 hQ ⟨rfl, rfl⟩
theorem dX9_atEnds_0 : decode cX9_atEnds 0 = .ok (.iload_n 1, 1) := by decide +kernel
theorem dX9_atEnds_1 : decode cX9_atEnds 1 = .ok (.invokestatic 231, 3) := by decide +kernel
theorem dX9_atEnds_4 : decode cX9_atEnds 4 = .ok (.ifCond .eq 14, 3) := by decide +kernel
theorem dX9_atEnds_7 : decode cX9_atEnds 7 = .ok (.aload_n 0, 1) := by decide +kernel
theorem dX9_atEnds_8 : decode cX9_atEnds 8 = .ok (.getfield 24, 3) := by decide +kernel
theorem dX9_atEnds_11 : decode cX9_atEnds 11 = .ok (.iload_n 2, 1) := by decide +kernel
theorem dX9_atEnds_12 : decode cX9_atEnds 12 = .ok (.invokevirtual 126, 3) := by decide +kernel
theorem dX9_atEnds_15 : decode cX9_atEnds 15 = .ok (.ifCond .ne 5, 3) := by decide +kernel
theorem dX9_atEnds_18 : decode cX9_atEnds 18 = .ok (.iconst (-1), 1) := by decide +kernel
theorem dX9_atEnds_19 : decode cX9_atEnds 19 = .ok (.ireturn, 1) := by decide +kernel
theorem dX9_atEnds_20 : decode cX9_atEnds 20 = .ok (.aload_n 0, 1) := by decide +kernel
theorem dX9_atEnds_21 : decode cX9_atEnds 21 = .ok (.iload_n 1, 1) := by decide +kernel
theorem dX9_atEnds_22 : decode cX9_atEnds 22 = .ok (.invokevirtual 234, 3) := by decide +kernel
theorem dX9_atEnds_25 : decode cX9_atEnds 25 = .ok (.astore 4, 2) := by decide +kernel
theorem dX9_atEnds_27 : decode cX9_atEnds 27 = .ok (.aload 4, 2) := by decide +kernel
theorem dX9_atEnds_29 : decode cX9_atEnds 29 = .ok (.getfield 249, 3) := by decide +kernel
theorem dX9_atEnds_32 : decode cX9_atEnds 32 = .ok (.iload_n 3, 1) := by decide +kernel
theorem dX9_atEnds_33 : decode cX9_atEnds 33 = .ok (.ifCond .eq 7, 3) := by decide +kernel
theorem dX9_atEnds_36 : decode cX9_atEnds 36 = .ok (.iconst 1, 1) := by decide +kernel
theorem dX9_atEnds_37 : decode cX9_atEnds 37 = .ok (.goto 4, 3) := by decide +kernel
theorem dX9_atEnds_40 : decode cX9_atEnds 40 = .ok (.iconst 0, 1) := by decide +kernel
theorem dX9_atEnds_41 : decode cX9_atEnds 41 = .ok (.aaload, 1) := by decide +kernel
theorem dX9_atEnds_42 : decode cX9_atEnds 42 = .ok (.astore 5, 2) := by decide +kernel
theorem dX9_atEnds_44 : decode cX9_atEnds 44 = .ok (.iconst 0, 1) := by decide +kernel
theorem dX9_atEnds_45 : decode cX9_atEnds 45 = .ok (.istore 6, 2) := by decide +kernel
theorem dX9_atEnds_47 : decode cX9_atEnds 47 = .ok (.iconst 0, 1) := by decide +kernel
theorem dX9_atEnds_48 : decode cX9_atEnds 48 = .ok (.istore 7, 2) := by decide +kernel
theorem dX9_atEnds_50 : decode cX9_atEnds 50 = .ok (.iload 7, 2) := by decide +kernel
theorem dX9_atEnds_52 : decode cX9_atEnds 52 = .ok (.aload 4, 2) := by decide +kernel
theorem dX9_atEnds_54 : decode cX9_atEnds 54 = .ok (.getfield 238, 3) := by decide +kernel
theorem dX9_atEnds_57 : decode cX9_atEnds 57 = .ok (.if_icmp .ge 29, 3) := by decide +kernel
theorem dX9_atEnds_60 : decode cX9_atEnds 60 = .ok (.aload_n 0, 1) := by decide +kernel
theorem dX9_atEnds_61 : decode cX9_atEnds 61 = .ok (.getfield 34, 3) := by decide +kernel
theorem dX9_atEnds_64 : decode cX9_atEnds 64 = .ok (.getfield 141, 3) := by decide +kernel
theorem dX9_atEnds_67 : decode cX9_atEnds 67 = .ok (.aload 5, 2) := by decide +kernel
theorem dX9_atEnds_69 : decode cX9_atEnds 69 = .ok (.iload 7, 2) := by decide +kernel
theorem dX9_atEnds_71 : decode cX9_atEnds 71 = .ok (.iaload, 1) := by decide +kernel
theorem dX9_atEnds_72 : decode cX9_atEnds 72 = .ok (.iaload, 1) := by decide +kernel
theorem dX9_atEnds_73 : decode cX9_atEnds 73 = .ok (.iload_n 2, 1) := by decide +kernel
theorem dX9_atEnds_74 : decode cX9_atEnds 74 = .ok (.if_icmp .ne 6, 3) := by decide +kernel
theorem dX9_atEnds_77 : decode cX9_atEnds 77 = .ok (.iinc 6 1, 3) := by decide +kernel
theorem dX9_atEnds_80 : decode cX9_atEnds 80 = .ok (.iinc 7 1, 3) := by decide +kernel
theorem dX9_atEnds_83 : decode cX9_atEnds 83 = .ok (.goto (-33), 3) := by decide +kernel
theorem dX9_atEnds_86 : decode cX9_atEnds 86 = .ok (.iload 6, 2) := by decide +kernel
theorem dX9_atEnds_88 : decode cX9_atEnds 88 = .ok (.ireturn, 1) := by decide +kernel
theorem ok_X9_atEnds : okY RX9 yX9_atEnds 3 := ⟨rfl, by decide, by decide, by decide +kernel⟩
def j_X9_atEnds_80_19 (v7_17 : Int32) (v6_18 : Int32) : Option ((Int32 × Int32) ⊕ (Int32)) := bnd (v7_17 + 1) (fun v7_20 => some (.inl (v6_18, v7_20)))
def s_X9_atEnds_50_15 (P : OV) (Y_8 : OV) (p1 : Int32) (t_10 : Int32) : (Int32 × Int32) → Option ((Int32 × Int32) ⊕ (Int32)) := un2 (fun v6_16 v7_17 => (if (iv Y_8 6) ≤ v7_17 then some (.inr v6_16) else gd (ix v7_17 40) (gd (ix (gr Y_8 0 t_10.toNatClampNeg v7_17.toNatClampNeg) 40) ((if (ar P 0 (gr Y_8 0 t_10.toNatClampNeg v7_17.toNatClampNeg).toNatClampNeg) = p1 then bnd (v6_16 + 1) (fun v6_21 => j_X9_atEnds_80_19 v7_17 v6_21) else j_X9_atEnds_80_19 v7_17 v6_16)))))
def j_X9_atEnds_41_11 (P : OV) (L_5 : OV) (R_6 : OV) (N_7 : OV) (Y_8 : OV) (p1 : Int32) (t_10 : Int32) : Option (Int32 × OV × OV × OV × OV) := gd (ix t_10 11) (bnd (0 : Int32) (fun v6_13 => bnd (0 : Int32) (fun v7_14 => ((lp (s_X9_atEnds_50_15 P Y_8 p1 t_10) 5000 (v6_13, v7_14)).bind (un1 (fun v6_22 => some (v6_22, L_5, R_6, N_7, Y_8)))))))
def f_X9_atEnds (aL : Nat → Nat) (L : OV) (P : OV) (R : OV) (N : OV) (oC : Nat) (C : OV) (oY : Nat) (Y : OV) (p0 : Int32) (p1 : Int32) (p2 : Int32) : Option (Int32 × OV × OV × OV × OV) := (f_X9_isKind p0).bind (un1 (fun r_1 => (if r_1 = 0 then some ((-1 : Int32), L, R, N, Y) else gd (decide (nv L 10 = oC)) ((f_X1_has C p1).bind (un1 (fun r_3 => (if r_3 = 0 then some ((-1 : Int32), L, R, N, Y) else (f_X9_layoutOf aL L P R N oC C oY Y p0).bind (un4 (fun L_5 R_6 N_7 Y_8 => (if p2 = 0 then j_X9_atEnds_41_11 P L_5 R_6 N_7 Y_8 p1 (0 : Int32) else j_X9_atEnds_41_11 P L_5 R_6 N_7 Y_8 p1 (1 : Int32)))))))))))
def r_X9_atEnds : Room := { frames := 6, cells := 0, slots := 0, locals := 147 }
set_option maxHeartbeats 4000000 in
set_option maxRecDepth 100000 in
theorem c_X9_atEnds (l : Launch) (D : va_G) (ev : EvT) (cy : Nat → ClassId) (oL : Nat) (aL : Nat → Nat) (L : OV) (aP : Nat → Nat) (P : OV) (aR : Nat → Nat) (R : OV) (aN : Nat → Nat) (N : OV) (oC : Nat) (aC : Nat → Nat) (C : OV) (oY : Nat) (aY : Nat → Nat) (Y : OV) (p0 : Int32) (p1 : Int32) (p2 : Int32) (o : Int32 × OV × OV × OV × OV) (hf : f_X9_atEnds aL L P R N oC C oY Y p0 p1 p2 = some o) : Fn l yX9_atEnds cX9_atEnds 8 (some .int) r_X9_atEnds D ev cy [.ref oL, .int p0, .int p1, .int p2] [gX9 cy oL aL L, gX4 cy (aL 2) aP P, gX7 cy (aL 5) aR R, gX5 cy (aL 7) aN N, gX1 cy oC aC C, gX3 cy oY aY Y] (fun v G => v = some (.int o.1) ∧ G = [gX9 cy oL aL o.2.1, gX4 cy (aL 2) aP P, gX7 cy (aL 5) aR o.2.2.1, gX5 cy (aL 7) aN o.2.2.2.1, gX1 cy oC aC C, gX3 cy oY aY o.2.2.2.2]) := by
  refine Fn_of (by decide) (Nat.le_of_ble_eq_true rfl) (fun X A Q h hQ _ => ?_)
  unfold f_X9_atEnds at hf
  show ww X D A 8 Q 0 0 0 [(0, .ref oL), (1, .int p0), (2, .int p1), (3, .int p2)] [] [gX9 cy oL aL L, gX4 cy (aL 2) aP P, gX7 cy (aL 5) aR R, gX5 cy (aL 7) aN N, gX1 cy oC aC C, gX3 cy oY aY Y]
  refine ww_iload_n h dX9_atEnds_0 rfl 1 rfl 1 rfl ?_
  obtain ⟨r_1, hu2, hf⟩ := ob1 hf
  refine ww_cSi h (c_X9_isKind l D ev cy p0 _ hu2) ⟨w_851, w_849, w_850, w_101, ok_X9_isKind⟩ ⟨by decide, by decide⟩ ⟨by decide, by decide⟩ ⟨rfl, rfl⟩ [] rfl rfl (Nat.le_of_ble_eq_true rfl) dX9_atEnds_1 4 rfl (Gs' := [gX9 cy oL aL L, gX4 cy (aL 2) aP P, gX7 cy (aL 5) aR R, gX5 cy (aL 7) aN N, gX1 cy oC aC C, gX3 cy oY aY Y]) rfl ?_
  clear hu2
  refine ww_if_eq h dX9_atEnds_4 18 (by decide) 7 rfl (fun c => ?_) (fun c => ?_)
  · replace hf := ite_t c hf
    refine ww_iconst (v := (-1)) h dX9_atEnds_18 (by decide) 19 rfl ?_
    obtain rfl := Option.some.inj hf
    exact ww_iret h dX9_atEnds_19 hQ ⟨rfl, rfl⟩
  · replace hf := ite_f c hf
    refine ww_aload_n h dX9_atEnds_7 rfl 0 rfl 8 rfl ?_
    refine ww_get h inG9 rfl 0 rfl rfl 10 (by decide) w_423 rfl dX9_atEnds_8 11 rfl ?_
    have hi := (gd_some hf).1
    replace hf := (gd_some hf).2
    refine ww_ref hi ?_
    clear hi
    refine ww_iload_n h dX9_atEnds_11 rfl 2 rfl 12 rfl ?_
    obtain ⟨r_3, hu4, hf⟩ := ob1 hf
    refine ww_cVi h (c_X1_has l D ev cy oC aC C p1 _ hu4) ⟨w_591, w_661, w_589, w_590, w_104, ok_X1_has⟩ ⟨by decide, by decide⟩ ⟨by decide, by decide⟩ ⟨rfl, rfl⟩ [4] rfl 0 rfl rfl rfl rfl (Nat.le_of_ble_eq_true rfl) dX9_atEnds_12 15 rfl (Gs' := [gX1 cy oC aC C, gX9 cy oL aL L, gX4 cy (aL 2) aP P, gX7 cy (aL 5) aR R, gX5 cy (aL 7) aN N, gX3 cy oY aY Y]) rfl ?_
    clear hu4
    refine ww_if_ne h dX9_atEnds_15 20 (by decide) 18 rfl (fun c => ?_) (fun c => ?_)
    · replace hf := ite_f c hf
      refine ww_aload_n h dX9_atEnds_20 rfl 0 rfl 21 rfl ?_
      refine ww_iload_n h dX9_atEnds_21 rfl 1 rfl 22 rfl ?_
      obtain ⟨L_5, R_6, N_7, Y_8, hu9, hf⟩ := ob4 hf
      refine ww_cVr h (c_X9_layoutOf l D ev cy oL aL L aP P aR R aN N oC aC C oY aY Y p0 _ hu9) ⟨w_855, w_852, w_854, w_21, w_101, ok_X9_layoutOf⟩ ⟨by decide, by decide⟩ ⟨by decide, by decide⟩ ⟨rfl, rfl⟩ [1, 1, 1, 1, 0, 0] rfl 0 rfl rfl rfl rfl (Nat.le_of_ble_eq_true rfl) dX9_atEnds_22 25 rfl (Gs' := [gX9 cy oL aL L_5, gX4 cy (aL 2) aP P, gX7 cy (aL 5) aR R_6, gX5 cy (aL 7) aN N_7, gX1 cy oC aC C, gX3 cy oY aY Y_8]) rfl ?_
      clear hu9
      refine ww_astore h dX9_atEnds_25 (by decide) (lo' := [(4, .ref oY), (0, .ref oL), (1, .int p0), (2, .int p1), (3, .int p2)]) rfl 27 rfl ?_
      refine ww_aload h dX9_atEnds_27 0 rfl 29 rfl ?_
      refine ww_get h inG3 rfl 5 rfl rfl 0 (by decide) w_362 rfl dX9_atEnds_29 32 rfl ?_
      refine ww_iload_n h dX9_atEnds_32 rfl 4 rfl 33 rfl ?_
      have hJ41_11 : ∀ (t_10 : Int32), j_X9_atEnds_41_11 P L_5 R_6 N_7 Y_8 p1 t_10 = some o → ww X D A 8 Q 0 0 41 [(0, .ref oL), (2, .int p1), (4, .ref oY)] [.int t_10, .ref (aY 0)] [gX9 cy oL aL L_5, gX4 cy (aL 2) aP P, gX7 cy (aL 5) aR R_6, gX5 cy (aL 7) aN N_7, gX1 cy oC aC C, gX3 cy oY aY Y_8] := by
        intro t_10 hf
        unfold j_X9_atEnds_41_11 at hf
        have hi := (gd_some hf).1
        replace hf := (gd_some hf).2
        have hj12 := ix_lt hi
        refine ww_aaldR h 5 rfl 1 rfl 4 rfl rfl (ix_in hi) dX9_atEnds_41 42 rfl ?_
        clear hi
        refine ww_astore h dX9_atEnds_42 (by decide) (lo' := [(5, .ref (aY (100 + t_10.toNatClampNeg))), (0, .ref oL), (2, .int p1), (4, .ref oY)]) rfl 44 rfl ?_
        refine ww_iconst (v := 0) h dX9_atEnds_44 (by decide) 45 rfl ?_
        refine ww_ist h dX9_atEnds_45 (by decide) (fun v6_13 => [(6, .int v6_13), (5, .ref (aY (100 + t_10.toNatClampNeg))), (0, .ref oL), (2, .int p1), (4, .ref oY)]) (fun _ => rfl) 47 rfl (fun v6_13 e => ?_)
        replace hf := bnd_at e hf
        clear e
        refine ww_iconst (v := 0) h dX9_atEnds_47 (by decide) 48 rfl ?_
        refine ww_ist h dX9_atEnds_48 (by decide) (fun v7_14 => [(7, .int v7_14), (6, .int v6_13), (5, .ref (aY (100 + t_10.toNatClampNeg))), (0, .ref oL), (2, .int p1), (4, .ref oY)]) (fun _ => rfl) 50 rfl (fun v7_14 e => ?_)
        replace hf := bnd_at e hf
        clear e
        refine ww_lo [3, 4, 5, 2, 1, 0] (lo' := [(0, .ref oL), (2, .int p1), (4, .ref oY), (5, .ref (aY (100 + t_10.toNatClampNeg))), (6, .int v6_13), (7, .int v7_14)]) rfl ?_
        obtain ⟨v6_22, h15, hf⟩ := ob1 hf
        refine lp_walk (un2 (fun v6_16 v7_17 => ww X D A 8 Q 0 0 50 [(0, .ref oL), (2, .int p1), (4, .ref oY), (5, .ref (aY (100 + t_10.toNatClampNeg))), (6, .int v6_16), (7, .int v7_17)] [] [gX9 cy oL aL L_5, gX4 cy (aL 2) aP P, gX7 cy (aL 5) aR R_6, gX5 cy (aL 7) aN N_7, gX1 cy oC aC C, gX3 cy oY aY Y_8])) (un1 (fun v6_22 => ww X D A 8 Q 0 0 86 [(6, .int v6_22)] [] [gX9 cy oL aL L_5, gX4 cy (aL 2) aP P, gX7 cy (aL 5) aR R_6, gX5 cy (aL 7) aN N_7, gX1 cy oC aC C, gX3 cy oY aY Y_8])) ?_ _ _ _ h15 ?_
        · clear h15 hf
          intro s15 o15 hf hI15 hE15
          obtain ⟨v6_16, v7_17⟩ := s15
          unfold s_X9_atEnds_50_15 at hf
          replace hf := un2_e hf
          show ww X D A 8 Q 0 0 50 [(0, .ref oL), (2, .int p1), (4, .ref oY), (5, .ref (aY (100 + t_10.toNatClampNeg))), (6, .int v6_16), (7, .int v7_17)] [] [gX9 cy oL aL L_5, gX4 cy (aL 2) aP P, gX7 cy (aL 5) aR R_6, gX5 cy (aL 7) aN N_7, gX1 cy oC aC C, gX3 cy oY aY Y_8]
          refine ww_iload h dX9_atEnds_50 5 rfl 52 rfl ?_
          refine ww_aload h dX9_atEnds_52 2 rfl 54 rfl ?_
          refine ww_get h inG3 rfl 5 rfl rfl 6 (by decide) w_371 rfl dX9_atEnds_54 57 rfl ?_
          refine ww_icmp_ge h dX9_atEnds_57 86 (by decide) 60 rfl (fun c => ?_) (fun c => ?_)
          · replace hf := ite_t c hf
            refine ww_lo [4] (lo' := [(6, .int v6_16)]) rfl ?_
            exact hE15 v6_16 (Option.some.inj hf).symm
          · replace hf := ite_f c hf
            refine ww_aload_n h dX9_atEnds_60 rfl 0 rfl 61 rfl ?_
            refine ww_get h inG9 rfl 0 rfl rfl 2 (by decide) w_415 rfl dX9_atEnds_61 64 rfl ?_
            refine ww_get h inG4 rfl 1 rfl rfl 0 (by decide) w_197 rfl dX9_atEnds_64 67 rfl ?_
            refine ww_aload h dX9_atEnds_67 3 rfl 69 rfl ?_
            refine ww_iload h dX9_atEnds_69 5 rfl 71 rfl ?_
            have hi := (gd_some hf).1
            replace hf := (gd_some hf).2
            refine ww_iald h 5 rfl (7 + t_10.toNatClampNeg) (gX3_row0 hj12) (ix_in hi) dX9_atEnds_71 72 rfl ?_
            clear hi
            have hi := (gd_some hf).1
            replace hf := (gd_some hf).2
            refine ww_iald h 1 rfl 1 rfl (ix_in hi) dX9_atEnds_72 73 rfl ?_
            clear hi
            refine ww_iload_n h dX9_atEnds_73 rfl 1 rfl 74 rfl ?_
            have hJ80_19 : ∀ (v6_18 : Int32), j_X9_atEnds_80_19 v7_17 v6_18 = some o15 → ww X D A 8 Q 0 0 80 [(0, .ref oL), (2, .int p1), (4, .ref oY), (5, .ref (aY (100 + t_10.toNatClampNeg))), (6, .int v6_18), (7, .int v7_17)] [] [gX9 cy oL aL L_5, gX4 cy (aL 2) aP P, gX7 cy (aL 5) aR R_6, gX5 cy (aL 7) aN N_7, gX1 cy oC aC C, gX3 cy oY aY Y_8] := by
              intro v6_18 hf
              unfold j_X9_atEnds_80_19 at hf
              refine ww_inc (c := 1) h dX9_atEnds_80 5 rfl (by decide) (by decide) (fun v7_20 => [(7, .int v7_20), (0, .ref oL), (2, .int p1), (4, .ref oY), (5, .ref (aY (100 + t_10.toNatClampNeg))), (6, .int v6_18)]) (fun _ => rfl) 83 rfl (fun v7_20 e => ?_)
              replace hf := bnd_at e hf
              clear e
              refine ww_goto h dX9_atEnds_83 50 (by decide) ?_
              refine ww_lo [1, 2, 3, 4, 5, 0] (lo' := [(0, .ref oL), (2, .int p1), (4, .ref oY), (5, .ref (aY (100 + t_10.toNatClampNeg))), (6, .int v6_18), (7, .int v7_20)]) rfl ?_
              exact hI15 (v6_18, v7_20) (Option.some.inj hf).symm
            refine ww_icmp_ne h dX9_atEnds_74 80 (by decide) 77 rfl (fun c => ?_) (fun c => ?_)
            · replace hf := ite_f c hf
              exact hJ80_19 v6_16 hf
            · replace hf := ite_t c hf
              refine ww_inc (c := 1) h dX9_atEnds_77 4 rfl (by decide) (by decide) (fun v6_21 => [(6, .int v6_21), (0, .ref oL), (2, .int p1), (4, .ref oY), (5, .ref (aY (100 + t_10.toNatClampNeg))), (7, .int v7_17)]) (fun _ => rfl) 80 rfl (fun v6_21 e => ?_)
              replace hf := bnd_at e hf
              clear e
              refine ww_lo [1, 2, 3, 4, 0, 5] (lo' := [(0, .ref oL), (2, .int p1), (4, .ref oY), (5, .ref (aY (100 + t_10.toNatClampNeg))), (6, .int v6_21), (7, .int v7_17)]) rfl ?_
              exact hJ80_19 v6_21 hf
        · clear h15
          show ww X D A 8 Q 0 0 86 [(6, .int v6_22)] [] [gX9 cy oL aL L_5, gX4 cy (aL 2) aP P, gX7 cy (aL 5) aR R_6, gX5 cy (aL 7) aN N_7, gX1 cy oC aC C, gX3 cy oY aY Y_8]
          refine ww_iload h dX9_atEnds_86 0 rfl 88 rfl ?_
          obtain rfl := Option.some.inj hf
          exact ww_iret h dX9_atEnds_88 hQ ⟨rfl, rfl⟩
      refine ww_if_eq h dX9_atEnds_33 40 (by decide) 36 rfl (fun c => ?_) (fun c => ?_)
      · replace hf := ite_t c hf
        refine ww_iconst (v := 0) h dX9_atEnds_40 (by decide) 41 rfl ?_
        refine ww_lo [1, 3, 0] (lo' := [(0, .ref oL), (2, .int p1), (4, .ref oY)]) rfl ?_
        exact hJ41_11 (0 : Int32) hf
      · replace hf := ite_f c hf
        refine ww_iconst (v := 1) h dX9_atEnds_36 (by decide) 37 rfl ?_
        refine ww_goto h dX9_atEnds_37 41 (by decide) ?_
        refine ww_lo [1, 3, 0] (lo' := [(0, .ref oL), (2, .int p1), (4, .ref oY)]) rfl ?_
        exact hJ41_11 (1 : Int32) hf
    · replace hf := ite_t c hf
      refine ww_iconst (v := (-1)) h dX9_atEnds_18 (by decide) 19 rfl ?_
      refine ww_perm [1, 1, 1, 1, 0, 0] (Gs' := [gX9 cy oL aL L, gX4 cy (aL 2) aP P, gX7 cy (aL 5) aR R, gX5 cy (aL 7) aN N, gX1 cy oC aC C, gX3 cy oY aY Y]) rfl ?_
      obtain rfl := Option.some.inj hf
      exact ww_iret h dX9_atEnds_19 hQ ⟨rfl, rfl⟩
theorem dX9_beginAct_0 : decode cX9_beginAct 0 = .ok (.aload_n 0, 1) := by decide +kernel
theorem dX9_beginAct_1 : decode cX9_beginAct 1 = .ok (.getfield 44, 3) := by decide +kernel
theorem dX9_beginAct_4 : decode cX9_beginAct 4 = .ok (.aload_n 0, 1) := by decide +kernel
theorem dX9_beginAct_5 : decode cX9_beginAct 5 = .ok (.getfield 34, 3) := by decide +kernel
theorem dX9_beginAct_8 : decode cX9_beginAct 8 = .ok (.invokevirtual 371, 3) := by decide +kernel
theorem dX9_beginAct_11 : decode cX9_beginAct 11 = .ok (.aload_n 0, 1) := by decide +kernel
theorem dX9_beginAct_12 : decode cX9_beginAct 12 = .ok (.invokevirtual 108, 3) := by decide +kernel
theorem dX9_beginAct_15 : decode cX9_beginAct 15 = .ok (.return_, 1) := by decide +kernel
theorem ok_X9_beginAct : okY RX9 yX9_beginAct 0 := ⟨rfl, by decide, by decide, by decide +kernel⟩
def f_X9_beginAct (L : OV) (P : OV) (aH : Nat → Nat) (H : OV) (W : OV) (oK : Nat) (K : OV) (Y0 : OV) (Y1 : OV) (Y2 : OV) (Y3 : OV) : Option (OV × OV × OV × OV × OV × OV × OV × OV) := (f_X2_keep aH H P oK K).bind (un2 (fun H_1 K_2 => (f_X9_forget L W Y0 Y1 Y2 Y3).bind (un6 (fun L_4 W_5 Y0_6 Y1_7 Y2_8 Y3_9 => some (L_4, H_1, W_5, K_2, Y0_6, Y1_7, Y2_8, Y3_9)))))
def r_X9_beginAct : Room := { frames := 3, cells := 0, slots := 0, locals := 68 }
set_option maxHeartbeats 4000000 in
set_option maxRecDepth 100000 in
theorem c_X9_beginAct (l : Launch) (D : va_G) (ev : EvT) (cy : Nat → ClassId) (oL : Nat) (aL : Nat → Nat) (L : OV) (aP : Nat → Nat) (P : OV) (aH : Nat → Nat) (H : OV) (aW : Nat → Nat) (W : OV) (oK : Nat) (aK : Nat → Nat) (K : OV) (aY0 : Nat → Nat) (Y0 : OV) (aY1 : Nat → Nat) (Y1 : OV) (aY2 : Nat → Nat) (Y2 : OV) (aY3 : Nat → Nat) (Y3 : OV) (o : OV × OV × OV × OV × OV × OV × OV × OV) (hf : f_X9_beginAct L P aH H W oK K Y0 Y1 Y2 Y3 = some o) : Fn l yX9_beginAct cX9_beginAct 1 none r_X9_beginAct D ev cy [.ref oL] [gX9 cy oL aL L, gX4 cy (aL 2) aP P, gX2 cy (aL 4) aH H, gX8 cy (aL 9) aW W, gX4 cy oK aK K, gX3 cy (aL (900 + 0)) aY0 Y0, gX3 cy (aL (900 + 1)) aY1 Y1, gX3 cy (aL (900 + 2)) aY2 Y2, gX3 cy (aL (900 + 3)) aY3 Y3] (fun v G => v = none ∧ G = [gX9 cy oL aL o.1, gX4 cy (aL 2) aP P, gX2 cy (aL 4) aH o.2.1, gX8 cy (aL 9) aW o.2.2.1, gX4 cy oK aK o.2.2.2.1, gX3 cy (aL (900 + 0)) aY0 o.2.2.2.2.1, gX3 cy (aL (900 + 1)) aY1 o.2.2.2.2.2.1, gX3 cy (aL (900 + 2)) aY2 o.2.2.2.2.2.2.1, gX3 cy (aL (900 + 3)) aY3 o.2.2.2.2.2.2.2]) := by
  refine Fn_of (by decide) (Nat.le_of_ble_eq_true rfl) (fun X A Q h hQ _ => ?_)
  unfold f_X9_beginAct at hf
  show ww X D A 1 Q 0 0 0 [(0, .ref oL)] [] [gX9 cy oL aL L, gX4 cy (aL 2) aP P, gX2 cy (aL 4) aH H, gX8 cy (aL 9) aW W, gX4 cy oK aK K, gX3 cy (aL (900 + 0)) aY0 Y0, gX3 cy (aL (900 + 1)) aY1 Y1, gX3 cy (aL (900 + 2)) aY2 Y2, gX3 cy (aL (900 + 3)) aY3 Y3]
  refine ww_aload_n h dX9_beginAct_0 rfl 0 rfl 1 rfl ?_
  refine ww_get h inG9 rfl 0 rfl rfl 4 (by decide) w_417 rfl dX9_beginAct_1 4 rfl ?_
  refine ww_aload_n h dX9_beginAct_4 rfl 0 rfl 5 rfl ?_
  refine ww_get h inG9 rfl 0 rfl rfl 2 (by decide) w_415 rfl dX9_beginAct_5 8 rfl ?_
  obtain ⟨H_1, K_2, hu3, hf⟩ := ob2 hf
  refine ww_cVv h (c_X2_keep l D ev cy (aL 4) aH H (aL 2) aP P oK aK K _ hu3) ⟨w_677, w_674, w_675, w_676, w_106, ok_X2_keep⟩ ⟨by decide, by decide⟩ ⟨by decide, by decide⟩ ⟨rfl, rfl⟩ [2, 1, 2] rfl 0 rfl rfl rfl rfl (Nat.le_of_ble_eq_true rfl) dX9_beginAct_8 11 rfl (Gs' := [gX2 cy (aL 4) aH H_1, gX4 cy (aL 2) aP P, gX4 cy oK aK K_2, gX9 cy oL aL L, gX8 cy (aL 9) aW W, gX3 cy (aL (900 + 0)) aY0 Y0, gX3 cy (aL (900 + 1)) aY1 Y1, gX3 cy (aL (900 + 2)) aY2 Y2, gX3 cy (aL (900 + 3)) aY3 Y3]) rfl ?_
  clear hu3
  refine ww_aload_n h dX9_beginAct_11 rfl 0 rfl 12 rfl ?_
  obtain ⟨L_4, W_5, Y0_6, Y1_7, Y2_8, Y3_9, hu10, hf⟩ := ob6 hf
  refine ww_cVv h (c_X9_forget l D ev cy oL aL L aW W aY0 Y0 aY1 Y1 aY2 Y2 aY3 Y3 _ hu10) ⟨w_651, w_648, w_650, w_14, w_101, ok_X9_forget⟩ ⟨by decide, by decide⟩ ⟨by decide, by decide⟩ ⟨rfl, rfl⟩ [3, 3, 3, 3, 3, 3] rfl 0 rfl rfl rfl rfl (Nat.le_of_ble_eq_true rfl) dX9_beginAct_12 15 rfl (Gs' := [gX9 cy oL aL L_4, gX8 cy (aL 9) aW W_5, gX3 cy (aL (900 + 0)) aY0 Y0_6, gX3 cy (aL (900 + 1)) aY1 Y1_7, gX3 cy (aL (900 + 2)) aY2 Y2_8, gX3 cy (aL (900 + 3)) aY3 Y3_9, gX2 cy (aL 4) aH H_1, gX4 cy (aL 2) aP P, gX4 cy oK aK K_2]) rfl ?_
  clear hu10
  refine ww_perm [0, 6, 5, 0, 4, 0, 0, 0, 0] (Gs' := [gX9 cy oL aL L_4, gX4 cy (aL 2) aP P, gX2 cy (aL 4) aH H_1, gX8 cy (aL 9) aW W_5, gX4 cy oK aK K_2, gX3 cy (aL (900 + 0)) aY0 Y0_6, gX3 cy (aL (900 + 1)) aY1 Y1_7, gX3 cy (aL (900 + 2)) aY2 Y2_8, gX3 cy (aL (900 + 3)) aY3 Y3_9]) rfl ?_
  obtain rfl := Option.some.inj hf
  exact ww_vret h dX9_beginAct_15 hQ ⟨rfl, rfl⟩
theorem dX9_insert_0 : decode cX9_insert 0 = .ok (.iload_n 1, 1) := by decide +kernel
theorem dX9_insert_1 : decode cX9_insert 1 = .ok (.ifCond .lt 37, 3) := by decide +kernel
theorem dX9_insert_4 : decode cX9_insert 4 = .ok (.iload_n 1, 1) := by decide +kernel
theorem dX9_insert_5 : decode cX9_insert 5 = .ok (.aload_n 0, 1) := by decide +kernel
theorem dX9_insert_6 : decode cX9_insert 6 = .ok (.getfield 34, 3) := by decide +kernel
theorem dX9_insert_9 : decode cX9_insert 9 = .ok (.getfield 117, 3) := by decide +kernel
theorem dX9_insert_12 : decode cX9_insert 12 = .ok (.if_icmp .gt 26, 3) := by decide +kernel
theorem dX9_insert_15 : decode cX9_insert 15 = .ok (.aload_n 0, 1) := by decide +kernel
theorem dX9_insert_16 : decode cX9_insert 16 = .ok (.getfield 34, 3) := by decide +kernel
theorem dX9_insert_19 : decode cX9_insert 19 = .ok (.getfield 117, 3) := by decide +kernel
theorem dX9_insert_22 : decode cX9_insert 22 = .ok (.bipush 40, 2) := by decide +kernel
theorem dX9_insert_24 : decode cX9_insert 24 = .ok (.if_icmp .ge 14, 3) := by decide +kernel
theorem dX9_insert_27 : decode cX9_insert 27 = .ok (.aload_n 0, 1) := by decide +kernel
theorem dX9_insert_28 : decode cX9_insert 28 = .ok (.getfield 24, 3) := by decide +kernel
theorem dX9_insert_31 : decode cX9_insert 31 = .ok (.iload_n 2, 1) := by decide +kernel
theorem dX9_insert_32 : decode cX9_insert 32 = .ok (.invokevirtual 126, 3) := by decide +kernel
theorem dX9_insert_35 : decode cX9_insert 35 = .ok (.ifCond .ne 5, 3) := by decide +kernel
theorem dX9_insert_38 : decode cX9_insert 38 = .ok (.iconst 0, 1) := by decide +kernel
theorem dX9_insert_39 : decode cX9_insert 39 = .ok (.ireturn, 1) := by decide +kernel
theorem dX9_insert_40 : decode cX9_insert 40 = .ok (.aload_n 0, 1) := by decide +kernel
theorem dX9_insert_41 : decode cX9_insert 41 = .ok (.invokevirtual 130, 3) := by decide +kernel
theorem dX9_insert_44 : decode cX9_insert 44 = .ok (.aload_n 0, 1) := by decide +kernel
theorem dX9_insert_45 : decode cX9_insert 45 = .ok (.getfield 34, 3) := by decide +kernel
theorem dX9_insert_48 : decode cX9_insert 48 = .ok (.iload_n 1, 1) := by decide +kernel
theorem dX9_insert_49 : decode cX9_insert 49 = .ok (.iload_n 2, 1) := by decide +kernel
theorem dX9_insert_50 : decode cX9_insert 50 = .ok (.invokevirtual 122, 3) := by decide +kernel
theorem dX9_insert_53 : decode cX9_insert 53 = .ok (.iconst 1, 1) := by decide +kernel
theorem dX9_insert_54 : decode cX9_insert 54 = .ok (.ireturn, 1) := by decide +kernel
theorem ok_X9_insert : okY RX9 yX9_insert 2 := ⟨rfl, by decide, by decide, by decide +kernel⟩
def f_X9_insert (L : OV) (P : OV) (aH : Nat → Nat) (H : OV) (W : OV) (oC : Nat) (C : OV) (oK : Nat) (K : OV) (Y0 : OV) (Y1 : OV) (Y2 : OV) (Y3 : OV) (p0 : Int32) (p1 : Int32) : Option (Int32 × OV × OV × OV × OV × OV × OV × OV × OV × OV) := (if p0 < 0 then some ((0 : Int32), L, P, H, W, K, Y0, Y1, Y2, Y3) else (if (iv P 4) < p0 then some ((0 : Int32), L, P, H, W, K, Y0, Y1, Y2, Y3) else (if (40 : Int32) ≤ (iv P 4) then some ((0 : Int32), L, P, H, W, K, Y0, Y1, Y2, Y3) else gd (decide (nv L 10 = oC)) ((f_X1_has C p1).bind (un1 (fun r_1 => (if r_1 = 0 then some ((0 : Int32), L, P, H, W, K, Y0, Y1, Y2, Y3) else (f_X9_beginAct L P aH H W oK K Y0 Y1 Y2 Y3).bind (un8 (fun L_3 H_4 W_5 K_6 Y0_7 Y1_8 Y2_9 Y3_10 => (f_X4_putIn P p0 p1).bind (un1 (fun P_12 => some ((1 : Int32), L_3, P_12, H_4, W_5, K_6, Y0_7, Y1_8, Y2_9, Y3_10))))))))))))
def r_X9_insert : Room := { frames := 4, cells := 0, slots := 0, locals := 88 }
set_option maxHeartbeats 4000000 in
set_option maxRecDepth 100000 in
theorem c_X9_insert (l : Launch) (D : va_G) (ev : EvT) (cy : Nat → ClassId) (oL : Nat) (aL : Nat → Nat) (L : OV) (aP : Nat → Nat) (P : OV) (aH : Nat → Nat) (H : OV) (aW : Nat → Nat) (W : OV) (oC : Nat) (aC : Nat → Nat) (C : OV) (oK : Nat) (aK : Nat → Nat) (K : OV) (aY0 : Nat → Nat) (Y0 : OV) (aY1 : Nat → Nat) (Y1 : OV) (aY2 : Nat → Nat) (Y2 : OV) (aY3 : Nat → Nat) (Y3 : OV) (p0 : Int32) (p1 : Int32) (o : Int32 × OV × OV × OV × OV × OV × OV × OV × OV × OV) (hf : f_X9_insert L P aH H W oC C oK K Y0 Y1 Y2 Y3 p0 p1 = some o) : Fn l yX9_insert cX9_insert 3 (some .boolean) r_X9_insert D ev cy [.ref oL, .int p0, .int p1] [gX9 cy oL aL L, gX4 cy (aL 2) aP P, gX2 cy (aL 4) aH H, gX8 cy (aL 9) aW W, gX1 cy oC aC C, gX4 cy oK aK K, gX3 cy (aL (900 + 0)) aY0 Y0, gX3 cy (aL (900 + 1)) aY1 Y1, gX3 cy (aL (900 + 2)) aY2 Y2, gX3 cy (aL (900 + 3)) aY3 Y3] (fun v G => v = some (.int o.1) ∧ G = [gX9 cy oL aL o.2.1, gX4 cy (aL 2) aP o.2.2.1, gX2 cy (aL 4) aH o.2.2.2.1, gX8 cy (aL 9) aW o.2.2.2.2.1, gX1 cy oC aC C, gX4 cy oK aK o.2.2.2.2.2.1, gX3 cy (aL (900 + 0)) aY0 o.2.2.2.2.2.2.1, gX3 cy (aL (900 + 1)) aY1 o.2.2.2.2.2.2.2.1, gX3 cy (aL (900 + 2)) aY2 o.2.2.2.2.2.2.2.2.1, gX3 cy (aL (900 + 3)) aY3 o.2.2.2.2.2.2.2.2.2]) := by
  refine Fn_of (by decide) (Nat.le_of_ble_eq_true rfl) (fun X A Q h hQ _ => ?_)
  unfold f_X9_insert at hf
  show ww X D A 3 Q 0 0 0 [(0, .ref oL), (1, .int p0), (2, .int p1)] [] [gX9 cy oL aL L, gX4 cy (aL 2) aP P, gX2 cy (aL 4) aH H, gX8 cy (aL 9) aW W, gX1 cy oC aC C, gX4 cy oK aK K, gX3 cy (aL (900 + 0)) aY0 Y0, gX3 cy (aL (900 + 1)) aY1 Y1, gX3 cy (aL (900 + 2)) aY2 Y2, gX3 cy (aL (900 + 3)) aY3 Y3]
  refine ww_iload_n h dX9_insert_0 rfl 1 rfl 1 rfl ?_
  refine ww_if_lt h dX9_insert_1 38 (by decide) 4 rfl (fun c => ?_) (fun c => ?_)
  · replace hf := ite_t c hf
    refine ww_iconst (v := 0) h dX9_insert_38 (by decide) 39 rfl ?_
    obtain rfl := Option.some.inj hf
    exact ww_zret h (Or.inl rfl) dX9_insert_39 hQ ⟨rfl, rfl⟩
  · replace hf := ite_f c hf
    refine ww_iload_n h dX9_insert_4 rfl 1 rfl 5 rfl ?_
    refine ww_aload_n h dX9_insert_5 rfl 0 rfl 6 rfl ?_
    refine ww_get h inG9 rfl 0 rfl rfl 2 (by decide) w_415 rfl dX9_insert_6 9 rfl ?_
    refine ww_get h inG4 rfl 1 rfl rfl 4 (by decide) w_209 rfl dX9_insert_9 12 rfl ?_
    refine ww_icmp_gt h dX9_insert_12 38 (by decide) 15 rfl (fun c => ?_) (fun c => ?_)
    · replace hf := ite_t c hf
      refine ww_iconst (v := 0) h dX9_insert_38 (by decide) 39 rfl ?_
      obtain rfl := Option.some.inj hf
      exact ww_zret h (Or.inl rfl) dX9_insert_39 hQ ⟨rfl, rfl⟩
    · replace hf := ite_f c hf
      refine ww_aload_n h dX9_insert_15 rfl 0 rfl 16 rfl ?_
      refine ww_get h inG9 rfl 0 rfl rfl 2 (by decide) w_415 rfl dX9_insert_16 19 rfl ?_
      refine ww_get h inG4 rfl 1 rfl rfl 4 (by decide) w_209 rfl dX9_insert_19 22 rfl ?_
      refine ww_bipush (v := 40) h dX9_insert_22 (by decide) 24 rfl ?_
      refine ww_icmp_ge h dX9_insert_24 38 (by decide) 27 rfl (fun c => ?_) (fun c => ?_)
      · replace hf := ite_t c hf
        refine ww_iconst (v := 0) h dX9_insert_38 (by decide) 39 rfl ?_
        obtain rfl := Option.some.inj hf
        exact ww_zret h (Or.inl rfl) dX9_insert_39 hQ ⟨rfl, rfl⟩
      · replace hf := ite_f c hf
        refine ww_aload_n h dX9_insert_27 rfl 0 rfl 28 rfl ?_
        refine ww_get h inG9 rfl 0 rfl rfl 10 (by decide) w_423 rfl dX9_insert_28 31 rfl ?_
        have hi := (gd_some hf).1
        replace hf := (gd_some hf).2
        refine ww_ref hi ?_
        clear hi
        refine ww_iload_n h dX9_insert_31 rfl 2 rfl 32 rfl ?_
        obtain ⟨r_1, hu2, hf⟩ := ob1 hf
        refine ww_cVi h (c_X1_has l D ev cy oC aC C p1 _ hu2) ⟨w_591, w_661, w_589, w_590, w_104, ok_X1_has⟩ ⟨by decide, by decide⟩ ⟨by decide, by decide⟩ ⟨rfl, rfl⟩ [4] rfl 0 rfl rfl rfl rfl (Nat.le_of_ble_eq_true rfl) dX9_insert_32 35 rfl (Gs' := [gX1 cy oC aC C, gX9 cy oL aL L, gX4 cy (aL 2) aP P, gX2 cy (aL 4) aH H, gX8 cy (aL 9) aW W, gX4 cy oK aK K, gX3 cy (aL (900 + 0)) aY0 Y0, gX3 cy (aL (900 + 1)) aY1 Y1, gX3 cy (aL (900 + 2)) aY2 Y2, gX3 cy (aL (900 + 3)) aY3 Y3]) rfl ?_
        clear hu2
        refine ww_if_ne h dX9_insert_35 40 (by decide) 38 rfl (fun c => ?_) (fun c => ?_)
        · replace hf := ite_f c hf
          refine ww_aload_n h dX9_insert_40 rfl 0 rfl 41 rfl ?_
          obtain ⟨L_3, H_4, W_5, K_6, Y0_7, Y1_8, Y2_9, Y3_10, hu11, hf⟩ := ob8 hf
          refine ww_cVv h (c_X9_beginAct l D ev cy oL aL L aP P aH H aW W oK aK K aY0 Y0 aY1 Y1 aY2 Y2 aY3 Y3 _ hu11) ⟨w_673, w_670, w_672, w_16, w_101, ok_X9_beginAct⟩ ⟨by decide, by decide⟩ ⟨by decide, by decide⟩ ⟨rfl, rfl⟩ [1, 1, 1, 1, 1, 1, 1, 1, 1] rfl 0 rfl rfl rfl rfl (Nat.le_of_ble_eq_true rfl) dX9_insert_41 44 rfl (Gs' := [gX9 cy oL aL L_3, gX4 cy (aL 2) aP P, gX2 cy (aL 4) aH H_4, gX8 cy (aL 9) aW W_5, gX4 cy oK aK K_6, gX3 cy (aL (900 + 0)) aY0 Y0_7, gX3 cy (aL (900 + 1)) aY1 Y1_8, gX3 cy (aL (900 + 2)) aY2 Y2_9, gX3 cy (aL (900 + 3)) aY3 Y3_10, gX1 cy oC aC C]) rfl ?_
          clear hu11
          refine ww_aload_n h dX9_insert_44 rfl 0 rfl 45 rfl ?_
          refine ww_get h inG9 rfl 0 rfl rfl 2 (by decide) w_415 rfl dX9_insert_45 48 rfl ?_
          refine ww_iload_n h dX9_insert_48 rfl 1 rfl 49 rfl ?_
          refine ww_iload_n h dX9_insert_49 rfl 2 rfl 50 rfl ?_
          obtain ⟨P_12, hu13, hf⟩ := ob1 hf
          refine ww_cVv h (c_X4_putIn l D ev cy (aL 2) aP P p0 p1 _ hu13) ⟨w_665, w_662, w_663, w_664, w_105, ok_X4_putIn⟩ ⟨by decide, by decide⟩ ⟨by decide, by decide⟩ ⟨rfl, rfl⟩ [1] rfl 0 rfl rfl rfl rfl (Nat.le_of_ble_eq_true rfl) dX9_insert_50 53 rfl (Gs' := [gX4 cy (aL 2) aP P_12, gX9 cy oL aL L_3, gX2 cy (aL 4) aH H_4, gX8 cy (aL 9) aW W_5, gX4 cy oK aK K_6, gX3 cy (aL (900 + 0)) aY0 Y0_7, gX3 cy (aL (900 + 1)) aY1 Y1_8, gX3 cy (aL (900 + 2)) aY2 Y2_9, gX3 cy (aL (900 + 3)) aY3 Y3_10, gX1 cy oC aC C]) rfl ?_
          clear hu13
          refine ww_iconst (v := 1) h dX9_insert_53 (by decide) 54 rfl ?_
          refine ww_perm [1, 0, 0, 0, 5, 0, 0, 0, 0, 0] (Gs' := [gX9 cy oL aL L_3, gX4 cy (aL 2) aP P_12, gX2 cy (aL 4) aH H_4, gX8 cy (aL 9) aW W_5, gX1 cy oC aC C, gX4 cy oK aK K_6, gX3 cy (aL (900 + 0)) aY0 Y0_7, gX3 cy (aL (900 + 1)) aY1 Y1_8, gX3 cy (aL (900 + 2)) aY2 Y2_9, gX3 cy (aL (900 + 3)) aY3 Y3_10]) rfl ?_
          obtain rfl := Option.some.inj hf
          exact ww_zret h (Or.inr rfl) dX9_insert_54 hQ ⟨rfl, rfl⟩
        · replace hf := ite_t c hf
          refine ww_iconst (v := 0) h dX9_insert_38 (by decide) 39 rfl ?_
          refine ww_perm [1, 1, 1, 1, 0, 0, 0, 0, 0, 0] (Gs' := [gX9 cy oL aL L, gX4 cy (aL 2) aP P, gX2 cy (aL 4) aH H, gX8 cy (aL 9) aW W, gX1 cy oC aC C, gX4 cy oK aK K, gX3 cy (aL (900 + 0)) aY0 Y0, gX3 cy (aL (900 + 1)) aY1 Y1, gX3 cy (aL (900 + 2)) aY2 Y2, gX3 cy (aL (900 + 3)) aY3 Y3]) rfl ?_
          obtain rfl := Option.some.inj hf
          exact ww_zret h (Or.inl rfl) dX9_insert_39 hQ ⟨rfl, rfl⟩
theorem dX9_delete_0 : decode cX9_delete 0 = .ok (.aload_n 0, 1) := by decide +kernel
theorem dX9_delete_1 : decode cX9_delete 1 = .ok (.getfield 34, 3) := by decide +kernel
theorem dX9_delete_4 : decode cX9_delete 4 = .ok (.iload_n 1, 1) := by decide +kernel
theorem dX9_delete_5 : decode cX9_delete 5 = .ok (.iload_n 2, 1) := by decide +kernel
theorem dX9_delete_6 : decode cX9_delete 6 = .ok (.invokevirtual 133, 3) := by decide +kernel
theorem dX9_delete_9 : decode cX9_delete 9 = .ok (.ifCond .ne 5, 3) := by decide +kernel
theorem dX9_delete_12 : decode cX9_delete 12 = .ok (.iconst 0, 1) := by decide +kernel
theorem dX9_delete_13 : decode cX9_delete 13 = .ok (.ireturn, 1) := by decide +kernel
theorem dX9_delete_14 : decode cX9_delete 14 = .ok (.aload_n 0, 1) := by decide +kernel
theorem dX9_delete_15 : decode cX9_delete 15 = .ok (.invokevirtual 130, 3) := by decide +kernel
theorem dX9_delete_18 : decode cX9_delete 18 = .ok (.aload_n 0, 1) := by decide +kernel
theorem dX9_delete_19 : decode cX9_delete 19 = .ok (.getfield 34, 3) := by decide +kernel
theorem dX9_delete_22 : decode cX9_delete 22 = .ok (.iload_n 1, 1) := by decide +kernel
theorem dX9_delete_23 : decode cX9_delete 23 = .ok (.iload_n 2, 1) := by decide +kernel
theorem dX9_delete_24 : decode cX9_delete 24 = .ok (.invokevirtual 137, 3) := by decide +kernel
theorem dX9_delete_27 : decode cX9_delete 27 = .ok (.iconst 1, 1) := by decide +kernel
theorem dX9_delete_28 : decode cX9_delete 28 = .ok (.ireturn, 1) := by decide +kernel
theorem ok_X9_delete : okY RX9 yX9_delete 2 := ⟨rfl, by decide, by decide, by decide +kernel⟩
def f_X9_delete (L : OV) (P : OV) (aH : Nat → Nat) (H : OV) (W : OV) (oK : Nat) (K : OV) (Y0 : OV) (Y1 : OV) (Y2 : OV) (Y3 : OV) (p0 : Int32) (p1 : Int32) : Option (Int32 × OV × OV × OV × OV × OV × OV × OV × OV × OV) := (f_X4_hasRun P p0 p1).bind (un1 (fun r_1 => (if r_1 = 0 then some ((0 : Int32), L, P, H, W, K, Y0, Y1, Y2, Y3) else (f_X9_beginAct L P aH H W oK K Y0 Y1 Y2 Y3).bind (un8 (fun L_3 H_4 W_5 K_6 Y0_7 Y1_8 Y2_9 Y3_10 => (f_X4_takeOut P p0 p1).bind (un1 (fun P_12 => some ((1 : Int32), L_3, P_12, H_4, W_5, K_6, Y0_7, Y1_8, Y2_9, Y3_10))))))))
def r_X9_delete : Room := { frames := 4, cells := 0, slots := 0, locals := 88 }
set_option maxHeartbeats 4000000 in
set_option maxRecDepth 100000 in
theorem c_X9_delete (l : Launch) (D : va_G) (ev : EvT) (cy : Nat → ClassId) (oL : Nat) (aL : Nat → Nat) (L : OV) (aP : Nat → Nat) (P : OV) (aH : Nat → Nat) (H : OV) (aW : Nat → Nat) (W : OV) (oK : Nat) (aK : Nat → Nat) (K : OV) (aY0 : Nat → Nat) (Y0 : OV) (aY1 : Nat → Nat) (Y1 : OV) (aY2 : Nat → Nat) (Y2 : OV) (aY3 : Nat → Nat) (Y3 : OV) (p0 : Int32) (p1 : Int32) (o : Int32 × OV × OV × OV × OV × OV × OV × OV × OV × OV) (hf : f_X9_delete L P aH H W oK K Y0 Y1 Y2 Y3 p0 p1 = some o) : Fn l yX9_delete cX9_delete 3 (some .boolean) r_X9_delete D ev cy [.ref oL, .int p0, .int p1] [gX9 cy oL aL L, gX4 cy (aL 2) aP P, gX2 cy (aL 4) aH H, gX8 cy (aL 9) aW W, gX4 cy oK aK K, gX3 cy (aL (900 + 0)) aY0 Y0, gX3 cy (aL (900 + 1)) aY1 Y1, gX3 cy (aL (900 + 2)) aY2 Y2, gX3 cy (aL (900 + 3)) aY3 Y3] (fun v G => v = some (.int o.1) ∧ G = [gX9 cy oL aL o.2.1, gX4 cy (aL 2) aP o.2.2.1, gX2 cy (aL 4) aH o.2.2.2.1, gX8 cy (aL 9) aW o.2.2.2.2.1, gX4 cy oK aK o.2.2.2.2.2.1, gX3 cy (aL (900 + 0)) aY0 o.2.2.2.2.2.2.1, gX3 cy (aL (900 + 1)) aY1 o.2.2.2.2.2.2.2.1, gX3 cy (aL (900 + 2)) aY2 o.2.2.2.2.2.2.2.2.1, gX3 cy (aL (900 + 3)) aY3 o.2.2.2.2.2.2.2.2.2]) := by
  refine Fn_of (by decide) (Nat.le_of_ble_eq_true rfl) (fun X A Q h hQ _ => ?_)
  unfold f_X9_delete at hf
  show ww X D A 3 Q 0 0 0 [(0, .ref oL), (1, .int p0), (2, .int p1)] [] [gX9 cy oL aL L, gX4 cy (aL 2) aP P, gX2 cy (aL 4) aH H, gX8 cy (aL 9) aW W, gX4 cy oK aK K, gX3 cy (aL (900 + 0)) aY0 Y0, gX3 cy (aL (900 + 1)) aY1 Y1, gX3 cy (aL (900 + 2)) aY2 Y2, gX3 cy (aL (900 + 3)) aY3 Y3]
  refine ww_aload_n h dX9_delete_0 rfl 0 rfl 1 rfl ?_
  refine ww_get h inG9 rfl 0 rfl rfl 2 (by decide) w_415 rfl dX9_delete_1 4 rfl ?_
  refine ww_iload_n h dX9_delete_4 rfl 1 rfl 5 rfl ?_
  refine ww_iload_n h dX9_delete_5 rfl 2 rfl 6 rfl ?_
  obtain ⟨r_1, hu2, hf⟩ := ob1 hf
  refine ww_cVi h (c_X4_hasRun l D ev cy (aL 2) aP P p0 p1 _ hu2) ⟨w_690, w_687, w_688, w_689, w_105, ok_X4_hasRun⟩ ⟨by decide, by decide⟩ ⟨by decide, by decide⟩ ⟨rfl, rfl⟩ [1] rfl 0 rfl rfl rfl rfl (Nat.le_of_ble_eq_true rfl) dX9_delete_6 9 rfl (Gs' := [gX4 cy (aL 2) aP P, gX9 cy oL aL L, gX2 cy (aL 4) aH H, gX8 cy (aL 9) aW W, gX4 cy oK aK K, gX3 cy (aL (900 + 0)) aY0 Y0, gX3 cy (aL (900 + 1)) aY1 Y1, gX3 cy (aL (900 + 2)) aY2 Y2, gX3 cy (aL (900 + 3)) aY3 Y3]) rfl ?_
  clear hu2
  refine ww_if_ne h dX9_delete_9 14 (by decide) 12 rfl (fun c => ?_) (fun c => ?_)
  · replace hf := ite_f c hf
    refine ww_aload_n h dX9_delete_14 rfl 0 rfl 15 rfl ?_
    obtain ⟨L_3, H_4, W_5, K_6, Y0_7, Y1_8, Y2_9, Y3_10, hu11, hf⟩ := ob8 hf
    refine ww_cVv h (c_X9_beginAct l D ev cy oL aL L aP P aH H aW W oK aK K aY0 Y0 aY1 Y1 aY2 Y2 aY3 Y3 _ hu11) ⟨w_673, w_670, w_672, w_16, w_101, ok_X9_beginAct⟩ ⟨by decide, by decide⟩ ⟨by decide, by decide⟩ ⟨rfl, rfl⟩ [1, 0, 0, 0, 0, 0, 0, 0, 0] rfl 0 rfl rfl rfl rfl (Nat.le_of_ble_eq_true rfl) dX9_delete_15 18 rfl (Gs' := [gX9 cy oL aL L_3, gX4 cy (aL 2) aP P, gX2 cy (aL 4) aH H_4, gX8 cy (aL 9) aW W_5, gX4 cy oK aK K_6, gX3 cy (aL (900 + 0)) aY0 Y0_7, gX3 cy (aL (900 + 1)) aY1 Y1_8, gX3 cy (aL (900 + 2)) aY2 Y2_9, gX3 cy (aL (900 + 3)) aY3 Y3_10]) rfl ?_
    clear hu11
    refine ww_aload_n h dX9_delete_18 rfl 0 rfl 19 rfl ?_
    refine ww_get h inG9 rfl 0 rfl rfl 2 (by decide) w_415 rfl dX9_delete_19 22 rfl ?_
    refine ww_iload_n h dX9_delete_22 rfl 1 rfl 23 rfl ?_
    refine ww_iload_n h dX9_delete_23 rfl 2 rfl 24 rfl ?_
    obtain ⟨P_12, hu13, hf⟩ := ob1 hf
    refine ww_cVv h (c_X4_takeOut l D ev cy (aL 2) aP P p0 p1 _ hu13) ⟨w_698, w_695, w_696, w_697, w_105, ok_X4_takeOut⟩ ⟨by decide, by decide⟩ ⟨by decide, by decide⟩ ⟨rfl, rfl⟩ [1] rfl 0 rfl rfl rfl rfl (Nat.le_of_ble_eq_true rfl) dX9_delete_24 27 rfl (Gs' := [gX4 cy (aL 2) aP P_12, gX9 cy oL aL L_3, gX2 cy (aL 4) aH H_4, gX8 cy (aL 9) aW W_5, gX4 cy oK aK K_6, gX3 cy (aL (900 + 0)) aY0 Y0_7, gX3 cy (aL (900 + 1)) aY1 Y1_8, gX3 cy (aL (900 + 2)) aY2 Y2_9, gX3 cy (aL (900 + 3)) aY3 Y3_10]) rfl ?_
    clear hu13
    refine ww_iconst (v := 1) h dX9_delete_27 (by decide) 28 rfl ?_
    refine ww_perm [1, 0, 0, 0, 0, 0, 0, 0, 0] (Gs' := [gX9 cy oL aL L_3, gX4 cy (aL 2) aP P_12, gX2 cy (aL 4) aH H_4, gX8 cy (aL 9) aW W_5, gX4 cy oK aK K_6, gX3 cy (aL (900 + 0)) aY0 Y0_7, gX3 cy (aL (900 + 1)) aY1 Y1_8, gX3 cy (aL (900 + 2)) aY2 Y2_9, gX3 cy (aL (900 + 3)) aY3 Y3_10]) rfl ?_
    obtain rfl := Option.some.inj hf
    exact ww_zret h (Or.inr rfl) dX9_delete_28 hQ ⟨rfl, rfl⟩
  · replace hf := ite_t c hf
    refine ww_iconst (v := 0) h dX9_delete_12 (by decide) 13 rfl ?_
    refine ww_perm [1, 0, 0, 0, 0, 0, 0, 0, 0] (Gs' := [gX9 cy oL aL L, gX4 cy (aL 2) aP P, gX2 cy (aL 4) aH H, gX8 cy (aL 9) aW W, gX4 cy oK aK K, gX3 cy (aL (900 + 0)) aY0 Y0, gX3 cy (aL (900 + 1)) aY1 Y1, gX3 cy (aL (900 + 2)) aY2 Y2, gX3 cy (aL (900 + 3)) aY3 Y3]) rfl ?_
    obtain rfl := Option.some.inj hf
    exact ww_zret h (Or.inl rfl) dX9_delete_13 hQ ⟨rfl, rfl⟩
theorem dX9_change_0 : decode cX9_change 0 = .ok (.aload_n 0, 1) := by decide +kernel
theorem dX9_change_1 : decode cX9_change 1 = .ok (.getfield 34, 3) := by decide +kernel
theorem dX9_change_4 : decode cX9_change 4 = .ok (.iload_n 1, 1) := by decide +kernel
theorem dX9_change_5 : decode cX9_change 5 = .ok (.invokevirtual 140, 3) := by decide +kernel
theorem dX9_change_8 : decode cX9_change 8 = .ok (.ifCond .eq 27, 3) := by decide +kernel
theorem dX9_change_11 : decode cX9_change 11 = .ok (.aload_n 0, 1) := by decide +kernel
theorem dX9_change_12 : decode cX9_change 12 = .ok (.getfield 24, 3) := by decide +kernel
theorem dX9_change_15 : decode cX9_change 15 = .ok (.iload_n 2, 1) := by decide +kernel
theorem dX9_change_16 : decode cX9_change 16 = .ok (.invokevirtual 126, 3) := by decide +kernel
theorem dX9_change_19 : decode cX9_change 19 = .ok (.ifCond .eq 16, 3) := by decide +kernel
theorem dX9_change_22 : decode cX9_change 22 = .ok (.aload_n 0, 1) := by decide +kernel
theorem dX9_change_23 : decode cX9_change 23 = .ok (.getfield 34, 3) := by decide +kernel
theorem dX9_change_26 : decode cX9_change 26 = .ok (.getfield 141, 3) := by decide +kernel
theorem dX9_change_29 : decode cX9_change 29 = .ok (.iload_n 1, 1) := by decide +kernel
theorem dX9_change_30 : decode cX9_change 30 = .ok (.iaload, 1) := by decide +kernel
theorem dX9_change_31 : decode cX9_change 31 = .ok (.iload_n 2, 1) := by decide +kernel
theorem dX9_change_32 : decode cX9_change 32 = .ok (.if_icmp .ne 5, 3) := by decide +kernel
theorem dX9_change_35 : decode cX9_change 35 = .ok (.iconst (-1), 1) := by decide +kernel
theorem dX9_change_36 : decode cX9_change 36 = .ok (.ireturn, 1) := by decide +kernel
theorem dX9_change_37 : decode cX9_change 37 = .ok (.aload_n 0, 1) := by decide +kernel
theorem dX9_change_38 : decode cX9_change 38 = .ok (.invokevirtual 130, 3) := by decide +kernel
theorem dX9_change_41 : decode cX9_change 41 = .ok (.aload_n 0, 1) := by decide +kernel
theorem dX9_change_42 : decode cX9_change 42 = .ok (.getfield 34, 3) := by decide +kernel
theorem dX9_change_45 : decode cX9_change 45 = .ok (.getfield 141, 3) := by decide +kernel
theorem dX9_change_48 : decode cX9_change 48 = .ok (.iload_n 1, 1) := by decide +kernel
theorem dX9_change_49 : decode cX9_change 49 = .ok (.iaload, 1) := by decide +kernel
theorem dX9_change_50 : decode cX9_change 50 = .ok (.istore_n 3, 1) := by decide +kernel
theorem dX9_change_51 : decode cX9_change 51 = .ok (.aload_n 0, 1) := by decide +kernel
theorem dX9_change_52 : decode cX9_change 52 = .ok (.getfield 34, 3) := by decide +kernel
theorem dX9_change_55 : decode cX9_change 55 = .ok (.getfield 141, 3) := by decide +kernel
theorem dX9_change_58 : decode cX9_change 58 = .ok (.iload_n 1, 1) := by decide +kernel
theorem dX9_change_59 : decode cX9_change 59 = .ok (.iload_n 2, 1) := by decide +kernel
theorem dX9_change_60 : decode cX9_change 60 = .ok (.iastore, 1) := by decide +kernel
theorem dX9_change_61 : decode cX9_change 61 = .ok (.iload_n 3, 1) := by decide +kernel
theorem dX9_change_62 : decode cX9_change 62 = .ok (.ireturn, 1) := by decide +kernel
theorem ok_X9_change : okY RX9 yX9_change 2 := ⟨rfl, by decide, by decide, by decide +kernel⟩
def f_X9_change (L : OV) (P : OV) (aH : Nat → Nat) (H : OV) (W : OV) (oC : Nat) (C : OV) (oK : Nat) (K : OV) (Y0 : OV) (Y1 : OV) (Y2 : OV) (Y3 : OV) (p0 : Int32) (p1 : Int32) : Option (Int32 × OV × OV × OV × OV × OV × OV × OV × OV × OV) := (f_X4_has P p0).bind (un1 (fun r_1 => (if r_1 = 0 then some ((-1 : Int32), L, P, H, W, K, Y0, Y1, Y2, Y3) else gd (decide (nv L 10 = oC)) ((f_X1_has C p1).bind (un1 (fun r_3 => (if r_3 = 0 then some ((-1 : Int32), L, P, H, W, K, Y0, Y1, Y2, Y3) else gd (ix p0 40) ((if (ar P 0 p0.toNatClampNeg) = p1 then some ((-1 : Int32), L, P, H, W, K, Y0, Y1, Y2, Y3) else (f_X9_beginAct L P aH H W oK K Y0 Y1 Y2 Y3).bind (un8 (fun L_5 H_6 W_7 K_8 Y0_9 Y1_10 Y2_11 Y3_12 => gd (ix p0 40) (bnd (ar P 0 p0.toNatClampNeg) (fun v3_14 => gd (ix p0 40) (bnd (sA P 0 p0.toNatClampNeg p1) (fun P_15 => some (v3_14, L_5, P_15, H_6, W_7, K_8, Y0_9, Y1_10, Y2_11, Y3_12))))))))))))))))
def r_X9_change : Room := { frames := 4, cells := 0, slots := 0, locals := 88 }
set_option maxHeartbeats 4000000 in
set_option maxRecDepth 100000 in
theorem c_X9_change (l : Launch) (D : va_G) (ev : EvT) (cy : Nat → ClassId) (oL : Nat) (aL : Nat → Nat) (L : OV) (aP : Nat → Nat) (P : OV) (aH : Nat → Nat) (H : OV) (aW : Nat → Nat) (W : OV) (oC : Nat) (aC : Nat → Nat) (C : OV) (oK : Nat) (aK : Nat → Nat) (K : OV) (aY0 : Nat → Nat) (Y0 : OV) (aY1 : Nat → Nat) (Y1 : OV) (aY2 : Nat → Nat) (Y2 : OV) (aY3 : Nat → Nat) (Y3 : OV) (p0 : Int32) (p1 : Int32) (o : Int32 × OV × OV × OV × OV × OV × OV × OV × OV × OV) (hf : f_X9_change L P aH H W oC C oK K Y0 Y1 Y2 Y3 p0 p1 = some o) : Fn l yX9_change cX9_change 4 (some .int) r_X9_change D ev cy [.ref oL, .int p0, .int p1] [gX9 cy oL aL L, gX4 cy (aL 2) aP P, gX2 cy (aL 4) aH H, gX8 cy (aL 9) aW W, gX1 cy oC aC C, gX4 cy oK aK K, gX3 cy (aL (900 + 0)) aY0 Y0, gX3 cy (aL (900 + 1)) aY1 Y1, gX3 cy (aL (900 + 2)) aY2 Y2, gX3 cy (aL (900 + 3)) aY3 Y3] (fun v G => v = some (.int o.1) ∧ G = [gX9 cy oL aL o.2.1, gX4 cy (aL 2) aP o.2.2.1, gX2 cy (aL 4) aH o.2.2.2.1, gX8 cy (aL 9) aW o.2.2.2.2.1, gX1 cy oC aC C, gX4 cy oK aK o.2.2.2.2.2.1, gX3 cy (aL (900 + 0)) aY0 o.2.2.2.2.2.2.1, gX3 cy (aL (900 + 1)) aY1 o.2.2.2.2.2.2.2.1, gX3 cy (aL (900 + 2)) aY2 o.2.2.2.2.2.2.2.2.1, gX3 cy (aL (900 + 3)) aY3 o.2.2.2.2.2.2.2.2.2]) := by
  refine Fn_of (by decide) (Nat.le_of_ble_eq_true rfl) (fun X A Q h hQ _ => ?_)
  unfold f_X9_change at hf
  show ww X D A 4 Q 0 0 0 [(0, .ref oL), (1, .int p0), (2, .int p1)] [] [gX9 cy oL aL L, gX4 cy (aL 2) aP P, gX2 cy (aL 4) aH H, gX8 cy (aL 9) aW W, gX1 cy oC aC C, gX4 cy oK aK K, gX3 cy (aL (900 + 0)) aY0 Y0, gX3 cy (aL (900 + 1)) aY1 Y1, gX3 cy (aL (900 + 2)) aY2 Y2, gX3 cy (aL (900 + 3)) aY3 Y3]
  refine ww_aload_n h dX9_change_0 rfl 0 rfl 1 rfl ?_
  refine ww_get h inG9 rfl 0 rfl rfl 2 (by decide) w_415 rfl dX9_change_1 4 rfl ?_
  refine ww_iload_n h dX9_change_4 rfl 1 rfl 5 rfl ?_
  obtain ⟨r_1, hu2, hf⟩ := ob1 hf
  refine ww_cVi h (c_X4_has l D ev cy (aL 2) aP P p0 _ hu2) ⟨w_694, w_704, w_692, w_693, w_105, ok_X4_has⟩ ⟨by decide, by decide⟩ ⟨by decide, by decide⟩ ⟨rfl, rfl⟩ [1] rfl 0 rfl rfl rfl rfl (Nat.le_of_ble_eq_true rfl) dX9_change_5 8 rfl (Gs' := [gX4 cy (aL 2) aP P, gX9 cy oL aL L, gX2 cy (aL 4) aH H, gX8 cy (aL 9) aW W, gX1 cy oC aC C, gX4 cy oK aK K, gX3 cy (aL (900 + 0)) aY0 Y0, gX3 cy (aL (900 + 1)) aY1 Y1, gX3 cy (aL (900 + 2)) aY2 Y2, gX3 cy (aL (900 + 3)) aY3 Y3]) rfl ?_
  clear hu2
  refine ww_if_eq h dX9_change_8 35 (by decide) 11 rfl (fun c => ?_) (fun c => ?_)
  · replace hf := ite_t c hf
    refine ww_iconst (v := (-1)) h dX9_change_35 (by decide) 36 rfl ?_
    refine ww_perm [1, 0, 0, 0, 0, 0, 0, 0, 0, 0] (Gs' := [gX9 cy oL aL L, gX4 cy (aL 2) aP P, gX2 cy (aL 4) aH H, gX8 cy (aL 9) aW W, gX1 cy oC aC C, gX4 cy oK aK K, gX3 cy (aL (900 + 0)) aY0 Y0, gX3 cy (aL (900 + 1)) aY1 Y1, gX3 cy (aL (900 + 2)) aY2 Y2, gX3 cy (aL (900 + 3)) aY3 Y3]) rfl ?_
    obtain rfl := Option.some.inj hf
    exact ww_iret h dX9_change_36 hQ ⟨rfl, rfl⟩
  · replace hf := ite_f c hf
    refine ww_aload_n h dX9_change_11 rfl 0 rfl 12 rfl ?_
    refine ww_get h inG9 rfl 1 rfl rfl 10 (by decide) w_423 rfl dX9_change_12 15 rfl ?_
    have hi := (gd_some hf).1
    replace hf := (gd_some hf).2
    refine ww_ref hi ?_
    clear hi
    refine ww_iload_n h dX9_change_15 rfl 2 rfl 16 rfl ?_
    obtain ⟨r_3, hu4, hf⟩ := ob1 hf
    refine ww_cVi h (c_X1_has l D ev cy oC aC C p1 _ hu4) ⟨w_591, w_661, w_589, w_590, w_104, ok_X1_has⟩ ⟨by decide, by decide⟩ ⟨by decide, by decide⟩ ⟨rfl, rfl⟩ [4] rfl 0 rfl rfl rfl rfl (Nat.le_of_ble_eq_true rfl) dX9_change_16 19 rfl (Gs' := [gX1 cy oC aC C, gX4 cy (aL 2) aP P, gX9 cy oL aL L, gX2 cy (aL 4) aH H, gX8 cy (aL 9) aW W, gX4 cy oK aK K, gX3 cy (aL (900 + 0)) aY0 Y0, gX3 cy (aL (900 + 1)) aY1 Y1, gX3 cy (aL (900 + 2)) aY2 Y2, gX3 cy (aL (900 + 3)) aY3 Y3]) rfl ?_
    clear hu4
    refine ww_if_eq h dX9_change_19 35 (by decide) 22 rfl (fun c => ?_) (fun c => ?_)
    · replace hf := ite_t c hf
      refine ww_iconst (v := (-1)) h dX9_change_35 (by decide) 36 rfl ?_
      refine ww_perm [2, 1, 1, 1, 0, 0, 0, 0, 0, 0] (Gs' := [gX9 cy oL aL L, gX4 cy (aL 2) aP P, gX2 cy (aL 4) aH H, gX8 cy (aL 9) aW W, gX1 cy oC aC C, gX4 cy oK aK K, gX3 cy (aL (900 + 0)) aY0 Y0, gX3 cy (aL (900 + 1)) aY1 Y1, gX3 cy (aL (900 + 2)) aY2 Y2, gX3 cy (aL (900 + 3)) aY3 Y3]) rfl ?_
      obtain rfl := Option.some.inj hf
      exact ww_iret h dX9_change_36 hQ ⟨rfl, rfl⟩
    · replace hf := ite_f c hf
      refine ww_aload_n h dX9_change_22 rfl 0 rfl 23 rfl ?_
      refine ww_get h inG9 rfl 2 rfl rfl 2 (by decide) w_415 rfl dX9_change_23 26 rfl ?_
      refine ww_get h inG4 rfl 1 rfl rfl 0 (by decide) w_197 rfl dX9_change_26 29 rfl ?_
      refine ww_iload_n h dX9_change_29 rfl 1 rfl 30 rfl ?_
      have hi := (gd_some hf).1
      replace hf := (gd_some hf).2
      refine ww_iald h 1 rfl 1 rfl (ix_in hi) dX9_change_30 31 rfl ?_
      clear hi
      refine ww_iload_n h dX9_change_31 rfl 2 rfl 32 rfl ?_
      refine ww_icmp_ne h dX9_change_32 37 (by decide) 35 rfl (fun c => ?_) (fun c => ?_)
      · replace hf := ite_f c hf
        refine ww_aload_n h dX9_change_37 rfl 0 rfl 38 rfl ?_
        obtain ⟨L_5, H_6, W_7, K_8, Y0_9, Y1_10, Y2_11, Y3_12, hu13, hf⟩ := ob8 hf
        refine ww_cVv h (c_X9_beginAct l D ev cy oL aL L aP P aH H aW W oK aK K aY0 Y0 aY1 Y1 aY2 Y2 aY3 Y3 _ hu13) ⟨w_673, w_670, w_672, w_16, w_101, ok_X9_beginAct⟩ ⟨by decide, by decide⟩ ⟨by decide, by decide⟩ ⟨rfl, rfl⟩ [2, 1, 1, 1, 1, 1, 1, 1, 1] rfl 0 rfl rfl rfl rfl (Nat.le_of_ble_eq_true rfl) dX9_change_38 41 rfl (Gs' := [gX9 cy oL aL L_5, gX4 cy (aL 2) aP P, gX2 cy (aL 4) aH H_6, gX8 cy (aL 9) aW W_7, gX4 cy oK aK K_8, gX3 cy (aL (900 + 0)) aY0 Y0_9, gX3 cy (aL (900 + 1)) aY1 Y1_10, gX3 cy (aL (900 + 2)) aY2 Y2_11, gX3 cy (aL (900 + 3)) aY3 Y3_12, gX1 cy oC aC C]) rfl ?_
        clear hu13
        refine ww_aload_n h dX9_change_41 rfl 0 rfl 42 rfl ?_
        refine ww_get h inG9 rfl 0 rfl rfl 2 (by decide) w_415 rfl dX9_change_42 45 rfl ?_
        refine ww_get h inG4 rfl 1 rfl rfl 0 (by decide) w_197 rfl dX9_change_45 48 rfl ?_
        refine ww_iload_n h dX9_change_48 rfl 1 rfl 49 rfl ?_
        have hi := (gd_some hf).1
        replace hf := (gd_some hf).2
        refine ww_iald h 1 rfl 1 rfl (ix_in hi) dX9_change_49 50 rfl ?_
        clear hi
        refine ww_ist_n h dX9_change_50 rfl (by decide) (fun v3_14 => [(3, .int v3_14), (0, .ref oL), (1, .int p0), (2, .int p1)]) (fun _ => rfl) 51 rfl (fun v3_14 e => ?_)
        replace hf := bnd_at e hf
        clear e
        refine ww_aload_n h dX9_change_51 rfl 1 rfl 52 rfl ?_
        refine ww_get h inG9 rfl 0 rfl rfl 2 (by decide) w_415 rfl dX9_change_52 55 rfl ?_
        refine ww_get h inG4 rfl 1 rfl rfl 0 (by decide) w_197 rfl dX9_change_55 58 rfl ?_
        refine ww_iload_n h dX9_change_58 rfl 2 rfl 59 rfl ?_
        refine ww_iload_n h dX9_change_59 rfl 3 rfl 60 rfl ?_
        have hi := (gd_some hf).1
        replace hf := (gd_some hf).2
        refine ww_iast h 1 rfl 1 rfl (ix_in hi) dX9_change_60 61 rfl ?_
        clear hi
        refine ww_nm (fun z => [gX9 cy oL aL L_5, gX4 cy (aL 2) aP z, gX2 cy (aL 4) aH H_6, gX8 cy (aL 9) aW W_7, gX4 cy oK aK K_8, gX3 cy (aL (900 + 0)) aY0 Y0_9, gX3 cy (aL (900 + 1)) aY1 Y1_10, gX3 cy (aL (900 + 2)) aY2 Y2_11, gX3 cy (aL (900 + 3)) aY3 Y3_12, gX1 cy oC aC C]) (sA P 0 p0.toNatClampNeg p1) (fun P_15 e => ?_)
        replace hf := bnd_at e hf
        clear e
        refine ww_iload_n h dX9_change_61 rfl 0 rfl 62 rfl ?_
        refine ww_perm [0, 0, 0, 0, 5, 0, 0, 0, 0, 0] (Gs' := [gX9 cy oL aL L_5, gX4 cy (aL 2) aP P_15, gX2 cy (aL 4) aH H_6, gX8 cy (aL 9) aW W_7, gX1 cy oC aC C, gX4 cy oK aK K_8, gX3 cy (aL (900 + 0)) aY0 Y0_9, gX3 cy (aL (900 + 1)) aY1 Y1_10, gX3 cy (aL (900 + 2)) aY2 Y2_11, gX3 cy (aL (900 + 3)) aY3 Y3_12]) rfl ?_
        obtain rfl := Option.some.inj hf
        exact ww_iret h dX9_change_62 hQ ⟨rfl, rfl⟩
      · replace hf := ite_t c hf
        refine ww_iconst (v := (-1)) h dX9_change_35 (by decide) 36 rfl ?_
        refine ww_perm [2, 1, 1, 1, 0, 0, 0, 0, 0, 0] (Gs' := [gX9 cy oL aL L, gX4 cy (aL 2) aP P, gX2 cy (aL 4) aH H, gX8 cy (aL 9) aW W, gX1 cy oC aC C, gX4 cy oK aK K, gX3 cy (aL (900 + 0)) aY0 Y0, gX3 cy (aL (900 + 1)) aY1 Y1, gX3 cy (aL (900 + 2)) aY2 Y2, gX3 cy (aL (900 + 3)) aY3 Y3]) rfl ?_
        obtain rfl := Option.some.inj hf
        exact ww_iret h dX9_change_36 hQ ⟨rfl, rfl⟩
theorem dX9_shift_0 : decode cX9_shift 0 = .ok (.aload_n 0, 1) := by decide +kernel
theorem dX9_shift_1 : decode cX9_shift 1 = .ok (.getfield 34, 3) := by decide +kernel
theorem dX9_shift_4 : decode cX9_shift 4 = .ok (.iload_n 1, 1) := by decide +kernel
theorem dX9_shift_5 : decode cX9_shift 5 = .ok (.iload_n 2, 1) := by decide +kernel
theorem dX9_shift_6 : decode cX9_shift 6 = .ok (.invokevirtual 133, 3) := by decide +kernel
theorem dX9_shift_9 : decode cX9_shift 9 = .ok (.ifCond .eq 25, 3) := by decide +kernel
theorem dX9_shift_12 : decode cX9_shift 12 = .ok (.iload_n 3, 1) := by decide +kernel
theorem dX9_shift_13 : decode cX9_shift 13 = .ok (.ifCond .lt 21, 3) := by decide +kernel
theorem dX9_shift_16 : decode cX9_shift 16 = .ok (.iload_n 3, 1) := by decide +kernel
theorem dX9_shift_17 : decode cX9_shift 17 = .ok (.aload_n 0, 1) := by decide +kernel
theorem dX9_shift_18 : decode cX9_shift 18 = .ok (.getfield 34, 3) := by decide +kernel
theorem dX9_shift_21 : decode cX9_shift 21 = .ok (.getfield 117, 3) := by decide +kernel
theorem dX9_shift_24 : decode cX9_shift 24 = .ok (.iload_n 2, 1) := by decide +kernel
theorem dX9_shift_25 : decode cX9_shift 25 = .ok (.isub, 1) := by decide +kernel
theorem dX9_shift_26 : decode cX9_shift 26 = .ok (.if_icmp .gt 8, 3) := by decide +kernel
theorem dX9_shift_29 : decode cX9_shift 29 = .ok (.iload_n 3, 1) := by decide +kernel
theorem dX9_shift_30 : decode cX9_shift 30 = .ok (.iload_n 1, 1) := by decide +kernel
theorem dX9_shift_31 : decode cX9_shift 31 = .ok (.if_icmp .ne 5, 3) := by decide +kernel
theorem dX9_shift_34 : decode cX9_shift 34 = .ok (.iconst 0, 1) := by decide +kernel
theorem dX9_shift_35 : decode cX9_shift 35 = .ok (.ireturn, 1) := by decide +kernel
theorem dX9_shift_36 : decode cX9_shift 36 = .ok (.aload_n 0, 1) := by decide +kernel
theorem dX9_shift_37 : decode cX9_shift 37 = .ok (.invokevirtual 130, 3) := by decide +kernel
theorem dX9_shift_40 : decode cX9_shift 40 = .ok (.aload_n 0, 1) := by decide +kernel
theorem dX9_shift_41 : decode cX9_shift 41 = .ok (.getfield 38, 3) := by decide +kernel
theorem dX9_shift_44 : decode cX9_shift 44 = .ok (.aload_n 0, 1) := by decide +kernel
theorem dX9_shift_45 : decode cX9_shift 45 = .ok (.getfield 34, 3) := by decide +kernel
theorem dX9_shift_48 : decode cX9_shift 48 = .ok (.invokevirtual 144, 3) := by decide +kernel
theorem dX9_shift_51 : decode cX9_shift 51 = .ok (.aload_n 0, 1) := by decide +kernel
theorem dX9_shift_52 : decode cX9_shift 52 = .ok (.getfield 34, 3) := by decide +kernel
theorem dX9_shift_55 : decode cX9_shift 55 = .ok (.aload_n 0, 1) := by decide +kernel
theorem dX9_shift_56 : decode cX9_shift 56 = .ok (.getfield 38, 3) := by decide +kernel
theorem dX9_shift_59 : decode cX9_shift 59 = .ok (.iload_n 1, 1) := by decide +kernel
theorem dX9_shift_60 : decode cX9_shift 60 = .ok (.iload_n 2, 1) := by decide +kernel
theorem dX9_shift_61 : decode cX9_shift 61 = .ok (.iload_n 3, 1) := by decide +kernel
theorem dX9_shift_62 : decode cX9_shift 62 = .ok (.invokevirtual 148, 3) := by decide +kernel
theorem dX9_shift_65 : decode cX9_shift 65 = .ok (.iconst 1, 1) := by decide +kernel
theorem dX9_shift_66 : decode cX9_shift 66 = .ok (.ireturn, 1) := by decide +kernel
theorem ok_X9_shift : okY RX9 yX9_shift 3 := ⟨rfl, by decide, by decide, by decide +kernel⟩
def f_X9_shift (L : OV) (P : OV) (J : OV) (aH : Nat → Nat) (H : OV) (W : OV) (oK : Nat) (K : OV) (Y0 : OV) (Y1 : OV) (Y2 : OV) (Y3 : OV) (p0 : Int32) (p1 : Int32) (p2 : Int32) : Option (Int32 × OV × OV × OV × OV × OV × OV × OV × OV × OV × OV) := (f_X4_hasRun P p0 p1).bind (un1 (fun r_1 => (if r_1 = 0 then some ((0 : Int32), L, P, J, H, W, K, Y0, Y1, Y2, Y3) else (if p2 < 0 then some ((0 : Int32), L, P, J, H, W, K, Y0, Y1, Y2, Y3) else (if ((iv P 4) - p1) < p2 then some ((0 : Int32), L, P, J, H, W, K, Y0, Y1, Y2, Y3) else (if p2 = p0 then some ((0 : Int32), L, P, J, H, W, K, Y0, Y1, Y2, Y3) else (f_X9_beginAct L P aH H W oK K Y0 Y1 Y2 Y3).bind (un8 (fun L_3 H_4 W_5 K_6 Y0_7 Y1_8 Y2_9 Y3_10 => (f_X4_copyFrom J P).bind (un1 (fun J_12 => (f_X4_moveFrom P J_12 p0 p1 p2).bind (un1 (fun P_14 => some ((1 : Int32), L_3, P_14, J_12, H_4, W_5, K_6, Y0_7, Y1_8, Y2_9, Y3_10)))))))))))))
def r_X9_shift : Room := { frames := 4, cells := 0, slots := 0, locals := 88 }
set_option maxHeartbeats 4000000 in
set_option maxRecDepth 100000 in
theorem c_X9_shift (l : Launch) (D : va_G) (ev : EvT) (cy : Nat → ClassId) (oL : Nat) (aL : Nat → Nat) (L : OV) (aP : Nat → Nat) (P : OV) (aJ : Nat → Nat) (J : OV) (aH : Nat → Nat) (H : OV) (aW : Nat → Nat) (W : OV) (oK : Nat) (aK : Nat → Nat) (K : OV) (aY0 : Nat → Nat) (Y0 : OV) (aY1 : Nat → Nat) (Y1 : OV) (aY2 : Nat → Nat) (Y2 : OV) (aY3 : Nat → Nat) (Y3 : OV) (p0 : Int32) (p1 : Int32) (p2 : Int32) (o : Int32 × OV × OV × OV × OV × OV × OV × OV × OV × OV × OV) (hf : f_X9_shift L P J aH H W oK K Y0 Y1 Y2 Y3 p0 p1 p2 = some o) : Fn l yX9_shift cX9_shift 4 (some .boolean) r_X9_shift D ev cy [.ref oL, .int p0, .int p1, .int p2] [gX9 cy oL aL L, gX4 cy (aL 2) aP P, gX4 cy (aL 3) aJ J, gX2 cy (aL 4) aH H, gX8 cy (aL 9) aW W, gX4 cy oK aK K, gX3 cy (aL (900 + 0)) aY0 Y0, gX3 cy (aL (900 + 1)) aY1 Y1, gX3 cy (aL (900 + 2)) aY2 Y2, gX3 cy (aL (900 + 3)) aY3 Y3] (fun v G => v = some (.int o.1) ∧ G = [gX9 cy oL aL o.2.1, gX4 cy (aL 2) aP o.2.2.1, gX4 cy (aL 3) aJ o.2.2.2.1, gX2 cy (aL 4) aH o.2.2.2.2.1, gX8 cy (aL 9) aW o.2.2.2.2.2.1, gX4 cy oK aK o.2.2.2.2.2.2.1, gX3 cy (aL (900 + 0)) aY0 o.2.2.2.2.2.2.2.1, gX3 cy (aL (900 + 1)) aY1 o.2.2.2.2.2.2.2.2.1, gX3 cy (aL (900 + 2)) aY2 o.2.2.2.2.2.2.2.2.2.1, gX3 cy (aL (900 + 3)) aY3 o.2.2.2.2.2.2.2.2.2.2]) := by
  refine Fn_of (by decide) (Nat.le_of_ble_eq_true rfl) (fun X A Q h hQ _ => ?_)
  unfold f_X9_shift at hf
  show ww X D A 4 Q 0 0 0 [(0, .ref oL), (1, .int p0), (2, .int p1), (3, .int p2)] [] [gX9 cy oL aL L, gX4 cy (aL 2) aP P, gX4 cy (aL 3) aJ J, gX2 cy (aL 4) aH H, gX8 cy (aL 9) aW W, gX4 cy oK aK K, gX3 cy (aL (900 + 0)) aY0 Y0, gX3 cy (aL (900 + 1)) aY1 Y1, gX3 cy (aL (900 + 2)) aY2 Y2, gX3 cy (aL (900 + 3)) aY3 Y3]
  refine ww_aload_n h dX9_shift_0 rfl 0 rfl 1 rfl ?_
  refine ww_get h inG9 rfl 0 rfl rfl 2 (by decide) w_415 rfl dX9_shift_1 4 rfl ?_
  refine ww_iload_n h dX9_shift_4 rfl 1 rfl 5 rfl ?_
  refine ww_iload_n h dX9_shift_5 rfl 2 rfl 6 rfl ?_
  obtain ⟨r_1, hu2, hf⟩ := ob1 hf
  refine ww_cVi h (c_X4_hasRun l D ev cy (aL 2) aP P p0 p1 _ hu2) ⟨w_690, w_687, w_688, w_689, w_105, ok_X4_hasRun⟩ ⟨by decide, by decide⟩ ⟨by decide, by decide⟩ ⟨rfl, rfl⟩ [1] rfl 0 rfl rfl rfl rfl (Nat.le_of_ble_eq_true rfl) dX9_shift_6 9 rfl (Gs' := [gX4 cy (aL 2) aP P, gX9 cy oL aL L, gX4 cy (aL 3) aJ J, gX2 cy (aL 4) aH H, gX8 cy (aL 9) aW W, gX4 cy oK aK K, gX3 cy (aL (900 + 0)) aY0 Y0, gX3 cy (aL (900 + 1)) aY1 Y1, gX3 cy (aL (900 + 2)) aY2 Y2, gX3 cy (aL (900 + 3)) aY3 Y3]) rfl ?_
  clear hu2
  refine ww_if_eq h dX9_shift_9 34 (by decide) 12 rfl (fun c => ?_) (fun c => ?_)
  · replace hf := ite_t c hf
    refine ww_iconst (v := 0) h dX9_shift_34 (by decide) 35 rfl ?_
    refine ww_perm [1, 0, 0, 0, 0, 0, 0, 0, 0, 0] (Gs' := [gX9 cy oL aL L, gX4 cy (aL 2) aP P, gX4 cy (aL 3) aJ J, gX2 cy (aL 4) aH H, gX8 cy (aL 9) aW W, gX4 cy oK aK K, gX3 cy (aL (900 + 0)) aY0 Y0, gX3 cy (aL (900 + 1)) aY1 Y1, gX3 cy (aL (900 + 2)) aY2 Y2, gX3 cy (aL (900 + 3)) aY3 Y3]) rfl ?_
    obtain rfl := Option.some.inj hf
    exact ww_zret h (Or.inl rfl) dX9_shift_35 hQ ⟨rfl, rfl⟩
  · replace hf := ite_f c hf
    refine ww_iload_n h dX9_shift_12 rfl 3 rfl 13 rfl ?_
    refine ww_if_lt h dX9_shift_13 34 (by decide) 16 rfl (fun c => ?_) (fun c => ?_)
    · replace hf := ite_t c hf
      refine ww_iconst (v := 0) h dX9_shift_34 (by decide) 35 rfl ?_
      refine ww_perm [1, 0, 0, 0, 0, 0, 0, 0, 0, 0] (Gs' := [gX9 cy oL aL L, gX4 cy (aL 2) aP P, gX4 cy (aL 3) aJ J, gX2 cy (aL 4) aH H, gX8 cy (aL 9) aW W, gX4 cy oK aK K, gX3 cy (aL (900 + 0)) aY0 Y0, gX3 cy (aL (900 + 1)) aY1 Y1, gX3 cy (aL (900 + 2)) aY2 Y2, gX3 cy (aL (900 + 3)) aY3 Y3]) rfl ?_
      obtain rfl := Option.some.inj hf
      exact ww_zret h (Or.inl rfl) dX9_shift_35 hQ ⟨rfl, rfl⟩
    · replace hf := ite_f c hf
      refine ww_iload_n h dX9_shift_16 rfl 3 rfl 17 rfl ?_
      refine ww_aload_n h dX9_shift_17 rfl 0 rfl 18 rfl ?_
      refine ww_get h inG9 rfl 1 rfl rfl 2 (by decide) w_415 rfl dX9_shift_18 21 rfl ?_
      refine ww_get h inG4 rfl 0 rfl rfl 4 (by decide) w_209 rfl dX9_shift_21 24 rfl ?_
      refine ww_iload_n h dX9_shift_24 rfl 2 rfl 25 rfl ?_
      refine ww_isub h dX9_shift_25 26 rfl ?_
      refine ww_icmp_gt h dX9_shift_26 34 (by decide) 29 rfl (fun c => ?_) (fun c => ?_)
      · replace hf := ite_t c hf
        refine ww_iconst (v := 0) h dX9_shift_34 (by decide) 35 rfl ?_
        refine ww_perm [1, 0, 0, 0, 0, 0, 0, 0, 0, 0] (Gs' := [gX9 cy oL aL L, gX4 cy (aL 2) aP P, gX4 cy (aL 3) aJ J, gX2 cy (aL 4) aH H, gX8 cy (aL 9) aW W, gX4 cy oK aK K, gX3 cy (aL (900 + 0)) aY0 Y0, gX3 cy (aL (900 + 1)) aY1 Y1, gX3 cy (aL (900 + 2)) aY2 Y2, gX3 cy (aL (900 + 3)) aY3 Y3]) rfl ?_
        obtain rfl := Option.some.inj hf
        exact ww_zret h (Or.inl rfl) dX9_shift_35 hQ ⟨rfl, rfl⟩
      · replace hf := ite_f c hf
        refine ww_iload_n h dX9_shift_29 rfl 3 rfl 30 rfl ?_
        refine ww_iload_n h dX9_shift_30 rfl 1 rfl 31 rfl ?_
        refine ww_icmp_ne h dX9_shift_31 36 (by decide) 34 rfl (fun c => ?_) (fun c => ?_)
        · replace hf := ite_f c hf
          refine ww_aload_n h dX9_shift_36 rfl 0 rfl 37 rfl ?_
          obtain ⟨L_3, H_4, W_5, K_6, Y0_7, Y1_8, Y2_9, Y3_10, hu11, hf⟩ := ob8 hf
          refine ww_cVv h (c_X9_beginAct l D ev cy oL aL L aP P aH H aW W oK aK K aY0 Y0 aY1 Y1 aY2 Y2 aY3 Y3 _ hu11) ⟨w_673, w_670, w_672, w_16, w_101, ok_X9_beginAct⟩ ⟨by decide, by decide⟩ ⟨by decide, by decide⟩ ⟨rfl, rfl⟩ [1, 0, 1, 1, 1, 1, 1, 1, 1] rfl 0 rfl rfl rfl rfl (Nat.le_of_ble_eq_true rfl) dX9_shift_37 40 rfl (Gs' := [gX9 cy oL aL L_3, gX4 cy (aL 2) aP P, gX2 cy (aL 4) aH H_4, gX8 cy (aL 9) aW W_5, gX4 cy oK aK K_6, gX3 cy (aL (900 + 0)) aY0 Y0_7, gX3 cy (aL (900 + 1)) aY1 Y1_8, gX3 cy (aL (900 + 2)) aY2 Y2_9, gX3 cy (aL (900 + 3)) aY3 Y3_10, gX4 cy (aL 3) aJ J]) rfl ?_
          clear hu11
          refine ww_aload_n h dX9_shift_40 rfl 0 rfl 41 rfl ?_
          refine ww_get h inG9 rfl 0 rfl rfl 3 (by decide) w_416 rfl dX9_shift_41 44 rfl ?_
          refine ww_aload_n h dX9_shift_44 rfl 0 rfl 45 rfl ?_
          refine ww_get h inG9 rfl 0 rfl rfl 2 (by decide) w_415 rfl dX9_shift_45 48 rfl ?_
          obtain ⟨J_12, hu13, hf⟩ := ob1 hf
          refine ww_cVv h (c_X4_copyFrom l D ev cy (aL 3) aJ J (aL 2) aP P _ hu13) ⟨w_681, w_709, w_679, w_680, w_105, ok_X4_copyFrom⟩ ⟨by decide, by decide⟩ ⟨by decide, by decide⟩ ⟨rfl, rfl⟩ [9, 1] rfl 0 rfl rfl rfl rfl (Nat.le_of_ble_eq_true rfl) dX9_shift_48 51 rfl (Gs' := [gX4 cy (aL 3) aJ J_12, gX4 cy (aL 2) aP P, gX9 cy oL aL L_3, gX2 cy (aL 4) aH H_4, gX8 cy (aL 9) aW W_5, gX4 cy oK aK K_6, gX3 cy (aL (900 + 0)) aY0 Y0_7, gX3 cy (aL (900 + 1)) aY1 Y1_8, gX3 cy (aL (900 + 2)) aY2 Y2_9, gX3 cy (aL (900 + 3)) aY3 Y3_10]) rfl ?_
          clear hu13
          refine ww_aload_n h dX9_shift_51 rfl 0 rfl 52 rfl ?_
          refine ww_get h inG9 rfl 2 rfl rfl 2 (by decide) w_415 rfl dX9_shift_52 55 rfl ?_
          refine ww_aload_n h dX9_shift_55 rfl 0 rfl 56 rfl ?_
          refine ww_get h inG9 rfl 2 rfl rfl 3 (by decide) w_416 rfl dX9_shift_56 59 rfl ?_
          refine ww_iload_n h dX9_shift_59 rfl 1 rfl 60 rfl ?_
          refine ww_iload_n h dX9_shift_60 rfl 2 rfl 61 rfl ?_
          refine ww_iload_n h dX9_shift_61 rfl 3 rfl 62 rfl ?_
          obtain ⟨P_14, hu15, hf⟩ := ob1 hf
          refine ww_cVv h (c_X4_moveFrom l D ev cy (aL 2) aP P (aL 3) aJ J_12 p0 p1 p2 _ hu15) ⟨w_713, w_710, w_711, w_712, w_105, ok_X4_moveFrom⟩ ⟨by decide, by decide⟩ ⟨by decide, by decide⟩ ⟨rfl, rfl⟩ [1, 0] rfl 0 rfl rfl rfl rfl (Nat.le_of_ble_eq_true rfl) dX9_shift_62 65 rfl (Gs' := [gX4 cy (aL 2) aP P_14, gX4 cy (aL 3) aJ J_12, gX9 cy oL aL L_3, gX2 cy (aL 4) aH H_4, gX8 cy (aL 9) aW W_5, gX4 cy oK aK K_6, gX3 cy (aL (900 + 0)) aY0 Y0_7, gX3 cy (aL (900 + 1)) aY1 Y1_8, gX3 cy (aL (900 + 2)) aY2 Y2_9, gX3 cy (aL (900 + 3)) aY3 Y3_10]) rfl ?_
          clear hu15
          refine ww_iconst (v := 1) h dX9_shift_65 (by decide) 66 rfl ?_
          refine ww_perm [2, 0, 0, 0, 0, 0, 0, 0, 0, 0] (Gs' := [gX9 cy oL aL L_3, gX4 cy (aL 2) aP P_14, gX4 cy (aL 3) aJ J_12, gX2 cy (aL 4) aH H_4, gX8 cy (aL 9) aW W_5, gX4 cy oK aK K_6, gX3 cy (aL (900 + 0)) aY0 Y0_7, gX3 cy (aL (900 + 1)) aY1 Y1_8, gX3 cy (aL (900 + 2)) aY2 Y2_9, gX3 cy (aL (900 + 3)) aY3 Y3_10]) rfl ?_
          obtain rfl := Option.some.inj hf
          exact ww_zret h (Or.inr rfl) dX9_shift_66 hQ ⟨rfl, rfl⟩
        · replace hf := ite_t c hf
          refine ww_iconst (v := 0) h dX9_shift_34 (by decide) 35 rfl ?_
          refine ww_perm [1, 0, 0, 0, 0, 0, 0, 0, 0, 0] (Gs' := [gX9 cy oL aL L, gX4 cy (aL 2) aP P, gX4 cy (aL 3) aJ J, gX2 cy (aL 4) aH H, gX8 cy (aL 9) aW W, gX4 cy oK aK K, gX3 cy (aL (900 + 0)) aY0 Y0, gX3 cy (aL (900 + 1)) aY1 Y1, gX3 cy (aL (900 + 2)) aY2 Y2, gX3 cy (aL (900 + 3)) aY3 Y3]) rfl ?_
          obtain rfl := Option.some.inj hf
          exact ww_zret h (Or.inl rfl) dX9_shift_35 hQ ⟨rfl, rfl⟩
theorem dX9_replace_0 : decode cX9_replace 0 = .ok (.aload_n 0, 1) := by decide +kernel
theorem dX9_replace_1 : decode cX9_replace 1 = .ok (.getfield 24, 3) := by decide +kernel
theorem dX9_replace_4 : decode cX9_replace 4 = .ok (.iload_n 1, 1) := by decide +kernel
theorem dX9_replace_5 : decode cX9_replace 5 = .ok (.invokevirtual 126, 3) := by decide +kernel
theorem dX9_replace_8 : decode cX9_replace 8 = .ok (.ifCond .eq 19, 3) := by decide +kernel
theorem dX9_replace_11 : decode cX9_replace 11 = .ok (.aload_n 0, 1) := by decide +kernel
theorem dX9_replace_12 : decode cX9_replace 12 = .ok (.getfield 24, 3) := by decide +kernel
theorem dX9_replace_15 : decode cX9_replace 15 = .ok (.iload_n 2, 1) := by decide +kernel
theorem dX9_replace_16 : decode cX9_replace 16 = .ok (.invokevirtual 126, 3) := by decide +kernel
theorem dX9_replace_19 : decode cX9_replace 19 = .ok (.ifCond .eq 8, 3) := by decide +kernel
theorem dX9_replace_22 : decode cX9_replace 22 = .ok (.iload_n 1, 1) := by decide +kernel
theorem dX9_replace_23 : decode cX9_replace 23 = .ok (.iload_n 2, 1) := by decide +kernel
theorem dX9_replace_24 : decode cX9_replace 24 = .ok (.if_icmp .ne 5, 3) := by decide +kernel
theorem dX9_replace_27 : decode cX9_replace 27 = .ok (.iconst (-1), 1) := by decide +kernel
theorem dX9_replace_28 : decode cX9_replace 28 = .ok (.ireturn, 1) := by decide +kernel
theorem dX9_replace_29 : decode cX9_replace 29 = .ok (.aload_n 0, 1) := by decide +kernel
theorem dX9_replace_30 : decode cX9_replace 30 = .ok (.getfield 34, 3) := by decide +kernel
theorem dX9_replace_33 : decode cX9_replace 33 = .ok (.iload_n 1, 1) := by decide +kernel
theorem dX9_replace_34 : decode cX9_replace 34 = .ok (.invokevirtual 152, 3) := by decide +kernel
theorem dX9_replace_37 : decode cX9_replace 37 = .ok (.istore_n 3, 1) := by decide +kernel
theorem dX9_replace_38 : decode cX9_replace 38 = .ok (.iload_n 3, 1) := by decide +kernel
theorem dX9_replace_39 : decode cX9_replace 39 = .ok (.ifCond .ne 5, 3) := by decide +kernel
theorem dX9_replace_42 : decode cX9_replace 42 = .ok (.iconst (-1), 1) := by decide +kernel
theorem dX9_replace_43 : decode cX9_replace 43 = .ok (.ireturn, 1) := by decide +kernel
theorem dX9_replace_44 : decode cX9_replace 44 = .ok (.aload_n 0, 1) := by decide +kernel
theorem dX9_replace_45 : decode cX9_replace 45 = .ok (.invokevirtual 130, 3) := by decide +kernel
theorem dX9_replace_48 : decode cX9_replace 48 = .ok (.iconst 0, 1) := by decide +kernel
theorem dX9_replace_49 : decode cX9_replace 49 = .ok (.istore 4, 2) := by decide +kernel
theorem dX9_replace_51 : decode cX9_replace 51 = .ok (.iload 4, 2) := by decide +kernel
theorem dX9_replace_53 : decode cX9_replace 53 = .ok (.aload_n 0, 1) := by decide +kernel
theorem dX9_replace_54 : decode cX9_replace 54 = .ok (.getfield 34, 3) := by decide +kernel
theorem dX9_replace_57 : decode cX9_replace 57 = .ok (.getfield 117, 3) := by decide +kernel
theorem dX9_replace_60 : decode cX9_replace 60 = .ok (.if_icmp .ge 34, 3) := by decide +kernel
theorem dX9_replace_63 : decode cX9_replace 63 = .ok (.aload_n 0, 1) := by decide +kernel
theorem dX9_replace_64 : decode cX9_replace 64 = .ok (.getfield 34, 3) := by decide +kernel
theorem dX9_replace_67 : decode cX9_replace 67 = .ok (.getfield 141, 3) := by decide +kernel
theorem dX9_replace_70 : decode cX9_replace 70 = .ok (.iload 4, 2) := by decide +kernel
theorem dX9_replace_72 : decode cX9_replace 72 = .ok (.iaload, 1) := by decide +kernel
theorem dX9_replace_73 : decode cX9_replace 73 = .ok (.iload_n 1, 1) := by decide +kernel
theorem dX9_replace_74 : decode cX9_replace 74 = .ok (.if_icmp .ne 14, 3) := by decide +kernel
theorem dX9_replace_77 : decode cX9_replace 77 = .ok (.aload_n 0, 1) := by decide +kernel
theorem dX9_replace_78 : decode cX9_replace 78 = .ok (.getfield 34, 3) := by decide +kernel
theorem dX9_replace_81 : decode cX9_replace 81 = .ok (.getfield 141, 3) := by decide +kernel
theorem dX9_replace_84 : decode cX9_replace 84 = .ok (.iload 4, 2) := by decide +kernel
theorem dX9_replace_86 : decode cX9_replace 86 = .ok (.iload_n 2, 1) := by decide +kernel
theorem dX9_replace_87 : decode cX9_replace 87 = .ok (.iastore, 1) := by decide +kernel
theorem dX9_replace_88 : decode cX9_replace 88 = .ok (.iinc 4 1, 3) := by decide +kernel
theorem dX9_replace_91 : decode cX9_replace 91 = .ok (.goto (-40), 3) := by decide +kernel
theorem dX9_replace_94 : decode cX9_replace 94 = .ok (.iload_n 3, 1) := by decide +kernel
theorem dX9_replace_95 : decode cX9_replace 95 = .ok (.ireturn, 1) := by decide +kernel
theorem ok_X9_replace : okY RX9 yX9_replace 2 := ⟨rfl, by decide, by decide, by decide +kernel⟩
def j_X9_replace_88_22 (v4_19 : Int32) (P_21 : OV) : Option ((Int32 × OV) ⊕ (OV)) := bnd (v4_19 + 1) (fun v4_23 => some (.inl (v4_23, P_21)))
def s_X9_replace_51_18 (p0 : Int32) (p1 : Int32) : (Int32 × OV) → Option ((Int32 × OV) ⊕ (OV)) := un2 (fun v4_19 P_20 => (if (iv P_20 4) ≤ v4_19 then some (.inr P_20) else gd (ix v4_19 40) ((if (ar P_20 0 v4_19.toNatClampNeg) = p0 then gd (ix v4_19 40) (bnd (sA P_20 0 v4_19.toNatClampNeg p1) (fun P_24 => j_X9_replace_88_22 v4_19 P_24)) else j_X9_replace_88_22 v4_19 P_20))))
def f_X9_replace (L : OV) (P : OV) (aH : Nat → Nat) (H : OV) (W : OV) (oC : Nat) (C : OV) (oK : Nat) (K : OV) (Y0 : OV) (Y1 : OV) (Y2 : OV) (Y3 : OV) (p0 : Int32) (p1 : Int32) : Option (Int32 × OV × OV × OV × OV × OV × OV × OV × OV × OV) := gd (decide (nv L 10 = oC)) ((f_X1_has C p0).bind (un1 (fun r_1 => (if r_1 = 0 then some ((-1 : Int32), L, P, H, W, K, Y0, Y1, Y2, Y3) else gd (decide (nv L 10 = oC)) ((f_X1_has C p1).bind (un1 (fun r_3 => (if r_3 = 0 then some ((-1 : Int32), L, P, H, W, K, Y0, Y1, Y2, Y3) else (if p0 = p1 then some ((-1 : Int32), L, P, H, W, K, Y0, Y1, Y2, Y3) else (f_X4_signsOf P p0).bind (un1 (fun r_5 => bnd r_5 (fun v3_7 => (if v3_7 = 0 then some ((-1 : Int32), L, P, H, W, K, Y0, Y1, Y2, Y3) else (f_X9_beginAct L P aH H W oK K Y0 Y1 Y2 Y3).bind (un8 (fun L_8 H_9 W_10 K_11 Y0_12 Y1_13 Y2_14 Y3_15 => bnd (0 : Int32) (fun v4_17 => ((lp (s_X9_replace_51_18 p0 p1) 5000 (v4_17, P)).bind (un1 (fun P_25 => some (v3_7, L_8, P_25, H_9, W_10, K_11, Y0_12, Y1_13, Y2_14, Y3_15))))))))))))))))))))
def r_X9_replace : Room := { frames := 4, cells := 0, slots := 0, locals := 88 }
set_option maxHeartbeats 4000000 in
set_option maxRecDepth 100000 in
theorem c_X9_replace (l : Launch) (D : va_G) (ev : EvT) (cy : Nat → ClassId) (oL : Nat) (aL : Nat → Nat) (L : OV) (aP : Nat → Nat) (P : OV) (aH : Nat → Nat) (H : OV) (aW : Nat → Nat) (W : OV) (oC : Nat) (aC : Nat → Nat) (C : OV) (oK : Nat) (aK : Nat → Nat) (K : OV) (aY0 : Nat → Nat) (Y0 : OV) (aY1 : Nat → Nat) (Y1 : OV) (aY2 : Nat → Nat) (Y2 : OV) (aY3 : Nat → Nat) (Y3 : OV) (p0 : Int32) (p1 : Int32) (o : Int32 × OV × OV × OV × OV × OV × OV × OV × OV × OV) (hf : f_X9_replace L P aH H W oC C oK K Y0 Y1 Y2 Y3 p0 p1 = some o) : Fn l yX9_replace cX9_replace 5 (some .int) r_X9_replace D ev cy [.ref oL, .int p0, .int p1] [gX9 cy oL aL L, gX4 cy (aL 2) aP P, gX2 cy (aL 4) aH H, gX8 cy (aL 9) aW W, gX1 cy oC aC C, gX4 cy oK aK K, gX3 cy (aL (900 + 0)) aY0 Y0, gX3 cy (aL (900 + 1)) aY1 Y1, gX3 cy (aL (900 + 2)) aY2 Y2, gX3 cy (aL (900 + 3)) aY3 Y3] (fun v G => v = some (.int o.1) ∧ G = [gX9 cy oL aL o.2.1, gX4 cy (aL 2) aP o.2.2.1, gX2 cy (aL 4) aH o.2.2.2.1, gX8 cy (aL 9) aW o.2.2.2.2.1, gX1 cy oC aC C, gX4 cy oK aK o.2.2.2.2.2.1, gX3 cy (aL (900 + 0)) aY0 o.2.2.2.2.2.2.1, gX3 cy (aL (900 + 1)) aY1 o.2.2.2.2.2.2.2.1, gX3 cy (aL (900 + 2)) aY2 o.2.2.2.2.2.2.2.2.1, gX3 cy (aL (900 + 3)) aY3 o.2.2.2.2.2.2.2.2.2]) := by
  refine Fn_of (by decide) (Nat.le_of_ble_eq_true rfl) (fun X A Q h hQ _ => ?_)
  unfold f_X9_replace at hf
  show ww X D A 5 Q 0 0 0 [(0, .ref oL), (1, .int p0), (2, .int p1)] [] [gX9 cy oL aL L, gX4 cy (aL 2) aP P, gX2 cy (aL 4) aH H, gX8 cy (aL 9) aW W, gX1 cy oC aC C, gX4 cy oK aK K, gX3 cy (aL (900 + 0)) aY0 Y0, gX3 cy (aL (900 + 1)) aY1 Y1, gX3 cy (aL (900 + 2)) aY2 Y2, gX3 cy (aL (900 + 3)) aY3 Y3]
  refine ww_aload_n h dX9_replace_0 rfl 0 rfl 1 rfl ?_
  refine ww_get h inG9 rfl 0 rfl rfl 10 (by decide) w_423 rfl dX9_replace_1 4 rfl ?_
  have hi := (gd_some hf).1
  replace hf := (gd_some hf).2
  refine ww_ref hi ?_
  clear hi
  refine ww_iload_n h dX9_replace_4 rfl 1 rfl 5 rfl ?_
  obtain ⟨r_1, hu2, hf⟩ := ob1 hf
  refine ww_cVi h (c_X1_has l D ev cy oC aC C p0 _ hu2) ⟨w_591, w_661, w_589, w_590, w_104, ok_X1_has⟩ ⟨by decide, by decide⟩ ⟨by decide, by decide⟩ ⟨rfl, rfl⟩ [4] rfl 0 rfl rfl rfl rfl (Nat.le_of_ble_eq_true rfl) dX9_replace_5 8 rfl (Gs' := [gX1 cy oC aC C, gX9 cy oL aL L, gX4 cy (aL 2) aP P, gX2 cy (aL 4) aH H, gX8 cy (aL 9) aW W, gX4 cy oK aK K, gX3 cy (aL (900 + 0)) aY0 Y0, gX3 cy (aL (900 + 1)) aY1 Y1, gX3 cy (aL (900 + 2)) aY2 Y2, gX3 cy (aL (900 + 3)) aY3 Y3]) rfl ?_
  clear hu2
  refine ww_if_eq h dX9_replace_8 27 (by decide) 11 rfl (fun c => ?_) (fun c => ?_)
  · replace hf := ite_t c hf
    refine ww_iconst (v := (-1)) h dX9_replace_27 (by decide) 28 rfl ?_
    refine ww_perm [1, 1, 1, 1, 0, 0, 0, 0, 0, 0] (Gs' := [gX9 cy oL aL L, gX4 cy (aL 2) aP P, gX2 cy (aL 4) aH H, gX8 cy (aL 9) aW W, gX1 cy oC aC C, gX4 cy oK aK K, gX3 cy (aL (900 + 0)) aY0 Y0, gX3 cy (aL (900 + 1)) aY1 Y1, gX3 cy (aL (900 + 2)) aY2 Y2, gX3 cy (aL (900 + 3)) aY3 Y3]) rfl ?_
    obtain rfl := Option.some.inj hf
    exact ww_iret h dX9_replace_28 hQ ⟨rfl, rfl⟩
  · replace hf := ite_f c hf
    refine ww_aload_n h dX9_replace_11 rfl 0 rfl 12 rfl ?_
    refine ww_get h inG9 rfl 1 rfl rfl 10 (by decide) w_423 rfl dX9_replace_12 15 rfl ?_
    have hi := (gd_some hf).1
    replace hf := (gd_some hf).2
    refine ww_ref hi ?_
    clear hi
    refine ww_iload_n h dX9_replace_15 rfl 2 rfl 16 rfl ?_
    obtain ⟨r_3, hu4, hf⟩ := ob1 hf
    refine ww_cVi h (c_X1_has l D ev cy oC aC C p1 _ hu4) ⟨w_591, w_661, w_589, w_590, w_104, ok_X1_has⟩ ⟨by decide, by decide⟩ ⟨by decide, by decide⟩ ⟨rfl, rfl⟩ [0] rfl 0 rfl rfl rfl rfl (Nat.le_of_ble_eq_true rfl) dX9_replace_16 19 rfl (Gs' := [gX1 cy oC aC C, gX9 cy oL aL L, gX4 cy (aL 2) aP P, gX2 cy (aL 4) aH H, gX8 cy (aL 9) aW W, gX4 cy oK aK K, gX3 cy (aL (900 + 0)) aY0 Y0, gX3 cy (aL (900 + 1)) aY1 Y1, gX3 cy (aL (900 + 2)) aY2 Y2, gX3 cy (aL (900 + 3)) aY3 Y3]) rfl ?_
    clear hu4
    refine ww_if_eq h dX9_replace_19 27 (by decide) 22 rfl (fun c => ?_) (fun c => ?_)
    · replace hf := ite_t c hf
      refine ww_iconst (v := (-1)) h dX9_replace_27 (by decide) 28 rfl ?_
      refine ww_perm [1, 1, 1, 1, 0, 0, 0, 0, 0, 0] (Gs' := [gX9 cy oL aL L, gX4 cy (aL 2) aP P, gX2 cy (aL 4) aH H, gX8 cy (aL 9) aW W, gX1 cy oC aC C, gX4 cy oK aK K, gX3 cy (aL (900 + 0)) aY0 Y0, gX3 cy (aL (900 + 1)) aY1 Y1, gX3 cy (aL (900 + 2)) aY2 Y2, gX3 cy (aL (900 + 3)) aY3 Y3]) rfl ?_
      obtain rfl := Option.some.inj hf
      exact ww_iret h dX9_replace_28 hQ ⟨rfl, rfl⟩
    · replace hf := ite_f c hf
      refine ww_iload_n h dX9_replace_22 rfl 1 rfl 23 rfl ?_
      refine ww_iload_n h dX9_replace_23 rfl 2 rfl 24 rfl ?_
      refine ww_icmp_ne h dX9_replace_24 29 (by decide) 27 rfl (fun c => ?_) (fun c => ?_)
      · replace hf := ite_f c hf
        refine ww_aload_n h dX9_replace_29 rfl 0 rfl 30 rfl ?_
        refine ww_get h inG9 rfl 1 rfl rfl 2 (by decide) w_415 rfl dX9_replace_30 33 rfl ?_
        refine ww_iload_n h dX9_replace_33 rfl 1 rfl 34 rfl ?_
        obtain ⟨r_5, hu6, hf⟩ := ob1 hf
        refine ww_cVi h (c_X4_signsOf l D ev cy (aL 2) aP P p0 _ hu6) ⟨w_721, w_718, w_719, w_720, w_105, ok_X4_signsOf⟩ ⟨by decide, by decide⟩ ⟨by decide, by decide⟩ ⟨rfl, rfl⟩ [2] rfl 0 rfl rfl rfl rfl (Nat.le_of_ble_eq_true rfl) dX9_replace_34 37 rfl (Gs' := [gX4 cy (aL 2) aP P, gX1 cy oC aC C, gX9 cy oL aL L, gX2 cy (aL 4) aH H, gX8 cy (aL 9) aW W, gX4 cy oK aK K, gX3 cy (aL (900 + 0)) aY0 Y0, gX3 cy (aL (900 + 1)) aY1 Y1, gX3 cy (aL (900 + 2)) aY2 Y2, gX3 cy (aL (900 + 3)) aY3 Y3]) rfl ?_
        clear hu6
        refine ww_ist_n h dX9_replace_37 rfl (by decide) (fun v3_7 => [(3, .int v3_7), (0, .ref oL), (1, .int p0), (2, .int p1)]) (fun _ => rfl) 38 rfl (fun v3_7 e => ?_)
        replace hf := bnd_at e hf
        clear e
        refine ww_iload_n h dX9_replace_38 rfl 0 rfl 39 rfl ?_
        refine ww_if_ne h dX9_replace_39 44 (by decide) 42 rfl (fun c => ?_) (fun c => ?_)
        · replace hf := ite_f c hf
          refine ww_aload_n h dX9_replace_44 rfl 1 rfl 45 rfl ?_
          obtain ⟨L_8, H_9, W_10, K_11, Y0_12, Y1_13, Y2_14, Y3_15, hu16, hf⟩ := ob8 hf
          refine ww_cVv h (c_X9_beginAct l D ev cy oL aL L aP P aH H aW W oK aK K aY0 Y0 aY1 Y1 aY2 Y2 aY3 Y3 _ hu16) ⟨w_673, w_670, w_672, w_16, w_101, ok_X9_beginAct⟩ ⟨by decide, by decide⟩ ⟨by decide, by decide⟩ ⟨rfl, rfl⟩ [2, 0, 1, 1, 1, 1, 1, 1, 1] rfl 0 rfl rfl rfl rfl (Nat.le_of_ble_eq_true rfl) dX9_replace_45 48 rfl (Gs' := [gX9 cy oL aL L_8, gX4 cy (aL 2) aP P, gX2 cy (aL 4) aH H_9, gX8 cy (aL 9) aW W_10, gX4 cy oK aK K_11, gX3 cy (aL (900 + 0)) aY0 Y0_12, gX3 cy (aL (900 + 1)) aY1 Y1_13, gX3 cy (aL (900 + 2)) aY2 Y2_14, gX3 cy (aL (900 + 3)) aY3 Y3_15, gX1 cy oC aC C]) rfl ?_
          clear hu16
          refine ww_iconst (v := 0) h dX9_replace_48 (by decide) 49 rfl ?_
          refine ww_ist h dX9_replace_49 (by decide) (fun v4_17 => [(4, .int v4_17), (3, .int v3_7), (0, .ref oL), (1, .int p0), (2, .int p1)]) (fun _ => rfl) 51 rfl (fun v4_17 e => ?_)
          replace hf := bnd_at e hf
          clear e
          refine ww_lo [2, 3, 4, 1, 0] (lo' := [(0, .ref oL), (1, .int p0), (2, .int p1), (3, .int v3_7), (4, .int v4_17)]) rfl ?_
          refine ww_perm [0, 0, 0, 0, 5, 0, 0, 0, 0, 0] (Gs' := [gX9 cy oL aL L_8, gX4 cy (aL 2) aP P, gX2 cy (aL 4) aH H_9, gX8 cy (aL 9) aW W_10, gX1 cy oC aC C, gX4 cy oK aK K_11, gX3 cy (aL (900 + 0)) aY0 Y0_12, gX3 cy (aL (900 + 1)) aY1 Y1_13, gX3 cy (aL (900 + 2)) aY2 Y2_14, gX3 cy (aL (900 + 3)) aY3 Y3_15]) rfl ?_
          obtain ⟨P_25, h18, hf⟩ := ob1 hf
          refine lp_walk (un2 (fun v4_19 P_20 => ww X D A 5 Q 0 0 51 [(0, .ref oL), (1, .int p0), (2, .int p1), (3, .int v3_7), (4, .int v4_19)] [] [gX9 cy oL aL L_8, gX4 cy (aL 2) aP P_20, gX2 cy (aL 4) aH H_9, gX8 cy (aL 9) aW W_10, gX1 cy oC aC C, gX4 cy oK aK K_11, gX3 cy (aL (900 + 0)) aY0 Y0_12, gX3 cy (aL (900 + 1)) aY1 Y1_13, gX3 cy (aL (900 + 2)) aY2 Y2_14, gX3 cy (aL (900 + 3)) aY3 Y3_15])) (un1 (fun P_25 => ww X D A 5 Q 0 0 94 [(3, .int v3_7)] [] [gX9 cy oL aL L_8, gX4 cy (aL 2) aP P_25, gX2 cy (aL 4) aH H_9, gX8 cy (aL 9) aW W_10, gX1 cy oC aC C, gX4 cy oK aK K_11, gX3 cy (aL (900 + 0)) aY0 Y0_12, gX3 cy (aL (900 + 1)) aY1 Y1_13, gX3 cy (aL (900 + 2)) aY2 Y2_14, gX3 cy (aL (900 + 3)) aY3 Y3_15])) ?_ _ _ _ h18 ?_
          · clear h18 hf
            intro s18 o18 hf hI18 hE18
            obtain ⟨v4_19, P_20⟩ := s18
            unfold s_X9_replace_51_18 at hf
            replace hf := un2_e hf
            show ww X D A 5 Q 0 0 51 [(0, .ref oL), (1, .int p0), (2, .int p1), (3, .int v3_7), (4, .int v4_19)] [] [gX9 cy oL aL L_8, gX4 cy (aL 2) aP P_20, gX2 cy (aL 4) aH H_9, gX8 cy (aL 9) aW W_10, gX1 cy oC aC C, gX4 cy oK aK K_11, gX3 cy (aL (900 + 0)) aY0 Y0_12, gX3 cy (aL (900 + 1)) aY1 Y1_13, gX3 cy (aL (900 + 2)) aY2 Y2_14, gX3 cy (aL (900 + 3)) aY3 Y3_15]
            refine ww_iload h dX9_replace_51 4 rfl 53 rfl ?_
            refine ww_aload_n h dX9_replace_53 rfl 0 rfl 54 rfl ?_
            refine ww_get h inG9 rfl 0 rfl rfl 2 (by decide) w_415 rfl dX9_replace_54 57 rfl ?_
            refine ww_get h inG4 rfl 1 rfl rfl 4 (by decide) w_209 rfl dX9_replace_57 60 rfl ?_
            refine ww_icmp_ge h dX9_replace_60 94 (by decide) 63 rfl (fun c => ?_) (fun c => ?_)
            · replace hf := ite_t c hf
              refine ww_lo [3] (lo' := [(3, .int v3_7)]) rfl ?_
              exact hE18 P_20 (Option.some.inj hf).symm
            · replace hf := ite_f c hf
              refine ww_aload_n h dX9_replace_63 rfl 0 rfl 64 rfl ?_
              refine ww_get h inG9 rfl 0 rfl rfl 2 (by decide) w_415 rfl dX9_replace_64 67 rfl ?_
              refine ww_get h inG4 rfl 1 rfl rfl 0 (by decide) w_197 rfl dX9_replace_67 70 rfl ?_
              refine ww_iload h dX9_replace_70 4 rfl 72 rfl ?_
              have hi := (gd_some hf).1
              replace hf := (gd_some hf).2
              refine ww_iald h 1 rfl 1 rfl (ix_in hi) dX9_replace_72 73 rfl ?_
              clear hi
              refine ww_iload_n h dX9_replace_73 rfl 1 rfl 74 rfl ?_
              have hJ88_22 : ∀ (P_21 : OV), j_X9_replace_88_22 v4_19 P_21 = some o18 → ww X D A 5 Q 0 0 88 [(0, .ref oL), (1, .int p0), (2, .int p1), (3, .int v3_7), (4, .int v4_19)] [] [gX9 cy oL aL L_8, gX4 cy (aL 2) aP P_21, gX2 cy (aL 4) aH H_9, gX8 cy (aL 9) aW W_10, gX1 cy oC aC C, gX4 cy oK aK K_11, gX3 cy (aL (900 + 0)) aY0 Y0_12, gX3 cy (aL (900 + 1)) aY1 Y1_13, gX3 cy (aL (900 + 2)) aY2 Y2_14, gX3 cy (aL (900 + 3)) aY3 Y3_15] := by
                intro P_21 hf
                unfold j_X9_replace_88_22 at hf
                refine ww_inc (c := 1) h dX9_replace_88 4 rfl (by decide) (by decide) (fun v4_23 => [(4, .int v4_23), (0, .ref oL), (1, .int p0), (2, .int p1), (3, .int v3_7)]) (fun _ => rfl) 91 rfl (fun v4_23 e => ?_)
                replace hf := bnd_at e hf
                clear e
                refine ww_goto h dX9_replace_91 51 (by decide) ?_
                refine ww_lo [1, 2, 3, 4, 0] (lo' := [(0, .ref oL), (1, .int p0), (2, .int p1), (3, .int v3_7), (4, .int v4_23)]) rfl ?_
                exact hI18 (v4_23, P_21) (Option.some.inj hf).symm
              refine ww_icmp_ne h dX9_replace_74 88 (by decide) 77 rfl (fun c => ?_) (fun c => ?_)
              · replace hf := ite_f c hf
                exact hJ88_22 P_20 hf
              · replace hf := ite_t c hf
                refine ww_aload_n h dX9_replace_77 rfl 0 rfl 78 rfl ?_
                refine ww_get h inG9 rfl 0 rfl rfl 2 (by decide) w_415 rfl dX9_replace_78 81 rfl ?_
                refine ww_get h inG4 rfl 1 rfl rfl 0 (by decide) w_197 rfl dX9_replace_81 84 rfl ?_
                refine ww_iload h dX9_replace_84 4 rfl 86 rfl ?_
                refine ww_iload_n h dX9_replace_86 rfl 2 rfl 87 rfl ?_
                have hi := (gd_some hf).1
                replace hf := (gd_some hf).2
                refine ww_iast h 1 rfl 1 rfl (ix_in hi) dX9_replace_87 88 rfl ?_
                clear hi
                refine ww_nm (fun z => [gX9 cy oL aL L_8, gX4 cy (aL 2) aP z, gX2 cy (aL 4) aH H_9, gX8 cy (aL 9) aW W_10, gX1 cy oC aC C, gX4 cy oK aK K_11, gX3 cy (aL (900 + 0)) aY0 Y0_12, gX3 cy (aL (900 + 1)) aY1 Y1_13, gX3 cy (aL (900 + 2)) aY2 Y2_14, gX3 cy (aL (900 + 3)) aY3 Y3_15]) (sA P_20 0 v4_19.toNatClampNeg p1) (fun P_24 e => ?_)
                replace hf := bnd_at e hf
                clear e
                exact hJ88_22 P_24 hf
          · clear h18
            show ww X D A 5 Q 0 0 94 [(3, .int v3_7)] [] [gX9 cy oL aL L_8, gX4 cy (aL 2) aP P_25, gX2 cy (aL 4) aH H_9, gX8 cy (aL 9) aW W_10, gX1 cy oC aC C, gX4 cy oK aK K_11, gX3 cy (aL (900 + 0)) aY0 Y0_12, gX3 cy (aL (900 + 1)) aY1 Y1_13, gX3 cy (aL (900 + 2)) aY2 Y2_14, gX3 cy (aL (900 + 3)) aY3 Y3_15]
            refine ww_iload_n h dX9_replace_94 rfl 0 rfl 95 rfl ?_
            obtain rfl := Option.some.inj hf
            exact ww_iret h dX9_replace_95 hQ ⟨rfl, rfl⟩
        · replace hf := ite_t c hf
          refine ww_iconst (v := (-1)) h dX9_replace_42 (by decide) 43 rfl ?_
          refine ww_perm [2, 0, 1, 1, 0, 0, 0, 0, 0, 0] (Gs' := [gX9 cy oL aL L, gX4 cy (aL 2) aP P, gX2 cy (aL 4) aH H, gX8 cy (aL 9) aW W, gX1 cy oC aC C, gX4 cy oK aK K, gX3 cy (aL (900 + 0)) aY0 Y0, gX3 cy (aL (900 + 1)) aY1 Y1, gX3 cy (aL (900 + 2)) aY2 Y2, gX3 cy (aL (900 + 3)) aY3 Y3]) rfl ?_
          obtain rfl := Option.some.inj hf
          exact ww_iret h dX9_replace_43 hQ ⟨rfl, rfl⟩
      · replace hf := ite_t c hf
        refine ww_iconst (v := (-1)) h dX9_replace_27 (by decide) 28 rfl ?_
        refine ww_perm [1, 1, 1, 1, 0, 0, 0, 0, 0, 0] (Gs' := [gX9 cy oL aL L, gX4 cy (aL 2) aP P, gX2 cy (aL 4) aH H, gX8 cy (aL 9) aW W, gX1 cy oC aC C, gX4 cy oK aK K, gX3 cy (aL (900 + 0)) aY0 Y0, gX3 cy (aL (900 + 1)) aY1 Y1, gX3 cy (aL (900 + 2)) aY2 Y2, gX3 cy (aL (900 + 3)) aY3 Y3]) rfl ?_
        obtain rfl := Option.some.inj hf
        exact ww_iret h dX9_replace_28 hQ ⟨rfl, rfl⟩
theorem dX9_mark_0 : decode cX9_mark 0 = .ok (.aload_n 0, 1) := by decide +kernel
theorem dX9_mark_1 : decode cX9_mark 1 = .ok (.getfield 34, 3) := by decide +kernel
theorem dX9_mark_4 : decode cX9_mark 4 = .ok (.iload_n 1, 1) := by decide +kernel
theorem dX9_mark_5 : decode cX9_mark 5 = .ok (.invokevirtual 140, 3) := by decide +kernel
theorem dX9_mark_8 : decode cX9_mark 8 = .ok (.ifCond .eq 23, 3) := by decide +kernel
theorem dX9_mark_11 : decode cX9_mark 11 = .ok (.iload_n 2, 1) := by decide +kernel
theorem dX9_mark_12 : decode cX9_mark 12 = .ok (.invokestatic 156, 3) := by decide +kernel
theorem dX9_mark_15 : decode cX9_mark 15 = .ok (.ifCond .eq 16, 3) := by decide +kernel
theorem dX9_mark_18 : decode cX9_mark 18 = .ok (.aload_n 0, 1) := by decide +kernel
theorem dX9_mark_19 : decode cX9_mark 19 = .ok (.getfield 34, 3) := by decide +kernel
theorem dX9_mark_22 : decode cX9_mark 22 = .ok (.getfield 159, 3) := by decide +kernel
theorem dX9_mark_25 : decode cX9_mark 25 = .ok (.iload_n 1, 1) := by decide +kernel
theorem dX9_mark_26 : decode cX9_mark 26 = .ok (.iaload, 1) := by decide +kernel
theorem dX9_mark_27 : decode cX9_mark 27 = .ok (.iload_n 2, 1) := by decide +kernel
theorem dX9_mark_28 : decode cX9_mark 28 = .ok (.if_icmp .ne 5, 3) := by decide +kernel
theorem dX9_mark_31 : decode cX9_mark 31 = .ok (.iconst (-1), 1) := by decide +kernel
theorem dX9_mark_32 : decode cX9_mark 32 = .ok (.ireturn, 1) := by decide +kernel
theorem dX9_mark_33 : decode cX9_mark 33 = .ok (.aload_n 0, 1) := by decide +kernel
theorem dX9_mark_34 : decode cX9_mark 34 = .ok (.invokevirtual 130, 3) := by decide +kernel
theorem dX9_mark_37 : decode cX9_mark 37 = .ok (.aload_n 0, 1) := by decide +kernel
theorem dX9_mark_38 : decode cX9_mark 38 = .ok (.getfield 34, 3) := by decide +kernel
theorem dX9_mark_41 : decode cX9_mark 41 = .ok (.getfield 159, 3) := by decide +kernel
theorem dX9_mark_44 : decode cX9_mark 44 = .ok (.iload_n 1, 1) := by decide +kernel
theorem dX9_mark_45 : decode cX9_mark 45 = .ok (.iaload, 1) := by decide +kernel
theorem dX9_mark_46 : decode cX9_mark 46 = .ok (.istore_n 3, 1) := by decide +kernel
theorem dX9_mark_47 : decode cX9_mark 47 = .ok (.aload_n 0, 1) := by decide +kernel
theorem dX9_mark_48 : decode cX9_mark 48 = .ok (.getfield 34, 3) := by decide +kernel
theorem dX9_mark_51 : decode cX9_mark 51 = .ok (.getfield 159, 3) := by decide +kernel
theorem dX9_mark_54 : decode cX9_mark 54 = .ok (.iload_n 1, 1) := by decide +kernel
theorem dX9_mark_55 : decode cX9_mark 55 = .ok (.iload_n 2, 1) := by decide +kernel
theorem dX9_mark_56 : decode cX9_mark 56 = .ok (.iastore, 1) := by decide +kernel
theorem dX9_mark_57 : decode cX9_mark 57 = .ok (.iload_n 3, 1) := by decide +kernel
theorem dX9_mark_58 : decode cX9_mark 58 = .ok (.ireturn, 1) := by decide +kernel
theorem ok_X9_mark : okY RX9 yX9_mark 2 := ⟨rfl, by decide, by decide, by decide +kernel⟩
def f_X9_mark (L : OV) (P : OV) (aH : Nat → Nat) (H : OV) (W : OV) (oK : Nat) (K : OV) (Y0 : OV) (Y1 : OV) (Y2 : OV) (Y3 : OV) (p0 : Int32) (p1 : Int32) : Option (Int32 × OV × OV × OV × OV × OV × OV × OV × OV × OV) := (f_X4_has P p0).bind (un1 (fun r_1 => (if r_1 = 0 then some ((-1 : Int32), L, P, H, W, K, Y0, Y1, Y2, Y3) else (f_X9_isMark p1).bind (un1 (fun r_3 => (if r_3 = 0 then some ((-1 : Int32), L, P, H, W, K, Y0, Y1, Y2, Y3) else gd (ix p0 40) ((if (ar P 1 p0.toNatClampNeg) = p1 then some ((-1 : Int32), L, P, H, W, K, Y0, Y1, Y2, Y3) else (f_X9_beginAct L P aH H W oK K Y0 Y1 Y2 Y3).bind (un8 (fun L_5 H_6 W_7 K_8 Y0_9 Y1_10 Y2_11 Y3_12 => gd (ix p0 40) (bnd (ar P 1 p0.toNatClampNeg) (fun v3_14 => gd (ix p0 40) (bnd (sA P 1 p0.toNatClampNeg p1) (fun P_15 => some (v3_14, L_5, P_15, H_6, W_7, K_8, Y0_9, Y1_10, Y2_11, Y3_12)))))))))))))))
def r_X9_mark : Room := { frames := 4, cells := 0, slots := 0, locals := 88 }
set_option maxHeartbeats 4000000 in
set_option maxRecDepth 100000 in
theorem c_X9_mark (l : Launch) (D : va_G) (ev : EvT) (cy : Nat → ClassId) (oL : Nat) (aL : Nat → Nat) (L : OV) (aP : Nat → Nat) (P : OV) (aH : Nat → Nat) (H : OV) (aW : Nat → Nat) (W : OV) (oK : Nat) (aK : Nat → Nat) (K : OV) (aY0 : Nat → Nat) (Y0 : OV) (aY1 : Nat → Nat) (Y1 : OV) (aY2 : Nat → Nat) (Y2 : OV) (aY3 : Nat → Nat) (Y3 : OV) (p0 : Int32) (p1 : Int32) (o : Int32 × OV × OV × OV × OV × OV × OV × OV × OV × OV) (hf : f_X9_mark L P aH H W oK K Y0 Y1 Y2 Y3 p0 p1 = some o) : Fn l yX9_mark cX9_mark 4 (some .int) r_X9_mark D ev cy [.ref oL, .int p0, .int p1] [gX9 cy oL aL L, gX4 cy (aL 2) aP P, gX2 cy (aL 4) aH H, gX8 cy (aL 9) aW W, gX4 cy oK aK K, gX3 cy (aL (900 + 0)) aY0 Y0, gX3 cy (aL (900 + 1)) aY1 Y1, gX3 cy (aL (900 + 2)) aY2 Y2, gX3 cy (aL (900 + 3)) aY3 Y3] (fun v G => v = some (.int o.1) ∧ G = [gX9 cy oL aL o.2.1, gX4 cy (aL 2) aP o.2.2.1, gX2 cy (aL 4) aH o.2.2.2.1, gX8 cy (aL 9) aW o.2.2.2.2.1, gX4 cy oK aK o.2.2.2.2.2.1, gX3 cy (aL (900 + 0)) aY0 o.2.2.2.2.2.2.1, gX3 cy (aL (900 + 1)) aY1 o.2.2.2.2.2.2.2.1, gX3 cy (aL (900 + 2)) aY2 o.2.2.2.2.2.2.2.2.1, gX3 cy (aL (900 + 3)) aY3 o.2.2.2.2.2.2.2.2.2]) := by
  refine Fn_of (by decide) (Nat.le_of_ble_eq_true rfl) (fun X A Q h hQ _ => ?_)
  unfold f_X9_mark at hf
  show ww X D A 4 Q 0 0 0 [(0, .ref oL), (1, .int p0), (2, .int p1)] [] [gX9 cy oL aL L, gX4 cy (aL 2) aP P, gX2 cy (aL 4) aH H, gX8 cy (aL 9) aW W, gX4 cy oK aK K, gX3 cy (aL (900 + 0)) aY0 Y0, gX3 cy (aL (900 + 1)) aY1 Y1, gX3 cy (aL (900 + 2)) aY2 Y2, gX3 cy (aL (900 + 3)) aY3 Y3]
  refine ww_aload_n h dX9_mark_0 rfl 0 rfl 1 rfl ?_
  refine ww_get h inG9 rfl 0 rfl rfl 2 (by decide) w_415 rfl dX9_mark_1 4 rfl ?_
  refine ww_iload_n h dX9_mark_4 rfl 1 rfl 5 rfl ?_
  obtain ⟨r_1, hu2, hf⟩ := ob1 hf
  refine ww_cVi h (c_X4_has l D ev cy (aL 2) aP P p0 _ hu2) ⟨w_694, w_704, w_692, w_693, w_105, ok_X4_has⟩ ⟨by decide, by decide⟩ ⟨by decide, by decide⟩ ⟨rfl, rfl⟩ [1] rfl 0 rfl rfl rfl rfl (Nat.le_of_ble_eq_true rfl) dX9_mark_5 8 rfl (Gs' := [gX4 cy (aL 2) aP P, gX9 cy oL aL L, gX2 cy (aL 4) aH H, gX8 cy (aL 9) aW W, gX4 cy oK aK K, gX3 cy (aL (900 + 0)) aY0 Y0, gX3 cy (aL (900 + 1)) aY1 Y1, gX3 cy (aL (900 + 2)) aY2 Y2, gX3 cy (aL (900 + 3)) aY3 Y3]) rfl ?_
  clear hu2
  refine ww_if_eq h dX9_mark_8 31 (by decide) 11 rfl (fun c => ?_) (fun c => ?_)
  · replace hf := ite_t c hf
    refine ww_iconst (v := (-1)) h dX9_mark_31 (by decide) 32 rfl ?_
    refine ww_perm [1, 0, 0, 0, 0, 0, 0, 0, 0] (Gs' := [gX9 cy oL aL L, gX4 cy (aL 2) aP P, gX2 cy (aL 4) aH H, gX8 cy (aL 9) aW W, gX4 cy oK aK K, gX3 cy (aL (900 + 0)) aY0 Y0, gX3 cy (aL (900 + 1)) aY1 Y1, gX3 cy (aL (900 + 2)) aY2 Y2, gX3 cy (aL (900 + 3)) aY3 Y3]) rfl ?_
    obtain rfl := Option.some.inj hf
    exact ww_iret h dX9_mark_32 hQ ⟨rfl, rfl⟩
  · replace hf := ite_f c hf
    refine ww_iload_n h dX9_mark_11 rfl 2 rfl 12 rfl ?_
    obtain ⟨r_3, hu4, hf⟩ := ob1 hf
    refine ww_cSi h (c_X9_isMark l D ev cy p1 _ hu4) ⟨w_728, w_726, w_727, w_101, ok_X9_isMark⟩ ⟨by decide, by decide⟩ ⟨by decide, by decide⟩ ⟨rfl, rfl⟩ [] rfl rfl (Nat.le_of_ble_eq_true rfl) dX9_mark_12 15 rfl (Gs' := [gX4 cy (aL 2) aP P, gX9 cy oL aL L, gX2 cy (aL 4) aH H, gX8 cy (aL 9) aW W, gX4 cy oK aK K, gX3 cy (aL (900 + 0)) aY0 Y0, gX3 cy (aL (900 + 1)) aY1 Y1, gX3 cy (aL (900 + 2)) aY2 Y2, gX3 cy (aL (900 + 3)) aY3 Y3]) rfl ?_
    clear hu4
    refine ww_if_eq h dX9_mark_15 31 (by decide) 18 rfl (fun c => ?_) (fun c => ?_)
    · replace hf := ite_t c hf
      refine ww_iconst (v := (-1)) h dX9_mark_31 (by decide) 32 rfl ?_
      refine ww_perm [1, 0, 0, 0, 0, 0, 0, 0, 0] (Gs' := [gX9 cy oL aL L, gX4 cy (aL 2) aP P, gX2 cy (aL 4) aH H, gX8 cy (aL 9) aW W, gX4 cy oK aK K, gX3 cy (aL (900 + 0)) aY0 Y0, gX3 cy (aL (900 + 1)) aY1 Y1, gX3 cy (aL (900 + 2)) aY2 Y2, gX3 cy (aL (900 + 3)) aY3 Y3]) rfl ?_
      obtain rfl := Option.some.inj hf
      exact ww_iret h dX9_mark_32 hQ ⟨rfl, rfl⟩
    · replace hf := ite_f c hf
      refine ww_aload_n h dX9_mark_18 rfl 0 rfl 19 rfl ?_
      refine ww_get h inG9 rfl 1 rfl rfl 2 (by decide) w_415 rfl dX9_mark_19 22 rfl ?_
      refine ww_get h inG4 rfl 0 rfl rfl 1 (by decide) w_201 rfl dX9_mark_22 25 rfl ?_
      refine ww_iload_n h dX9_mark_25 rfl 1 rfl 26 rfl ?_
      have hi := (gd_some hf).1
      replace hf := (gd_some hf).2
      refine ww_iald h 0 rfl 2 rfl (ix_in hi) dX9_mark_26 27 rfl ?_
      clear hi
      refine ww_iload_n h dX9_mark_27 rfl 2 rfl 28 rfl ?_
      refine ww_icmp_ne h dX9_mark_28 33 (by decide) 31 rfl (fun c => ?_) (fun c => ?_)
      · replace hf := ite_f c hf
        refine ww_aload_n h dX9_mark_33 rfl 0 rfl 34 rfl ?_
        obtain ⟨L_5, H_6, W_7, K_8, Y0_9, Y1_10, Y2_11, Y3_12, hu13, hf⟩ := ob8 hf
        refine ww_cVv h (c_X9_beginAct l D ev cy oL aL L aP P aH H aW W oK aK K aY0 Y0 aY1 Y1 aY2 Y2 aY3 Y3 _ hu13) ⟨w_673, w_670, w_672, w_16, w_101, ok_X9_beginAct⟩ ⟨by decide, by decide⟩ ⟨by decide, by decide⟩ ⟨rfl, rfl⟩ [1, 0, 0, 0, 0, 0, 0, 0, 0] rfl 0 rfl rfl rfl rfl (Nat.le_of_ble_eq_true rfl) dX9_mark_34 37 rfl (Gs' := [gX9 cy oL aL L_5, gX4 cy (aL 2) aP P, gX2 cy (aL 4) aH H_6, gX8 cy (aL 9) aW W_7, gX4 cy oK aK K_8, gX3 cy (aL (900 + 0)) aY0 Y0_9, gX3 cy (aL (900 + 1)) aY1 Y1_10, gX3 cy (aL (900 + 2)) aY2 Y2_11, gX3 cy (aL (900 + 3)) aY3 Y3_12]) rfl ?_
        clear hu13
        refine ww_aload_n h dX9_mark_37 rfl 0 rfl 38 rfl ?_
        refine ww_get h inG9 rfl 0 rfl rfl 2 (by decide) w_415 rfl dX9_mark_38 41 rfl ?_
        refine ww_get h inG4 rfl 1 rfl rfl 1 (by decide) w_201 rfl dX9_mark_41 44 rfl ?_
        refine ww_iload_n h dX9_mark_44 rfl 1 rfl 45 rfl ?_
        have hi := (gd_some hf).1
        replace hf := (gd_some hf).2
        refine ww_iald h 1 rfl 2 rfl (ix_in hi) dX9_mark_45 46 rfl ?_
        clear hi
        refine ww_ist_n h dX9_mark_46 rfl (by decide) (fun v3_14 => [(3, .int v3_14), (0, .ref oL), (1, .int p0), (2, .int p1)]) (fun _ => rfl) 47 rfl (fun v3_14 e => ?_)
        replace hf := bnd_at e hf
        clear e
        refine ww_aload_n h dX9_mark_47 rfl 1 rfl 48 rfl ?_
        refine ww_get h inG9 rfl 0 rfl rfl 2 (by decide) w_415 rfl dX9_mark_48 51 rfl ?_
        refine ww_get h inG4 rfl 1 rfl rfl 1 (by decide) w_201 rfl dX9_mark_51 54 rfl ?_
        refine ww_iload_n h dX9_mark_54 rfl 2 rfl 55 rfl ?_
        refine ww_iload_n h dX9_mark_55 rfl 3 rfl 56 rfl ?_
        have hi := (gd_some hf).1
        replace hf := (gd_some hf).2
        refine ww_iast h 1 rfl 2 rfl (ix_in hi) dX9_mark_56 57 rfl ?_
        clear hi
        refine ww_nm (fun z => [gX9 cy oL aL L_5, gX4 cy (aL 2) aP z, gX2 cy (aL 4) aH H_6, gX8 cy (aL 9) aW W_7, gX4 cy oK aK K_8, gX3 cy (aL (900 + 0)) aY0 Y0_9, gX3 cy (aL (900 + 1)) aY1 Y1_10, gX3 cy (aL (900 + 2)) aY2 Y2_11, gX3 cy (aL (900 + 3)) aY3 Y3_12]) (sA P 1 p0.toNatClampNeg p1) (fun P_15 e => ?_)
        replace hf := bnd_at e hf
        clear e
        refine ww_iload_n h dX9_mark_57 rfl 0 rfl 58 rfl ?_
        obtain rfl := Option.some.inj hf
        exact ww_iret h dX9_mark_58 hQ ⟨rfl, rfl⟩
      · replace hf := ite_t c hf
        refine ww_iconst (v := (-1)) h dX9_mark_31 (by decide) 32 rfl ?_
        refine ww_perm [1, 0, 0, 0, 0, 0, 0, 0, 0] (Gs' := [gX9 cy oL aL L, gX4 cy (aL 2) aP P, gX2 cy (aL 4) aH H, gX8 cy (aL 9) aW W, gX4 cy oK aK K, gX3 cy (aL (900 + 0)) aY0 Y0, gX3 cy (aL (900 + 1)) aY1 Y1, gX3 cy (aL (900 + 2)) aY2 Y2, gX3 cy (aL (900 + 3)) aY3 Y3]) rfl ?_
        obtain rfl := Option.some.inj hf
        exact ww_iret h dX9_mark_32 hQ ⟨rfl, rfl⟩
theorem dX9_width_0 : decode cX9_width 0 = .ok (.iload_n 1, 1) := by decide +kernel
theorem dX9_width_1 : decode cX9_width 1 = .ok (.invokestatic 162, 3) := by decide +kernel
theorem dX9_width_4 : decode cX9_width 4 = .ok (.ifCond .eq 14, 3) := by decide +kernel
theorem dX9_width_7 : decode cX9_width 7 = .ok (.aload_n 0, 1) := by decide +kernel
theorem dX9_width_8 : decode cX9_width 8 = .ok (.getfield 34, 3) := by decide +kernel
theorem dX9_width_11 : decode cX9_width 11 = .ok (.getfield 165, 3) := by decide +kernel
theorem dX9_width_14 : decode cX9_width 14 = .ok (.iload_n 1, 1) := by decide +kernel
theorem dX9_width_15 : decode cX9_width 15 = .ok (.if_icmp .ne 5, 3) := by decide +kernel
theorem dX9_width_18 : decode cX9_width 18 = .ok (.iconst (-1), 1) := by decide +kernel
theorem dX9_width_19 : decode cX9_width 19 = .ok (.ireturn, 1) := by decide +kernel
theorem dX9_width_20 : decode cX9_width 20 = .ok (.aload_n 0, 1) := by decide +kernel
theorem dX9_width_21 : decode cX9_width 21 = .ok (.invokevirtual 130, 3) := by decide +kernel
theorem dX9_width_24 : decode cX9_width 24 = .ok (.aload_n 0, 1) := by decide +kernel
theorem dX9_width_25 : decode cX9_width 25 = .ok (.getfield 34, 3) := by decide +kernel
theorem dX9_width_28 : decode cX9_width 28 = .ok (.getfield 165, 3) := by decide +kernel
theorem dX9_width_31 : decode cX9_width 31 = .ok (.istore_n 2, 1) := by decide +kernel
theorem dX9_width_32 : decode cX9_width 32 = .ok (.aload_n 0, 1) := by decide +kernel
theorem dX9_width_33 : decode cX9_width 33 = .ok (.getfield 34, 3) := by decide +kernel
theorem dX9_width_36 : decode cX9_width 36 = .ok (.iload_n 1, 1) := by decide +kernel
theorem dX9_width_37 : decode cX9_width 37 = .ok (.putfield 165, 3) := by decide +kernel
theorem dX9_width_40 : decode cX9_width 40 = .ok (.iload_n 2, 1) := by decide +kernel
theorem dX9_width_41 : decode cX9_width 41 = .ok (.ireturn, 1) := by decide +kernel
theorem ok_X9_width : okY RX9 yX9_width 1 := ⟨rfl, by decide, by decide, by decide +kernel⟩
def f_X9_width (L : OV) (P : OV) (aH : Nat → Nat) (H : OV) (W : OV) (oK : Nat) (K : OV) (Y0 : OV) (Y1 : OV) (Y2 : OV) (Y3 : OV) (p0 : Int32) : Option (Int32 × OV × OV × OV × OV × OV × OV × OV × OV × OV) := (f_X9_isWidth p0).bind (un1 (fun r_1 => (if r_1 = 0 then some ((-1 : Int32), L, P, H, W, K, Y0, Y1, Y2, Y3) else (if (iv P 5) = p0 then some ((-1 : Int32), L, P, H, W, K, Y0, Y1, Y2, Y3) else (f_X9_beginAct L P aH H W oK K Y0 Y1 Y2 Y3).bind (un8 (fun L_3 H_4 W_5 K_6 Y0_7 Y1_8 Y2_9 Y3_10 => bnd (iv P 5) (fun v2_12 => bnd (sI P 5 p0) (fun P_13 => some (v2_12, L_3, P_13, H_4, W_5, K_6, Y0_7, Y1_8, Y2_9, Y3_10)))))))))
def r_X9_width : Room := { frames := 4, cells := 0, slots := 0, locals := 88 }
set_option maxHeartbeats 4000000 in
set_option maxRecDepth 100000 in
theorem c_X9_width (l : Launch) (D : va_G) (ev : EvT) (cy : Nat → ClassId) (oL : Nat) (aL : Nat → Nat) (L : OV) (aP : Nat → Nat) (P : OV) (aH : Nat → Nat) (H : OV) (aW : Nat → Nat) (W : OV) (oK : Nat) (aK : Nat → Nat) (K : OV) (aY0 : Nat → Nat) (Y0 : OV) (aY1 : Nat → Nat) (Y1 : OV) (aY2 : Nat → Nat) (Y2 : OV) (aY3 : Nat → Nat) (Y3 : OV) (p0 : Int32) (o : Int32 × OV × OV × OV × OV × OV × OV × OV × OV × OV) (hf : f_X9_width L P aH H W oK K Y0 Y1 Y2 Y3 p0 = some o) : Fn l yX9_width cX9_width 3 (some .int) r_X9_width D ev cy [.ref oL, .int p0] [gX9 cy oL aL L, gX4 cy (aL 2) aP P, gX2 cy (aL 4) aH H, gX8 cy (aL 9) aW W, gX4 cy oK aK K, gX3 cy (aL (900 + 0)) aY0 Y0, gX3 cy (aL (900 + 1)) aY1 Y1, gX3 cy (aL (900 + 2)) aY2 Y2, gX3 cy (aL (900 + 3)) aY3 Y3] (fun v G => v = some (.int o.1) ∧ G = [gX9 cy oL aL o.2.1, gX4 cy (aL 2) aP o.2.2.1, gX2 cy (aL 4) aH o.2.2.2.1, gX8 cy (aL 9) aW o.2.2.2.2.1, gX4 cy oK aK o.2.2.2.2.2.1, gX3 cy (aL (900 + 0)) aY0 o.2.2.2.2.2.2.1, gX3 cy (aL (900 + 1)) aY1 o.2.2.2.2.2.2.2.1, gX3 cy (aL (900 + 2)) aY2 o.2.2.2.2.2.2.2.2.1, gX3 cy (aL (900 + 3)) aY3 o.2.2.2.2.2.2.2.2.2]) := by
  refine Fn_of (by decide) (Nat.le_of_ble_eq_true rfl) (fun X A Q h hQ _ => ?_)
  unfold f_X9_width at hf
  show ww X D A 3 Q 0 0 0 [(0, .ref oL), (1, .int p0)] [] [gX9 cy oL aL L, gX4 cy (aL 2) aP P, gX2 cy (aL 4) aH H, gX8 cy (aL 9) aW W, gX4 cy oK aK K, gX3 cy (aL (900 + 0)) aY0 Y0, gX3 cy (aL (900 + 1)) aY1 Y1, gX3 cy (aL (900 + 2)) aY2 Y2, gX3 cy (aL (900 + 3)) aY3 Y3]
  refine ww_iload_n h dX9_width_0 rfl 1 rfl 1 rfl ?_
  obtain ⟨r_1, hu2, hf⟩ := ob1 hf
  refine ww_cSi h (c_X9_isWidth l D ev cy p0 _ hu2) ⟨w_735, w_733, w_734, w_101, ok_X9_isWidth⟩ ⟨by decide, by decide⟩ ⟨by decide, by decide⟩ ⟨rfl, rfl⟩ [] rfl rfl (Nat.le_of_ble_eq_true rfl) dX9_width_1 4 rfl (Gs' := [gX9 cy oL aL L, gX4 cy (aL 2) aP P, gX2 cy (aL 4) aH H, gX8 cy (aL 9) aW W, gX4 cy oK aK K, gX3 cy (aL (900 + 0)) aY0 Y0, gX3 cy (aL (900 + 1)) aY1 Y1, gX3 cy (aL (900 + 2)) aY2 Y2, gX3 cy (aL (900 + 3)) aY3 Y3]) rfl ?_
  clear hu2
  refine ww_if_eq h dX9_width_4 18 (by decide) 7 rfl (fun c => ?_) (fun c => ?_)
  · replace hf := ite_t c hf
    refine ww_iconst (v := (-1)) h dX9_width_18 (by decide) 19 rfl ?_
    obtain rfl := Option.some.inj hf
    exact ww_iret h dX9_width_19 hQ ⟨rfl, rfl⟩
  · replace hf := ite_f c hf
    refine ww_aload_n h dX9_width_7 rfl 0 rfl 8 rfl ?_
    refine ww_get h inG9 rfl 0 rfl rfl 2 (by decide) w_415 rfl dX9_width_8 11 rfl ?_
    refine ww_get h inG4 rfl 1 rfl rfl 5 (by decide) w_212 rfl dX9_width_11 14 rfl ?_
    refine ww_iload_n h dX9_width_14 rfl 1 rfl 15 rfl ?_
    refine ww_icmp_ne h dX9_width_15 20 (by decide) 18 rfl (fun c => ?_) (fun c => ?_)
    · replace hf := ite_f c hf
      refine ww_aload_n h dX9_width_20 rfl 0 rfl 21 rfl ?_
      obtain ⟨L_3, H_4, W_5, K_6, Y0_7, Y1_8, Y2_9, Y3_10, hu11, hf⟩ := ob8 hf
      refine ww_cVv h (c_X9_beginAct l D ev cy oL aL L aP P aH H aW W oK aK K aY0 Y0 aY1 Y1 aY2 Y2 aY3 Y3 _ hu11) ⟨w_673, w_670, w_672, w_16, w_101, ok_X9_beginAct⟩ ⟨by decide, by decide⟩ ⟨by decide, by decide⟩ ⟨rfl, rfl⟩ [0, 0, 0, 0, 0, 0, 0, 0, 0] rfl 0 rfl rfl rfl rfl (Nat.le_of_ble_eq_true rfl) dX9_width_21 24 rfl (Gs' := [gX9 cy oL aL L_3, gX4 cy (aL 2) aP P, gX2 cy (aL 4) aH H_4, gX8 cy (aL 9) aW W_5, gX4 cy oK aK K_6, gX3 cy (aL (900 + 0)) aY0 Y0_7, gX3 cy (aL (900 + 1)) aY1 Y1_8, gX3 cy (aL (900 + 2)) aY2 Y2_9, gX3 cy (aL (900 + 3)) aY3 Y3_10]) rfl ?_
      clear hu11
      refine ww_aload_n h dX9_width_24 rfl 0 rfl 25 rfl ?_
      refine ww_get h inG9 rfl 0 rfl rfl 2 (by decide) w_415 rfl dX9_width_25 28 rfl ?_
      refine ww_get h inG4 rfl 1 rfl rfl 5 (by decide) w_212 rfl dX9_width_28 31 rfl ?_
      refine ww_ist_n h dX9_width_31 rfl (by decide) (fun v2_12 => [(2, .int v2_12), (0, .ref oL), (1, .int p0)]) (fun _ => rfl) 32 rfl (fun v2_12 e => ?_)
      replace hf := bnd_at e hf
      clear e
      refine ww_aload_n h dX9_width_32 rfl 1 rfl 33 rfl ?_
      refine ww_get h inG9 rfl 0 rfl rfl 2 (by decide) w_415 rfl dX9_width_33 36 rfl ?_
      refine ww_iload_n h dX9_width_36 rfl 2 rfl 37 rfl ?_
      refine ww_put (ty := .int) h inG4 tyX4_ok nmX4 rfl 1 rfl rfl 5 (by decide) w_212 rfl (by decide +kernel) rfl rfl (Nat.le_of_ble_eq_true rfl) (Nat.le_of_ble_eq_true rfl) dX9_width_37 40 rfl ?_
      refine ww_nm (fun z => [gX9 cy oL aL L_3, gX4 cy (aL 2) aP z, gX2 cy (aL 4) aH H_4, gX8 cy (aL 9) aW W_5, gX4 cy oK aK K_6, gX3 cy (aL (900 + 0)) aY0 Y0_7, gX3 cy (aL (900 + 1)) aY1 Y1_8, gX3 cy (aL (900 + 2)) aY2 Y2_9, gX3 cy (aL (900 + 3)) aY3 Y3_10]) (sI P 5 p0) (fun P_13 e => ?_)
      replace hf := bnd_at e hf
      clear e
      refine ww_iload_n h dX9_width_40 rfl 0 rfl 41 rfl ?_
      obtain rfl := Option.some.inj hf
      exact ww_iret h dX9_width_41 hQ ⟨rfl, rfl⟩
    · replace hf := ite_t c hf
      refine ww_iconst (v := (-1)) h dX9_width_18 (by decide) 19 rfl ?_
      obtain rfl := Option.some.inj hf
      exact ww_iret h dX9_width_19 hQ ⟨rfl, rfl⟩
theorem dX9_pair_0 : decode cX9_pair 0 = .ok (.aload_n 0, 1) := by decide +kernel
theorem dX9_pair_1 : decode cX9_pair 1 = .ok (.getfield 24, 3) := by decide +kernel
theorem dX9_pair_4 : decode cX9_pair 4 = .ok (.iload_n 1, 1) := by decide +kernel
theorem dX9_pair_5 : decode cX9_pair 5 = .ok (.invokevirtual 126, 3) := by decide +kernel
theorem dX9_pair_8 : decode cX9_pair 8 = .ok (.ifCond .eq 14, 3) := by decide +kernel
theorem dX9_pair_11 : decode cX9_pair 11 = .ok (.aload_n 0, 1) := by decide +kernel
theorem dX9_pair_12 : decode cX9_pair 12 = .ok (.getfield 24, 3) := by decide +kernel
theorem dX9_pair_15 : decode cX9_pair 15 = .ok (.iload_n 2, 1) := by decide +kernel
theorem dX9_pair_16 : decode cX9_pair 16 = .ok (.invokevirtual 126, 3) := by decide +kernel
theorem dX9_pair_19 : decode cX9_pair 19 = .ok (.ifCond .ne 5, 3) := by decide +kernel
theorem dX9_pair_22 : decode cX9_pair 22 = .ok (.iconst (-1), 1) := by decide +kernel
theorem dX9_pair_23 : decode cX9_pair 23 = .ok (.ireturn, 1) := by decide +kernel
theorem dX9_pair_24 : decode cX9_pair 24 = .ok (.aload_n 0, 1) := by decide +kernel
theorem dX9_pair_25 : decode cX9_pair 25 = .ok (.getfield 34, 3) := by decide +kernel
theorem dX9_pair_28 : decode cX9_pair 28 = .ok (.iload_n 1, 1) := by decide +kernel
theorem dX9_pair_29 : decode cX9_pair 29 = .ok (.iload_n 2, 1) := by decide +kernel
theorem dX9_pair_30 : decode cX9_pair 30 = .ok (.invokevirtual 168, 3) := by decide +kernel
theorem dX9_pair_33 : decode cX9_pair 33 = .ok (.istore_n 3, 1) := by decide +kernel
theorem dX9_pair_34 : decode cX9_pair 34 = .ok (.iload_n 3, 1) := by decide +kernel
theorem dX9_pair_35 : decode cX9_pair 35 = .ok (.ifCond .ne 17, 3) := by decide +kernel
theorem dX9_pair_38 : decode cX9_pair 38 = .ok (.aload_n 0, 1) := by decide +kernel
theorem dX9_pair_39 : decode cX9_pair 39 = .ok (.getfield 34, 3) := by decide +kernel
theorem dX9_pair_42 : decode cX9_pair 42 = .ok (.getfield 171, 3) := by decide +kernel
theorem dX9_pair_45 : decode cX9_pair 45 = .ok (.bipush 12, 2) := by decide +kernel
theorem dX9_pair_47 : decode cX9_pair 47 = .ok (.if_icmp .lt 5, 3) := by decide +kernel
theorem dX9_pair_50 : decode cX9_pair 50 = .ok (.iconst (-1), 1) := by decide +kernel
theorem dX9_pair_51 : decode cX9_pair 51 = .ok (.ireturn, 1) := by decide +kernel
theorem dX9_pair_52 : decode cX9_pair 52 = .ok (.aload_n 0, 1) := by decide +kernel
theorem dX9_pair_53 : decode cX9_pair 53 = .ok (.invokevirtual 130, 3) := by decide +kernel
theorem dX9_pair_56 : decode cX9_pair 56 = .ok (.aload_n 0, 1) := by decide +kernel
theorem dX9_pair_57 : decode cX9_pair 57 = .ok (.getfield 34, 3) := by decide +kernel
theorem dX9_pair_60 : decode cX9_pair 60 = .ok (.getfield 174, 3) := by decide +kernel
theorem dX9_pair_63 : decode cX9_pair 63 = .ok (.iload_n 1, 1) := by decide +kernel
theorem dX9_pair_64 : decode cX9_pair 64 = .ok (.dup2, 1) := by decide +kernel
theorem dX9_pair_65 : decode cX9_pair 65 = .ok (.iaload, 1) := by decide +kernel
theorem dX9_pair_66 : decode cX9_pair 66 = .ok (.iconst 1, 1) := by decide +kernel
theorem dX9_pair_67 : decode cX9_pair 67 = .ok (.iload_n 2, 1) := by decide +kernel
theorem dX9_pair_68 : decode cX9_pair 68 = .ok (.ishl, 1) := by decide +kernel
theorem dX9_pair_69 : decode cX9_pair 69 = .ok (.ixor, 1) := by decide +kernel
theorem dX9_pair_70 : decode cX9_pair 70 = .ok (.iastore, 1) := by decide +kernel
theorem dX9_pair_71 : decode cX9_pair 71 = .ok (.aload_n 0, 1) := by decide +kernel
theorem dX9_pair_72 : decode cX9_pair 72 = .ok (.getfield 34, 3) := by decide +kernel
theorem dX9_pair_75 : decode cX9_pair 75 = .ok (.dup, 1) := by decide +kernel
theorem dX9_pair_76 : decode cX9_pair 76 = .ok (.getfield 171, 3) := by decide +kernel
theorem dX9_pair_79 : decode cX9_pair 79 = .ok (.iload_n 3, 1) := by decide +kernel
theorem dX9_pair_80 : decode cX9_pair 80 = .ok (.ifCond .eq 7, 3) := by decide +kernel
theorem dX9_pair_83 : decode cX9_pair 83 = .ok (.iconst (-1), 1) := by decide +kernel
theorem dX9_pair_84 : decode cX9_pair 84 = .ok (.goto 4, 3) := by decide +kernel
theorem dX9_pair_87 : decode cX9_pair 87 = .ok (.iconst 1, 1) := by decide +kernel
theorem dX9_pair_88 : decode cX9_pair 88 = .ok (.iadd, 1) := by decide +kernel
theorem dX9_pair_89 : decode cX9_pair 89 = .ok (.putfield 171, 3) := by decide +kernel
theorem dX9_pair_92 : decode cX9_pair 92 = .ok (.iload_n 3, 1) := by decide +kernel
theorem dX9_pair_93 : decode cX9_pair 93 = .ok (.ifCond .eq 7, 3) := by decide +kernel
theorem dX9_pair_96 : decode cX9_pair 96 = .ok (.iconst 0, 1) := by decide +kernel
theorem dX9_pair_97 : decode cX9_pair 97 = .ok (.goto 4, 3) := by decide +kernel
theorem dX9_pair_100 : decode cX9_pair 100 = .ok (.iconst 1, 1) := by decide +kernel
theorem dX9_pair_101 : decode cX9_pair 101 = .ok (.ireturn, 1) := by decide +kernel
theorem ok_X9_pair : okY RX9 yX9_pair 2 := ⟨rfl, by decide, by decide, by decide +kernel⟩
def j_X9_pair_88_20 (L_9 : OV) (H_10 : OV) (W_11 : OV) (K_12 : OV) (Y0_13 : OV) (Y1_14 : OV) (Y2_15 : OV) (Y3_16 : OV) (P_18 : OV) (v3_7 : Int32) (t_19 : Int32) : Option (Int32 × OV × OV × OV × OV × OV × OV × OV × OV × OV) := bnd (sI P_18 8 ((iv P_18 8) + t_19)) (fun P_21 => (if v3_7 = 0 then some ((1 : Int32), L_9, P_21, H_10, W_11, K_12, Y0_13, Y1_14, Y2_15, Y3_16) else some ((0 : Int32), L_9, P_21, H_10, W_11, K_12, Y0_13, Y1_14, Y2_15, Y3_16)))
def j_X9_pair_52_8 (oK : Nat) (aH : Nat → Nat) (L : OV) (P : OV) (H : OV) (W : OV) (K : OV) (Y0 : OV) (Y1 : OV) (Y2 : OV) (Y3 : OV) (p0 : Int32) (p1 : Int32) (v3_7 : Int32) : Option (Int32 × OV × OV × OV × OV × OV × OV × OV × OV × OV) := (f_X9_beginAct L P aH H W oK K Y0 Y1 Y2 Y3).bind (un8 (fun L_9 H_10 W_11 K_12 Y0_13 Y1_14 Y2_15 Y3_16 => gd (ix p0 26) (gd (ix p0 26) (bnd (sA P 2 p0.toNatClampNeg ((ar P 2 p0.toNatClampNeg) ^^^ ((1 : Int32) <<< (p1 &&& 31)))) (fun P_18 => (if v3_7 = 0 then j_X9_pair_88_20 L_9 H_10 W_11 K_12 Y0_13 Y1_14 Y2_15 Y3_16 P_18 v3_7 (1 : Int32) else j_X9_pair_88_20 L_9 H_10 W_11 K_12 Y0_13 Y1_14 Y2_15 Y3_16 P_18 v3_7 (-1 : Int32)))))))
def f_X9_pair (L : OV) (P : OV) (aH : Nat → Nat) (H : OV) (W : OV) (oC : Nat) (C : OV) (oK : Nat) (K : OV) (Y0 : OV) (Y1 : OV) (Y2 : OV) (Y3 : OV) (p0 : Int32) (p1 : Int32) : Option (Int32 × OV × OV × OV × OV × OV × OV × OV × OV × OV) := gd (decide (nv L 10 = oC)) ((f_X1_has C p0).bind (un1 (fun r_1 => (if r_1 = 0 then some ((-1 : Int32), L, P, H, W, K, Y0, Y1, Y2, Y3) else gd (decide (nv L 10 = oC)) ((f_X1_has C p1).bind (un1 (fun r_3 => (if r_3 = 0 then some ((-1 : Int32), L, P, H, W, K, Y0, Y1, Y2, Y3) else (f_X4_isKept P p0 p1).bind (un1 (fun r_5 => bnd r_5 (fun v3_7 => (if v3_7 = 0 then (if (iv P 8) < (12 : Int32) then j_X9_pair_52_8 oK aH L P H W K Y0 Y1 Y2 Y3 p0 p1 v3_7 else some ((-1 : Int32), L, P, H, W, K, Y0, Y1, Y2, Y3)) else j_X9_pair_52_8 oK aH L P H W K Y0 Y1 Y2 Y3 p0 p1 v3_7))))))))))))
def r_X9_pair : Room := { frames := 4, cells := 0, slots := 0, locals := 88 }
set_option maxHeartbeats 4000000 in
set_option maxRecDepth 100000 in
theorem c_X9_pair (l : Launch) (D : va_G) (ev : EvT) (cy : Nat → ClassId) (oL : Nat) (aL : Nat → Nat) (L : OV) (aP : Nat → Nat) (P : OV) (aH : Nat → Nat) (H : OV) (aW : Nat → Nat) (W : OV) (oC : Nat) (aC : Nat → Nat) (C : OV) (oK : Nat) (aK : Nat → Nat) (K : OV) (aY0 : Nat → Nat) (Y0 : OV) (aY1 : Nat → Nat) (Y1 : OV) (aY2 : Nat → Nat) (Y2 : OV) (aY3 : Nat → Nat) (Y3 : OV) (p0 : Int32) (p1 : Int32) (o : Int32 × OV × OV × OV × OV × OV × OV × OV × OV × OV) (hf : f_X9_pair L P aH H W oC C oK K Y0 Y1 Y2 Y3 p0 p1 = some o) : Fn l yX9_pair cX9_pair 4 (some .int) r_X9_pair D ev cy [.ref oL, .int p0, .int p1] [gX9 cy oL aL L, gX4 cy (aL 2) aP P, gX2 cy (aL 4) aH H, gX8 cy (aL 9) aW W, gX1 cy oC aC C, gX4 cy oK aK K, gX3 cy (aL (900 + 0)) aY0 Y0, gX3 cy (aL (900 + 1)) aY1 Y1, gX3 cy (aL (900 + 2)) aY2 Y2, gX3 cy (aL (900 + 3)) aY3 Y3] (fun v G => v = some (.int o.1) ∧ G = [gX9 cy oL aL o.2.1, gX4 cy (aL 2) aP o.2.2.1, gX2 cy (aL 4) aH o.2.2.2.1, gX8 cy (aL 9) aW o.2.2.2.2.1, gX1 cy oC aC C, gX4 cy oK aK o.2.2.2.2.2.1, gX3 cy (aL (900 + 0)) aY0 o.2.2.2.2.2.2.1, gX3 cy (aL (900 + 1)) aY1 o.2.2.2.2.2.2.2.1, gX3 cy (aL (900 + 2)) aY2 o.2.2.2.2.2.2.2.2.1, gX3 cy (aL (900 + 3)) aY3 o.2.2.2.2.2.2.2.2.2]) := by
  refine Fn_of (by decide) (Nat.le_of_ble_eq_true rfl) (fun X A Q h hQ _ => ?_)
  unfold f_X9_pair at hf
  show ww X D A 4 Q 0 0 0 [(0, .ref oL), (1, .int p0), (2, .int p1)] [] [gX9 cy oL aL L, gX4 cy (aL 2) aP P, gX2 cy (aL 4) aH H, gX8 cy (aL 9) aW W, gX1 cy oC aC C, gX4 cy oK aK K, gX3 cy (aL (900 + 0)) aY0 Y0, gX3 cy (aL (900 + 1)) aY1 Y1, gX3 cy (aL (900 + 2)) aY2 Y2, gX3 cy (aL (900 + 3)) aY3 Y3]
  refine ww_aload_n h dX9_pair_0 rfl 0 rfl 1 rfl ?_
  refine ww_get h inG9 rfl 0 rfl rfl 10 (by decide) w_423 rfl dX9_pair_1 4 rfl ?_
  have hi := (gd_some hf).1
  replace hf := (gd_some hf).2
  refine ww_ref hi ?_
  clear hi
  refine ww_iload_n h dX9_pair_4 rfl 1 rfl 5 rfl ?_
  obtain ⟨r_1, hu2, hf⟩ := ob1 hf
  refine ww_cVi h (c_X1_has l D ev cy oC aC C p0 _ hu2) ⟨w_591, w_661, w_589, w_590, w_104, ok_X1_has⟩ ⟨by decide, by decide⟩ ⟨by decide, by decide⟩ ⟨rfl, rfl⟩ [4] rfl 0 rfl rfl rfl rfl (Nat.le_of_ble_eq_true rfl) dX9_pair_5 8 rfl (Gs' := [gX1 cy oC aC C, gX9 cy oL aL L, gX4 cy (aL 2) aP P, gX2 cy (aL 4) aH H, gX8 cy (aL 9) aW W, gX4 cy oK aK K, gX3 cy (aL (900 + 0)) aY0 Y0, gX3 cy (aL (900 + 1)) aY1 Y1, gX3 cy (aL (900 + 2)) aY2 Y2, gX3 cy (aL (900 + 3)) aY3 Y3]) rfl ?_
  clear hu2
  refine ww_if_eq h dX9_pair_8 22 (by decide) 11 rfl (fun c => ?_) (fun c => ?_)
  · replace hf := ite_t c hf
    refine ww_iconst (v := (-1)) h dX9_pair_22 (by decide) 23 rfl ?_
    refine ww_perm [1, 1, 1, 1, 0, 0, 0, 0, 0, 0] (Gs' := [gX9 cy oL aL L, gX4 cy (aL 2) aP P, gX2 cy (aL 4) aH H, gX8 cy (aL 9) aW W, gX1 cy oC aC C, gX4 cy oK aK K, gX3 cy (aL (900 + 0)) aY0 Y0, gX3 cy (aL (900 + 1)) aY1 Y1, gX3 cy (aL (900 + 2)) aY2 Y2, gX3 cy (aL (900 + 3)) aY3 Y3]) rfl ?_
    obtain rfl := Option.some.inj hf
    exact ww_iret h dX9_pair_23 hQ ⟨rfl, rfl⟩
  · replace hf := ite_f c hf
    refine ww_aload_n h dX9_pair_11 rfl 0 rfl 12 rfl ?_
    refine ww_get h inG9 rfl 1 rfl rfl 10 (by decide) w_423 rfl dX9_pair_12 15 rfl ?_
    have hi := (gd_some hf).1
    replace hf := (gd_some hf).2
    refine ww_ref hi ?_
    clear hi
    refine ww_iload_n h dX9_pair_15 rfl 2 rfl 16 rfl ?_
    obtain ⟨r_3, hu4, hf⟩ := ob1 hf
    refine ww_cVi h (c_X1_has l D ev cy oC aC C p1 _ hu4) ⟨w_591, w_661, w_589, w_590, w_104, ok_X1_has⟩ ⟨by decide, by decide⟩ ⟨by decide, by decide⟩ ⟨rfl, rfl⟩ [0] rfl 0 rfl rfl rfl rfl (Nat.le_of_ble_eq_true rfl) dX9_pair_16 19 rfl (Gs' := [gX1 cy oC aC C, gX9 cy oL aL L, gX4 cy (aL 2) aP P, gX2 cy (aL 4) aH H, gX8 cy (aL 9) aW W, gX4 cy oK aK K, gX3 cy (aL (900 + 0)) aY0 Y0, gX3 cy (aL (900 + 1)) aY1 Y1, gX3 cy (aL (900 + 2)) aY2 Y2, gX3 cy (aL (900 + 3)) aY3 Y3]) rfl ?_
    clear hu4
    refine ww_if_ne h dX9_pair_19 24 (by decide) 22 rfl (fun c => ?_) (fun c => ?_)
    · replace hf := ite_f c hf
      refine ww_aload_n h dX9_pair_24 rfl 0 rfl 25 rfl ?_
      refine ww_get h inG9 rfl 1 rfl rfl 2 (by decide) w_415 rfl dX9_pair_25 28 rfl ?_
      refine ww_iload_n h dX9_pair_28 rfl 1 rfl 29 rfl ?_
      refine ww_iload_n h dX9_pair_29 rfl 2 rfl 30 rfl ?_
      obtain ⟨r_5, hu6, hf⟩ := ob1 hf
      refine ww_cVi h (c_X4_isKept l D ev cy (aL 2) aP P p0 p1 _ hu6) ⟨w_743, w_740, w_741, w_742, w_105, ok_X4_isKept⟩ ⟨by decide, by decide⟩ ⟨by decide, by decide⟩ ⟨rfl, rfl⟩ [2] rfl 0 rfl rfl rfl rfl (Nat.le_of_ble_eq_true rfl) dX9_pair_30 33 rfl (Gs' := [gX4 cy (aL 2) aP P, gX1 cy oC aC C, gX9 cy oL aL L, gX2 cy (aL 4) aH H, gX8 cy (aL 9) aW W, gX4 cy oK aK K, gX3 cy (aL (900 + 0)) aY0 Y0, gX3 cy (aL (900 + 1)) aY1 Y1, gX3 cy (aL (900 + 2)) aY2 Y2, gX3 cy (aL (900 + 3)) aY3 Y3]) rfl ?_
      clear hu6
      refine ww_ist_n h dX9_pair_33 rfl (by decide) (fun v3_7 => [(3, .int v3_7), (0, .ref oL), (1, .int p0), (2, .int p1)]) (fun _ => rfl) 34 rfl (fun v3_7 e => ?_)
      replace hf := bnd_at e hf
      clear e
      refine ww_iload_n h dX9_pair_34 rfl 0 rfl 35 rfl ?_
      have hJ52_8 : ∀ (_ : Unit), j_X9_pair_52_8 oK aH L P H W K Y0 Y1 Y2 Y3 p0 p1 v3_7 = some o → ww X D A 4 Q 0 0 52 [(0, .ref oL), (1, .int p0), (2, .int p1), (3, .int v3_7)] [] [gX9 cy oL aL L, gX4 cy (aL 2) aP P, gX2 cy (aL 4) aH H, gX8 cy (aL 9) aW W, gX1 cy oC aC C, gX4 cy oK aK K, gX3 cy (aL (900 + 0)) aY0 Y0, gX3 cy (aL (900 + 1)) aY1 Y1, gX3 cy (aL (900 + 2)) aY2 Y2, gX3 cy (aL (900 + 3)) aY3 Y3] := by
        intro _ hf
        unfold j_X9_pair_52_8 at hf
        refine ww_aload_n h dX9_pair_52 rfl 0 rfl 53 rfl ?_
        obtain ⟨L_9, H_10, W_11, K_12, Y0_13, Y1_14, Y2_15, Y3_16, hu17, hf⟩ := ob8 hf
        refine ww_cVv h (c_X9_beginAct l D ev cy oL aL L aP P aH H aW W oK aK K aY0 Y0 aY1 Y1 aY2 Y2 aY3 Y3 _ hu17) ⟨w_673, w_670, w_672, w_16, w_101, ok_X9_beginAct⟩ ⟨by decide, by decide⟩ ⟨by decide, by decide⟩ ⟨rfl, rfl⟩ [0, 0, 0, 0, 1, 1, 1, 1, 1] rfl 0 rfl rfl rfl rfl (Nat.le_of_ble_eq_true rfl) dX9_pair_53 56 rfl (Gs' := [gX9 cy oL aL L_9, gX4 cy (aL 2) aP P, gX2 cy (aL 4) aH H_10, gX8 cy (aL 9) aW W_11, gX4 cy oK aK K_12, gX3 cy (aL (900 + 0)) aY0 Y0_13, gX3 cy (aL (900 + 1)) aY1 Y1_14, gX3 cy (aL (900 + 2)) aY2 Y2_15, gX3 cy (aL (900 + 3)) aY3 Y3_16, gX1 cy oC aC C]) rfl ?_
        clear hu17
        refine ww_aload_n h dX9_pair_56 rfl 0 rfl 57 rfl ?_
        refine ww_get h inG9 rfl 0 rfl rfl 2 (by decide) w_415 rfl dX9_pair_57 60 rfl ?_
        refine ww_get h inG4 rfl 1 rfl rfl 2 (by decide) w_203 rfl dX9_pair_60 63 rfl ?_
        refine ww_iload_n h dX9_pair_63 rfl 1 rfl 64 rfl ?_
        refine ww_dup2 h dX9_pair_64 rfl rfl 65 rfl ?_
        have hi := (gd_some hf).1
        replace hf := (gd_some hf).2
        refine ww_iald h 1 rfl 3 rfl (ix_in hi) dX9_pair_65 66 rfl ?_
        clear hi
        refine ww_iconst (v := 1) h dX9_pair_66 (by decide) 67 rfl ?_
        refine ww_iload_n h dX9_pair_67 rfl 2 rfl 68 rfl ?_
        refine ww_ishl h dX9_pair_68 69 rfl ?_
        refine ww_ixor h dX9_pair_69 70 rfl ?_
        have hi := (gd_some hf).1
        replace hf := (gd_some hf).2
        refine ww_iast h 1 rfl 3 rfl (ix_in hi) dX9_pair_70 71 rfl ?_
        clear hi
        refine ww_nm (fun z => [gX9 cy oL aL L_9, gX4 cy (aL 2) aP z, gX2 cy (aL 4) aH H_10, gX8 cy (aL 9) aW W_11, gX4 cy oK aK K_12, gX3 cy (aL (900 + 0)) aY0 Y0_13, gX3 cy (aL (900 + 1)) aY1 Y1_14, gX3 cy (aL (900 + 2)) aY2 Y2_15, gX3 cy (aL (900 + 3)) aY3 Y3_16, gX1 cy oC aC C]) (sA P 2 p0.toNatClampNeg ((ar P 2 p0.toNatClampNeg) ^^^ ((1 : Int32) <<< (p1 &&& 31)))) (fun P_18 e => ?_)
        replace hf := bnd_at e hf
        clear e
        refine ww_aload_n h dX9_pair_71 rfl 0 rfl 72 rfl ?_
        refine ww_get h inG9 rfl 0 rfl rfl 2 (by decide) w_415 rfl dX9_pair_72 75 rfl ?_
        refine ww_dup h dX9_pair_75 rfl 76 rfl ?_
        refine ww_get h inG4 rfl 1 rfl rfl 8 (by decide) w_218 rfl dX9_pair_76 79 rfl ?_
        refine ww_iload_n h dX9_pair_79 rfl 3 rfl 80 rfl ?_
        have hJ88_20 : ∀ (t_19 : Int32), j_X9_pair_88_20 L_9 H_10 W_11 K_12 Y0_13 Y1_14 Y2_15 Y3_16 P_18 v3_7 t_19 = some o → ww X D A 4 Q 0 0 88 [(3, .int v3_7)] [.int t_19, .int (iv P_18 8), .ref (aL 2)] [gX9 cy oL aL L_9, gX4 cy (aL 2) aP P_18, gX2 cy (aL 4) aH H_10, gX8 cy (aL 9) aW W_11, gX1 cy oC aC C, gX4 cy oK aK K_12, gX3 cy (aL (900 + 0)) aY0 Y0_13, gX3 cy (aL (900 + 1)) aY1 Y1_14, gX3 cy (aL (900 + 2)) aY2 Y2_15, gX3 cy (aL (900 + 3)) aY3 Y3_16] := by
          intro t_19 hf
          unfold j_X9_pair_88_20 at hf
          refine ww_iadd h dX9_pair_88 89 rfl ?_
          refine ww_put (ty := .int) h inG4 tyX4_ok nmX4 rfl 1 rfl rfl 8 (by decide) w_218 rfl (by decide +kernel) rfl rfl (Nat.le_of_ble_eq_true rfl) (Nat.le_of_ble_eq_true rfl) dX9_pair_89 92 rfl ?_
          refine ww_nm (fun z => [gX9 cy oL aL L_9, gX4 cy (aL 2) aP z, gX2 cy (aL 4) aH H_10, gX8 cy (aL 9) aW W_11, gX1 cy oC aC C, gX4 cy oK aK K_12, gX3 cy (aL (900 + 0)) aY0 Y0_13, gX3 cy (aL (900 + 1)) aY1 Y1_14, gX3 cy (aL (900 + 2)) aY2 Y2_15, gX3 cy (aL (900 + 3)) aY3 Y3_16]) (sI P_18 8 ((iv P_18 8) + t_19)) (fun P_21 e => ?_)
          replace hf := bnd_at e hf
          clear e
          refine ww_iload_n h dX9_pair_92 rfl 0 rfl 93 rfl ?_
          refine ww_if_eq h dX9_pair_93 100 (by decide) 96 rfl (fun c => ?_) (fun c => ?_)
          · replace hf := ite_t c hf
            refine ww_iconst (v := 1) h dX9_pair_100 (by decide) 101 rfl ?_
            obtain rfl := Option.some.inj hf
            exact ww_iret h dX9_pair_101 hQ ⟨rfl, rfl⟩
          · replace hf := ite_f c hf
            refine ww_iconst (v := 0) h dX9_pair_96 (by decide) 97 rfl ?_
            refine ww_goto h dX9_pair_97 101 (by decide) ?_
            obtain rfl := Option.some.inj hf
            exact ww_iret h dX9_pair_101 hQ ⟨rfl, rfl⟩
        refine ww_if_eq h dX9_pair_80 87 (by decide) 83 rfl (fun c => ?_) (fun c => ?_)
        · replace hf := ite_t c hf
          refine ww_iconst (v := 1) h dX9_pair_87 (by decide) 88 rfl ?_
          refine ww_lo [3] (lo' := [(3, .int v3_7)]) rfl ?_
          refine ww_perm [0, 0, 0, 0, 5, 0, 0, 0, 0, 0] (Gs' := [gX9 cy oL aL L_9, gX4 cy (aL 2) aP P_18, gX2 cy (aL 4) aH H_10, gX8 cy (aL 9) aW W_11, gX1 cy oC aC C, gX4 cy oK aK K_12, gX3 cy (aL (900 + 0)) aY0 Y0_13, gX3 cy (aL (900 + 1)) aY1 Y1_14, gX3 cy (aL (900 + 2)) aY2 Y2_15, gX3 cy (aL (900 + 3)) aY3 Y3_16]) rfl ?_
          exact hJ88_20 (1 : Int32) hf
        · replace hf := ite_f c hf
          refine ww_iconst (v := (-1)) h dX9_pair_83 (by decide) 84 rfl ?_
          refine ww_goto h dX9_pair_84 88 (by decide) ?_
          refine ww_lo [3] (lo' := [(3, .int v3_7)]) rfl ?_
          refine ww_perm [0, 0, 0, 0, 5, 0, 0, 0, 0, 0] (Gs' := [gX9 cy oL aL L_9, gX4 cy (aL 2) aP P_18, gX2 cy (aL 4) aH H_10, gX8 cy (aL 9) aW W_11, gX1 cy oC aC C, gX4 cy oK aK K_12, gX3 cy (aL (900 + 0)) aY0 Y0_13, gX3 cy (aL (900 + 1)) aY1 Y1_14, gX3 cy (aL (900 + 2)) aY2 Y2_15, gX3 cy (aL (900 + 3)) aY3 Y3_16]) rfl ?_
          exact hJ88_20 (-1 : Int32) hf
      refine ww_if_ne h dX9_pair_35 52 (by decide) 38 rfl (fun c => ?_) (fun c => ?_)
      · replace hf := ite_f c hf
        refine ww_lo [1, 2, 3, 0] (lo' := [(0, .ref oL), (1, .int p0), (2, .int p1), (3, .int v3_7)]) rfl ?_
        refine ww_perm [2, 0, 1, 1, 0, 0, 0, 0, 0, 0] (Gs' := [gX9 cy oL aL L, gX4 cy (aL 2) aP P, gX2 cy (aL 4) aH H, gX8 cy (aL 9) aW W, gX1 cy oC aC C, gX4 cy oK aK K, gX3 cy (aL (900 + 0)) aY0 Y0, gX3 cy (aL (900 + 1)) aY1 Y1, gX3 cy (aL (900 + 2)) aY2 Y2, gX3 cy (aL (900 + 3)) aY3 Y3]) rfl ?_
        exact hJ52_8 () hf
      · replace hf := ite_t c hf
        refine ww_aload_n h dX9_pair_38 rfl 1 rfl 39 rfl ?_
        refine ww_get h inG9 rfl 2 rfl rfl 2 (by decide) w_415 rfl dX9_pair_39 42 rfl ?_
        refine ww_get h inG4 rfl 0 rfl rfl 8 (by decide) w_218 rfl dX9_pair_42 45 rfl ?_
        refine ww_bipush (v := 12) h dX9_pair_45 (by decide) 47 rfl ?_
        refine ww_icmp_lt h dX9_pair_47 52 (by decide) 50 rfl (fun c => ?_) (fun c => ?_)
        · replace hf := ite_t c hf
          refine ww_lo [1, 2, 3, 0] (lo' := [(0, .ref oL), (1, .int p0), (2, .int p1), (3, .int v3_7)]) rfl ?_
          refine ww_perm [2, 0, 1, 1, 0, 0, 0, 0, 0, 0] (Gs' := [gX9 cy oL aL L, gX4 cy (aL 2) aP P, gX2 cy (aL 4) aH H, gX8 cy (aL 9) aW W, gX1 cy oC aC C, gX4 cy oK aK K, gX3 cy (aL (900 + 0)) aY0 Y0, gX3 cy (aL (900 + 1)) aY1 Y1, gX3 cy (aL (900 + 2)) aY2 Y2, gX3 cy (aL (900 + 3)) aY3 Y3]) rfl ?_
          exact hJ52_8 () hf
        · replace hf := ite_f c hf
          refine ww_iconst (v := (-1)) h dX9_pair_50 (by decide) 51 rfl ?_
          refine ww_perm [2, 0, 1, 1, 0, 0, 0, 0, 0, 0] (Gs' := [gX9 cy oL aL L, gX4 cy (aL 2) aP P, gX2 cy (aL 4) aH H, gX8 cy (aL 9) aW W, gX1 cy oC aC C, gX4 cy oK aK K, gX3 cy (aL (900 + 0)) aY0 Y0, gX3 cy (aL (900 + 1)) aY1 Y1, gX3 cy (aL (900 + 2)) aY2 Y2, gX3 cy (aL (900 + 3)) aY3 Y3]) rfl ?_
          obtain rfl := Option.some.inj hf
          exact ww_iret h dX9_pair_51 hQ ⟨rfl, rfl⟩
    · replace hf := ite_t c hf
      refine ww_iconst (v := (-1)) h dX9_pair_22 (by decide) 23 rfl ?_
      refine ww_perm [1, 1, 1, 1, 0, 0, 0, 0, 0, 0] (Gs' := [gX9 cy oL aL L, gX4 cy (aL 2) aP P, gX2 cy (aL 4) aH H, gX8 cy (aL 9) aW W, gX1 cy oC aC C, gX4 cy oK aK K, gX3 cy (aL (900 + 0)) aY0 Y0, gX3 cy (aL (900 + 1)) aY1 Y1, gX3 cy (aL (900 + 2)) aY2 Y2, gX3 cy (aL (900 + 3)) aY3 Y3]) rfl ?_
      obtain rfl := Option.some.inj hf
      exact ww_iret h dX9_pair_23 hQ ⟨rfl, rfl⟩
theorem dX9_shy_0 : decode cX9_shy 0 = .ok (.aload_n 0, 1) := by decide +kernel
theorem dX9_shy_1 : decode cX9_shy 1 = .ok (.getfield 24, 3) := by decide +kernel
theorem dX9_shy_4 : decode cX9_shy 4 = .ok (.iload_n 1, 1) := by decide +kernel
theorem dX9_shy_5 : decode cX9_shy 5 = .ok (.invokevirtual 126, 3) := by decide +kernel
theorem dX9_shy_8 : decode cX9_shy 8 = .ok (.ifCond .ne 5, 3) := by decide +kernel
theorem dX9_shy_11 : decode cX9_shy 11 = .ok (.iconst (-1), 1) := by decide +kernel
theorem dX9_shy_12 : decode cX9_shy 12 = .ok (.ireturn, 1) := by decide +kernel
theorem dX9_shy_13 : decode cX9_shy 13 = .ok (.aload_n 0, 1) := by decide +kernel
theorem dX9_shy_14 : decode cX9_shy 14 = .ok (.invokevirtual 130, 3) := by decide +kernel
theorem dX9_shy_17 : decode cX9_shy 17 = .ok (.iconst 1, 1) := by decide +kernel
theorem dX9_shy_18 : decode cX9_shy 18 = .ok (.iload_n 1, 1) := by decide +kernel
theorem dX9_shy_19 : decode cX9_shy 19 = .ok (.ishl, 1) := by decide +kernel
theorem dX9_shy_20 : decode cX9_shy 20 = .ok (.istore_n 3, 1) := by decide +kernel
theorem dX9_shy_21 : decode cX9_shy 21 = .ok (.iload_n 2, 1) := by decide +kernel
theorem dX9_shy_22 : decode cX9_shy 22 = .ok (.ifCond .eq 28, 3) := by decide +kernel
theorem dX9_shy_25 : decode cX9_shy 25 = .ok (.aload_n 0, 1) := by decide +kernel
theorem dX9_shy_26 : decode cX9_shy 26 = .ok (.getfield 34, 3) := by decide +kernel
theorem dX9_shy_29 : decode cX9_shy 29 = .ok (.dup, 1) := by decide +kernel
theorem dX9_shy_30 : decode cX9_shy 30 = .ok (.getfield 177, 3) := by decide +kernel
theorem dX9_shy_33 : decode cX9_shy 33 = .ok (.iload_n 3, 1) := by decide +kernel
theorem dX9_shy_34 : decode cX9_shy 34 = .ok (.ixor, 1) := by decide +kernel
theorem dX9_shy_35 : decode cX9_shy 35 = .ok (.putfield 177, 3) := by decide +kernel
theorem dX9_shy_38 : decode cX9_shy 38 = .ok (.aload_n 0, 1) := by decide +kernel
theorem dX9_shy_39 : decode cX9_shy 39 = .ok (.getfield 34, 3) := by decide +kernel
theorem dX9_shy_42 : decode cX9_shy 42 = .ok (.getfield 177, 3) := by decide +kernel
theorem dX9_shy_45 : decode cX9_shy 45 = .ok (.iload_n 1, 1) := by decide +kernel
theorem dX9_shy_46 : decode cX9_shy 46 = .ok (.invokestatic 180, 3) := by decide +kernel
theorem dX9_shy_49 : decode cX9_shy 49 = .ok (.ireturn, 1) := by decide +kernel
theorem dX9_shy_50 : decode cX9_shy 50 = .ok (.aload_n 0, 1) := by decide +kernel
theorem dX9_shy_51 : decode cX9_shy 51 = .ok (.getfield 34, 3) := by decide +kernel
theorem dX9_shy_54 : decode cX9_shy 54 = .ok (.dup, 1) := by decide +kernel
theorem dX9_shy_55 : decode cX9_shy 55 = .ok (.getfield 184, 3) := by decide +kernel
theorem dX9_shy_58 : decode cX9_shy 58 = .ok (.iload_n 3, 1) := by decide +kernel
theorem dX9_shy_59 : decode cX9_shy 59 = .ok (.ixor, 1) := by decide +kernel
theorem dX9_shy_60 : decode cX9_shy 60 = .ok (.putfield 184, 3) := by decide +kernel
theorem dX9_shy_63 : decode cX9_shy 63 = .ok (.aload_n 0, 1) := by decide +kernel
theorem dX9_shy_64 : decode cX9_shy 64 = .ok (.getfield 34, 3) := by decide +kernel
theorem dX9_shy_67 : decode cX9_shy 67 = .ok (.getfield 184, 3) := by decide +kernel
theorem dX9_shy_70 : decode cX9_shy 70 = .ok (.iload_n 1, 1) := by decide +kernel
theorem dX9_shy_71 : decode cX9_shy 71 = .ok (.invokestatic 180, 3) := by decide +kernel
theorem dX9_shy_74 : decode cX9_shy 74 = .ok (.ireturn, 1) := by decide +kernel
theorem ok_X9_shy : okY RX9 yX9_shy 2 := ⟨rfl, by decide, by decide, by decide +kernel⟩
def f_X9_shy (L : OV) (P : OV) (aH : Nat → Nat) (H : OV) (W : OV) (oC : Nat) (C : OV) (oK : Nat) (K : OV) (Y0 : OV) (Y1 : OV) (Y2 : OV) (Y3 : OV) (p0 : Int32) (p1 : Int32) : Option (Int32 × OV × OV × OV × OV × OV × OV × OV × OV × OV) := gd (decide (nv L 10 = oC)) ((f_X1_has C p0).bind (un1 (fun r_1 => (if r_1 = 0 then some ((-1 : Int32), L, P, H, W, K, Y0, Y1, Y2, Y3) else (f_X9_beginAct L P aH H W oK K Y0 Y1 Y2 Y3).bind (un8 (fun L_3 H_4 W_5 K_6 Y0_7 Y1_8 Y2_9 Y3_10 => bnd ((1 : Int32) <<< (p0 &&& 31)) (fun v3_12 => (if p1 = 0 then bnd (sI P 6 ((iv P 6) ^^^ v3_12)) (fun P_13 => (f_X9_bitOf (iv P_13 6) p0).bind (un1 (fun r_14 => some (r_14, L_3, P_13, H_4, W_5, K_6, Y0_7, Y1_8, Y2_9, Y3_10)))) else bnd (sI P 7 ((iv P 7) ^^^ v3_12)) (fun P_16 => (f_X9_bitOf (iv P_16 7) p0).bind (un1 (fun r_17 => some (r_17, L_3, P_16, H_4, W_5, K_6, Y0_7, Y1_8, Y2_9, Y3_10))))))))))))
def r_X9_shy : Room := { frames := 4, cells := 0, slots := 0, locals := 88 }
set_option maxHeartbeats 4000000 in
set_option maxRecDepth 100000 in
theorem c_X9_shy (l : Launch) (D : va_G) (ev : EvT) (cy : Nat → ClassId) (oL : Nat) (aL : Nat → Nat) (L : OV) (aP : Nat → Nat) (P : OV) (aH : Nat → Nat) (H : OV) (aW : Nat → Nat) (W : OV) (oC : Nat) (aC : Nat → Nat) (C : OV) (oK : Nat) (aK : Nat → Nat) (K : OV) (aY0 : Nat → Nat) (Y0 : OV) (aY1 : Nat → Nat) (Y1 : OV) (aY2 : Nat → Nat) (Y2 : OV) (aY3 : Nat → Nat) (Y3 : OV) (p0 : Int32) (p1 : Int32) (o : Int32 × OV × OV × OV × OV × OV × OV × OV × OV × OV) (hf : f_X9_shy L P aH H W oC C oK K Y0 Y1 Y2 Y3 p0 p1 = some o) : Fn l yX9_shy cX9_shy 4 (some .int) r_X9_shy D ev cy [.ref oL, .int p0, .int p1] [gX9 cy oL aL L, gX4 cy (aL 2) aP P, gX2 cy (aL 4) aH H, gX8 cy (aL 9) aW W, gX1 cy oC aC C, gX4 cy oK aK K, gX3 cy (aL (900 + 0)) aY0 Y0, gX3 cy (aL (900 + 1)) aY1 Y1, gX3 cy (aL (900 + 2)) aY2 Y2, gX3 cy (aL (900 + 3)) aY3 Y3] (fun v G => v = some (.int o.1) ∧ G = [gX9 cy oL aL o.2.1, gX4 cy (aL 2) aP o.2.2.1, gX2 cy (aL 4) aH o.2.2.2.1, gX8 cy (aL 9) aW o.2.2.2.2.1, gX1 cy oC aC C, gX4 cy oK aK o.2.2.2.2.2.1, gX3 cy (aL (900 + 0)) aY0 o.2.2.2.2.2.2.1, gX3 cy (aL (900 + 1)) aY1 o.2.2.2.2.2.2.2.1, gX3 cy (aL (900 + 2)) aY2 o.2.2.2.2.2.2.2.2.1, gX3 cy (aL (900 + 3)) aY3 o.2.2.2.2.2.2.2.2.2]) := by
  refine Fn_of (by decide) (Nat.le_of_ble_eq_true rfl) (fun X A Q h hQ _ => ?_)
  unfold f_X9_shy at hf
  show ww X D A 4 Q 0 0 0 [(0, .ref oL), (1, .int p0), (2, .int p1)] [] [gX9 cy oL aL L, gX4 cy (aL 2) aP P, gX2 cy (aL 4) aH H, gX8 cy (aL 9) aW W, gX1 cy oC aC C, gX4 cy oK aK K, gX3 cy (aL (900 + 0)) aY0 Y0, gX3 cy (aL (900 + 1)) aY1 Y1, gX3 cy (aL (900 + 2)) aY2 Y2, gX3 cy (aL (900 + 3)) aY3 Y3]
  refine ww_aload_n h dX9_shy_0 rfl 0 rfl 1 rfl ?_
  refine ww_get h inG9 rfl 0 rfl rfl 10 (by decide) w_423 rfl dX9_shy_1 4 rfl ?_
  have hi := (gd_some hf).1
  replace hf := (gd_some hf).2
  refine ww_ref hi ?_
  clear hi
  refine ww_iload_n h dX9_shy_4 rfl 1 rfl 5 rfl ?_
  obtain ⟨r_1, hu2, hf⟩ := ob1 hf
  refine ww_cVi h (c_X1_has l D ev cy oC aC C p0 _ hu2) ⟨w_591, w_661, w_589, w_590, w_104, ok_X1_has⟩ ⟨by decide, by decide⟩ ⟨by decide, by decide⟩ ⟨rfl, rfl⟩ [4] rfl 0 rfl rfl rfl rfl (Nat.le_of_ble_eq_true rfl) dX9_shy_5 8 rfl (Gs' := [gX1 cy oC aC C, gX9 cy oL aL L, gX4 cy (aL 2) aP P, gX2 cy (aL 4) aH H, gX8 cy (aL 9) aW W, gX4 cy oK aK K, gX3 cy (aL (900 + 0)) aY0 Y0, gX3 cy (aL (900 + 1)) aY1 Y1, gX3 cy (aL (900 + 2)) aY2 Y2, gX3 cy (aL (900 + 3)) aY3 Y3]) rfl ?_
  clear hu2
  refine ww_if_ne h dX9_shy_8 13 (by decide) 11 rfl (fun c => ?_) (fun c => ?_)
  · replace hf := ite_f c hf
    refine ww_aload_n h dX9_shy_13 rfl 0 rfl 14 rfl ?_
    obtain ⟨L_3, H_4, W_5, K_6, Y0_7, Y1_8, Y2_9, Y3_10, hu11, hf⟩ := ob8 hf
    refine ww_cVv h (c_X9_beginAct l D ev cy oL aL L aP P aH H aW W oK aK K aY0 Y0 aY1 Y1 aY2 Y2 aY3 Y3 _ hu11) ⟨w_673, w_670, w_672, w_16, w_101, ok_X9_beginAct⟩ ⟨by decide, by decide⟩ ⟨by decide, by decide⟩ ⟨rfl, rfl⟩ [1, 1, 1, 1, 1, 1, 1, 1, 1] rfl 0 rfl rfl rfl rfl (Nat.le_of_ble_eq_true rfl) dX9_shy_14 17 rfl (Gs' := [gX9 cy oL aL L_3, gX4 cy (aL 2) aP P, gX2 cy (aL 4) aH H_4, gX8 cy (aL 9) aW W_5, gX4 cy oK aK K_6, gX3 cy (aL (900 + 0)) aY0 Y0_7, gX3 cy (aL (900 + 1)) aY1 Y1_8, gX3 cy (aL (900 + 2)) aY2 Y2_9, gX3 cy (aL (900 + 3)) aY3 Y3_10, gX1 cy oC aC C]) rfl ?_
    clear hu11
    refine ww_iconst (v := 1) h dX9_shy_17 (by decide) 18 rfl ?_
    refine ww_iload_n h dX9_shy_18 rfl 1 rfl 19 rfl ?_
    refine ww_ishl h dX9_shy_19 20 rfl ?_
    refine ww_ist_n h dX9_shy_20 rfl (by decide) (fun v3_12 => [(3, .int v3_12), (0, .ref oL), (1, .int p0), (2, .int p1)]) (fun _ => rfl) 21 rfl (fun v3_12 e => ?_)
    replace hf := bnd_at e hf
    clear e
    refine ww_iload_n h dX9_shy_21 rfl 3 rfl 22 rfl ?_
    refine ww_if_eq h dX9_shy_22 50 (by decide) 25 rfl (fun c => ?_) (fun c => ?_)
    · replace hf := ite_t c hf
      refine ww_aload_n h dX9_shy_50 rfl 1 rfl 51 rfl ?_
      refine ww_get h inG9 rfl 0 rfl rfl 2 (by decide) w_415 rfl dX9_shy_51 54 rfl ?_
      refine ww_dup h dX9_shy_54 rfl 55 rfl ?_
      refine ww_get h inG4 rfl 1 rfl rfl 6 (by decide) w_214 rfl dX9_shy_55 58 rfl ?_
      refine ww_iload_n h dX9_shy_58 rfl 0 rfl 59 rfl ?_
      refine ww_ixor h dX9_shy_59 60 rfl ?_
      refine ww_put (ty := .int) h inG4 tyX4_ok nmX4 rfl 1 rfl rfl 6 (by decide) w_214 rfl (by decide +kernel) rfl rfl (Nat.le_of_ble_eq_true rfl) (Nat.le_of_ble_eq_true rfl) dX9_shy_60 63 rfl ?_
      refine ww_nm (fun z => [gX9 cy oL aL L_3, gX4 cy (aL 2) aP z, gX2 cy (aL 4) aH H_4, gX8 cy (aL 9) aW W_5, gX4 cy oK aK K_6, gX3 cy (aL (900 + 0)) aY0 Y0_7, gX3 cy (aL (900 + 1)) aY1 Y1_8, gX3 cy (aL (900 + 2)) aY2 Y2_9, gX3 cy (aL (900 + 3)) aY3 Y3_10, gX1 cy oC aC C]) (sI P 6 ((iv P 6) ^^^ v3_12)) (fun P_13 e => ?_)
      replace hf := bnd_at e hf
      clear e
      refine ww_aload_n h dX9_shy_63 rfl 1 rfl 64 rfl ?_
      refine ww_get h inG9 rfl 0 rfl rfl 2 (by decide) w_415 rfl dX9_shy_64 67 rfl ?_
      refine ww_get h inG4 rfl 1 rfl rfl 6 (by decide) w_214 rfl dX9_shy_67 70 rfl ?_
      refine ww_iload_n h dX9_shy_70 rfl 2 rfl 71 rfl ?_
      obtain ⟨r_14, hu15, hf⟩ := ob1 hf
      refine ww_cSi h (c_X9_bitOf l D ev cy (iv P_13 6) p0 _ hu15) ⟨w_636, w_749, w_635, w_101, ok_X9_bitOf⟩ ⟨by decide, by decide⟩ ⟨by decide, by decide⟩ ⟨rfl, rfl⟩ [] rfl rfl (Nat.le_of_ble_eq_true rfl) dX9_shy_71 74 rfl (Gs' := [gX9 cy oL aL L_3, gX4 cy (aL 2) aP P_13, gX2 cy (aL 4) aH H_4, gX8 cy (aL 9) aW W_5, gX4 cy oK aK K_6, gX3 cy (aL (900 + 0)) aY0 Y0_7, gX3 cy (aL (900 + 1)) aY1 Y1_8, gX3 cy (aL (900 + 2)) aY2 Y2_9, gX3 cy (aL (900 + 3)) aY3 Y3_10, gX1 cy oC aC C]) rfl ?_
      clear hu15
      refine ww_perm [0, 0, 0, 0, 5, 0, 0, 0, 0, 0] (Gs' := [gX9 cy oL aL L_3, gX4 cy (aL 2) aP P_13, gX2 cy (aL 4) aH H_4, gX8 cy (aL 9) aW W_5, gX1 cy oC aC C, gX4 cy oK aK K_6, gX3 cy (aL (900 + 0)) aY0 Y0_7, gX3 cy (aL (900 + 1)) aY1 Y1_8, gX3 cy (aL (900 + 2)) aY2 Y2_9, gX3 cy (aL (900 + 3)) aY3 Y3_10]) rfl ?_
      obtain rfl := Option.some.inj hf
      exact ww_iret h dX9_shy_74 hQ ⟨rfl, rfl⟩
    · replace hf := ite_f c hf
      refine ww_aload_n h dX9_shy_25 rfl 1 rfl 26 rfl ?_
      refine ww_get h inG9 rfl 0 rfl rfl 2 (by decide) w_415 rfl dX9_shy_26 29 rfl ?_
      refine ww_dup h dX9_shy_29 rfl 30 rfl ?_
      refine ww_get h inG4 rfl 1 rfl rfl 7 (by decide) w_216 rfl dX9_shy_30 33 rfl ?_
      refine ww_iload_n h dX9_shy_33 rfl 0 rfl 34 rfl ?_
      refine ww_ixor h dX9_shy_34 35 rfl ?_
      refine ww_put (ty := .int) h inG4 tyX4_ok nmX4 rfl 1 rfl rfl 7 (by decide) w_216 rfl (by decide +kernel) rfl rfl (Nat.le_of_ble_eq_true rfl) (Nat.le_of_ble_eq_true rfl) dX9_shy_35 38 rfl ?_
      refine ww_nm (fun z => [gX9 cy oL aL L_3, gX4 cy (aL 2) aP z, gX2 cy (aL 4) aH H_4, gX8 cy (aL 9) aW W_5, gX4 cy oK aK K_6, gX3 cy (aL (900 + 0)) aY0 Y0_7, gX3 cy (aL (900 + 1)) aY1 Y1_8, gX3 cy (aL (900 + 2)) aY2 Y2_9, gX3 cy (aL (900 + 3)) aY3 Y3_10, gX1 cy oC aC C]) (sI P 7 ((iv P 7) ^^^ v3_12)) (fun P_16 e => ?_)
      replace hf := bnd_at e hf
      clear e
      refine ww_aload_n h dX9_shy_38 rfl 1 rfl 39 rfl ?_
      refine ww_get h inG9 rfl 0 rfl rfl 2 (by decide) w_415 rfl dX9_shy_39 42 rfl ?_
      refine ww_get h inG4 rfl 1 rfl rfl 7 (by decide) w_216 rfl dX9_shy_42 45 rfl ?_
      refine ww_iload_n h dX9_shy_45 rfl 2 rfl 46 rfl ?_
      obtain ⟨r_17, hu18, hf⟩ := ob1 hf
      refine ww_cSi h (c_X9_bitOf l D ev cy (iv P_16 7) p0 _ hu18) ⟨w_636, w_749, w_635, w_101, ok_X9_bitOf⟩ ⟨by decide, by decide⟩ ⟨by decide, by decide⟩ ⟨rfl, rfl⟩ [] rfl rfl (Nat.le_of_ble_eq_true rfl) dX9_shy_46 49 rfl (Gs' := [gX9 cy oL aL L_3, gX4 cy (aL 2) aP P_16, gX2 cy (aL 4) aH H_4, gX8 cy (aL 9) aW W_5, gX4 cy oK aK K_6, gX3 cy (aL (900 + 0)) aY0 Y0_7, gX3 cy (aL (900 + 1)) aY1 Y1_8, gX3 cy (aL (900 + 2)) aY2 Y2_9, gX3 cy (aL (900 + 3)) aY3 Y3_10, gX1 cy oC aC C]) rfl ?_
      clear hu18
      refine ww_perm [0, 0, 0, 0, 5, 0, 0, 0, 0, 0] (Gs' := [gX9 cy oL aL L_3, gX4 cy (aL 2) aP P_16, gX2 cy (aL 4) aH H_4, gX8 cy (aL 9) aW W_5, gX1 cy oC aC C, gX4 cy oK aK K_6, gX3 cy (aL (900 + 0)) aY0 Y0_7, gX3 cy (aL (900 + 1)) aY1 Y1_8, gX3 cy (aL (900 + 2)) aY2 Y2_9, gX3 cy (aL (900 + 3)) aY3 Y3_10]) rfl ?_
      obtain rfl := Option.some.inj hf
      exact ww_iret h dX9_shy_49 hQ ⟨rfl, rfl⟩
  · replace hf := ite_t c hf
    refine ww_iconst (v := (-1)) h dX9_shy_11 (by decide) 12 rfl ?_
    refine ww_perm [1, 1, 1, 1, 0, 0, 0, 0, 0, 0] (Gs' := [gX9 cy oL aL L, gX4 cy (aL 2) aP P, gX2 cy (aL 4) aH H, gX8 cy (aL 9) aW W, gX1 cy oC aC C, gX4 cy oK aK K, gX3 cy (aL (900 + 0)) aY0 Y0, gX3 cy (aL (900 + 1)) aY1 Y1, gX3 cy (aL (900 + 2)) aY2 Y2, gX3 cy (aL (900 + 3)) aY3 Y3]) rfl ?_
    obtain rfl := Option.some.inj hf
    exact ww_iret h dX9_shy_12 hQ ⟨rfl, rfl⟩
theorem dX9_weigh_0 : decode cX9_weigh 0 = .ok (.iload_n 1, 1) := by decide +kernel
theorem dX9_weigh_1 : decode cX9_weigh 1 = .ok (.ifCond .lt 8, 3) := by decide +kernel
theorem dX9_weigh_4 : decode cX9_weigh 4 = .ok (.iload_n 1, 1) := by decide +kernel
theorem dX9_weigh_5 : decode cX9_weigh 5 = .ok (.iconst 3, 1) := by decide +kernel
theorem dX9_weigh_6 : decode cX9_weigh 6 = .ok (.if_icmp .lt 5, 3) := by decide +kernel
theorem dX9_weigh_9 : decode cX9_weigh 9 = .ok (.iconst (-1), 1) := by decide +kernel
theorem dX9_weigh_10 : decode cX9_weigh 10 = .ok (.ireturn, 1) := by decide +kernel
theorem dX9_weigh_11 : decode cX9_weigh 11 = .ok (.iload_n 2, 1) := by decide +kernel
theorem dX9_weigh_12 : decode cX9_weigh 12 = .ok (.getstatic 187, 3) := by decide +kernel
theorem dX9_weigh_15 : decode cX9_weigh 15 = .ok (.iload_n 1, 1) := by decide +kernel
theorem dX9_weigh_16 : decode cX9_weigh 16 = .ok (.iaload, 1) := by decide +kernel
theorem dX9_weigh_17 : decode cX9_weigh 17 = .ok (.if_icmp .lt 25, 3) := by decide +kernel
theorem dX9_weigh_20 : decode cX9_weigh 20 = .ok (.iload_n 2, 1) := by decide +kernel
theorem dX9_weigh_21 : decode cX9_weigh 21 = .ok (.getstatic 190, 3) := by decide +kernel
theorem dX9_weigh_24 : decode cX9_weigh 24 = .ok (.iload_n 1, 1) := by decide +kernel
theorem dX9_weigh_25 : decode cX9_weigh 25 = .ok (.iaload, 1) := by decide +kernel
theorem dX9_weigh_26 : decode cX9_weigh 26 = .ok (.if_icmp .gt 16, 3) := by decide +kernel
theorem dX9_weigh_29 : decode cX9_weigh 29 = .ok (.aload_n 0, 1) := by decide +kernel
theorem dX9_weigh_30 : decode cX9_weigh 30 = .ok (.getfield 34, 3) := by decide +kernel
theorem dX9_weigh_33 : decode cX9_weigh 33 = .ok (.getfield 193, 3) := by decide +kernel
theorem dX9_weigh_36 : decode cX9_weigh 36 = .ok (.iload_n 1, 1) := by decide +kernel
theorem dX9_weigh_37 : decode cX9_weigh 37 = .ok (.iaload, 1) := by decide +kernel
theorem dX9_weigh_38 : decode cX9_weigh 38 = .ok (.iload_n 2, 1) := by decide +kernel
theorem dX9_weigh_39 : decode cX9_weigh 39 = .ok (.if_icmp .ne 5, 3) := by decide +kernel
theorem dX9_weigh_42 : decode cX9_weigh 42 = .ok (.iconst (-1), 1) := by decide +kernel
theorem dX9_weigh_43 : decode cX9_weigh 43 = .ok (.ireturn, 1) := by decide +kernel
theorem dX9_weigh_44 : decode cX9_weigh 44 = .ok (.aload_n 0, 1) := by decide +kernel
theorem dX9_weigh_45 : decode cX9_weigh 45 = .ok (.invokevirtual 130, 3) := by decide +kernel
theorem dX9_weigh_48 : decode cX9_weigh 48 = .ok (.aload_n 0, 1) := by decide +kernel
theorem dX9_weigh_49 : decode cX9_weigh 49 = .ok (.getfield 34, 3) := by decide +kernel
theorem dX9_weigh_52 : decode cX9_weigh 52 = .ok (.getfield 193, 3) := by decide +kernel
theorem dX9_weigh_55 : decode cX9_weigh 55 = .ok (.iload_n 1, 1) := by decide +kernel
theorem dX9_weigh_56 : decode cX9_weigh 56 = .ok (.iaload, 1) := by decide +kernel
theorem dX9_weigh_57 : decode cX9_weigh 57 = .ok (.istore_n 3, 1) := by decide +kernel
theorem dX9_weigh_58 : decode cX9_weigh 58 = .ok (.aload_n 0, 1) := by decide +kernel
theorem dX9_weigh_59 : decode cX9_weigh 59 = .ok (.getfield 34, 3) := by decide +kernel
theorem dX9_weigh_62 : decode cX9_weigh 62 = .ok (.getfield 193, 3) := by decide +kernel
theorem dX9_weigh_65 : decode cX9_weigh 65 = .ok (.iload_n 1, 1) := by decide +kernel
theorem dX9_weigh_66 : decode cX9_weigh 66 = .ok (.iload_n 2, 1) := by decide +kernel
theorem dX9_weigh_67 : decode cX9_weigh 67 = .ok (.iastore, 1) := by decide +kernel
theorem dX9_weigh_68 : decode cX9_weigh 68 = .ok (.iload_n 3, 1) := by decide +kernel
theorem dX9_weigh_69 : decode cX9_weigh 69 = .ok (.ireturn, 1) := by decide +kernel
theorem ok_X9_weigh : okY RX9 yX9_weigh 2 := ⟨rfl, by decide, by decide, by decide +kernel⟩
def f_X9_weigh (L : OV) (P : OV) (aH : Nat → Nat) (H : OV) (W : OV) (oK : Nat) (K : OV) (Y0 : OV) (Y1 : OV) (Y2 : OV) (Y3 : OV) (p0 : Int32) (p1 : Int32) : Option (Int32 × OV × OV × OV × OV × OV × OV × OV × OV × OV) := (if p0 < 0 then some ((-1 : Int32), L, P, H, W, K, Y0, Y1, Y2, Y3) else (if p0 < (3 : Int32) then gd (ix p0 3) ((if p1 < (([0, 1, 1] : List Int32).getD p0.toNatClampNeg 0) then some ((-1 : Int32), L, P, H, W, K, Y0, Y1, Y2, Y3) else gd (ix p0 3) ((if (([9, 99, 9999] : List Int32).getD p0.toNatClampNeg 0) < p1 then some ((-1 : Int32), L, P, H, W, K, Y0, Y1, Y2, Y3) else gd (ix p0 3) ((if (ar P 3 p0.toNatClampNeg) = p1 then some ((-1 : Int32), L, P, H, W, K, Y0, Y1, Y2, Y3) else (f_X9_beginAct L P aH H W oK K Y0 Y1 Y2 Y3).bind (un8 (fun L_1 H_2 W_3 K_4 Y0_5 Y1_6 Y2_7 Y3_8 => gd (ix p0 3) (bnd (ar P 3 p0.toNatClampNeg) (fun v3_10 => gd (ix p0 3) (bnd (sA P 3 p0.toNatClampNeg p1) (fun P_11 => some (v3_10, L_1, P_11, H_2, W_3, K_4, Y0_5, Y1_6, Y2_7, Y3_8))))))))))))) else some ((-1 : Int32), L, P, H, W, K, Y0, Y1, Y2, Y3)))
def r_X9_weigh : Room := { frames := 4, cells := 0, slots := 0, locals := 88 }
set_option maxHeartbeats 4000000 in
set_option maxRecDepth 100000 in
theorem c_X9_weigh (l : Launch) (D : va_G) (ev : EvT) (cy : Nat → ClassId) (oL : Nat) (aL : Nat → Nat) (L : OV) (aP : Nat → Nat) (P : OV) (aH : Nat → Nat) (H : OV) (aW : Nat → Nat) (W : OV) (oK : Nat) (aK : Nat → Nat) (K : OV) (aY0 : Nat → Nat) (Y0 : OV) (aY1 : Nat → Nat) (Y1 : OV) (aY2 : Nat → Nat) (Y2 : OV) (aY3 : Nat → Nat) (Y3 : OV) (p0 : Int32) (p1 : Int32) (o : Int32 × OV × OV × OV × OV × OV × OV × OV × OV × OV) (hf : f_X9_weigh L P aH H W oK K Y0 Y1 Y2 Y3 p0 p1 = some o) : Fn l yX9_weigh cX9_weigh 4 (some .int) r_X9_weigh D ev cy [.ref oL, .int p0, .int p1] [gX9 cy oL aL L, gX4 cy (aL 2) aP P, gX2 cy (aL 4) aH H, gX8 cy (aL 9) aW W, gX4 cy oK aK K, gX3 cy (aL (900 + 0)) aY0 Y0, gX3 cy (aL (900 + 1)) aY1 Y1, gX3 cy (aL (900 + 2)) aY2 Y2, gX3 cy (aL (900 + 3)) aY3 Y3] (fun v G => v = some (.int o.1) ∧ G = [gX9 cy oL aL o.2.1, gX4 cy (aL 2) aP o.2.2.1, gX2 cy (aL 4) aH o.2.2.2.1, gX8 cy (aL 9) aW o.2.2.2.2.1, gX4 cy oK aK o.2.2.2.2.2.1, gX3 cy (aL (900 + 0)) aY0 o.2.2.2.2.2.2.1, gX3 cy (aL (900 + 1)) aY1 o.2.2.2.2.2.2.2.1, gX3 cy (aL (900 + 2)) aY2 o.2.2.2.2.2.2.2.2.1, gX3 cy (aL (900 + 3)) aY3 o.2.2.2.2.2.2.2.2.2]) := by
  refine Fn_of (by decide) (Nat.le_of_ble_eq_true rfl) (fun X A Q h hQ _ => ?_)
  unfold f_X9_weigh at hf
  show ww X D A 4 Q 0 0 0 [(0, .ref oL), (1, .int p0), (2, .int p1)] [] [gX9 cy oL aL L, gX4 cy (aL 2) aP P, gX2 cy (aL 4) aH H, gX8 cy (aL 9) aW W, gX4 cy oK aK K, gX3 cy (aL (900 + 0)) aY0 Y0, gX3 cy (aL (900 + 1)) aY1 Y1, gX3 cy (aL (900 + 2)) aY2 Y2, gX3 cy (aL (900 + 3)) aY3 Y3]
  refine ww_iload_n h dX9_weigh_0 rfl 1 rfl 1 rfl ?_
  refine ww_if_lt h dX9_weigh_1 9 (by decide) 4 rfl (fun c => ?_) (fun c => ?_)
  · replace hf := ite_t c hf
    refine ww_iconst (v := (-1)) h dX9_weigh_9 (by decide) 10 rfl ?_
    obtain rfl := Option.some.inj hf
    exact ww_iret h dX9_weigh_10 hQ ⟨rfl, rfl⟩
  · replace hf := ite_f c hf
    refine ww_iload_n h dX9_weigh_4 rfl 1 rfl 5 rfl ?_
    refine ww_iconst (v := 3) h dX9_weigh_5 (by decide) 6 rfl ?_
    refine ww_icmp_lt h dX9_weigh_6 11 (by decide) 9 rfl (fun c => ?_) (fun c => ?_)
    · replace hf := ite_t c hf
      refine ww_iload_n h dX9_weigh_11 rfl 2 rfl 12 rfl ?_
      refine ww_getW0 h w_754 dX9_weigh_12 15 rfl ?_
      refine ww_iload_n h dX9_weigh_15 rfl 1 rfl 16 rfl ?_
      have hi := (gd_some hf).1
      replace hf := (gd_some hf).2
      refine ww_ldW0 h (ix_in hi) dX9_weigh_16 17 rfl ?_
      clear hi
      refine ww_icmp_lt h dX9_weigh_17 42 (by decide) 20 rfl (fun c => ?_) (fun c => ?_)
      · replace hf := ite_t c hf
        refine ww_iconst (v := (-1)) h dX9_weigh_42 (by decide) 43 rfl ?_
        obtain rfl := Option.some.inj hf
        exact ww_iret h dX9_weigh_43 hQ ⟨rfl, rfl⟩
      · replace hf := ite_f c hf
        refine ww_iload_n h dX9_weigh_20 rfl 2 rfl 21 rfl ?_
        refine ww_getW1 h w_756 dX9_weigh_21 24 rfl ?_
        refine ww_iload_n h dX9_weigh_24 rfl 1 rfl 25 rfl ?_
        have hi := (gd_some hf).1
        replace hf := (gd_some hf).2
        refine ww_ldW1 h (ix_in hi) dX9_weigh_25 26 rfl ?_
        clear hi
        refine ww_icmp_gt h dX9_weigh_26 42 (by decide) 29 rfl (fun c => ?_) (fun c => ?_)
        · replace hf := ite_t c hf
          refine ww_iconst (v := (-1)) h dX9_weigh_42 (by decide) 43 rfl ?_
          obtain rfl := Option.some.inj hf
          exact ww_iret h dX9_weigh_43 hQ ⟨rfl, rfl⟩
        · replace hf := ite_f c hf
          refine ww_aload_n h dX9_weigh_29 rfl 0 rfl 30 rfl ?_
          refine ww_get h inG9 rfl 0 rfl rfl 2 (by decide) w_415 rfl dX9_weigh_30 33 rfl ?_
          refine ww_get h inG4 rfl 1 rfl rfl 3 (by decide) w_206 rfl dX9_weigh_33 36 rfl ?_
          refine ww_iload_n h dX9_weigh_36 rfl 1 rfl 37 rfl ?_
          have hi := (gd_some hf).1
          replace hf := (gd_some hf).2
          refine ww_iald h 1 rfl 4 rfl (ix_in hi) dX9_weigh_37 38 rfl ?_
          clear hi
          refine ww_iload_n h dX9_weigh_38 rfl 2 rfl 39 rfl ?_
          refine ww_icmp_ne h dX9_weigh_39 44 (by decide) 42 rfl (fun c => ?_) (fun c => ?_)
          · replace hf := ite_f c hf
            refine ww_aload_n h dX9_weigh_44 rfl 0 rfl 45 rfl ?_
            obtain ⟨L_1, H_2, W_3, K_4, Y0_5, Y1_6, Y2_7, Y3_8, hu9, hf⟩ := ob8 hf
            refine ww_cVv h (c_X9_beginAct l D ev cy oL aL L aP P aH H aW W oK aK K aY0 Y0 aY1 Y1 aY2 Y2 aY3 Y3 _ hu9) ⟨w_673, w_670, w_672, w_16, w_101, ok_X9_beginAct⟩ ⟨by decide, by decide⟩ ⟨by decide, by decide⟩ ⟨rfl, rfl⟩ [0, 0, 0, 0, 0, 0, 0, 0, 0] rfl 0 rfl rfl rfl rfl (Nat.le_of_ble_eq_true rfl) dX9_weigh_45 48 rfl (Gs' := [gX9 cy oL aL L_1, gX4 cy (aL 2) aP P, gX2 cy (aL 4) aH H_2, gX8 cy (aL 9) aW W_3, gX4 cy oK aK K_4, gX3 cy (aL (900 + 0)) aY0 Y0_5, gX3 cy (aL (900 + 1)) aY1 Y1_6, gX3 cy (aL (900 + 2)) aY2 Y2_7, gX3 cy (aL (900 + 3)) aY3 Y3_8]) rfl ?_
            clear hu9
            refine ww_aload_n h dX9_weigh_48 rfl 0 rfl 49 rfl ?_
            refine ww_get h inG9 rfl 0 rfl rfl 2 (by decide) w_415 rfl dX9_weigh_49 52 rfl ?_
            refine ww_get h inG4 rfl 1 rfl rfl 3 (by decide) w_206 rfl dX9_weigh_52 55 rfl ?_
            refine ww_iload_n h dX9_weigh_55 rfl 1 rfl 56 rfl ?_
            have hi := (gd_some hf).1
            replace hf := (gd_some hf).2
            refine ww_iald h 1 rfl 4 rfl (ix_in hi) dX9_weigh_56 57 rfl ?_
            clear hi
            refine ww_ist_n h dX9_weigh_57 rfl (by decide) (fun v3_10 => [(3, .int v3_10), (0, .ref oL), (1, .int p0), (2, .int p1)]) (fun _ => rfl) 58 rfl (fun v3_10 e => ?_)
            replace hf := bnd_at e hf
            clear e
            refine ww_aload_n h dX9_weigh_58 rfl 1 rfl 59 rfl ?_
            refine ww_get h inG9 rfl 0 rfl rfl 2 (by decide) w_415 rfl dX9_weigh_59 62 rfl ?_
            refine ww_get h inG4 rfl 1 rfl rfl 3 (by decide) w_206 rfl dX9_weigh_62 65 rfl ?_
            refine ww_iload_n h dX9_weigh_65 rfl 2 rfl 66 rfl ?_
            refine ww_iload_n h dX9_weigh_66 rfl 3 rfl 67 rfl ?_
            have hi := (gd_some hf).1
            replace hf := (gd_some hf).2
            refine ww_iast h 1 rfl 4 rfl (ix_in hi) dX9_weigh_67 68 rfl ?_
            clear hi
            refine ww_nm (fun z => [gX9 cy oL aL L_1, gX4 cy (aL 2) aP z, gX2 cy (aL 4) aH H_2, gX8 cy (aL 9) aW W_3, gX4 cy oK aK K_4, gX3 cy (aL (900 + 0)) aY0 Y0_5, gX3 cy (aL (900 + 1)) aY1 Y1_6, gX3 cy (aL (900 + 2)) aY2 Y2_7, gX3 cy (aL (900 + 3)) aY3 Y3_8]) (sA P 3 p0.toNatClampNeg p1) (fun P_11 e => ?_)
            replace hf := bnd_at e hf
            clear e
            refine ww_iload_n h dX9_weigh_68 rfl 0 rfl 69 rfl ?_
            obtain rfl := Option.some.inj hf
            exact ww_iret h dX9_weigh_69 hQ ⟨rfl, rfl⟩
          · replace hf := ite_t c hf
            refine ww_iconst (v := (-1)) h dX9_weigh_42 (by decide) 43 rfl ?_
            obtain rfl := Option.some.inj hf
            exact ww_iret h dX9_weigh_43 hQ ⟨rfl, rfl⟩
    · replace hf := ite_f c hf
      refine ww_iconst (v := (-1)) h dX9_weigh_9 (by decide) 10 rfl ?_
      obtain rfl := Option.some.inj hf
      exact ww_iret h dX9_weigh_10 hQ ⟨rfl, rfl⟩
