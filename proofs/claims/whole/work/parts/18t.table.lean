theorem dX9_table_0 : decode cX9_table 0 = .ok (.new 92, 3) := by decide +kernel
theorem dX9_table_3 : decode cX9_table 3 = .ok (.dup, 1) := by decide +kernel
theorem dX9_table_4 : decode cX9_table 4 = .ok (.aload_n 0, 1) := by decide +kernel
theorem dX9_table_5 : decode cX9_table 5 = .ok (.getfield 14, 3) := by decide +kernel
theorem dX9_table_8 : decode cX9_table 8 = .ok (.aload_n 0, 1) := by decide +kernel
theorem dX9_table_9 : decode cX9_table 9 = .ok (.getfield 28, 3) := by decide +kernel
theorem dX9_table_12 : decode cX9_table 12 = .ok (.invokespecial 94, 3) := by decide +kernel
theorem dX9_table_15 : decode cX9_table 15 = .ok (.astore_n 1, 1) := by decide +kernel
theorem dX9_table_16 : decode cX9_table 16 = .ok (.aload_n 1, 1) := by decide +kernel
theorem dX9_table_17 : decode cX9_table 17 = .ok (.invokevirtual 97, 3) := by decide +kernel
theorem dX9_table_20 : decode cX9_table 20 = .ok (.istore_n 2, 1) := by decide +kernel
theorem dX9_table_21 : decode cX9_table 21 = .ok (.aload_n 0, 1) := by decide +kernel
theorem dX9_table_22 : decode cX9_table 22 = .ok (.getfield 14, 3) := by decide +kernel
theorem dX9_table_25 : decode cX9_table 25 = .ok (.iconst 0, 1) := by decide +kernel
theorem dX9_table_26 : decode cX9_table 26 = .ok (.putfield 85, 3) := by decide +kernel
theorem dX9_table_29 : decode cX9_table 29 = .ok (.iload_n 2, 1) := by decide +kernel
theorem dX9_table_30 : decode cX9_table 30 = .ok (.iconst (-1), 1) := by decide +kernel
theorem dX9_table_31 : decode cX9_table 31 = .ok (.if_icmp .eq 8, 3) := by decide +kernel
theorem dX9_table_34 : decode cX9_table 34 = .ok (.bipush (-4), 2) := by decide +kernel
theorem dX9_table_36 : decode cX9_table 36 = .ok (.iload_n 2, 1) := by decide +kernel
theorem dX9_table_37 : decode cX9_table 37 = .ok (.isub, 1) := by decide +kernel
theorem dX9_table_38 : decode cX9_table 38 = .ok (.ireturn, 1) := by decide +kernel
theorem dX9_table_39 : decode cX9_table 39 = .ok (.aload_n 0, 1) := by decide +kernel
theorem dX9_table_40 : decode cX9_table 40 = .ok (.getfield 24, 3) := by decide +kernel
theorem dX9_table_43 : decode cX9_table 43 = .ok (.astore_n 3, 1) := by decide +kernel
theorem dX9_table_44 : decode cX9_table 44 = .ok (.aload_n 0, 1) := by decide +kernel
theorem dX9_table_45 : decode cX9_table 45 = .ok (.aload_n 0, 1) := by decide +kernel
theorem dX9_table_46 : decode cX9_table 46 = .ok (.getfield 28, 3) := by decide +kernel
theorem dX9_table_49 : decode cX9_table 49 = .ok (.putfield 24, 3) := by decide +kernel
theorem dX9_table_52 : decode cX9_table 52 = .ok (.aload_n 0, 1) := by decide +kernel
theorem dX9_table_53 : decode cX9_table 53 = .ok (.aload_n 3, 1) := by decide +kernel
theorem dX9_table_54 : decode cX9_table 54 = .ok (.putfield 28, 3) := by decide +kernel
theorem dX9_table_57 : decode cX9_table 57 = .ok (.aload_n 0, 1) := by decide +kernel
theorem dX9_table_58 : decode cX9_table 58 = .ok (.getfield 34, 3) := by decide +kernel
theorem dX9_table_61 : decode cX9_table 61 = .ok (.aload_n 0, 1) := by decide +kernel
theorem dX9_table_62 : decode cX9_table 62 = .ok (.getfield 24, 3) := by decide +kernel
theorem dX9_table_65 : decode cX9_table 65 = .ok (.invokevirtual 101, 3) := by decide +kernel
theorem dX9_table_68 : decode cX9_table 68 = .ok (.aload_n 0, 1) := by decide +kernel
theorem dX9_table_69 : decode cX9_table 69 = .ok (.getfield 44, 3) := by decide +kernel
theorem dX9_table_72 : decode cX9_table 72 = .ok (.invokevirtual 105, 3) := by decide +kernel
theorem dX9_table_75 : decode cX9_table 75 = .ok (.aload_n 0, 1) := by decide +kernel
theorem dX9_table_76 : decode cX9_table 76 = .ok (.invokevirtual 108, 3) := by decide +kernel
theorem dX9_table_79 : decode cX9_table 79 = .ok (.aload_n 0, 1) := by decide +kernel
theorem dX9_table_80 : decode cX9_table 80 = .ok (.getfield 24, 3) := by decide +kernel
theorem dX9_table_83 : decode cX9_table 83 = .ok (.getfield 111, 3) := by decide +kernel
theorem dX9_table_86 : decode cX9_table 86 = .ok (.ireturn, 1) := by decide +kernel
theorem ok_X9_table : okY RX9 yX9_table 0 := ⟨rfl, by decide, by decide, by decide +kernel⟩
def f_X9_table (L : OV) (aT : Nat → Nat) (T : OV) (P : OV) (H : OV) (W : OV) (oC : Nat) (oF : Nat) (F : OV) (Y0 : OV) (Y1 : OV) (Y2 : OV) (Y3 : OV) : Option (Int32 × OV × OV × OV × OV × OV × OV × OV × OV × OV × OV) := gd (decide (nv L 11 = oF)) ((f_X6_readTable RD0 aT T F).bind (un3 (fun r_1 E_2 F_3 => bnd r_1 (fun v2_5 => bnd (sI T 1 (0 : Int32)) (fun T_6 => (if v2_5 = (-1 : Int32) then gd (decide (nv L 10 = oC)) (gd (decide (nv L 11 = oF)) (bnd (sN L 10 oF) (fun L_7 => bnd (sN L_7 11 oC) (fun L_8 => gd (decide (nv L_8 10 = oF)) ((f_X4_beginTable P F_3).bind (un1 (fun P_9 => (f_X2_clear H).bind (un1 (fun H_11 => (f_X9_forget L_8 W Y0 Y1 Y2 Y3).bind (un6 (fun L_13 W_14 Y0_15 Y1_16 Y2_17 Y3_18 => gd (decide (nv L_13 10 = oF)) (some ((iv F_3 5), L_13, T_6, P_9, H_11, W_14, F_3, Y0_15, Y1_16, Y2_17, Y3_18))))))))))))) else some (((-4 : Int32) - v2_5), L, T_6, P, H, W, F_3, Y0, Y1, Y2, Y3)))))))
def r_X9_table : Room := { frames := 9, cells := 1, slots := 6, locals := 193 }
set_option maxHeartbeats 4000000 in
set_option maxRecDepth 100000 in
theorem c_X9_table (l : Launch) (D : va_G) (ev : EvT) (cy : Nat → ClassId) (oL : Nat) (aL : Nat → Nat) (L : OV) (aT : Nat → Nat) (T : OV) (aP : Nat → Nat) (P : OV) (aH : Nat → Nat) (H : OV) (aW : Nat → Nat) (W : OV) (oC : Nat) (aC : Nat → Nat) (C : OV) (oF : Nat) (aF : Nat → Nat) (F : OV) (aY0 : Nat → Nat) (Y0 : OV) (aY1 : Nat → Nat) (Y1 : OV) (aY2 : Nat → Nat) (Y2 : OV) (aY3 : Nat → Nat) (Y3 : OV) (o : Int32 × OV × OV × OV × OV × OV × OV × OV × OV × OV × OV) (hf : f_X9_table L aT T P H W oC oF F Y0 Y1 Y2 Y3 = some o) : Fn l yX9_table cX9_table 4 (some .int) r_X9_table D ev cy [.ref oL] [gX9 cy oL aL L, gX0 cy (aL 0) aT T, gX4 cy (aL 2) aP P, gX2 cy (aL 4) aH H, gX8 cy (aL 9) aW W, gX1 cy oC aC C, gX1 cy oF aF F, gX3 cy (aL (900 + 0)) aY0 Y0, gX3 cy (aL (900 + 1)) aY1 Y1, gX3 cy (aL (900 + 2)) aY2 Y2, gX3 cy (aL (900 + 3)) aY3 Y3] (fun v G => v = some (.int o.1) ∧ G = [gX9 cy oL aL o.2.1, gX0 cy (aL 0) aT o.2.2.1, gX4 cy (aL 2) aP o.2.2.2.1, gX2 cy (aL 4) aH o.2.2.2.2.1, gX8 cy (aL 9) aW o.2.2.2.2.2.1, gX1 cy oC aC C, gX1 cy oF aF o.2.2.2.2.2.2.1, gX3 cy (aL (900 + 0)) aY0 o.2.2.2.2.2.2.2.1, gX3 cy (aL (900 + 1)) aY1 o.2.2.2.2.2.2.2.2.1, gX3 cy (aL (900 + 2)) aY2 o.2.2.2.2.2.2.2.2.2.1, gX3 cy (aL (900 + 3)) aY3 o.2.2.2.2.2.2.2.2.2.2]) := by
  refine Fn_of (by decide) (Nat.le_of_ble_eq_true rfl) (fun X A Q h hQ _ => ?_)
  unfold f_X9_table at hf
  show ww X D A 4 Q 0 0 0 [(0, .ref oL)] [] [gX9 cy oL aL L, gX0 cy (aL 0) aT T, gX4 cy (aL 2) aP P, gX2 cy (aL 4) aH H, gX8 cy (aL 9) aW W, gX1 cy oC aC C, gX1 cy oF aF F, gX3 cy (aL (900 + 0)) aY0 Y0, gX3 cy (aL (900 + 1)) aY1 Y1, gX3 cy (aL (900 + 2)) aY2 Y2, gX3 cy (aL (900 + 3)) aY3 Y3]
  refine ww_new (ci := 6) (fs := [.null, .null, .int 0, .int 0, .int 0, .int 0]) h inG6 tyX6_ok w_473 w_474 w_112 rfl df_X6 ⟨by decide, by decide⟩ dX9_table_0 3 rfl rfl rfl (fun oE => ?_)
  show ww X D A 4 Q 1 6 3 [(0, .ref oL)] [.ref oE] [gX9 cy oL aL L, gX0 cy (aL 0) aT T, gX4 cy (aL 2) aP P, gX2 cy (aL 4) aH H, gX8 cy (aL 9) aW W, gX1 cy oC aC C, gX1 cy oF aF F, gX3 cy (aL (900 + 0)) aY0 Y0, gX3 cy (aL (900 + 1)) aY1 Y1, gX3 cy (aL (900 + 2)) aY2 Y2, gX3 cy (aL (900 + 3)) aY3 Y3, [(oE, .inr (6, [.null, .null, .int 0, .int 0, .int 0, .int 0]))]]
  refine ww_dup h dX9_table_3 rfl 4 rfl ?_
  refine ww_aload_n h dX9_table_4 rfl 0 rfl 5 rfl ?_
  refine ww_get h inG9 rfl 0 rfl rfl 0 (by decide) w_413 rfl dX9_table_5 8 rfl ?_
  refine ww_aload_n h dX9_table_8 rfl 0 rfl 9 rfl ?_
  refine ww_get h inG9 rfl 0 rfl rfl 11 (by decide) w_424 rfl dX9_table_9 12 rfl ?_
  have hi := (gd_some hf).1
  replace hf := (gd_some hf).2
  refine ww_ref hi ?_
  clear hi
  refine ww_cI h (c_X6_init l D ev cy oE (aL 0) oF) w_477 w_475 w_476 w_112 rfl ok_X6_init ⟨by decide, by decide⟩ ⟨by decide, by decide⟩ [11] rfl rfl (Nat.le_of_ble_eq_true rfl) dX9_table_12 15 rfl rfl rfl (fun _ _ z => z.1) (fun G9 z => ?_)
  obtain ⟨-, rfl⟩ := z
  show ww X D A 4 Q 1 6 15 [(0, .ref oL)] [.ref oE] [gX6 cy oE (rdA (aL 0) oF) RD0, gX9 cy oL aL L, gX0 cy (aL 0) aT T, gX4 cy (aL 2) aP P, gX2 cy (aL 4) aH H, gX8 cy (aL 9) aW W, gX1 cy oC aC C, gX1 cy oF aF F, gX3 cy (aL (900 + 0)) aY0 Y0, gX3 cy (aL (900 + 1)) aY1 Y1, gX3 cy (aL (900 + 2)) aY2 Y2, gX3 cy (aL (900 + 3)) aY3 Y3]
  refine ww_astore_n h dX9_table_15 rfl (by decide) (lo' := [(1, .ref oE), (0, .ref oL)]) rfl 16 rfl ?_
  refine ww_aload_n h dX9_table_16 rfl 0 rfl 17 rfl ?_
  obtain ⟨r_1, E_2, F_3, hu4, hf⟩ := ob3 hf
  refine ww_cVi h (c_X6_readTable l D ev cy oE (rdA (aL 0) oF) RD0 aT T aF F _ hu4) ⟨w_501, w_498, w_499, w_500, w_112, ok_X6_readTable⟩ ⟨by decide, by decide⟩ ⟨by decide, by decide⟩ ⟨rfl, rfl⟩ [0, 1, 5] rfl 0 rfl rfl rfl rfl (Nat.le_of_ble_eq_true rfl) dX9_table_17 20 rfl (Gs' := [gX6 cy oE (rdA (aL 0) oF) E_2, gX0 cy (aL 0) aT T, gX1 cy oF aF F_3, gX9 cy oL aL L, gX4 cy (aL 2) aP P, gX2 cy (aL 4) aH H, gX8 cy (aL 9) aW W, gX1 cy oC aC C, gX3 cy (aL (900 + 0)) aY0 Y0, gX3 cy (aL (900 + 1)) aY1 Y1, gX3 cy (aL (900 + 2)) aY2 Y2, gX3 cy (aL (900 + 3)) aY3 Y3]) rfl ?_
  clear hu4
  refine ww_ist_n h dX9_table_20 rfl (by decide) (fun v2_5 => [(2, .int v2_5), (1, .ref oE), (0, .ref oL)]) (fun _ => rfl) 21 rfl (fun v2_5 e => ?_)
  replace hf := bnd_at e hf
  clear e
  refine ww_aload_n h dX9_table_21 rfl 2 rfl 22 rfl ?_
  refine ww_get h inG9 rfl 3 rfl rfl 0 (by decide) w_413 rfl dX9_table_22 25 rfl ?_
  refine ww_iconst (v := 0) h dX9_table_25 (by decide) 26 rfl ?_
  refine ww_put (ty := .int) h inG0 tyX0_ok nmX0 rfl 1 rfl rfl 1 (by decide) w_141 rfl (by decide +kernel) rfl rfl (Nat.le_of_ble_eq_true rfl) (Nat.le_of_ble_eq_true rfl) dX9_table_26 29 rfl ?_
  refine ww_nm (fun z => [gX6 cy oE (rdA (aL 0) oF) E_2, gX0 cy (aL 0) aT z, gX1 cy oF aF F_3, gX9 cy oL aL L, gX4 cy (aL 2) aP P, gX2 cy (aL 4) aH H, gX8 cy (aL 9) aW W, gX1 cy oC aC C, gX3 cy (aL (900 + 0)) aY0 Y0, gX3 cy (aL (900 + 1)) aY1 Y1, gX3 cy (aL (900 + 2)) aY2 Y2, gX3 cy (aL (900 + 3)) aY3 Y3]) (sI T 1 (0 : Int32)) (fun T_6 e => ?_)
  replace hf := bnd_at e hf
  clear e
  refine ww_iload_n h dX9_table_29 rfl 0 rfl 30 rfl ?_
  refine ww_iconst (v := (-1)) h dX9_table_30 (by decide) 31 rfl ?_
  refine ww_icmp_eq h dX9_table_31 39 (by decide) 34 rfl (fun c => ?_) (fun c => ?_)
  · replace hf := ite_t c hf
    refine ww_aload_n h dX9_table_39 rfl 2 rfl 40 rfl ?_
    refine ww_get h inG9 rfl 3 rfl rfl 10 (by decide) w_423 rfl dX9_table_40 43 rfl ?_
    have hi := (gd_some hf).1
    replace hf := (gd_some hf).2
    refine ww_ref hi ?_
    clear hi
    refine ww_astore_n h dX9_table_43 rfl (by decide) (lo' := [(3, .ref oC), (2, .int v2_5), (1, .ref oE), (0, .ref oL)]) rfl 44 rfl ?_
    refine ww_aload_n h dX9_table_44 rfl 3 rfl 45 rfl ?_
    refine ww_aload_n h dX9_table_45 rfl 3 rfl 46 rfl ?_
    refine ww_get h inG9 rfl 3 rfl rfl 11 (by decide) w_424 rfl dX9_table_46 49 rfl ?_
    have hi := (gd_some hf).1
    replace hf := (gd_some hf).2
    refine ww_ref hi ?_
    clear hi
    refine ww_put (ty := (.object "LineEnds$Classes")) h inG9 tyX9_ok nmX9 rfl 3 rfl rfl 10 (by decide) w_423 rfl (by decide +kernel) rfl rfl (Nat.le_of_ble_eq_true rfl) (Nat.le_of_ble_eq_true rfl) dX9_table_49 52 rfl ?_
    refine ww_nm (fun z => [gX6 cy oE (rdA (aL 0) oF) E_2, gX0 cy (aL 0) aT T_6, gX1 cy oF aF F_3, gX9 cy oL aL z, gX4 cy (aL 2) aP P, gX2 cy (aL 4) aH H, gX8 cy (aL 9) aW W, gX1 cy oC aC C, gX3 cy (aL (900 + 0)) aY0 Y0, gX3 cy (aL (900 + 1)) aY1 Y1, gX3 cy (aL (900 + 2)) aY2 Y2, gX3 cy (aL (900 + 3)) aY3 Y3]) (sN L 10 oF) (fun L_7 e => ?_)
    replace hf := bnd_at e hf
    clear e
    refine ww_aload_n h dX9_table_52 rfl 3 rfl 53 rfl ?_
    refine ww_aload_n h dX9_table_53 rfl 0 rfl 54 rfl ?_
    refine ww_put (ty := (.object "LineEnds$Classes")) h inG9 tyX9_ok nmX9 rfl 3 rfl rfl 11 (by decide) w_424 rfl (by decide +kernel) rfl rfl (Nat.le_of_ble_eq_true rfl) (Nat.le_of_ble_eq_true rfl) dX9_table_54 57 rfl ?_
    refine ww_nm (fun z => [gX6 cy oE (rdA (aL 0) oF) E_2, gX0 cy (aL 0) aT T_6, gX1 cy oF aF F_3, gX9 cy oL aL z, gX4 cy (aL 2) aP P, gX2 cy (aL 4) aH H, gX8 cy (aL 9) aW W, gX1 cy oC aC C, gX3 cy (aL (900 + 0)) aY0 Y0, gX3 cy (aL (900 + 1)) aY1 Y1, gX3 cy (aL (900 + 2)) aY2 Y2, gX3 cy (aL (900 + 3)) aY3 Y3]) (sN L_7 11 oC) (fun L_8 e => ?_)
    replace hf := bnd_at e hf
    clear e
    refine ww_aload_n h dX9_table_57 rfl 3 rfl 58 rfl ?_
    refine ww_get h inG9 rfl 3 rfl rfl 2 (by decide) w_415 rfl dX9_table_58 61 rfl ?_
    refine ww_aload_n h dX9_table_61 rfl 3 rfl 62 rfl ?_
    refine ww_get h inG9 rfl 3 rfl rfl 10 (by decide) w_423 rfl dX9_table_62 65 rfl ?_
    have hi := (gd_some hf).1
    replace hf := (gd_some hf).2
    refine ww_ref hi ?_
    clear hi
    obtain ⟨P_9, hu10, hf⟩ := ob1 hf
    refine ww_cVv h (c_X4_beginTable l D ev cy (aL 2) aP P oF aF F_3 _ hu10) ⟨w_640, w_637, w_638, w_639, w_105, ok_X4_beginTable⟩ ⟨by decide, by decide⟩ ⟨by decide, by decide⟩ ⟨rfl, rfl⟩ [4, 2] rfl 0 rfl rfl rfl rfl (Nat.le_of_ble_eq_true rfl) dX9_table_65 68 rfl (Gs' := [gX4 cy (aL 2) aP P_9, gX1 cy oF aF F_3, gX6 cy oE (rdA (aL 0) oF) E_2, gX0 cy (aL 0) aT T_6, gX9 cy oL aL L_8, gX2 cy (aL 4) aH H, gX8 cy (aL 9) aW W, gX1 cy oC aC C, gX3 cy (aL (900 + 0)) aY0 Y0, gX3 cy (aL (900 + 1)) aY1 Y1, gX3 cy (aL (900 + 2)) aY2 Y2, gX3 cy (aL (900 + 3)) aY3 Y3]) rfl ?_
    clear hu10
    refine ww_aload_n h dX9_table_68 rfl 3 rfl 69 rfl ?_
    refine ww_get h inG9 rfl 4 rfl rfl 4 (by decide) w_417 rfl dX9_table_69 72 rfl ?_
    obtain ⟨H_11, hu12, hf⟩ := ob1 hf
    refine ww_cVv h (c_X2_clear l D ev cy (aL 4) aH H _ hu12) ⟨w_647, w_644, w_645, w_646, w_106, ok_X2_clear⟩ ⟨by decide, by decide⟩ ⟨by decide, by decide⟩ ⟨rfl, rfl⟩ [5] rfl 0 rfl rfl rfl rfl (Nat.le_of_ble_eq_true rfl) dX9_table_72 75 rfl (Gs' := [gX2 cy (aL 4) aH H_11, gX4 cy (aL 2) aP P_9, gX1 cy oF aF F_3, gX6 cy oE (rdA (aL 0) oF) E_2, gX0 cy (aL 0) aT T_6, gX9 cy oL aL L_8, gX8 cy (aL 9) aW W, gX1 cy oC aC C, gX3 cy (aL (900 + 0)) aY0 Y0, gX3 cy (aL (900 + 1)) aY1 Y1, gX3 cy (aL (900 + 2)) aY2 Y2, gX3 cy (aL (900 + 3)) aY3 Y3]) rfl ?_
    clear hu12
    refine ww_aload_n h dX9_table_75 rfl 3 rfl 76 rfl ?_
    obtain ⟨L_13, W_14, Y0_15, Y1_16, Y2_17, Y3_18, hu19, hf⟩ := ob6 hf
    refine ww_cVv h (c_X9_forget l D ev cy oL aL L_8 aW W aY0 Y0 aY1 Y1 aY2 Y2 aY3 Y3 _ hu19) ⟨w_651, w_648, w_650, w_14, w_101, ok_X9_forget⟩ ⟨by decide, by decide⟩ ⟨by decide, by decide⟩ ⟨rfl, rfl⟩ [5, 5, 6, 6, 6, 6] rfl 0 rfl rfl rfl rfl (Nat.le_of_ble_eq_true rfl) dX9_table_76 79 rfl (Gs' := [gX9 cy oL aL L_13, gX8 cy (aL 9) aW W_14, gX3 cy (aL (900 + 0)) aY0 Y0_15, gX3 cy (aL (900 + 1)) aY1 Y1_16, gX3 cy (aL (900 + 2)) aY2 Y2_17, gX3 cy (aL (900 + 3)) aY3 Y3_18, gX2 cy (aL 4) aH H_11, gX4 cy (aL 2) aP P_9, gX1 cy oF aF F_3, gX6 cy oE (rdA (aL 0) oF) E_2, gX0 cy (aL 0) aT T_6, gX1 cy oC aC C]) rfl ?_
    clear hu19
    refine ww_aload_n h dX9_table_79 rfl 3 rfl 80 rfl ?_
    refine ww_get h inG9 rfl 0 rfl rfl 10 (by decide) w_423 rfl dX9_table_80 83 rfl ?_
    have hi := (gd_some hf).1
    replace hf := (gd_some hf).2
    refine ww_ref hi ?_
    clear hi
    refine ww_get h inG1 rfl 8 rfl rfl 5 (by decide) w_175 rfl dX9_table_83 86 rfl ?_
    refine ww_drop [0, 9, 6, 5, 0, 6, 4, 0, 0, 0, 0] (Gs' := [gX9 cy oL aL L_13, gX0 cy (aL 0) aT T_6, gX4 cy (aL 2) aP P_9, gX2 cy (aL 4) aH H_11, gX8 cy (aL 9) aW W_14, gX1 cy oC aC C, gX1 cy oF aF F_3, gX3 cy (aL (900 + 0)) aY0 Y0_15, gX3 cy (aL (900 + 1)) aY1 Y1_16, gX3 cy (aL (900 + 2)) aY2 Y2_17, gX3 cy (aL (900 + 3)) aY3 Y3_18]) rfl ?_
    obtain rfl := Option.some.inj hf
    exact ww_iret h dX9_table_86 hQ ⟨rfl, rfl⟩
  · replace hf := ite_f c hf
    refine ww_bipush (v := (-4)) h dX9_table_34 (by decide) 36 rfl ?_
    refine ww_iload_n h dX9_table_36 rfl 0 rfl 37 rfl ?_
    refine ww_isub h dX9_table_37 38 rfl ?_
    refine ww_drop [3, 1, 2, 2, 2, 2, 1, 1, 1, 1, 1] (Gs' := [gX9 cy oL aL L, gX0 cy (aL 0) aT T_6, gX4 cy (aL 2) aP P, gX2 cy (aL 4) aH H, gX8 cy (aL 9) aW W, gX1 cy oC aC C, gX1 cy oF aF F_3, gX3 cy (aL (900 + 0)) aY0 Y0, gX3 cy (aL (900 + 1)) aY1 Y1, gX3 cy (aL (900 + 2)) aY2 Y2, gX3 cy (aL (900 + 3)) aY3 Y3]) rfl ?_
    obtain rfl := Option.some.inj hf
    exact ww_iret h dX9_table_38 hQ ⟨rfl, rfl⟩
