theorem dX1_has_0 : decode cX1_has 0 = .ok (.iload_n 1, 1) := by decide +kernel
theorem dX1_has_1 : decode cX1_has 1 = .ok (.ifCond .lt 24, 3) := by decide +kernel
theorem dX1_has_4 : decode cX1_has 4 = .ok (.iload_n 1, 1) := by decide +kernel
theorem dX1_has_5 : decode cX1_has 5 = .ok (.bipush 26, 2) := by decide +kernel
theorem dX1_has_7 : decode cX1_has 7 = .ok (.if_icmp .ge 18, 3) := by decide +kernel
theorem dX1_has_10 : decode cX1_has 10 = .ok (.aload_n 0, 1) := by decide +kernel
theorem dX1_has_11 : decode cX1_has 11 = .ok (.getfield 11, 3) := by decide +kernel
theorem dX1_has_14 : decode cX1_has 14 = .ok (.iconst 0, 1) := by decide +kernel
theorem dX1_has_15 : decode cX1_has 15 = .ok (.aaload, 1) := by decide +kernel
theorem dX1_has_16 : decode cX1_has 16 = .ok (.iload_n 1, 1) := by decide +kernel
theorem dX1_has_17 : decode cX1_has 17 = .ok (.iaload, 1) := by decide +kernel
theorem dX1_has_18 : decode cX1_has 18 = .ok (.ifCond .le 7, 3) := by decide +kernel
theorem dX1_has_21 : decode cX1_has 21 = .ok (.iconst 1, 1) := by decide +kernel
theorem dX1_has_22 : decode cX1_has 22 = .ok (.goto 4, 3) := by decide +kernel
theorem dX1_has_25 : decode cX1_has 25 = .ok (.iconst 0, 1) := by decide +kernel
theorem dX1_has_26 : decode cX1_has 26 = .ok (.ireturn, 1) := by decide +kernel
theorem ok_X1_has : okY RX1 yX1_has 1 := ⟨rfl, by decide, by decide, by decide +kernel⟩
def j_X1_has_25_1 : Option (Int32) := some (0 : Int32)
def f_X1_has (C : OV) (p0 : Int32) : Option (Int32) := (if p0 < 0 then j_X1_has_25_1 else (if (26 : Int32) ≤ p0 then j_X1_has_25_1 else gd (ix (0 : Int32) 9) (gd (ix p0 26) ((if (gr C 0 (0 : Int32).toNatClampNeg p0.toNatClampNeg) ≤ 0 then j_X1_has_25_1 else some (1 : Int32))))))
def r_X1_has : Room := { frames := 0, cells := 0, slots := 0, locals := 0 }
set_option maxHeartbeats 4000000 in
set_option maxRecDepth 100000 in
theorem c_X1_has (l : Launch) (D : va_G) (ev : EvT) (cy : Nat → ClassId) (oC : Nat) (aC : Nat → Nat) (C : OV) (p0 : Int32) (o : Int32) (hf : f_X1_has C p0 = some o) : Fn l yX1_has cX1_has 2 (some .boolean) r_X1_has D ev cy [.ref oC, .int p0] [gX1 cy oC aC C] (fun v G => v = some (.int o) ∧ G = [gX1 cy oC aC C]) := by
  refine Fn_of (by decide) (Nat.le_of_ble_eq_true rfl) (fun X A Q h hQ _ => ?_)
  unfold f_X1_has at hf
  show ww X D A 2 Q 0 0 0 [(0, .ref oC), (1, .int p0)] [] [gX1 cy oC aC C]
  refine ww_iload_n h dX1_has_0 rfl 1 rfl 1 rfl ?_
  have hJ25_1 : ∀ (_ : Unit), j_X1_has_25_1 = some o → ww X D A 2 Q 0 0 25 [] [] [gX1 cy oC aC C] := by
    intro _ hf
    unfold j_X1_has_25_1 at hf
    refine ww_iconst (v := 0) h dX1_has_25 (by decide) 26 rfl ?_
    obtain rfl := Option.some.inj hf
    exact ww_zret h (Or.inl rfl) dX1_has_26 hQ ⟨rfl, rfl⟩
  refine ww_if_lt h dX1_has_1 25 (by decide) 4 rfl (fun c => ?_) (fun c => ?_)
  · replace hf := ite_t c hf
    refine ww_lo [] (lo' := []) rfl ?_
    exact hJ25_1 () hf
  · replace hf := ite_f c hf
    refine ww_iload_n h dX1_has_4 rfl 1 rfl 5 rfl ?_
    refine ww_bipush (v := 26) h dX1_has_5 (by decide) 7 rfl ?_
    refine ww_icmp_ge h dX1_has_7 25 (by decide) 10 rfl (fun c => ?_) (fun c => ?_)
    · replace hf := ite_t c hf
      refine ww_lo [] (lo' := []) rfl ?_
      exact hJ25_1 () hf
    · replace hf := ite_f c hf
      refine ww_aload_n h dX1_has_10 rfl 0 rfl 11 rfl ?_
      refine ww_get h inG1 rfl 0 rfl rfl 0 (by decide) w_157 rfl dX1_has_11 14 rfl ?_
      refine ww_iconst (v := 0) h dX1_has_14 (by decide) 15 rfl ?_
      have hi := (gd_some hf).1
      replace hf := (gd_some hf).2
      have hj2 := ix_lt hi
      refine ww_aaldR h 0 rfl 1 rfl 4 rfl rfl (ix_in hi) dX1_has_15 16 rfl ?_
      clear hi
      refine ww_iload_n h dX1_has_16 rfl 1 rfl 17 rfl ?_
      have hi := (gd_some hf).1
      replace hf := (gd_some hf).2
      refine ww_iald h 0 rfl (3 + (0 : Int32).toNatClampNeg) (gX1_row0 hj2) (ix_in hi) dX1_has_17 18 rfl ?_
      clear hi
      refine ww_if_le h dX1_has_18 25 (by decide) 21 rfl (fun c => ?_) (fun c => ?_)
      · replace hf := ite_t c hf
        refine ww_lo [] (lo' := []) rfl ?_
        exact hJ25_1 () hf
      · replace hf := ite_f c hf
        refine ww_iconst (v := 1) h dX1_has_21 (by decide) 22 rfl ?_
        refine ww_goto h dX1_has_22 26 (by decide) ?_
        obtain rfl := Option.some.inj hf
        exact ww_zret h (Or.inr rfl) dX1_has_26 hQ ⟨rfl, rfl⟩
theorem dX1_clear_0 : decode cX1_clear 0 = .ok (.iconst 0, 1) := by decide +kernel
theorem dX1_clear_1 : decode cX1_clear 1 = .ok (.istore_n 1, 1) := by decide +kernel
theorem dX1_clear_2 : decode cX1_clear 2 = .ok (.iload_n 1, 1) := by decide +kernel
theorem dX1_clear_3 : decode cX1_clear 3 = .ok (.bipush 9, 2) := by decide +kernel
theorem dX1_clear_5 : decode cX1_clear 5 = .ok (.if_icmp .ge 19, 3) := by decide +kernel
theorem dX1_clear_8 : decode cX1_clear 8 = .ok (.aload_n 0, 1) := by decide +kernel
theorem dX1_clear_9 : decode cX1_clear 9 = .ok (.getfield 11, 3) := by decide +kernel
theorem dX1_clear_12 : decode cX1_clear 12 = .ok (.iload_n 1, 1) := by decide +kernel
theorem dX1_clear_13 : decode cX1_clear 13 = .ok (.aaload, 1) := by decide +kernel
theorem dX1_clear_14 : decode cX1_clear 14 = .ok (.iconst 0, 1) := by decide +kernel
theorem dX1_clear_15 : decode cX1_clear 15 = .ok (.invokestatic 20, 3) := by decide +kernel
theorem dX1_clear_18 : decode cX1_clear 18 = .ok (.iinc 1 1, 3) := by decide +kernel
theorem dX1_clear_21 : decode cX1_clear 21 = .ok (.goto (-19), 3) := by decide +kernel
theorem dX1_clear_24 : decode cX1_clear 24 = .ok (.aload_n 0, 1) := by decide +kernel
theorem dX1_clear_25 : decode cX1_clear 25 = .ok (.getfield 11, 3) := by decide +kernel
theorem dX1_clear_28 : decode cX1_clear 28 = .ok (.bipush 6, 2) := by decide +kernel
theorem dX1_clear_30 : decode cX1_clear 30 = .ok (.aaload, 1) := by decide +kernel
theorem dX1_clear_31 : decode cX1_clear 31 = .ok (.iconst 1, 1) := by decide +kernel
theorem dX1_clear_32 : decode cX1_clear 32 = .ok (.invokestatic 20, 3) := by decide +kernel
theorem dX1_clear_35 : decode cX1_clear 35 = .ok (.aload_n 0, 1) := by decide +kernel
theorem dX1_clear_36 : decode cX1_clear 36 = .ok (.getfield 11, 3) := by decide +kernel
theorem dX1_clear_39 : decode cX1_clear 39 = .ok (.bipush 8, 2) := by decide +kernel
theorem dX1_clear_41 : decode cX1_clear 41 = .ok (.aaload, 1) := by decide +kernel
theorem dX1_clear_42 : decode cX1_clear 42 = .ok (.iconst 1, 1) := by decide +kernel
theorem dX1_clear_43 : decode cX1_clear 43 = .ok (.invokestatic 20, 3) := by decide +kernel
theorem dX1_clear_46 : decode cX1_clear 46 = .ok (.aload_n 0, 1) := by decide +kernel
theorem dX1_clear_47 : decode cX1_clear 47 = .ok (.getfield 16, 3) := by decide +kernel
theorem dX1_clear_50 : decode cX1_clear 50 = .ok (.iconst 0, 1) := by decide +kernel
theorem dX1_clear_51 : decode cX1_clear 51 = .ok (.invokestatic 20, 3) := by decide +kernel
theorem dX1_clear_54 : decode cX1_clear 54 = .ok (.aload_n 0, 1) := by decide +kernel
theorem dX1_clear_55 : decode cX1_clear 55 = .ok (.iconst 0, 1) := by decide +kernel
theorem dX1_clear_56 : decode cX1_clear 56 = .ok (.putfield 26, 3) := by decide +kernel
theorem dX1_clear_59 : decode cX1_clear 59 = .ok (.aload_n 0, 1) := by decide +kernel
theorem dX1_clear_60 : decode cX1_clear 60 = .ok (.iconst 0, 1) := by decide +kernel
theorem dX1_clear_61 : decode cX1_clear 61 = .ok (.putfield 30, 3) := by decide +kernel
theorem dX1_clear_64 : decode cX1_clear 64 = .ok (.aload_n 0, 1) := by decide +kernel
theorem dX1_clear_65 : decode cX1_clear 65 = .ok (.iconst 0, 1) := by decide +kernel
theorem dX1_clear_66 : decode cX1_clear 66 = .ok (.putfield 33, 3) := by decide +kernel
theorem dX1_clear_69 : decode cX1_clear 69 = .ok (.aload_n 0, 1) := by decide +kernel
theorem dX1_clear_70 : decode cX1_clear 70 = .ok (.iconst 0, 1) := by decide +kernel
theorem dX1_clear_71 : decode cX1_clear 71 = .ok (.putfield 36, 3) := by decide +kernel
theorem dX1_clear_74 : decode cX1_clear 74 = .ok (.return_, 1) := by decide +kernel
theorem ok_X1_clear : okY RX1 yX1_clear 0 := ⟨rfl, by decide, by decide, by decide +kernel⟩
def s_X1_clear_2_2 : (Int32 × OV) → Option ((Int32 × OV) ⊕ (OV)) := un2 (fun v1_3 C_4 => (if (9 : Int32) ≤ v1_3 then some (.inr C_4) else gd (ix v1_3 9) (bnd (sH C_4 0 v1_3.toNatClampNeg (fillF 26 (0 : Int32) (gr C_4 0 v1_3.toNatClampNeg))) (fun C_6 => bnd (v1_3 + 1) (fun v1_7 => some (.inl (v1_7, C_6)))))))
def f_X1_clear (C : OV) : Option (OV) := bnd (0 : Int32) (fun v1_1 => ((lp (s_X1_clear_2_2) 5000 (v1_1, C)).bind (un1 (fun C_8 => gd (ix (6 : Int32) 9) (bnd (sH C_8 0 (6 : Int32).toNatClampNeg (fillF 26 (1 : Int32) (gr C_8 0 (6 : Int32).toNatClampNeg))) (fun C_10 => gd (ix (8 : Int32) 9) (bnd (sH C_10 0 (8 : Int32).toNatClampNeg (fillF 26 (1 : Int32) (gr C_10 0 (8 : Int32).toNatClampNeg))) (fun C_12 => bnd (sW C_12 1 (fillF 26 (0 : Int32) (ar C_12 1))) (fun C_13 => bnd (sI C_13 2 (0 : Int32)) (fun C_14 => bnd (sI C_14 3 (0 : Int32)) (fun C_15 => bnd (sI C_15 4 (0 : Int32)) (fun C_16 => bnd (sI C_16 5 (0 : Int32)) (fun C_17 => some C_17)))))))))))))
def r_X1_clear : Room := { frames := 1, cells := 0, slots := 0, locals := 23 }
set_option maxHeartbeats 4000000 in
set_option maxRecDepth 100000 in
theorem c_X1_clear (l : Launch) (D : va_G) (ev : EvT) (cy : Nat → ClassId) (oC : Nat) (aC : Nat → Nat) (C : OV) (o : OV) (hf : f_X1_clear C = some o) : Fn l yX1_clear cX1_clear 2 none r_X1_clear D ev cy [.ref oC] [gX1 cy oC aC C] (fun v G => v = none ∧ G = [gX1 cy oC aC o]) := by
  refine Fn_of (by decide) (Nat.le_of_ble_eq_true rfl) (fun X A Q h hQ _ => ?_)
  unfold f_X1_clear at hf
  show ww X D A 2 Q 0 0 0 [(0, .ref oC)] [] [gX1 cy oC aC C]
  refine ww_iconst (v := 0) h dX1_clear_0 (by decide) 1 rfl ?_
  refine ww_ist_n h dX1_clear_1 rfl (by decide) (fun v1_1 => [(1, .int v1_1), (0, .ref oC)]) (fun _ => rfl) 2 rfl (fun v1_1 e => ?_)
  replace hf := bnd_at e hf
  clear e
  refine ww_lo [1, 0] (lo' := [(0, .ref oC), (1, .int v1_1)]) rfl ?_
  obtain ⟨C_8, h2, hf⟩ := ob1 hf
  refine lp_walk (un2 (fun v1_3 C_4 => ww X D A 2 Q 0 0 2 [(0, .ref oC), (1, .int v1_3)] [] [gX1 cy oC aC C_4])) (un1 (fun C_8 => ww X D A 2 Q 0 0 24 [(0, .ref oC)] [] [gX1 cy oC aC C_8])) ?_ _ _ _ h2 ?_
  · clear h2 hf
    intro s2 o2 hf hI2 hE2
    obtain ⟨v1_3, C_4⟩ := s2
    unfold s_X1_clear_2_2 at hf
    replace hf := un2_e hf
    show ww X D A 2 Q 0 0 2 [(0, .ref oC), (1, .int v1_3)] [] [gX1 cy oC aC C_4]
    refine ww_iload_n h dX1_clear_2 rfl 1 rfl 3 rfl ?_
    refine ww_bipush (v := 9) h dX1_clear_3 (by decide) 5 rfl ?_
    refine ww_icmp_ge h dX1_clear_5 24 (by decide) 8 rfl (fun c => ?_) (fun c => ?_)
    · replace hf := ite_t c hf
      refine ww_lo [0] (lo' := [(0, .ref oC)]) rfl ?_
      exact hE2 C_4 (Option.some.inj hf).symm
    · replace hf := ite_f c hf
      refine ww_aload_n h dX1_clear_8 rfl 0 rfl 9 rfl ?_
      refine ww_get h inG1 rfl 0 rfl rfl 0 (by decide) w_157 rfl dX1_clear_9 12 rfl ?_
      refine ww_iload_n h dX1_clear_12 rfl 1 rfl 13 rfl ?_
      have hi := (gd_some hf).1
      replace hf := (gd_some hf).2
      have hj5 := ix_lt hi
      refine ww_aaldR h 0 rfl 1 rfl 4 rfl rfl (ix_in hi) dX1_clear_13 14 rfl ?_
      clear hi
      refine ww_iconst (v := 0) h dX1_clear_14 (by decide) 15 rfl ?_
      refine ww_onCell h (c_fill l D ev cy (aC (100 + v1_3.toNatClampNeg)) 26 (gr C_4 0 v1_3.toNatClampNeg) (0 : Int32) (by decide)) ⟨w_508, w_506, w_507, w_113, ok_fill⟩ ⟨by decide, by decide⟩ ⟨by decide, by decide⟩ ⟨rfl, rfl⟩ 0 (3 + v1_3.toNatClampNeg) rfl (gX1_row0 hj5) rfl (Nat.le_of_ble_eq_true rfl) dX1_clear_15 18 rfl (gX1_setH0 hj5) (Gs' := [gX1 cy oC aC (sH C_4 0 v1_3.toNatClampNeg (fillF 26 (0 : Int32) (gr C_4 0 v1_3.toNatClampNeg)))]) rfl ?_
      refine ww_nm (fun z => [gX1 cy oC aC z]) (sH C_4 0 v1_3.toNatClampNeg (fillF 26 (0 : Int32) (gr C_4 0 v1_3.toNatClampNeg))) (fun C_6 e => ?_)
      replace hf := bnd_at e hf
      clear e
      refine ww_inc (c := 1) h dX1_clear_18 1 rfl (by decide) (by decide) (fun v1_7 => [(1, .int v1_7), (0, .ref oC)]) (fun _ => rfl) 21 rfl (fun v1_7 e => ?_)
      replace hf := bnd_at e hf
      clear e
      refine ww_goto h dX1_clear_21 2 (by decide) ?_
      refine ww_lo [1, 0] (lo' := [(0, .ref oC), (1, .int v1_7)]) rfl ?_
      exact hI2 (v1_7, C_6) (Option.some.inj hf).symm
  · clear h2
    show ww X D A 2 Q 0 0 24 [(0, .ref oC)] [] [gX1 cy oC aC C_8]
    refine ww_aload_n h dX1_clear_24 rfl 0 rfl 25 rfl ?_
    refine ww_get h inG1 rfl 0 rfl rfl 0 (by decide) w_157 rfl dX1_clear_25 28 rfl ?_
    refine ww_bipush (v := 6) h dX1_clear_28 (by decide) 30 rfl ?_
    have hi := (gd_some hf).1
    replace hf := (gd_some hf).2
    have hj9 := ix_lt hi
    refine ww_aaldR h 0 rfl 1 rfl 4 rfl rfl (ix_in hi) dX1_clear_30 31 rfl ?_
    clear hi
    refine ww_iconst (v := 1) h dX1_clear_31 (by decide) 32 rfl ?_
    refine ww_onCell h (c_fill l D ev cy (aC (100 + (6 : Int32).toNatClampNeg)) 26 (gr C_8 0 (6 : Int32).toNatClampNeg) (1 : Int32) (by decide)) ⟨w_508, w_506, w_507, w_113, ok_fill⟩ ⟨by decide, by decide⟩ ⟨by decide, by decide⟩ ⟨rfl, rfl⟩ 0 (3 + (6 : Int32).toNatClampNeg) rfl (gX1_row0 hj9) rfl (Nat.le_of_ble_eq_true rfl) dX1_clear_32 35 rfl (gX1_setH0 hj9) (Gs' := [gX1 cy oC aC (sH C_8 0 (6 : Int32).toNatClampNeg (fillF 26 (1 : Int32) (gr C_8 0 (6 : Int32).toNatClampNeg)))]) rfl ?_
    refine ww_nm (fun z => [gX1 cy oC aC z]) (sH C_8 0 (6 : Int32).toNatClampNeg (fillF 26 (1 : Int32) (gr C_8 0 (6 : Int32).toNatClampNeg))) (fun C_10 e => ?_)
    replace hf := bnd_at e hf
    clear e
    refine ww_aload_n h dX1_clear_35 rfl 0 rfl 36 rfl ?_
    refine ww_get h inG1 rfl 0 rfl rfl 0 (by decide) w_157 rfl dX1_clear_36 39 rfl ?_
    refine ww_bipush (v := 8) h dX1_clear_39 (by decide) 41 rfl ?_
    have hi := (gd_some hf).1
    replace hf := (gd_some hf).2
    have hj11 := ix_lt hi
    refine ww_aaldR h 0 rfl 1 rfl 4 rfl rfl (ix_in hi) dX1_clear_41 42 rfl ?_
    clear hi
    refine ww_iconst (v := 1) h dX1_clear_42 (by decide) 43 rfl ?_
    refine ww_onCell h (c_fill l D ev cy (aC (100 + (8 : Int32).toNatClampNeg)) 26 (gr C_10 0 (8 : Int32).toNatClampNeg) (1 : Int32) (by decide)) ⟨w_508, w_506, w_507, w_113, ok_fill⟩ ⟨by decide, by decide⟩ ⟨by decide, by decide⟩ ⟨rfl, rfl⟩ 0 (3 + (8 : Int32).toNatClampNeg) rfl (gX1_row0 hj11) rfl (Nat.le_of_ble_eq_true rfl) dX1_clear_43 46 rfl (gX1_setH0 hj11) (Gs' := [gX1 cy oC aC (sH C_10 0 (8 : Int32).toNatClampNeg (fillF 26 (1 : Int32) (gr C_10 0 (8 : Int32).toNatClampNeg)))]) rfl ?_
    refine ww_nm (fun z => [gX1 cy oC aC z]) (sH C_10 0 (8 : Int32).toNatClampNeg (fillF 26 (1 : Int32) (gr C_10 0 (8 : Int32).toNatClampNeg))) (fun C_12 e => ?_)
    replace hf := bnd_at e hf
    clear e
    refine ww_aload_n h dX1_clear_46 rfl 0 rfl 47 rfl ?_
    refine ww_get h inG1 rfl 0 rfl rfl 1 (by decide) w_161 rfl dX1_clear_47 50 rfl ?_
    refine ww_iconst (v := 0) h dX1_clear_50 (by decide) 51 rfl ?_
    refine ww_onCell h (c_fill l D ev cy (aC 1) 26 (ar C_12 1) (0 : Int32) (by decide)) ⟨w_508, w_506, w_507, w_113, ok_fill⟩ ⟨by decide, by decide⟩ ⟨by decide, by decide⟩ ⟨rfl, rfl⟩ 0 2 rfl rfl rfl (Nat.le_of_ble_eq_true rfl) dX1_clear_51 54 rfl rfl (Gs' := [gX1 cy oC aC (sW C_12 1 (fillF 26 (0 : Int32) (ar C_12 1)))]) rfl ?_
    refine ww_nm (fun z => [gX1 cy oC aC z]) (sW C_12 1 (fillF 26 (0 : Int32) (ar C_12 1))) (fun C_13 e => ?_)
    replace hf := bnd_at e hf
    clear e
    refine ww_aload_n h dX1_clear_54 rfl 0 rfl 55 rfl ?_
    refine ww_iconst (v := 0) h dX1_clear_55 (by decide) 56 rfl ?_
    refine ww_put (ty := .int) h inG1 tyX1_ok nmX1 rfl 0 rfl rfl 2 (by decide) w_165 rfl (by decide +kernel) rfl rfl (Nat.le_of_ble_eq_true rfl) (Nat.le_of_ble_eq_true rfl) dX1_clear_56 59 rfl ?_
    refine ww_nm (fun z => [gX1 cy oC aC z]) (sI C_13 2 (0 : Int32)) (fun C_14 e => ?_)
    replace hf := bnd_at e hf
    clear e
    refine ww_aload_n h dX1_clear_59 rfl 0 rfl 60 rfl ?_
    refine ww_iconst (v := 0) h dX1_clear_60 (by decide) 61 rfl ?_
    refine ww_put (ty := .int) h inG1 tyX1_ok nmX1 rfl 0 rfl rfl 3 (by decide) w_168 rfl (by decide +kernel) rfl rfl (Nat.le_of_ble_eq_true rfl) (Nat.le_of_ble_eq_true rfl) dX1_clear_61 64 rfl ?_
    refine ww_nm (fun z => [gX1 cy oC aC z]) (sI C_14 3 (0 : Int32)) (fun C_15 e => ?_)
    replace hf := bnd_at e hf
    clear e
    refine ww_aload_n h dX1_clear_64 rfl 0 rfl 65 rfl ?_
    refine ww_iconst (v := 0) h dX1_clear_65 (by decide) 66 rfl ?_
    refine ww_put (ty := .int) h inG1 tyX1_ok nmX1 rfl 0 rfl rfl 4 (by decide) w_171 rfl (by decide +kernel) rfl rfl (Nat.le_of_ble_eq_true rfl) (Nat.le_of_ble_eq_true rfl) dX1_clear_66 69 rfl ?_
    refine ww_nm (fun z => [gX1 cy oC aC z]) (sI C_15 4 (0 : Int32)) (fun C_16 e => ?_)
    replace hf := bnd_at e hf
    clear e
    refine ww_aload_n h dX1_clear_69 rfl 0 rfl 70 rfl ?_
    refine ww_iconst (v := 0) h dX1_clear_70 (by decide) 71 rfl ?_
    refine ww_put (ty := .int) h inG1 tyX1_ok nmX1 rfl 0 rfl rfl 5 (by decide) w_174 rfl (by decide +kernel) rfl rfl (Nat.le_of_ble_eq_true rfl) (Nat.le_of_ble_eq_true rfl) dX1_clear_71 74 rfl ?_
    refine ww_nm (fun z => [gX1 cy oC aC z]) (sI C_16 5 (0 : Int32)) (fun C_17 e => ?_)
    replace hf := bnd_at e hf
    clear e
    obtain rfl := Option.some.inj hf
    exact ww_vret h dX1_clear_74 hQ ⟨rfl, rfl⟩
theorem dX4_copyFrom_0 : decode cX4_copyFrom 0 = .ok (.aload_n 1, 1) := by decide +kernel
theorem dX4_copyFrom_1 : decode cX4_copyFrom 1 = .ok (.getfield 9, 3) := by decide +kernel
theorem dX4_copyFrom_4 : decode cX4_copyFrom 4 = .ok (.iconst 0, 1) := by decide +kernel
theorem dX4_copyFrom_5 : decode cX4_copyFrom 5 = .ok (.aload_n 0, 1) := by decide +kernel
theorem dX4_copyFrom_6 : decode cX4_copyFrom 6 = .ok (.getfield 9, 3) := by decide +kernel
theorem dX4_copyFrom_9 : decode cX4_copyFrom 9 = .ok (.iconst 0, 1) := by decide +kernel
theorem dX4_copyFrom_10 : decode cX4_copyFrom 10 = .ok (.bipush 40, 2) := by decide +kernel
theorem dX4_copyFrom_12 : decode cX4_copyFrom 12 = .ok (.invokestatic 28, 3) := by decide +kernel
theorem dX4_copyFrom_15 : decode cX4_copyFrom 15 = .ok (.aload_n 1, 1) := by decide +kernel
theorem dX4_copyFrom_16 : decode cX4_copyFrom 16 = .ok (.getfield 15, 3) := by decide +kernel
theorem dX4_copyFrom_19 : decode cX4_copyFrom 19 = .ok (.iconst 0, 1) := by decide +kernel
theorem dX4_copyFrom_20 : decode cX4_copyFrom 20 = .ok (.aload_n 0, 1) := by decide +kernel
theorem dX4_copyFrom_21 : decode cX4_copyFrom 21 = .ok (.getfield 15, 3) := by decide +kernel
theorem dX4_copyFrom_24 : decode cX4_copyFrom 24 = .ok (.iconst 0, 1) := by decide +kernel
theorem dX4_copyFrom_25 : decode cX4_copyFrom 25 = .ok (.bipush 40, 2) := by decide +kernel
theorem dX4_copyFrom_27 : decode cX4_copyFrom 27 = .ok (.invokestatic 28, 3) := by decide +kernel
theorem dX4_copyFrom_30 : decode cX4_copyFrom 30 = .ok (.aload_n 1, 1) := by decide +kernel
theorem dX4_copyFrom_31 : decode cX4_copyFrom 31 = .ok (.getfield 18, 3) := by decide +kernel
theorem dX4_copyFrom_34 : decode cX4_copyFrom 34 = .ok (.iconst 0, 1) := by decide +kernel
theorem dX4_copyFrom_35 : decode cX4_copyFrom 35 = .ok (.aload_n 0, 1) := by decide +kernel
theorem dX4_copyFrom_36 : decode cX4_copyFrom 36 = .ok (.getfield 18, 3) := by decide +kernel
theorem dX4_copyFrom_39 : decode cX4_copyFrom 39 = .ok (.iconst 0, 1) := by decide +kernel
theorem dX4_copyFrom_40 : decode cX4_copyFrom 40 = .ok (.bipush 26, 2) := by decide +kernel
theorem dX4_copyFrom_42 : decode cX4_copyFrom 42 = .ok (.invokestatic 28, 3) := by decide +kernel
theorem dX4_copyFrom_45 : decode cX4_copyFrom 45 = .ok (.aload_n 1, 1) := by decide +kernel
theorem dX4_copyFrom_46 : decode cX4_copyFrom 46 = .ok (.getfield 21, 3) := by decide +kernel
theorem dX4_copyFrom_49 : decode cX4_copyFrom 49 = .ok (.iconst 0, 1) := by decide +kernel
theorem dX4_copyFrom_50 : decode cX4_copyFrom 50 = .ok (.aload_n 0, 1) := by decide +kernel
theorem dX4_copyFrom_51 : decode cX4_copyFrom 51 = .ok (.getfield 21, 3) := by decide +kernel
theorem dX4_copyFrom_54 : decode cX4_copyFrom 54 = .ok (.iconst 0, 1) := by decide +kernel
theorem dX4_copyFrom_55 : decode cX4_copyFrom 55 = .ok (.iconst 3, 1) := by decide +kernel
theorem dX4_copyFrom_56 : decode cX4_copyFrom 56 = .ok (.invokestatic 28, 3) := by decide +kernel
theorem dX4_copyFrom_59 : decode cX4_copyFrom 59 = .ok (.aload_n 0, 1) := by decide +kernel
theorem dX4_copyFrom_60 : decode cX4_copyFrom 60 = .ok (.aload_n 1, 1) := by decide +kernel
theorem dX4_copyFrom_61 : decode cX4_copyFrom 61 = .ok (.getfield 34, 3) := by decide +kernel
theorem dX4_copyFrom_64 : decode cX4_copyFrom 64 = .ok (.putfield 34, 3) := by decide +kernel
theorem dX4_copyFrom_67 : decode cX4_copyFrom 67 = .ok (.aload_n 0, 1) := by decide +kernel
theorem dX4_copyFrom_68 : decode cX4_copyFrom 68 = .ok (.aload_n 1, 1) := by decide +kernel
theorem dX4_copyFrom_69 : decode cX4_copyFrom 69 = .ok (.getfield 24, 3) := by decide +kernel
theorem dX4_copyFrom_72 : decode cX4_copyFrom 72 = .ok (.putfield 24, 3) := by decide +kernel
theorem dX4_copyFrom_75 : decode cX4_copyFrom 75 = .ok (.aload_n 0, 1) := by decide +kernel
theorem dX4_copyFrom_76 : decode cX4_copyFrom 76 = .ok (.aload_n 1, 1) := by decide +kernel
theorem dX4_copyFrom_77 : decode cX4_copyFrom 77 = .ok (.getfield 37, 3) := by decide +kernel
theorem dX4_copyFrom_80 : decode cX4_copyFrom 80 = .ok (.putfield 37, 3) := by decide +kernel
theorem dX4_copyFrom_83 : decode cX4_copyFrom 83 = .ok (.aload_n 0, 1) := by decide +kernel
theorem dX4_copyFrom_84 : decode cX4_copyFrom 84 = .ok (.aload_n 1, 1) := by decide +kernel
theorem dX4_copyFrom_85 : decode cX4_copyFrom 85 = .ok (.getfield 40, 3) := by decide +kernel
theorem dX4_copyFrom_88 : decode cX4_copyFrom 88 = .ok (.putfield 40, 3) := by decide +kernel
theorem dX4_copyFrom_91 : decode cX4_copyFrom 91 = .ok (.aload_n 0, 1) := by decide +kernel
theorem dX4_copyFrom_92 : decode cX4_copyFrom 92 = .ok (.aload_n 1, 1) := by decide +kernel
theorem dX4_copyFrom_93 : decode cX4_copyFrom 93 = .ok (.getfield 43, 3) := by decide +kernel
theorem dX4_copyFrom_96 : decode cX4_copyFrom 96 = .ok (.putfield 43, 3) := by decide +kernel
theorem dX4_copyFrom_99 : decode cX4_copyFrom 99 = .ok (.return_, 1) := by decide +kernel
theorem ok_X4_copyFrom : okY RX4 yX4_copyFrom 1 := ⟨rfl, by decide, by decide, by decide +kernel⟩
def f_X4_copyFrom (P : OV) (O : OV) : Option (OV) := bnd (sW P 0 (va_cpy (ar O 0) (ar P 0) (0 : Int32).toNatClampNeg (0 : Int32).toNatClampNeg (40 : Int32).toNatClampNeg)) (fun P_1 => bnd (sW P_1 1 (va_cpy (ar O 1) (ar P_1 1) (0 : Int32).toNatClampNeg (0 : Int32).toNatClampNeg (40 : Int32).toNatClampNeg)) (fun P_2 => bnd (sW P_2 2 (va_cpy (ar O 2) (ar P_2 2) (0 : Int32).toNatClampNeg (0 : Int32).toNatClampNeg (26 : Int32).toNatClampNeg)) (fun P_3 => bnd (sW P_3 3 (va_cpy (ar O 3) (ar P_3 3) (0 : Int32).toNatClampNeg (0 : Int32).toNatClampNeg (3 : Int32).toNatClampNeg)) (fun P_4 => bnd (sI P_4 4 (iv O 4)) (fun P_5 => bnd (sI P_5 5 (iv O 5)) (fun P_6 => bnd (sI P_6 6 (iv O 6)) (fun P_7 => bnd (sI P_7 7 (iv O 7)) (fun P_8 => bnd (sI P_8 8 (iv O 8)) (fun P_9 => some P_9)))))))))
def r_X4_copyFrom : Room := { frames := 1, cells := 0, slots := 0, locals := 26 }
set_option maxHeartbeats 4000000 in
set_option maxRecDepth 100000 in
theorem c_X4_copyFrom (l : Launch) (D : va_G) (ev : EvT) (cy : Nat → ClassId) (oP : Nat) (aP : Nat → Nat) (P : OV) (oO : Nat) (aO : Nat → Nat) (O : OV) (o : OV) (hf : f_X4_copyFrom P O = some o) : Fn l yX4_copyFrom cX4_copyFrom 2 none r_X4_copyFrom D ev cy [.ref oP, .ref oO] [gX4 cy oP aP P, gX4 cy oO aO O] (fun v G => v = none ∧ G = [gX4 cy oP aP o, gX4 cy oO aO O]) := by
  refine Fn_of (by decide) (Nat.le_of_ble_eq_true rfl) (fun X A Q h hQ _ => ?_)
  unfold f_X4_copyFrom at hf
  show ww X D A 2 Q 0 0 0 [(0, .ref oP), (1, .ref oO)] [] [gX4 cy oP aP P, gX4 cy oO aO O]
  refine ww_aload_n h dX4_copyFrom_0 rfl 1 rfl 1 rfl ?_
  refine ww_get h inG4 rfl 1 rfl rfl 0 (by decide) w_195 rfl dX4_copyFrom_1 4 rfl ?_
  refine ww_iconst (v := 0) h dX4_copyFrom_4 (by decide) 5 rfl ?_
  refine ww_aload_n h dX4_copyFrom_5 rfl 0 rfl 6 rfl ?_
  refine ww_get h inG4 rfl 0 rfl rfl 0 (by decide) w_195 rfl dX4_copyFrom_6 9 rfl ?_
  refine ww_iconst (v := 0) h dX4_copyFrom_9 (by decide) 10 rfl ?_
  refine ww_bipush (v := 40) h dX4_copyFrom_10 (by decide) 12 rfl ?_
  refine ww_acopy h w_641 w_643 w_642 w_118 1 1 0 1 rfl rfl rfl rfl (by decide) (by decide) (by decide) (by decide) (by decide) ⟨by decide, by decide⟩ dX4_copyFrom_12 15 rfl (Gs' := [gX4 cy oP aP (sW P 0 (va_cpy (ar O 0) (ar P 0) (0 : Int32).toNatClampNeg (0 : Int32).toNatClampNeg (40 : Int32).toNatClampNeg)), gX4 cy oO aO O]) rfl ?_
  refine ww_nm (fun z => [gX4 cy oP aP z, gX4 cy oO aO O]) (sW P 0 (va_cpy (ar O 0) (ar P 0) (0 : Int32).toNatClampNeg (0 : Int32).toNatClampNeg (40 : Int32).toNatClampNeg)) (fun P_1 e => ?_)
  replace hf := bnd_at e hf
  clear e
  refine ww_aload_n h dX4_copyFrom_15 rfl 1 rfl 16 rfl ?_
  refine ww_get h inG4 rfl 1 rfl rfl 1 (by decide) w_198 rfl dX4_copyFrom_16 19 rfl ?_
  refine ww_iconst (v := 0) h dX4_copyFrom_19 (by decide) 20 rfl ?_
  refine ww_aload_n h dX4_copyFrom_20 rfl 0 rfl 21 rfl ?_
  refine ww_get h inG4 rfl 0 rfl rfl 1 (by decide) w_198 rfl dX4_copyFrom_21 24 rfl ?_
  refine ww_iconst (v := 0) h dX4_copyFrom_24 (by decide) 25 rfl ?_
  refine ww_bipush (v := 40) h dX4_copyFrom_25 (by decide) 27 rfl ?_
  refine ww_acopy h w_641 w_643 w_642 w_118 1 2 0 2 rfl rfl rfl rfl (by decide) (by decide) (by decide) (by decide) (by decide) ⟨by decide, by decide⟩ dX4_copyFrom_27 30 rfl (Gs' := [gX4 cy oP aP (sW P_1 1 (va_cpy (ar O 1) (ar P_1 1) (0 : Int32).toNatClampNeg (0 : Int32).toNatClampNeg (40 : Int32).toNatClampNeg)), gX4 cy oO aO O]) rfl ?_
  refine ww_nm (fun z => [gX4 cy oP aP z, gX4 cy oO aO O]) (sW P_1 1 (va_cpy (ar O 1) (ar P_1 1) (0 : Int32).toNatClampNeg (0 : Int32).toNatClampNeg (40 : Int32).toNatClampNeg)) (fun P_2 e => ?_)
  replace hf := bnd_at e hf
  clear e
  refine ww_aload_n h dX4_copyFrom_30 rfl 1 rfl 31 rfl ?_
  refine ww_get h inG4 rfl 1 rfl rfl 2 (by decide) w_202 rfl dX4_copyFrom_31 34 rfl ?_
  refine ww_iconst (v := 0) h dX4_copyFrom_34 (by decide) 35 rfl ?_
  refine ww_aload_n h dX4_copyFrom_35 rfl 0 rfl 36 rfl ?_
  refine ww_get h inG4 rfl 0 rfl rfl 2 (by decide) w_202 rfl dX4_copyFrom_36 39 rfl ?_
  refine ww_iconst (v := 0) h dX4_copyFrom_39 (by decide) 40 rfl ?_
  refine ww_bipush (v := 26) h dX4_copyFrom_40 (by decide) 42 rfl ?_
  refine ww_acopy h w_641 w_643 w_642 w_118 1 3 0 3 rfl rfl rfl rfl (by decide) (by decide) (by decide) (by decide) (by decide) ⟨by decide, by decide⟩ dX4_copyFrom_42 45 rfl (Gs' := [gX4 cy oP aP (sW P_2 2 (va_cpy (ar O 2) (ar P_2 2) (0 : Int32).toNatClampNeg (0 : Int32).toNatClampNeg (26 : Int32).toNatClampNeg)), gX4 cy oO aO O]) rfl ?_
  refine ww_nm (fun z => [gX4 cy oP aP z, gX4 cy oO aO O]) (sW P_2 2 (va_cpy (ar O 2) (ar P_2 2) (0 : Int32).toNatClampNeg (0 : Int32).toNatClampNeg (26 : Int32).toNatClampNeg)) (fun P_3 e => ?_)
  replace hf := bnd_at e hf
  clear e
  refine ww_aload_n h dX4_copyFrom_45 rfl 1 rfl 46 rfl ?_
  refine ww_get h inG4 rfl 1 rfl rfl 3 (by decide) w_204 rfl dX4_copyFrom_46 49 rfl ?_
  refine ww_iconst (v := 0) h dX4_copyFrom_49 (by decide) 50 rfl ?_
  refine ww_aload_n h dX4_copyFrom_50 rfl 0 rfl 51 rfl ?_
  refine ww_get h inG4 rfl 0 rfl rfl 3 (by decide) w_204 rfl dX4_copyFrom_51 54 rfl ?_
  refine ww_iconst (v := 0) h dX4_copyFrom_54 (by decide) 55 rfl ?_
  refine ww_iconst (v := 3) h dX4_copyFrom_55 (by decide) 56 rfl ?_
  refine ww_acopy h w_641 w_643 w_642 w_118 1 4 0 4 rfl rfl rfl rfl (by decide) (by decide) (by decide) (by decide) (by decide) ⟨by decide, by decide⟩ dX4_copyFrom_56 59 rfl (Gs' := [gX4 cy oP aP (sW P_3 3 (va_cpy (ar O 3) (ar P_3 3) (0 : Int32).toNatClampNeg (0 : Int32).toNatClampNeg (3 : Int32).toNatClampNeg)), gX4 cy oO aO O]) rfl ?_
  refine ww_nm (fun z => [gX4 cy oP aP z, gX4 cy oO aO O]) (sW P_3 3 (va_cpy (ar O 3) (ar P_3 3) (0 : Int32).toNatClampNeg (0 : Int32).toNatClampNeg (3 : Int32).toNatClampNeg)) (fun P_4 e => ?_)
  replace hf := bnd_at e hf
  clear e
  refine ww_aload_n h dX4_copyFrom_59 rfl 0 rfl 60 rfl ?_
  refine ww_aload_n h dX4_copyFrom_60 rfl 1 rfl 61 rfl ?_
  refine ww_get h inG4 rfl 1 rfl rfl 4 (by decide) w_208 rfl dX4_copyFrom_61 64 rfl ?_
  refine ww_put (ty := .int) h inG4 tyX4_ok nmX4 rfl 0 rfl rfl 4 (by decide) w_208 rfl (by decide +kernel) rfl rfl (Nat.le_of_ble_eq_true rfl) (Nat.le_of_ble_eq_true rfl) dX4_copyFrom_64 67 rfl ?_
  refine ww_nm (fun z => [gX4 cy oP aP z, gX4 cy oO aO O]) (sI P_4 4 (iv O 4)) (fun P_5 e => ?_)
  replace hf := bnd_at e hf
  clear e
  refine ww_aload_n h dX4_copyFrom_67 rfl 0 rfl 68 rfl ?_
  refine ww_aload_n h dX4_copyFrom_68 rfl 1 rfl 69 rfl ?_
  refine ww_get h inG4 rfl 1 rfl rfl 5 (by decide) w_210 rfl dX4_copyFrom_69 72 rfl ?_
  refine ww_put (ty := .int) h inG4 tyX4_ok nmX4 rfl 0 rfl rfl 5 (by decide) w_210 rfl (by decide +kernel) rfl rfl (Nat.le_of_ble_eq_true rfl) (Nat.le_of_ble_eq_true rfl) dX4_copyFrom_72 75 rfl ?_
  refine ww_nm (fun z => [gX4 cy oP aP z, gX4 cy oO aO O]) (sI P_5 5 (iv O 5)) (fun P_6 e => ?_)
  replace hf := bnd_at e hf
  clear e
  refine ww_aload_n h dX4_copyFrom_75 rfl 0 rfl 76 rfl ?_
  refine ww_aload_n h dX4_copyFrom_76 rfl 1 rfl 77 rfl ?_
  refine ww_get h inG4 rfl 1 rfl rfl 6 (by decide) w_213 rfl dX4_copyFrom_77 80 rfl ?_
  refine ww_put (ty := .int) h inG4 tyX4_ok nmX4 rfl 0 rfl rfl 6 (by decide) w_213 rfl (by decide +kernel) rfl rfl (Nat.le_of_ble_eq_true rfl) (Nat.le_of_ble_eq_true rfl) dX4_copyFrom_80 83 rfl ?_
  refine ww_nm (fun z => [gX4 cy oP aP z, gX4 cy oO aO O]) (sI P_6 6 (iv O 6)) (fun P_7 e => ?_)
  replace hf := bnd_at e hf
  clear e
  refine ww_aload_n h dX4_copyFrom_83 rfl 0 rfl 84 rfl ?_
  refine ww_aload_n h dX4_copyFrom_84 rfl 1 rfl 85 rfl ?_
  refine ww_get h inG4 rfl 1 rfl rfl 7 (by decide) w_215 rfl dX4_copyFrom_85 88 rfl ?_
  refine ww_put (ty := .int) h inG4 tyX4_ok nmX4 rfl 0 rfl rfl 7 (by decide) w_215 rfl (by decide +kernel) rfl rfl (Nat.le_of_ble_eq_true rfl) (Nat.le_of_ble_eq_true rfl) dX4_copyFrom_88 91 rfl ?_
  refine ww_nm (fun z => [gX4 cy oP aP z, gX4 cy oO aO O]) (sI P_7 7 (iv O 7)) (fun P_8 e => ?_)
  replace hf := bnd_at e hf
  clear e
  refine ww_aload_n h dX4_copyFrom_91 rfl 0 rfl 92 rfl ?_
  refine ww_aload_n h dX4_copyFrom_92 rfl 1 rfl 93 rfl ?_
  refine ww_get h inG4 rfl 1 rfl rfl 8 (by decide) w_217 rfl dX4_copyFrom_93 96 rfl ?_
  refine ww_put (ty := .int) h inG4 tyX4_ok nmX4 rfl 0 rfl rfl 8 (by decide) w_217 rfl (by decide +kernel) rfl rfl (Nat.le_of_ble_eq_true rfl) (Nat.le_of_ble_eq_true rfl) dX4_copyFrom_96 99 rfl ?_
  refine ww_nm (fun z => [gX4 cy oP aP z, gX4 cy oO aO O]) (sI P_8 8 (iv O 8)) (fun P_9 e => ?_)
  replace hf := bnd_at e hf
  clear e
  obtain rfl := Option.some.inj hf
  exact ww_vret h dX4_copyFrom_99 hQ ⟨rfl, rfl⟩
theorem dX4_beginTable_0 : decode cX4_beginTable 0 = .ok (.aload_n 1, 1) := by decide +kernel
theorem dX4_beginTable_1 : decode cX4_beginTable 1 = .ok (.getfield 46, 3) := by decide +kernel
theorem dX4_beginTable_4 : decode cX4_beginTable 4 = .ok (.iconst 0, 1) := by decide +kernel
theorem dX4_beginTable_5 : decode cX4_beginTable 5 = .ok (.aload_n 0, 1) := by decide +kernel
theorem dX4_beginTable_6 : decode cX4_beginTable 6 = .ok (.getfield 18, 3) := by decide +kernel
theorem dX4_beginTable_9 : decode cX4_beginTable 9 = .ok (.iconst 0, 1) := by decide +kernel
theorem dX4_beginTable_10 : decode cX4_beginTable 10 = .ok (.bipush 26, 2) := by decide +kernel
theorem dX4_beginTable_12 : decode cX4_beginTable 12 = .ok (.invokestatic 28, 3) := by decide +kernel
theorem dX4_beginTable_15 : decode cX4_beginTable 15 = .ok (.aload_n 0, 1) := by decide +kernel
theorem dX4_beginTable_16 : decode cX4_beginTable 16 = .ok (.aload_n 1, 1) := by decide +kernel
theorem dX4_beginTable_17 : decode cX4_beginTable 17 = .ok (.getfield 49, 3) := by decide +kernel
theorem dX4_beginTable_20 : decode cX4_beginTable 20 = .ok (.putfield 37, 3) := by decide +kernel
theorem dX4_beginTable_23 : decode cX4_beginTable 23 = .ok (.aload_n 0, 1) := by decide +kernel
theorem dX4_beginTable_24 : decode cX4_beginTable 24 = .ok (.aload_n 1, 1) := by decide +kernel
theorem dX4_beginTable_25 : decode cX4_beginTable 25 = .ok (.getfield 50, 3) := by decide +kernel
theorem dX4_beginTable_28 : decode cX4_beginTable 28 = .ok (.putfield 40, 3) := by decide +kernel
theorem dX4_beginTable_31 : decode cX4_beginTable 31 = .ok (.aload_n 0, 1) := by decide +kernel
theorem dX4_beginTable_32 : decode cX4_beginTable 32 = .ok (.aload_n 1, 1) := by decide +kernel
theorem dX4_beginTable_33 : decode cX4_beginTable 33 = .ok (.getfield 51, 3) := by decide +kernel
theorem dX4_beginTable_36 : decode cX4_beginTable 36 = .ok (.putfield 43, 3) := by decide +kernel
theorem dX4_beginTable_39 : decode cX4_beginTable 39 = .ok (.aload_n 0, 1) := by decide +kernel
theorem dX4_beginTable_40 : decode cX4_beginTable 40 = .ok (.iconst 0, 1) := by decide +kernel
theorem dX4_beginTable_41 : decode cX4_beginTable 41 = .ok (.putfield 34, 3) := by decide +kernel
theorem dX4_beginTable_44 : decode cX4_beginTable 44 = .ok (.return_, 1) := by decide +kernel
theorem ok_X4_beginTable : okY RX4 yX4_beginTable 1 := ⟨rfl, by decide, by decide, by decide +kernel⟩
def f_X4_beginTable (P : OV) (C : OV) : Option (OV) := bnd (sW P 2 (va_cpy (ar C 1) (ar P 2) (0 : Int32).toNatClampNeg (0 : Int32).toNatClampNeg (26 : Int32).toNatClampNeg)) (fun P_1 => bnd (sI P_1 6 (iv C 2)) (fun P_2 => bnd (sI P_2 7 (iv C 3)) (fun P_3 => bnd (sI P_3 8 (iv C 4)) (fun P_4 => bnd (sI P_4 4 (0 : Int32)) (fun P_5 => some P_5)))))
def r_X4_beginTable : Room := { frames := 1, cells := 0, slots := 0, locals := 26 }
set_option maxHeartbeats 4000000 in
set_option maxRecDepth 100000 in
theorem c_X4_beginTable (l : Launch) (D : va_G) (ev : EvT) (cy : Nat → ClassId) (oP : Nat) (aP : Nat → Nat) (P : OV) (oC : Nat) (aC : Nat → Nat) (C : OV) (o : OV) (hf : f_X4_beginTable P C = some o) : Fn l yX4_beginTable cX4_beginTable 2 none r_X4_beginTable D ev cy [.ref oP, .ref oC] [gX4 cy oP aP P, gX1 cy oC aC C] (fun v G => v = none ∧ G = [gX4 cy oP aP o, gX1 cy oC aC C]) := by
  refine Fn_of (by decide) (Nat.le_of_ble_eq_true rfl) (fun X A Q h hQ _ => ?_)
  unfold f_X4_beginTable at hf
  show ww X D A 2 Q 0 0 0 [(0, .ref oP), (1, .ref oC)] [] [gX4 cy oP aP P, gX1 cy oC aC C]
  refine ww_aload_n h dX4_beginTable_0 rfl 1 rfl 1 rfl ?_
  refine ww_get h inG1 rfl 1 rfl rfl 1 (by decide) w_162 rfl dX4_beginTable_1 4 rfl ?_
  refine ww_iconst (v := 0) h dX4_beginTable_4 (by decide) 5 rfl ?_
  refine ww_aload_n h dX4_beginTable_5 rfl 0 rfl 6 rfl ?_
  refine ww_get h inG4 rfl 0 rfl rfl 2 (by decide) w_202 rfl dX4_beginTable_6 9 rfl ?_
  refine ww_iconst (v := 0) h dX4_beginTable_9 (by decide) 10 rfl ?_
  refine ww_bipush (v := 26) h dX4_beginTable_10 (by decide) 12 rfl ?_
  refine ww_acopy h w_641 w_643 w_642 w_118 1 2 0 3 rfl rfl rfl rfl (by decide) (by decide) (by decide) (by decide) (by decide) ⟨by decide, by decide⟩ dX4_beginTable_12 15 rfl (Gs' := [gX4 cy oP aP (sW P 2 (va_cpy (ar C 1) (ar P 2) (0 : Int32).toNatClampNeg (0 : Int32).toNatClampNeg (26 : Int32).toNatClampNeg)), gX1 cy oC aC C]) rfl ?_
  refine ww_nm (fun z => [gX4 cy oP aP z, gX1 cy oC aC C]) (sW P 2 (va_cpy (ar C 1) (ar P 2) (0 : Int32).toNatClampNeg (0 : Int32).toNatClampNeg (26 : Int32).toNatClampNeg)) (fun P_1 e => ?_)
  replace hf := bnd_at e hf
  clear e
  refine ww_aload_n h dX4_beginTable_15 rfl 0 rfl 16 rfl ?_
  refine ww_aload_n h dX4_beginTable_16 rfl 1 rfl 17 rfl ?_
  refine ww_get h inG1 rfl 1 rfl rfl 2 (by decide) w_164 rfl dX4_beginTable_17 20 rfl ?_
  refine ww_put (ty := .int) h inG4 tyX4_ok nmX4 rfl 0 rfl rfl 6 (by decide) w_213 rfl (by decide +kernel) rfl rfl (Nat.le_of_ble_eq_true rfl) (Nat.le_of_ble_eq_true rfl) dX4_beginTable_20 23 rfl ?_
  refine ww_nm (fun z => [gX4 cy oP aP z, gX1 cy oC aC C]) (sI P_1 6 (iv C 2)) (fun P_2 e => ?_)
  replace hf := bnd_at e hf
  clear e
  refine ww_aload_n h dX4_beginTable_23 rfl 0 rfl 24 rfl ?_
  refine ww_aload_n h dX4_beginTable_24 rfl 1 rfl 25 rfl ?_
  refine ww_get h inG1 rfl 1 rfl rfl 3 (by decide) w_167 rfl dX4_beginTable_25 28 rfl ?_
  refine ww_put (ty := .int) h inG4 tyX4_ok nmX4 rfl 0 rfl rfl 7 (by decide) w_215 rfl (by decide +kernel) rfl rfl (Nat.le_of_ble_eq_true rfl) (Nat.le_of_ble_eq_true rfl) dX4_beginTable_28 31 rfl ?_
  refine ww_nm (fun z => [gX4 cy oP aP z, gX1 cy oC aC C]) (sI P_2 7 (iv C 3)) (fun P_3 e => ?_)
  replace hf := bnd_at e hf
  clear e
  refine ww_aload_n h dX4_beginTable_31 rfl 0 rfl 32 rfl ?_
  refine ww_aload_n h dX4_beginTable_32 rfl 1 rfl 33 rfl ?_
  refine ww_get h inG1 rfl 1 rfl rfl 4 (by decide) w_170 rfl dX4_beginTable_33 36 rfl ?_
  refine ww_put (ty := .int) h inG4 tyX4_ok nmX4 rfl 0 rfl rfl 8 (by decide) w_217 rfl (by decide +kernel) rfl rfl (Nat.le_of_ble_eq_true rfl) (Nat.le_of_ble_eq_true rfl) dX4_beginTable_36 39 rfl ?_
  refine ww_nm (fun z => [gX4 cy oP aP z, gX1 cy oC aC C]) (sI P_3 8 (iv C 4)) (fun P_4 e => ?_)
  replace hf := bnd_at e hf
  clear e
  refine ww_aload_n h dX4_beginTable_39 rfl 0 rfl 40 rfl ?_
  refine ww_iconst (v := 0) h dX4_beginTable_40 (by decide) 41 rfl ?_
  refine ww_put (ty := .int) h inG4 tyX4_ok nmX4 rfl 0 rfl rfl 4 (by decide) w_208 rfl (by decide +kernel) rfl rfl (Nat.le_of_ble_eq_true rfl) (Nat.le_of_ble_eq_true rfl) dX4_beginTable_41 44 rfl ?_
  refine ww_nm (fun z => [gX4 cy oP aP z, gX1 cy oC aC C]) (sI P_4 4 (0 : Int32)) (fun P_5 e => ?_)
  replace hf := bnd_at e hf
  clear e
  obtain rfl := Option.some.inj hf
  exact ww_vret h dX4_beginTable_44 hQ ⟨rfl, rfl⟩
theorem dX4_has_0 : decode cX4_has 0 = .ok (.iload_n 1, 1) := by decide +kernel
theorem dX4_has_1 : decode cX4_has 1 = .ok (.ifCond .lt 15, 3) := by decide +kernel
theorem dX4_has_4 : decode cX4_has 4 = .ok (.iload_n 1, 1) := by decide +kernel
theorem dX4_has_5 : decode cX4_has 5 = .ok (.aload_n 0, 1) := by decide +kernel
theorem dX4_has_6 : decode cX4_has 6 = .ok (.getfield 34, 3) := by decide +kernel
theorem dX4_has_9 : decode cX4_has 9 = .ok (.if_icmp .ge 7, 3) := by decide +kernel
theorem dX4_has_12 : decode cX4_has 12 = .ok (.iconst 1, 1) := by decide +kernel
theorem dX4_has_13 : decode cX4_has 13 = .ok (.goto 4, 3) := by decide +kernel
theorem dX4_has_16 : decode cX4_has 16 = .ok (.iconst 0, 1) := by decide +kernel
theorem dX4_has_17 : decode cX4_has 17 = .ok (.ireturn, 1) := by decide +kernel
theorem ok_X4_has : okY RX4 yX4_has 1 := ⟨rfl, by decide, by decide, by decide +kernel⟩
def j_X4_has_16_1 : Option (Int32) := some (0 : Int32)
def f_X4_has (P : OV) (p0 : Int32) : Option (Int32) := (if p0 < 0 then j_X4_has_16_1 else (if (iv P 4) ≤ p0 then j_X4_has_16_1 else some (1 : Int32)))
def r_X4_has : Room := { frames := 0, cells := 0, slots := 0, locals := 0 }
set_option maxHeartbeats 4000000 in
set_option maxRecDepth 100000 in
theorem c_X4_has (l : Launch) (D : va_G) (ev : EvT) (cy : Nat → ClassId) (oP : Nat) (aP : Nat → Nat) (P : OV) (p0 : Int32) (o : Int32) (hf : f_X4_has P p0 = some o) : Fn l yX4_has cX4_has 2 (some .boolean) r_X4_has D ev cy [.ref oP, .int p0] [gX4 cy oP aP P] (fun v G => v = some (.int o) ∧ G = [gX4 cy oP aP P]) := by
  refine Fn_of (by decide) (Nat.le_of_ble_eq_true rfl) (fun X A Q h hQ _ => ?_)
  unfold f_X4_has at hf
  show ww X D A 2 Q 0 0 0 [(0, .ref oP), (1, .int p0)] [] [gX4 cy oP aP P]
  refine ww_iload_n h dX4_has_0 rfl 1 rfl 1 rfl ?_
  have hJ16_1 : ∀ (_ : Unit), j_X4_has_16_1 = some o → ww X D A 2 Q 0 0 16 [] [] [gX4 cy oP aP P] := by
    intro _ hf
    unfold j_X4_has_16_1 at hf
    refine ww_iconst (v := 0) h dX4_has_16 (by decide) 17 rfl ?_
    obtain rfl := Option.some.inj hf
    exact ww_zret h (Or.inl rfl) dX4_has_17 hQ ⟨rfl, rfl⟩
  refine ww_if_lt h dX4_has_1 16 (by decide) 4 rfl (fun c => ?_) (fun c => ?_)
  · replace hf := ite_t c hf
    refine ww_lo [] (lo' := []) rfl ?_
    exact hJ16_1 () hf
  · replace hf := ite_f c hf
    refine ww_iload_n h dX4_has_4 rfl 1 rfl 5 rfl ?_
    refine ww_aload_n h dX4_has_5 rfl 0 rfl 6 rfl ?_
    refine ww_get h inG4 rfl 0 rfl rfl 4 (by decide) w_208 rfl dX4_has_6 9 rfl ?_
    refine ww_icmp_ge h dX4_has_9 16 (by decide) 12 rfl (fun c => ?_) (fun c => ?_)
    · replace hf := ite_t c hf
      refine ww_lo [] (lo' := []) rfl ?_
      exact hJ16_1 () hf
    · replace hf := ite_f c hf
      refine ww_iconst (v := 1) h dX4_has_12 (by decide) 13 rfl ?_
      refine ww_goto h dX4_has_13 17 (by decide) ?_
      obtain rfl := Option.some.inj hf
      exact ww_zret h (Or.inr rfl) dX4_has_17 hQ ⟨rfl, rfl⟩
theorem dX4_hasRun_0 : decode cX4_hasRun 0 = .ok (.aload_n 0, 1) := by decide +kernel
theorem dX4_hasRun_1 : decode cX4_hasRun 1 = .ok (.iload_n 1, 1) := by decide +kernel
theorem dX4_hasRun_2 : decode cX4_hasRun 2 = .ok (.invokevirtual 52, 3) := by decide +kernel
theorem dX4_hasRun_5 : decode cX4_hasRun 5 = .ok (.ifCond .eq 22, 3) := by decide +kernel
theorem dX4_hasRun_8 : decode cX4_hasRun 8 = .ok (.iload_n 2, 1) := by decide +kernel
theorem dX4_hasRun_9 : decode cX4_hasRun 9 = .ok (.iconst 1, 1) := by decide +kernel
theorem dX4_hasRun_10 : decode cX4_hasRun 10 = .ok (.if_icmp .lt 17, 3) := by decide +kernel
theorem dX4_hasRun_13 : decode cX4_hasRun 13 = .ok (.iload_n 2, 1) := by decide +kernel
theorem dX4_hasRun_14 : decode cX4_hasRun 14 = .ok (.aload_n 0, 1) := by decide +kernel
theorem dX4_hasRun_15 : decode cX4_hasRun 15 = .ok (.getfield 34, 3) := by decide +kernel
theorem dX4_hasRun_18 : decode cX4_hasRun 18 = .ok (.iload_n 1, 1) := by decide +kernel
theorem dX4_hasRun_19 : decode cX4_hasRun 19 = .ok (.isub, 1) := by decide +kernel
theorem dX4_hasRun_20 : decode cX4_hasRun 20 = .ok (.if_icmp .gt 7, 3) := by decide +kernel
theorem dX4_hasRun_23 : decode cX4_hasRun 23 = .ok (.iconst 1, 1) := by decide +kernel
theorem dX4_hasRun_24 : decode cX4_hasRun 24 = .ok (.goto 4, 3) := by decide +kernel
theorem dX4_hasRun_27 : decode cX4_hasRun 27 = .ok (.iconst 0, 1) := by decide +kernel
theorem dX4_hasRun_28 : decode cX4_hasRun 28 = .ok (.ireturn, 1) := by decide +kernel
theorem ok_X4_hasRun : okY RX4 yX4_hasRun 2 := ⟨rfl, by decide, by decide, by decide +kernel⟩
def j_X4_hasRun_27_3 : Option (Int32) := some (0 : Int32)
def f_X4_hasRun (P : OV) (p0 : Int32) (p1 : Int32) : Option (Int32) := (f_X4_has P p0).bind (un1 (fun r_1 => (if r_1 = 0 then j_X4_hasRun_27_3 else (if p1 < (1 : Int32) then j_X4_hasRun_27_3 else (if ((iv P 4) - p0) < p1 then j_X4_hasRun_27_3 else some (1 : Int32))))))
def r_X4_hasRun : Room := { frames := 1, cells := 0, slots := 0, locals := 21 }
set_option maxHeartbeats 4000000 in
set_option maxRecDepth 100000 in
theorem c_X4_hasRun (l : Launch) (D : va_G) (ev : EvT) (cy : Nat → ClassId) (oP : Nat) (aP : Nat → Nat) (P : OV) (p0 : Int32) (p1 : Int32) (o : Int32) (hf : f_X4_hasRun P p0 p1 = some o) : Fn l yX4_hasRun cX4_hasRun 3 (some .boolean) r_X4_hasRun D ev cy [.ref oP, .int p0, .int p1] [gX4 cy oP aP P] (fun v G => v = some (.int o) ∧ G = [gX4 cy oP aP P]) := by
  refine Fn_of (by decide) (Nat.le_of_ble_eq_true rfl) (fun X A Q h hQ _ => ?_)
  unfold f_X4_hasRun at hf
  show ww X D A 3 Q 0 0 0 [(0, .ref oP), (1, .int p0), (2, .int p1)] [] [gX4 cy oP aP P]
  refine ww_aload_n h dX4_hasRun_0 rfl 0 rfl 1 rfl ?_
  refine ww_iload_n h dX4_hasRun_1 rfl 1 rfl 2 rfl ?_
  obtain ⟨r_1, hu2, hf⟩ := ob1 hf
  refine ww_cVi h (c_X4_has l D ev cy oP aP P p0 _ hu2) ⟨w_694, w_691, w_692, w_693, w_105, ok_X4_has⟩ ⟨by decide, by decide⟩ ⟨by decide, by decide⟩ ⟨rfl, rfl⟩ [0] rfl 0 rfl rfl rfl rfl (Nat.le_of_ble_eq_true rfl) dX4_hasRun_2 5 rfl (Gs' := [gX4 cy oP aP P]) rfl ?_
  clear hu2
  have hJ27_3 : ∀ (_ : Unit), j_X4_hasRun_27_3 = some o → ww X D A 3 Q 0 0 27 [] [] [gX4 cy oP aP P] := by
    intro _ hf
    unfold j_X4_hasRun_27_3 at hf
    refine ww_iconst (v := 0) h dX4_hasRun_27 (by decide) 28 rfl ?_
    obtain rfl := Option.some.inj hf
    exact ww_zret h (Or.inl rfl) dX4_hasRun_28 hQ ⟨rfl, rfl⟩
  refine ww_if_eq h dX4_hasRun_5 27 (by decide) 8 rfl (fun c => ?_) (fun c => ?_)
  · replace hf := ite_t c hf
    refine ww_lo [] (lo' := []) rfl ?_
    exact hJ27_3 () hf
  · replace hf := ite_f c hf
    refine ww_iload_n h dX4_hasRun_8 rfl 2 rfl 9 rfl ?_
    refine ww_iconst (v := 1) h dX4_hasRun_9 (by decide) 10 rfl ?_
    refine ww_icmp_lt h dX4_hasRun_10 27 (by decide) 13 rfl (fun c => ?_) (fun c => ?_)
    · replace hf := ite_t c hf
      refine ww_lo [] (lo' := []) rfl ?_
      exact hJ27_3 () hf
    · replace hf := ite_f c hf
      refine ww_iload_n h dX4_hasRun_13 rfl 2 rfl 14 rfl ?_
      refine ww_aload_n h dX4_hasRun_14 rfl 0 rfl 15 rfl ?_
      refine ww_get h inG4 rfl 0 rfl rfl 4 (by decide) w_208 rfl dX4_hasRun_15 18 rfl ?_
      refine ww_iload_n h dX4_hasRun_18 rfl 1 rfl 19 rfl ?_
      refine ww_isub h dX4_hasRun_19 20 rfl ?_
      refine ww_icmp_gt h dX4_hasRun_20 27 (by decide) 23 rfl (fun c => ?_) (fun c => ?_)
      · replace hf := ite_t c hf
        refine ww_lo [] (lo' := []) rfl ?_
        exact hJ27_3 () hf
      · replace hf := ite_f c hf
        refine ww_iconst (v := 1) h dX4_hasRun_23 (by decide) 24 rfl ?_
        refine ww_goto h dX4_hasRun_24 28 (by decide) ?_
        obtain rfl := Option.some.inj hf
        exact ww_zret h (Or.inr rfl) dX4_hasRun_28 hQ ⟨rfl, rfl⟩
theorem dX4_putIn_0 : decode cX4_putIn 0 = .ok (.iload_n 1, 1) := by decide +kernel
theorem dX4_putIn_1 : decode cX4_putIn 1 = .ok (.ifCond .lt 20, 3) := by decide +kernel
theorem dX4_putIn_4 : decode cX4_putIn 4 = .ok (.iload_n 1, 1) := by decide +kernel
theorem dX4_putIn_5 : decode cX4_putIn 5 = .ok (.aload_n 0, 1) := by decide +kernel
theorem dX4_putIn_6 : decode cX4_putIn 6 = .ok (.getfield 34, 3) := by decide +kernel
theorem dX4_putIn_9 : decode cX4_putIn 9 = .ok (.if_icmp .gt 12, 3) := by decide +kernel
theorem dX4_putIn_12 : decode cX4_putIn 12 = .ok (.aload_n 0, 1) := by decide +kernel
theorem dX4_putIn_13 : decode cX4_putIn 13 = .ok (.getfield 34, 3) := by decide +kernel
theorem dX4_putIn_16 : decode cX4_putIn 16 = .ok (.bipush 40, 2) := by decide +kernel
theorem dX4_putIn_18 : decode cX4_putIn 18 = .ok (.if_icmp .lt 4, 3) := by decide +kernel
theorem dX4_putIn_21 : decode cX4_putIn 21 = .ok (.return_, 1) := by decide +kernel
theorem dX4_putIn_22 : decode cX4_putIn 22 = .ok (.aload_n 0, 1) := by decide +kernel
theorem dX4_putIn_23 : decode cX4_putIn 23 = .ok (.getfield 34, 3) := by decide +kernel
theorem dX4_putIn_26 : decode cX4_putIn 26 = .ok (.istore_n 3, 1) := by decide +kernel
theorem dX4_putIn_27 : decode cX4_putIn 27 = .ok (.iload_n 3, 1) := by decide +kernel
theorem dX4_putIn_28 : decode cX4_putIn 28 = .ok (.iload_n 1, 1) := by decide +kernel
theorem dX4_putIn_29 : decode cX4_putIn 29 = .ok (.if_icmp .le 37, 3) := by decide +kernel
theorem dX4_putIn_32 : decode cX4_putIn 32 = .ok (.aload_n 0, 1) := by decide +kernel
theorem dX4_putIn_33 : decode cX4_putIn 33 = .ok (.getfield 9, 3) := by decide +kernel
theorem dX4_putIn_36 : decode cX4_putIn 36 = .ok (.iload_n 3, 1) := by decide +kernel
theorem dX4_putIn_37 : decode cX4_putIn 37 = .ok (.aload_n 0, 1) := by decide +kernel
theorem dX4_putIn_38 : decode cX4_putIn 38 = .ok (.getfield 9, 3) := by decide +kernel
theorem dX4_putIn_41 : decode cX4_putIn 41 = .ok (.iload_n 3, 1) := by decide +kernel
theorem dX4_putIn_42 : decode cX4_putIn 42 = .ok (.iconst 1, 1) := by decide +kernel
theorem dX4_putIn_43 : decode cX4_putIn 43 = .ok (.isub, 1) := by decide +kernel
theorem dX4_putIn_44 : decode cX4_putIn 44 = .ok (.iaload, 1) := by decide +kernel
theorem dX4_putIn_45 : decode cX4_putIn 45 = .ok (.iastore, 1) := by decide +kernel
theorem dX4_putIn_46 : decode cX4_putIn 46 = .ok (.aload_n 0, 1) := by decide +kernel
theorem dX4_putIn_47 : decode cX4_putIn 47 = .ok (.getfield 15, 3) := by decide +kernel
theorem dX4_putIn_50 : decode cX4_putIn 50 = .ok (.iload_n 3, 1) := by decide +kernel
theorem dX4_putIn_51 : decode cX4_putIn 51 = .ok (.aload_n 0, 1) := by decide +kernel
theorem dX4_putIn_52 : decode cX4_putIn 52 = .ok (.getfield 15, 3) := by decide +kernel
theorem dX4_putIn_55 : decode cX4_putIn 55 = .ok (.iload_n 3, 1) := by decide +kernel
theorem dX4_putIn_56 : decode cX4_putIn 56 = .ok (.iconst 1, 1) := by decide +kernel
theorem dX4_putIn_57 : decode cX4_putIn 57 = .ok (.isub, 1) := by decide +kernel
theorem dX4_putIn_58 : decode cX4_putIn 58 = .ok (.iaload, 1) := by decide +kernel
theorem dX4_putIn_59 : decode cX4_putIn 59 = .ok (.iastore, 1) := by decide +kernel
theorem dX4_putIn_60 : decode cX4_putIn 60 = .ok (.iinc 3 (-1), 3) := by decide +kernel
theorem dX4_putIn_63 : decode cX4_putIn 63 = .ok (.goto (-36), 3) := by decide +kernel
theorem dX4_putIn_66 : decode cX4_putIn 66 = .ok (.aload_n 0, 1) := by decide +kernel
theorem dX4_putIn_67 : decode cX4_putIn 67 = .ok (.getfield 9, 3) := by decide +kernel
theorem dX4_putIn_70 : decode cX4_putIn 70 = .ok (.iload_n 1, 1) := by decide +kernel
theorem dX4_putIn_71 : decode cX4_putIn 71 = .ok (.iload_n 2, 1) := by decide +kernel
theorem dX4_putIn_72 : decode cX4_putIn 72 = .ok (.iastore, 1) := by decide +kernel
theorem dX4_putIn_73 : decode cX4_putIn 73 = .ok (.aload_n 0, 1) := by decide +kernel
theorem dX4_putIn_74 : decode cX4_putIn 74 = .ok (.getfield 15, 3) := by decide +kernel
theorem dX4_putIn_77 : decode cX4_putIn 77 = .ok (.iload_n 1, 1) := by decide +kernel
theorem dX4_putIn_78 : decode cX4_putIn 78 = .ok (.iconst 0, 1) := by decide +kernel
theorem dX4_putIn_79 : decode cX4_putIn 79 = .ok (.iastore, 1) := by decide +kernel
theorem dX4_putIn_80 : decode cX4_putIn 80 = .ok (.aload_n 0, 1) := by decide +kernel
theorem dX4_putIn_81 : decode cX4_putIn 81 = .ok (.dup, 1) := by decide +kernel
theorem dX4_putIn_82 : decode cX4_putIn 82 = .ok (.getfield 34, 3) := by decide +kernel
theorem dX4_putIn_85 : decode cX4_putIn 85 = .ok (.iconst 1, 1) := by decide +kernel
theorem dX4_putIn_86 : decode cX4_putIn 86 = .ok (.iadd, 1) := by decide +kernel
theorem dX4_putIn_87 : decode cX4_putIn 87 = .ok (.putfield 34, 3) := by decide +kernel
theorem dX4_putIn_90 : decode cX4_putIn 90 = .ok (.return_, 1) := by decide +kernel
theorem ok_X4_putIn : okY RX4 yX4_putIn 2 := ⟨rfl, by decide, by decide, by decide +kernel⟩
def s_X4_putIn_27_2 (p0 : Int32) : (Int32 × OV) → Option ((Int32 × OV) ⊕ (OV)) := un2 (fun v3_3 P_4 => (if v3_3 ≤ p0 then some (.inr P_4) else gd (ix (v3_3 - (1 : Int32)) 40) (gd (ix v3_3 40) (bnd (sA P_4 0 v3_3.toNatClampNeg (ar P_4 0 (v3_3 - (1 : Int32)).toNatClampNeg)) (fun P_5 => gd (ix (v3_3 - (1 : Int32)) 40) (gd (ix v3_3 40) (bnd (sA P_5 1 v3_3.toNatClampNeg (ar P_5 1 (v3_3 - (1 : Int32)).toNatClampNeg)) (fun P_6 => bnd (v3_3 + (-1)) (fun v3_7 => some (.inl (v3_7, P_6)))))))))))
def f_X4_putIn (P : OV) (p0 : Int32) (p1 : Int32) : Option (OV) := (if p0 < 0 then some P else (if (iv P 4) < p0 then some P else (if (iv P 4) < (40 : Int32) then bnd (iv P 4) (fun v3_1 => ((lp (s_X4_putIn_27_2 p0) 5000 (v3_1, P)).bind (un1 (fun P_8 => gd (ix p0 40) (bnd (sA P_8 0 p0.toNatClampNeg p1) (fun P_9 => gd (ix p0 40) (bnd (sA P_9 1 p0.toNatClampNeg (0 : Int32)) (fun P_10 => bnd (sI P_10 4 ((iv P_10 4) + (1 : Int32))) (fun P_11 => some P_11))))))))) else some P)))
def r_X4_putIn : Room := { frames := 0, cells := 0, slots := 0, locals := 0 }
set_option maxHeartbeats 4000000 in
set_option maxRecDepth 100000 in
theorem c_X4_putIn (l : Launch) (D : va_G) (ev : EvT) (cy : Nat → ClassId) (oP : Nat) (aP : Nat → Nat) (P : OV) (p0 : Int32) (p1 : Int32) (o : OV) (hf : f_X4_putIn P p0 p1 = some o) : Fn l yX4_putIn cX4_putIn 4 none r_X4_putIn D ev cy [.ref oP, .int p0, .int p1] [gX4 cy oP aP P] (fun v G => v = none ∧ G = [gX4 cy oP aP o]) := by
  refine Fn_of (by decide) (Nat.le_of_ble_eq_true rfl) (fun X A Q h hQ _ => ?_)
  unfold f_X4_putIn at hf
  show ww X D A 4 Q 0 0 0 [(0, .ref oP), (1, .int p0), (2, .int p1)] [] [gX4 cy oP aP P]
  refine ww_iload_n h dX4_putIn_0 rfl 1 rfl 1 rfl ?_
  refine ww_if_lt h dX4_putIn_1 21 (by decide) 4 rfl (fun c => ?_) (fun c => ?_)
  · replace hf := ite_t c hf
    obtain rfl := Option.some.inj hf
    exact ww_vret h dX4_putIn_21 hQ ⟨rfl, rfl⟩
  · replace hf := ite_f c hf
    refine ww_iload_n h dX4_putIn_4 rfl 1 rfl 5 rfl ?_
    refine ww_aload_n h dX4_putIn_5 rfl 0 rfl 6 rfl ?_
    refine ww_get h inG4 rfl 0 rfl rfl 4 (by decide) w_208 rfl dX4_putIn_6 9 rfl ?_
    refine ww_icmp_gt h dX4_putIn_9 21 (by decide) 12 rfl (fun c => ?_) (fun c => ?_)
    · replace hf := ite_t c hf
      obtain rfl := Option.some.inj hf
      exact ww_vret h dX4_putIn_21 hQ ⟨rfl, rfl⟩
    · replace hf := ite_f c hf
      refine ww_aload_n h dX4_putIn_12 rfl 0 rfl 13 rfl ?_
      refine ww_get h inG4 rfl 0 rfl rfl 4 (by decide) w_208 rfl dX4_putIn_13 16 rfl ?_
      refine ww_bipush (v := 40) h dX4_putIn_16 (by decide) 18 rfl ?_
      refine ww_icmp_lt h dX4_putIn_18 22 (by decide) 21 rfl (fun c => ?_) (fun c => ?_)
      · replace hf := ite_t c hf
        refine ww_aload_n h dX4_putIn_22 rfl 0 rfl 23 rfl ?_
        refine ww_get h inG4 rfl 0 rfl rfl 4 (by decide) w_208 rfl dX4_putIn_23 26 rfl ?_
        refine ww_ist_n h dX4_putIn_26 rfl (by decide) (fun v3_1 => [(3, .int v3_1), (0, .ref oP), (1, .int p0), (2, .int p1)]) (fun _ => rfl) 27 rfl (fun v3_1 e => ?_)
        replace hf := bnd_at e hf
        clear e
        refine ww_lo [1, 2, 3, 0] (lo' := [(0, .ref oP), (1, .int p0), (2, .int p1), (3, .int v3_1)]) rfl ?_
        obtain ⟨P_8, h2, hf⟩ := ob1 hf
        refine lp_walk (un2 (fun v3_3 P_4 => ww X D A 4 Q 0 0 27 [(0, .ref oP), (1, .int p0), (2, .int p1), (3, .int v3_3)] [] [gX4 cy oP aP P_4])) (un1 (fun P_8 => ww X D A 4 Q 0 0 66 [(0, .ref oP), (1, .int p0), (2, .int p1)] [] [gX4 cy oP aP P_8])) ?_ _ _ _ h2 ?_
        · clear h2 hf
          intro s2 o2 hf hI2 hE2
          obtain ⟨v3_3, P_4⟩ := s2
          unfold s_X4_putIn_27_2 at hf
          replace hf := un2_e hf
          show ww X D A 4 Q 0 0 27 [(0, .ref oP), (1, .int p0), (2, .int p1), (3, .int v3_3)] [] [gX4 cy oP aP P_4]
          refine ww_iload_n h dX4_putIn_27 rfl 3 rfl 28 rfl ?_
          refine ww_iload_n h dX4_putIn_28 rfl 1 rfl 29 rfl ?_
          refine ww_icmp_le h dX4_putIn_29 66 (by decide) 32 rfl (fun c => ?_) (fun c => ?_)
          · replace hf := ite_t c hf
            refine ww_lo [0, 1, 2] (lo' := [(0, .ref oP), (1, .int p0), (2, .int p1)]) rfl ?_
            exact hE2 P_4 (Option.some.inj hf).symm
          · replace hf := ite_f c hf
            refine ww_aload_n h dX4_putIn_32 rfl 0 rfl 33 rfl ?_
            refine ww_get h inG4 rfl 0 rfl rfl 0 (by decide) w_195 rfl dX4_putIn_33 36 rfl ?_
            refine ww_iload_n h dX4_putIn_36 rfl 3 rfl 37 rfl ?_
            refine ww_aload_n h dX4_putIn_37 rfl 0 rfl 38 rfl ?_
            refine ww_get h inG4 rfl 0 rfl rfl 0 (by decide) w_195 rfl dX4_putIn_38 41 rfl ?_
            refine ww_iload_n h dX4_putIn_41 rfl 3 rfl 42 rfl ?_
            refine ww_iconst (v := 1) h dX4_putIn_42 (by decide) 43 rfl ?_
            refine ww_isub h dX4_putIn_43 44 rfl ?_
            have hi := (gd_some hf).1
            replace hf := (gd_some hf).2
            refine ww_iald h 0 rfl 1 rfl (ix_in hi) dX4_putIn_44 45 rfl ?_
            clear hi
            have hi := (gd_some hf).1
            replace hf := (gd_some hf).2
            refine ww_iast h 0 rfl 1 rfl (ix_in hi) dX4_putIn_45 46 rfl ?_
            clear hi
            refine ww_nm (fun z => [gX4 cy oP aP z]) (sA P_4 0 v3_3.toNatClampNeg (ar P_4 0 (v3_3 - (1 : Int32)).toNatClampNeg)) (fun P_5 e => ?_)
            replace hf := bnd_at e hf
            clear e
            refine ww_aload_n h dX4_putIn_46 rfl 0 rfl 47 rfl ?_
            refine ww_get h inG4 rfl 0 rfl rfl 1 (by decide) w_198 rfl dX4_putIn_47 50 rfl ?_
            refine ww_iload_n h dX4_putIn_50 rfl 3 rfl 51 rfl ?_
            refine ww_aload_n h dX4_putIn_51 rfl 0 rfl 52 rfl ?_
            refine ww_get h inG4 rfl 0 rfl rfl 1 (by decide) w_198 rfl dX4_putIn_52 55 rfl ?_
            refine ww_iload_n h dX4_putIn_55 rfl 3 rfl 56 rfl ?_
            refine ww_iconst (v := 1) h dX4_putIn_56 (by decide) 57 rfl ?_
            refine ww_isub h dX4_putIn_57 58 rfl ?_
            have hi := (gd_some hf).1
            replace hf := (gd_some hf).2
            refine ww_iald h 0 rfl 2 rfl (ix_in hi) dX4_putIn_58 59 rfl ?_
            clear hi
            have hi := (gd_some hf).1
            replace hf := (gd_some hf).2
            refine ww_iast h 0 rfl 2 rfl (ix_in hi) dX4_putIn_59 60 rfl ?_
            clear hi
            refine ww_nm (fun z => [gX4 cy oP aP z]) (sA P_5 1 v3_3.toNatClampNeg (ar P_5 1 (v3_3 - (1 : Int32)).toNatClampNeg)) (fun P_6 e => ?_)
            replace hf := bnd_at e hf
            clear e
            refine ww_inc (c := (-1)) h dX4_putIn_60 3 rfl (by decide) (by decide) (fun v3_7 => [(3, .int v3_7), (0, .ref oP), (1, .int p0), (2, .int p1)]) (fun _ => rfl) 63 rfl (fun v3_7 e => ?_)
            replace hf := bnd_at e hf
            clear e
            refine ww_goto h dX4_putIn_63 27 (by decide) ?_
            refine ww_lo [1, 2, 3, 0] (lo' := [(0, .ref oP), (1, .int p0), (2, .int p1), (3, .int v3_7)]) rfl ?_
            exact hI2 (v3_7, P_6) (Option.some.inj hf).symm
        · clear h2
          show ww X D A 4 Q 0 0 66 [(0, .ref oP), (1, .int p0), (2, .int p1)] [] [gX4 cy oP aP P_8]
          refine ww_aload_n h dX4_putIn_66 rfl 0 rfl 67 rfl ?_
          refine ww_get h inG4 rfl 0 rfl rfl 0 (by decide) w_195 rfl dX4_putIn_67 70 rfl ?_
          refine ww_iload_n h dX4_putIn_70 rfl 1 rfl 71 rfl ?_
          refine ww_iload_n h dX4_putIn_71 rfl 2 rfl 72 rfl ?_
          have hi := (gd_some hf).1
          replace hf := (gd_some hf).2
          refine ww_iast h 0 rfl 1 rfl (ix_in hi) dX4_putIn_72 73 rfl ?_
          clear hi
          refine ww_nm (fun z => [gX4 cy oP aP z]) (sA P_8 0 p0.toNatClampNeg p1) (fun P_9 e => ?_)
          replace hf := bnd_at e hf
          clear e
          refine ww_aload_n h dX4_putIn_73 rfl 0 rfl 74 rfl ?_
          refine ww_get h inG4 rfl 0 rfl rfl 1 (by decide) w_198 rfl dX4_putIn_74 77 rfl ?_
          refine ww_iload_n h dX4_putIn_77 rfl 1 rfl 78 rfl ?_
          refine ww_iconst (v := 0) h dX4_putIn_78 (by decide) 79 rfl ?_
          have hi := (gd_some hf).1
          replace hf := (gd_some hf).2
          refine ww_iast h 0 rfl 2 rfl (ix_in hi) dX4_putIn_79 80 rfl ?_
          clear hi
          refine ww_nm (fun z => [gX4 cy oP aP z]) (sA P_9 1 p0.toNatClampNeg (0 : Int32)) (fun P_10 e => ?_)
          replace hf := bnd_at e hf
          clear e
          refine ww_aload_n h dX4_putIn_80 rfl 0 rfl 81 rfl ?_
          refine ww_dup h dX4_putIn_81 rfl 82 rfl ?_
          refine ww_get h inG4 rfl 0 rfl rfl 4 (by decide) w_208 rfl dX4_putIn_82 85 rfl ?_
          refine ww_iconst (v := 1) h dX4_putIn_85 (by decide) 86 rfl ?_
          refine ww_iadd h dX4_putIn_86 87 rfl ?_
          refine ww_put (ty := .int) h inG4 tyX4_ok nmX4 rfl 0 rfl rfl 4 (by decide) w_208 rfl (by decide +kernel) rfl rfl (Nat.le_of_ble_eq_true rfl) (Nat.le_of_ble_eq_true rfl) dX4_putIn_87 90 rfl ?_
          refine ww_nm (fun z => [gX4 cy oP aP z]) (sI P_10 4 ((iv P_10 4) + (1 : Int32))) (fun P_11 e => ?_)
          replace hf := bnd_at e hf
          clear e
          obtain rfl := Option.some.inj hf
          exact ww_vret h dX4_putIn_90 hQ ⟨rfl, rfl⟩
      · replace hf := ite_f c hf
        obtain rfl := Option.some.inj hf
        exact ww_vret h dX4_putIn_21 hQ ⟨rfl, rfl⟩
theorem dX4_takeOut_0 : decode cX4_takeOut 0 = .ok (.aload_n 0, 1) := by decide +kernel
theorem dX4_takeOut_1 : decode cX4_takeOut 1 = .ok (.iload_n 1, 1) := by decide +kernel
theorem dX4_takeOut_2 : decode cX4_takeOut 2 = .ok (.iload_n 2, 1) := by decide +kernel
theorem dX4_takeOut_3 : decode cX4_takeOut 3 = .ok (.invokevirtual 56, 3) := by decide +kernel
theorem dX4_takeOut_6 : decode cX4_takeOut 6 = .ok (.ifCond .ne 4, 3) := by decide +kernel
theorem dX4_takeOut_9 : decode cX4_takeOut 9 = .ok (.return_, 1) := by decide +kernel
theorem dX4_takeOut_10 : decode cX4_takeOut 10 = .ok (.iload_n 1, 1) := by decide +kernel
theorem dX4_takeOut_11 : decode cX4_takeOut 11 = .ok (.iload_n 2, 1) := by decide +kernel
theorem dX4_takeOut_12 : decode cX4_takeOut 12 = .ok (.iadd, 1) := by decide +kernel
theorem dX4_takeOut_13 : decode cX4_takeOut 13 = .ok (.istore_n 3, 1) := by decide +kernel
theorem dX4_takeOut_14 : decode cX4_takeOut 14 = .ok (.iload_n 3, 1) := by decide +kernel
theorem dX4_takeOut_15 : decode cX4_takeOut 15 = .ok (.aload_n 0, 1) := by decide +kernel
theorem dX4_takeOut_16 : decode cX4_takeOut 16 = .ok (.getfield 34, 3) := by decide +kernel
theorem dX4_takeOut_19 : decode cX4_takeOut 19 = .ok (.if_icmp .ge 37, 3) := by decide +kernel
theorem dX4_takeOut_22 : decode cX4_takeOut 22 = .ok (.aload_n 0, 1) := by decide +kernel
theorem dX4_takeOut_23 : decode cX4_takeOut 23 = .ok (.getfield 9, 3) := by decide +kernel
theorem dX4_takeOut_26 : decode cX4_takeOut 26 = .ok (.iload_n 3, 1) := by decide +kernel
theorem dX4_takeOut_27 : decode cX4_takeOut 27 = .ok (.iload_n 2, 1) := by decide +kernel
theorem dX4_takeOut_28 : decode cX4_takeOut 28 = .ok (.isub, 1) := by decide +kernel
theorem dX4_takeOut_29 : decode cX4_takeOut 29 = .ok (.aload_n 0, 1) := by decide +kernel
theorem dX4_takeOut_30 : decode cX4_takeOut 30 = .ok (.getfield 9, 3) := by decide +kernel
theorem dX4_takeOut_33 : decode cX4_takeOut 33 = .ok (.iload_n 3, 1) := by decide +kernel
theorem dX4_takeOut_34 : decode cX4_takeOut 34 = .ok (.iaload, 1) := by decide +kernel
theorem dX4_takeOut_35 : decode cX4_takeOut 35 = .ok (.iastore, 1) := by decide +kernel
theorem dX4_takeOut_36 : decode cX4_takeOut 36 = .ok (.aload_n 0, 1) := by decide +kernel
theorem dX4_takeOut_37 : decode cX4_takeOut 37 = .ok (.getfield 15, 3) := by decide +kernel
theorem dX4_takeOut_40 : decode cX4_takeOut 40 = .ok (.iload_n 3, 1) := by decide +kernel
theorem dX4_takeOut_41 : decode cX4_takeOut 41 = .ok (.iload_n 2, 1) := by decide +kernel
theorem dX4_takeOut_42 : decode cX4_takeOut 42 = .ok (.isub, 1) := by decide +kernel
theorem dX4_takeOut_43 : decode cX4_takeOut 43 = .ok (.aload_n 0, 1) := by decide +kernel
theorem dX4_takeOut_44 : decode cX4_takeOut 44 = .ok (.getfield 15, 3) := by decide +kernel
theorem dX4_takeOut_47 : decode cX4_takeOut 47 = .ok (.iload_n 3, 1) := by decide +kernel
theorem dX4_takeOut_48 : decode cX4_takeOut 48 = .ok (.iaload, 1) := by decide +kernel
theorem dX4_takeOut_49 : decode cX4_takeOut 49 = .ok (.iastore, 1) := by decide +kernel
theorem dX4_takeOut_50 : decode cX4_takeOut 50 = .ok (.iinc 3 1, 3) := by decide +kernel
theorem dX4_takeOut_53 : decode cX4_takeOut 53 = .ok (.goto (-39), 3) := by decide +kernel
theorem dX4_takeOut_56 : decode cX4_takeOut 56 = .ok (.aload_n 0, 1) := by decide +kernel
theorem dX4_takeOut_57 : decode cX4_takeOut 57 = .ok (.dup, 1) := by decide +kernel
theorem dX4_takeOut_58 : decode cX4_takeOut 58 = .ok (.getfield 34, 3) := by decide +kernel
theorem dX4_takeOut_61 : decode cX4_takeOut 61 = .ok (.iload_n 2, 1) := by decide +kernel
theorem dX4_takeOut_62 : decode cX4_takeOut 62 = .ok (.isub, 1) := by decide +kernel
theorem dX4_takeOut_63 : decode cX4_takeOut 63 = .ok (.putfield 34, 3) := by decide +kernel
theorem dX4_takeOut_66 : decode cX4_takeOut 66 = .ok (.return_, 1) := by decide +kernel
theorem ok_X4_takeOut : okY RX4 yX4_takeOut 2 := ⟨rfl, by decide, by decide, by decide +kernel⟩
def s_X4_takeOut_14_4 (p1 : Int32) : (Int32 × OV) → Option ((Int32 × OV) ⊕ (OV)) := un2 (fun v3_5 P_6 => (if (iv P_6 4) ≤ v3_5 then some (.inr P_6) else gd (ix v3_5 40) (gd (ix (v3_5 - p1) 40) (bnd (sA P_6 0 (v3_5 - p1).toNatClampNeg (ar P_6 0 v3_5.toNatClampNeg)) (fun P_7 => gd (ix v3_5 40) (gd (ix (v3_5 - p1) 40) (bnd (sA P_7 1 (v3_5 - p1).toNatClampNeg (ar P_7 1 v3_5.toNatClampNeg)) (fun P_8 => bnd (v3_5 + 1) (fun v3_9 => some (.inl (v3_9, P_8)))))))))))
def f_X4_takeOut (P : OV) (p0 : Int32) (p1 : Int32) : Option (OV) := (f_X4_hasRun P p0 p1).bind (un1 (fun r_1 => (if r_1 = 0 then some P else bnd (p0 + p1) (fun v3_3 => ((lp (s_X4_takeOut_14_4 p1) 5000 (v3_3, P)).bind (un1 (fun P_10 => bnd (sI P_10 4 ((iv P_10 4) - p1)) (fun P_11 => some P_11))))))))
def r_X4_takeOut : Room := { frames := 2, cells := 0, slots := 0, locals := 43 }
set_option maxHeartbeats 4000000 in
set_option maxRecDepth 100000 in
theorem c_X4_takeOut (l : Launch) (D : va_G) (ev : EvT) (cy : Nat → ClassId) (oP : Nat) (aP : Nat → Nat) (P : OV) (p0 : Int32) (p1 : Int32) (o : OV) (hf : f_X4_takeOut P p0 p1 = some o) : Fn l yX4_takeOut cX4_takeOut 4 none r_X4_takeOut D ev cy [.ref oP, .int p0, .int p1] [gX4 cy oP aP P] (fun v G => v = none ∧ G = [gX4 cy oP aP o]) := by
  refine Fn_of (by decide) (Nat.le_of_ble_eq_true rfl) (fun X A Q h hQ _ => ?_)
  unfold f_X4_takeOut at hf
  show ww X D A 4 Q 0 0 0 [(0, .ref oP), (1, .int p0), (2, .int p1)] [] [gX4 cy oP aP P]
  refine ww_aload_n h dX4_takeOut_0 rfl 0 rfl 1 rfl ?_
  refine ww_iload_n h dX4_takeOut_1 rfl 1 rfl 2 rfl ?_
  refine ww_iload_n h dX4_takeOut_2 rfl 2 rfl 3 rfl ?_
  obtain ⟨r_1, hu2, hf⟩ := ob1 hf
  refine ww_cVi h (c_X4_hasRun l D ev cy oP aP P p0 p1 _ hu2) ⟨w_690, w_699, w_688, w_689, w_105, ok_X4_hasRun⟩ ⟨by decide, by decide⟩ ⟨by decide, by decide⟩ ⟨rfl, rfl⟩ [0] rfl 0 rfl rfl rfl rfl (Nat.le_of_ble_eq_true rfl) dX4_takeOut_3 6 rfl (Gs' := [gX4 cy oP aP P]) rfl ?_
  clear hu2
  refine ww_if_ne h dX4_takeOut_6 10 (by decide) 9 rfl (fun c => ?_) (fun c => ?_)
  · replace hf := ite_f c hf
    refine ww_iload_n h dX4_takeOut_10 rfl 1 rfl 11 rfl ?_
    refine ww_iload_n h dX4_takeOut_11 rfl 2 rfl 12 rfl ?_
    refine ww_iadd h dX4_takeOut_12 13 rfl ?_
    refine ww_ist_n h dX4_takeOut_13 rfl (by decide) (fun v3_3 => [(3, .int v3_3), (0, .ref oP), (1, .int p0), (2, .int p1)]) (fun _ => rfl) 14 rfl (fun v3_3 e => ?_)
    replace hf := bnd_at e hf
    clear e
    refine ww_lo [1, 3, 0] (lo' := [(0, .ref oP), (2, .int p1), (3, .int v3_3)]) rfl ?_
    obtain ⟨P_10, h4, hf⟩ := ob1 hf
    refine lp_walk (un2 (fun v3_5 P_6 => ww X D A 4 Q 0 0 14 [(0, .ref oP), (2, .int p1), (3, .int v3_5)] [] [gX4 cy oP aP P_6])) (un1 (fun P_10 => ww X D A 4 Q 0 0 56 [(0, .ref oP), (2, .int p1)] [] [gX4 cy oP aP P_10])) ?_ _ _ _ h4 ?_
    · clear h4 hf
      intro s4 o4 hf hI4 hE4
      obtain ⟨v3_5, P_6⟩ := s4
      unfold s_X4_takeOut_14_4 at hf
      replace hf := un2_e hf
      show ww X D A 4 Q 0 0 14 [(0, .ref oP), (2, .int p1), (3, .int v3_5)] [] [gX4 cy oP aP P_6]
      refine ww_iload_n h dX4_takeOut_14 rfl 2 rfl 15 rfl ?_
      refine ww_aload_n h dX4_takeOut_15 rfl 0 rfl 16 rfl ?_
      refine ww_get h inG4 rfl 0 rfl rfl 4 (by decide) w_208 rfl dX4_takeOut_16 19 rfl ?_
      refine ww_icmp_ge h dX4_takeOut_19 56 (by decide) 22 rfl (fun c => ?_) (fun c => ?_)
      · replace hf := ite_t c hf
        refine ww_lo [0, 1] (lo' := [(0, .ref oP), (2, .int p1)]) rfl ?_
        exact hE4 P_6 (Option.some.inj hf).symm
      · replace hf := ite_f c hf
        refine ww_aload_n h dX4_takeOut_22 rfl 0 rfl 23 rfl ?_
        refine ww_get h inG4 rfl 0 rfl rfl 0 (by decide) w_195 rfl dX4_takeOut_23 26 rfl ?_
        refine ww_iload_n h dX4_takeOut_26 rfl 2 rfl 27 rfl ?_
        refine ww_iload_n h dX4_takeOut_27 rfl 1 rfl 28 rfl ?_
        refine ww_isub h dX4_takeOut_28 29 rfl ?_
        refine ww_aload_n h dX4_takeOut_29 rfl 0 rfl 30 rfl ?_
        refine ww_get h inG4 rfl 0 rfl rfl 0 (by decide) w_195 rfl dX4_takeOut_30 33 rfl ?_
        refine ww_iload_n h dX4_takeOut_33 rfl 2 rfl 34 rfl ?_
        have hi := (gd_some hf).1
        replace hf := (gd_some hf).2
        refine ww_iald h 0 rfl 1 rfl (ix_in hi) dX4_takeOut_34 35 rfl ?_
        clear hi
        have hi := (gd_some hf).1
        replace hf := (gd_some hf).2
        refine ww_iast h 0 rfl 1 rfl (ix_in hi) dX4_takeOut_35 36 rfl ?_
        clear hi
        refine ww_nm (fun z => [gX4 cy oP aP z]) (sA P_6 0 (v3_5 - p1).toNatClampNeg (ar P_6 0 v3_5.toNatClampNeg)) (fun P_7 e => ?_)
        replace hf := bnd_at e hf
        clear e
        refine ww_aload_n h dX4_takeOut_36 rfl 0 rfl 37 rfl ?_
        refine ww_get h inG4 rfl 0 rfl rfl 1 (by decide) w_198 rfl dX4_takeOut_37 40 rfl ?_
        refine ww_iload_n h dX4_takeOut_40 rfl 2 rfl 41 rfl ?_
        refine ww_iload_n h dX4_takeOut_41 rfl 1 rfl 42 rfl ?_
        refine ww_isub h dX4_takeOut_42 43 rfl ?_
        refine ww_aload_n h dX4_takeOut_43 rfl 0 rfl 44 rfl ?_
        refine ww_get h inG4 rfl 0 rfl rfl 1 (by decide) w_198 rfl dX4_takeOut_44 47 rfl ?_
        refine ww_iload_n h dX4_takeOut_47 rfl 2 rfl 48 rfl ?_
        have hi := (gd_some hf).1
        replace hf := (gd_some hf).2
        refine ww_iald h 0 rfl 2 rfl (ix_in hi) dX4_takeOut_48 49 rfl ?_
        clear hi
        have hi := (gd_some hf).1
        replace hf := (gd_some hf).2
        refine ww_iast h 0 rfl 2 rfl (ix_in hi) dX4_takeOut_49 50 rfl ?_
        clear hi
        refine ww_nm (fun z => [gX4 cy oP aP z]) (sA P_7 1 (v3_5 - p1).toNatClampNeg (ar P_7 1 v3_5.toNatClampNeg)) (fun P_8 e => ?_)
        replace hf := bnd_at e hf
        clear e
        refine ww_inc (c := 1) h dX4_takeOut_50 2 rfl (by decide) (by decide) (fun v3_9 => [(3, .int v3_9), (0, .ref oP), (2, .int p1)]) (fun _ => rfl) 53 rfl (fun v3_9 e => ?_)
        replace hf := bnd_at e hf
        clear e
        refine ww_goto h dX4_takeOut_53 14 (by decide) ?_
        refine ww_lo [1, 2, 0] (lo' := [(0, .ref oP), (2, .int p1), (3, .int v3_9)]) rfl ?_
        exact hI4 (v3_9, P_8) (Option.some.inj hf).symm
    · clear h4
      show ww X D A 4 Q 0 0 56 [(0, .ref oP), (2, .int p1)] [] [gX4 cy oP aP P_10]
      refine ww_aload_n h dX4_takeOut_56 rfl 0 rfl 57 rfl ?_
      refine ww_dup h dX4_takeOut_57 rfl 58 rfl ?_
      refine ww_get h inG4 rfl 0 rfl rfl 4 (by decide) w_208 rfl dX4_takeOut_58 61 rfl ?_
      refine ww_iload_n h dX4_takeOut_61 rfl 1 rfl 62 rfl ?_
      refine ww_isub h dX4_takeOut_62 63 rfl ?_
      refine ww_put (ty := .int) h inG4 tyX4_ok nmX4 rfl 0 rfl rfl 4 (by decide) w_208 rfl (by decide +kernel) rfl rfl (Nat.le_of_ble_eq_true rfl) (Nat.le_of_ble_eq_true rfl) dX4_takeOut_63 66 rfl ?_
      refine ww_nm (fun z => [gX4 cy oP aP z]) (sI P_10 4 ((iv P_10 4) - p1)) (fun P_11 e => ?_)
      replace hf := bnd_at e hf
      clear e
      obtain rfl := Option.some.inj hf
      exact ww_vret h dX4_takeOut_66 hQ ⟨rfl, rfl⟩
  · replace hf := ite_t c hf
    obtain rfl := Option.some.inj hf
    exact ww_vret h dX4_takeOut_9 hQ ⟨rfl, rfl⟩
theorem dX4_moveFrom_0 : decode cX4_moveFrom 0 = .ok (.iconst 0, 1) := by decide +kernel
theorem dX4_moveFrom_1 : decode cX4_moveFrom 1 = .ok (.istore 5, 2) := by decide +kernel
theorem dX4_moveFrom_3 : decode cX4_moveFrom 3 = .ok (.iload 5, 2) := by decide +kernel
theorem dX4_moveFrom_5 : decode cX4_moveFrom 5 = .ok (.aload_n 0, 1) := by decide +kernel
theorem dX4_moveFrom_6 : decode cX4_moveFrom 6 = .ok (.getfield 34, 3) := by decide +kernel
theorem dX4_moveFrom_9 : decode cX4_moveFrom 9 = .ok (.if_icmp .ge 109, 3) := by decide +kernel
theorem dX4_moveFrom_12 : decode cX4_moveFrom 12 = .ok (.iload 5, 2) := by decide +kernel
theorem dX4_moveFrom_14 : decode cX4_moveFrom 14 = .ok (.iload 4, 2) := by decide +kernel
theorem dX4_moveFrom_16 : decode cX4_moveFrom 16 = .ok (.if_icmp .lt 24, 3) := by decide +kernel
theorem dX4_moveFrom_19 : decode cX4_moveFrom 19 = .ok (.iload 5, 2) := by decide +kernel
theorem dX4_moveFrom_21 : decode cX4_moveFrom 21 = .ok (.iload 4, 2) := by decide +kernel
theorem dX4_moveFrom_23 : decode cX4_moveFrom 23 = .ok (.iload_n 3, 1) := by decide +kernel
theorem dX4_moveFrom_24 : decode cX4_moveFrom 24 = .ok (.iadd, 1) := by decide +kernel
theorem dX4_moveFrom_25 : decode cX4_moveFrom 25 = .ok (.if_icmp .ge 15, 3) := by decide +kernel
theorem dX4_moveFrom_28 : decode cX4_moveFrom 28 = .ok (.iload_n 2, 1) := by decide +kernel
theorem dX4_moveFrom_29 : decode cX4_moveFrom 29 = .ok (.iload 5, 2) := by decide +kernel
theorem dX4_moveFrom_31 : decode cX4_moveFrom 31 = .ok (.iadd, 1) := by decide +kernel
theorem dX4_moveFrom_32 : decode cX4_moveFrom 32 = .ok (.iload 4, 2) := by decide +kernel
theorem dX4_moveFrom_34 : decode cX4_moveFrom 34 = .ok (.isub, 1) := by decide +kernel
theorem dX4_moveFrom_35 : decode cX4_moveFrom 35 = .ok (.istore 6, 2) := by decide +kernel
theorem dX4_moveFrom_37 : decode cX4_moveFrom 37 = .ok (.goto 38, 3) := by decide +kernel
theorem dX4_moveFrom_40 : decode cX4_moveFrom 40 = .ok (.iload 5, 2) := by decide +kernel
theorem dX4_moveFrom_42 : decode cX4_moveFrom 42 = .ok (.iload 4, 2) := by decide +kernel
theorem dX4_moveFrom_44 : decode cX4_moveFrom 44 = .ok (.if_icmp .ge 8, 3) := by decide +kernel
theorem dX4_moveFrom_47 : decode cX4_moveFrom 47 = .ok (.iload 5, 2) := by decide +kernel
theorem dX4_moveFrom_49 : decode cX4_moveFrom 49 = .ok (.goto 7, 3) := by decide +kernel
theorem dX4_moveFrom_52 : decode cX4_moveFrom 52 = .ok (.iload 5, 2) := by decide +kernel
theorem dX4_moveFrom_54 : decode cX4_moveFrom 54 = .ok (.iload_n 3, 1) := by decide +kernel
theorem dX4_moveFrom_55 : decode cX4_moveFrom 55 = .ok (.isub, 1) := by decide +kernel
theorem dX4_moveFrom_56 : decode cX4_moveFrom 56 = .ok (.istore 7, 2) := by decide +kernel
theorem dX4_moveFrom_58 : decode cX4_moveFrom 58 = .ok (.iload 7, 2) := by decide +kernel
theorem dX4_moveFrom_60 : decode cX4_moveFrom 60 = .ok (.iload_n 2, 1) := by decide +kernel
theorem dX4_moveFrom_61 : decode cX4_moveFrom 61 = .ok (.if_icmp .ge 8, 3) := by decide +kernel
theorem dX4_moveFrom_64 : decode cX4_moveFrom 64 = .ok (.iload 7, 2) := by decide +kernel
theorem dX4_moveFrom_66 : decode cX4_moveFrom 66 = .ok (.goto 7, 3) := by decide +kernel
theorem dX4_moveFrom_69 : decode cX4_moveFrom 69 = .ok (.iload 7, 2) := by decide +kernel
theorem dX4_moveFrom_71 : decode cX4_moveFrom 71 = .ok (.iload_n 3, 1) := by decide +kernel
theorem dX4_moveFrom_72 : decode cX4_moveFrom 72 = .ok (.iadd, 1) := by decide +kernel
theorem dX4_moveFrom_73 : decode cX4_moveFrom 73 = .ok (.istore 6, 2) := by decide +kernel
theorem dX4_moveFrom_75 : decode cX4_moveFrom 75 = .ok (.aload_n 1, 1) := by decide +kernel
theorem dX4_moveFrom_76 : decode cX4_moveFrom 76 = .ok (.iload 6, 2) := by decide +kernel
theorem dX4_moveFrom_78 : decode cX4_moveFrom 78 = .ok (.invokevirtual 52, 3) := by decide +kernel
theorem dX4_moveFrom_81 : decode cX4_moveFrom 81 = .ok (.ifCond .eq 31, 3) := by decide +kernel
theorem dX4_moveFrom_84 : decode cX4_moveFrom 84 = .ok (.aload_n 0, 1) := by decide +kernel
theorem dX4_moveFrom_85 : decode cX4_moveFrom 85 = .ok (.getfield 9, 3) := by decide +kernel
theorem dX4_moveFrom_88 : decode cX4_moveFrom 88 = .ok (.iload 5, 2) := by decide +kernel
theorem dX4_moveFrom_90 : decode cX4_moveFrom 90 = .ok (.aload_n 1, 1) := by decide +kernel
theorem dX4_moveFrom_91 : decode cX4_moveFrom 91 = .ok (.getfield 9, 3) := by decide +kernel
theorem dX4_moveFrom_94 : decode cX4_moveFrom 94 = .ok (.iload 6, 2) := by decide +kernel
theorem dX4_moveFrom_96 : decode cX4_moveFrom 96 = .ok (.iaload, 1) := by decide +kernel
theorem dX4_moveFrom_97 : decode cX4_moveFrom 97 = .ok (.iastore, 1) := by decide +kernel
theorem dX4_moveFrom_98 : decode cX4_moveFrom 98 = .ok (.aload_n 0, 1) := by decide +kernel
theorem dX4_moveFrom_99 : decode cX4_moveFrom 99 = .ok (.getfield 15, 3) := by decide +kernel
theorem dX4_moveFrom_102 : decode cX4_moveFrom 102 = .ok (.iload 5, 2) := by decide +kernel
theorem dX4_moveFrom_104 : decode cX4_moveFrom 104 = .ok (.aload_n 1, 1) := by decide +kernel
theorem dX4_moveFrom_105 : decode cX4_moveFrom 105 = .ok (.getfield 15, 3) := by decide +kernel
theorem dX4_moveFrom_108 : decode cX4_moveFrom 108 = .ok (.iload 6, 2) := by decide +kernel
theorem dX4_moveFrom_110 : decode cX4_moveFrom 110 = .ok (.iaload, 1) := by decide +kernel
theorem dX4_moveFrom_111 : decode cX4_moveFrom 111 = .ok (.iastore, 1) := by decide +kernel
theorem dX4_moveFrom_112 : decode cX4_moveFrom 112 = .ok (.iinc 5 1, 3) := by decide +kernel
theorem dX4_moveFrom_115 : decode cX4_moveFrom 115 = .ok (.goto (-112), 3) := by decide +kernel
theorem dX4_moveFrom_118 : decode cX4_moveFrom 118 = .ok (.return_, 1) := by decide +kernel
theorem ok_X4_moveFrom : okY RX4 yX4_moveFrom 4 := ⟨rfl, by decide, by decide, by decide +kernel⟩
def j_X4_moveFrom_112_10 (v5_3 : Int32) (P_9 : OV) : Option ((Int32 × OV) ⊕ (OV)) := bnd (v5_3 + 1) (fun v5_11 => some (.inl (v5_11, P_9)))
def j_X4_moveFrom_75_6 (O : OV) (P_4 : OV) (v5_3 : Int32) (v6_5 : Int32) : Option ((Int32 × OV) ⊕ (OV)) := (f_X4_has O v6_5).bind (un1 (fun r_7 => (if r_7 = 0 then j_X4_moveFrom_112_10 v5_3 P_4 else gd (ix v6_5 40) (gd (ix v5_3 40) (bnd (sA P_4 0 v5_3.toNatClampNeg (ar O 0 v6_5.toNatClampNeg)) (fun P_12 => gd (ix v6_5 40) (gd (ix v5_3 40) (bnd (sA P_12 1 v5_3.toNatClampNeg (ar O 1 v6_5.toNatClampNeg)) (fun P_13 => j_X4_moveFrom_112_10 v5_3 P_13)))))))))
def j_X4_moveFrom_73_19 (O : OV) (P_4 : OV) (v5_3 : Int32) (t_18 : Int32) : Option ((Int32 × OV) ⊕ (OV)) := bnd t_18 (fun v6_20 => j_X4_moveFrom_75_6 O P_4 v5_3 v6_20)
def j_X4_moveFrom_56_16 (O : OV) (P_4 : OV) (p1 : Int32) (p2 : Int32) (v5_3 : Int32) (t_15 : Int32) : Option ((Int32 × OV) ⊕ (OV)) := bnd t_15 (fun v7_17 => (if p1 ≤ v7_17 then j_X4_moveFrom_73_19 O P_4 v5_3 (v7_17 + p2) else j_X4_moveFrom_73_19 O P_4 v5_3 v7_17))
def j_X4_moveFrom_40_14 (O : OV) (P_4 : OV) (p1 : Int32) (p2 : Int32) (p3 : Int32) (v5_3 : Int32) : Option ((Int32 × OV) ⊕ (OV)) := (if p3 ≤ v5_3 then j_X4_moveFrom_56_16 O P_4 p1 p2 v5_3 (v5_3 - p2) else j_X4_moveFrom_56_16 O P_4 p1 p2 v5_3 v5_3)
def s_X4_moveFrom_3_2 (O : OV) (p1 : Int32) (p2 : Int32) (p3 : Int32) : (Int32 × OV) → Option ((Int32 × OV) ⊕ (OV)) := un2 (fun v5_3 P_4 => (if (iv P_4 4) ≤ v5_3 then some (.inr P_4) else (if v5_3 < p3 then j_X4_moveFrom_40_14 O P_4 p1 p2 p3 v5_3 else (if (p3 + p2) ≤ v5_3 then j_X4_moveFrom_40_14 O P_4 p1 p2 p3 v5_3 else bnd ((p1 + v5_3) - p3) (fun v6_21 => j_X4_moveFrom_75_6 O P_4 v5_3 v6_21)))))
def f_X4_moveFrom (P : OV) (O : OV) (p1 : Int32) (p2 : Int32) (p3 : Int32) : Option (OV) := bnd (0 : Int32) (fun v5_1 => ((lp (s_X4_moveFrom_3_2 O p1 p2 p3) 5000 (v5_1, P)).bind (un1 (fun P_22 => some P_22))))
def r_X4_moveFrom : Room := { frames := 1, cells := 0, slots := 0, locals := 21 }
set_option maxHeartbeats 4000000 in
set_option maxRecDepth 100000 in
theorem c_X4_moveFrom (l : Launch) (D : va_G) (ev : EvT) (cy : Nat → ClassId) (oP : Nat) (aP : Nat → Nat) (P : OV) (oO : Nat) (aO : Nat → Nat) (O : OV) (p1 : Int32) (p2 : Int32) (p3 : Int32) (o : OV) (hf : f_X4_moveFrom P O p1 p2 p3 = some o) : Fn l yX4_moveFrom cX4_moveFrom 8 none r_X4_moveFrom D ev cy [.ref oP, .ref oO, .int p1, .int p2, .int p3] [gX4 cy oP aP P, gX4 cy oO aO O] (fun v G => v = none ∧ G = [gX4 cy oP aP o, gX4 cy oO aO O]) := by
  refine Fn_of (by decide) (Nat.le_of_ble_eq_true rfl) (fun X A Q h hQ _ => ?_)
  unfold f_X4_moveFrom at hf
  show ww X D A 8 Q 0 0 0 [(0, .ref oP), (1, .ref oO), (2, .int p1), (3, .int p2), (4, .int p3)] [] [gX4 cy oP aP P, gX4 cy oO aO O]
  refine ww_iconst (v := 0) h dX4_moveFrom_0 (by decide) 1 rfl ?_
  refine ww_ist h dX4_moveFrom_1 (by decide) (fun v5_1 => [(5, .int v5_1), (0, .ref oP), (1, .ref oO), (2, .int p1), (3, .int p2), (4, .int p3)]) (fun _ => rfl) 3 rfl (fun v5_1 e => ?_)
  replace hf := bnd_at e hf
  clear e
  refine ww_lo [1, 2, 3, 4, 5, 0] (lo' := [(0, .ref oP), (1, .ref oO), (2, .int p1), (3, .int p2), (4, .int p3), (5, .int v5_1)]) rfl ?_
  obtain ⟨P_22, h2, hf⟩ := ob1 hf
  refine lp_walk (un2 (fun v5_3 P_4 => ww X D A 8 Q 0 0 3 [(0, .ref oP), (1, .ref oO), (2, .int p1), (3, .int p2), (4, .int p3), (5, .int v5_3)] [] [gX4 cy oP aP P_4, gX4 cy oO aO O])) (un1 (fun P_22 => ww X D A 8 Q 0 0 118 [] [] [gX4 cy oP aP P_22, gX4 cy oO aO O])) ?_ _ _ _ h2 ?_
  · clear h2 hf
    intro s2 o2 hf hI2 hE2
    obtain ⟨v5_3, P_4⟩ := s2
    unfold s_X4_moveFrom_3_2 at hf
    replace hf := un2_e hf
    show ww X D A 8 Q 0 0 3 [(0, .ref oP), (1, .ref oO), (2, .int p1), (3, .int p2), (4, .int p3), (5, .int v5_3)] [] [gX4 cy oP aP P_4, gX4 cy oO aO O]
    refine ww_iload h dX4_moveFrom_3 5 rfl 5 rfl ?_
    refine ww_aload_n h dX4_moveFrom_5 rfl 0 rfl 6 rfl ?_
    refine ww_get h inG4 rfl 0 rfl rfl 4 (by decide) w_208 rfl dX4_moveFrom_6 9 rfl ?_
    refine ww_icmp_ge h dX4_moveFrom_9 118 (by decide) 12 rfl (fun c => ?_) (fun c => ?_)
    · replace hf := ite_t c hf
      refine ww_lo [] (lo' := []) rfl ?_
      exact hE2 P_4 (Option.some.inj hf).symm
    · replace hf := ite_f c hf
      refine ww_iload h dX4_moveFrom_12 5 rfl 14 rfl ?_
      refine ww_iload h dX4_moveFrom_14 4 rfl 16 rfl ?_
      have hJ75_6 : ∀ (v6_5 : Int32), j_X4_moveFrom_75_6 O P_4 v5_3 v6_5 = some o2 → ww X D A 8 Q 0 0 75 [(0, .ref oP), (1, .ref oO), (2, .int p1), (3, .int p2), (4, .int p3), (5, .int v5_3), (6, .int v6_5)] [] [gX4 cy oP aP P_4, gX4 cy oO aO O] := by
        intro v6_5 hf
        unfold j_X4_moveFrom_75_6 at hf
        refine ww_aload_n h dX4_moveFrom_75 rfl 1 rfl 76 rfl ?_
        refine ww_iload h dX4_moveFrom_76 6 rfl 78 rfl ?_
        obtain ⟨r_7, hu8, hf⟩ := ob1 hf
        refine ww_cVi h (c_X4_has l D ev cy oO aO O v6_5 _ hu8) ⟨w_694, w_691, w_692, w_693, w_105, ok_X4_has⟩ ⟨by decide, by decide⟩ ⟨by decide, by decide⟩ ⟨rfl, rfl⟩ [1] rfl 0 rfl rfl rfl rfl (Nat.le_of_ble_eq_true rfl) dX4_moveFrom_78 81 rfl (Gs' := [gX4 cy oO aO O, gX4 cy oP aP P_4]) rfl ?_
        clear hu8
        have hJ112_10 : ∀ (P_9 : OV), j_X4_moveFrom_112_10 v5_3 P_9 = some o2 → ww X D A 8 Q 0 0 112 [(0, .ref oP), (1, .ref oO), (2, .int p1), (3, .int p2), (4, .int p3), (5, .int v5_3)] [] [gX4 cy oP aP P_9, gX4 cy oO aO O] := by
          intro P_9 hf
          unfold j_X4_moveFrom_112_10 at hf
          refine ww_inc (c := 1) h dX4_moveFrom_112 5 rfl (by decide) (by decide) (fun v5_11 => [(5, .int v5_11), (0, .ref oP), (1, .ref oO), (2, .int p1), (3, .int p2), (4, .int p3)]) (fun _ => rfl) 115 rfl (fun v5_11 e => ?_)
          replace hf := bnd_at e hf
          clear e
          refine ww_goto h dX4_moveFrom_115 3 (by decide) ?_
          refine ww_lo [1, 2, 3, 4, 5, 0] (lo' := [(0, .ref oP), (1, .ref oO), (2, .int p1), (3, .int p2), (4, .int p3), (5, .int v5_11)]) rfl ?_
          exact hI2 (v5_11, P_9) (Option.some.inj hf).symm
        refine ww_if_eq h dX4_moveFrom_81 112 (by decide) 84 rfl (fun c => ?_) (fun c => ?_)
        · replace hf := ite_t c hf
          refine ww_lo [0, 1, 2, 3, 4, 5] (lo' := [(0, .ref oP), (1, .ref oO), (2, .int p1), (3, .int p2), (4, .int p3), (5, .int v5_3)]) rfl ?_
          refine ww_perm [1, 0] (Gs' := [gX4 cy oP aP P_4, gX4 cy oO aO O]) rfl ?_
          exact hJ112_10 P_4 hf
        · replace hf := ite_f c hf
          refine ww_aload_n h dX4_moveFrom_84 rfl 0 rfl 85 rfl ?_
          refine ww_get h inG4 rfl 1 rfl rfl 0 (by decide) w_195 rfl dX4_moveFrom_85 88 rfl ?_
          refine ww_iload h dX4_moveFrom_88 5 rfl 90 rfl ?_
          refine ww_aload_n h dX4_moveFrom_90 rfl 1 rfl 91 rfl ?_
          refine ww_get h inG4 rfl 0 rfl rfl 0 (by decide) w_195 rfl dX4_moveFrom_91 94 rfl ?_
          refine ww_iload h dX4_moveFrom_94 6 rfl 96 rfl ?_
          have hi := (gd_some hf).1
          replace hf := (gd_some hf).2
          refine ww_iald h 0 rfl 1 rfl (ix_in hi) dX4_moveFrom_96 97 rfl ?_
          clear hi
          have hi := (gd_some hf).1
          replace hf := (gd_some hf).2
          refine ww_iast h 1 rfl 1 rfl (ix_in hi) dX4_moveFrom_97 98 rfl ?_
          clear hi
          refine ww_nm (fun z => [gX4 cy oO aO O, gX4 cy oP aP z]) (sA P_4 0 v5_3.toNatClampNeg (ar O 0 v6_5.toNatClampNeg)) (fun P_12 e => ?_)
          replace hf := bnd_at e hf
          clear e
          refine ww_aload_n h dX4_moveFrom_98 rfl 0 rfl 99 rfl ?_
          refine ww_get h inG4 rfl 1 rfl rfl 1 (by decide) w_198 rfl dX4_moveFrom_99 102 rfl ?_
          refine ww_iload h dX4_moveFrom_102 5 rfl 104 rfl ?_
          refine ww_aload_n h dX4_moveFrom_104 rfl 1 rfl 105 rfl ?_
          refine ww_get h inG4 rfl 0 rfl rfl 1 (by decide) w_198 rfl dX4_moveFrom_105 108 rfl ?_
          refine ww_iload h dX4_moveFrom_108 6 rfl 110 rfl ?_
          have hi := (gd_some hf).1
          replace hf := (gd_some hf).2
          refine ww_iald h 0 rfl 2 rfl (ix_in hi) dX4_moveFrom_110 111 rfl ?_
          clear hi
          have hi := (gd_some hf).1
          replace hf := (gd_some hf).2
          refine ww_iast h 1 rfl 2 rfl (ix_in hi) dX4_moveFrom_111 112 rfl ?_
          clear hi
          refine ww_nm (fun z => [gX4 cy oO aO O, gX4 cy oP aP z]) (sA P_12 1 v5_3.toNatClampNeg (ar O 1 v6_5.toNatClampNeg)) (fun P_13 e => ?_)
          replace hf := bnd_at e hf
          clear e
          refine ww_lo [0, 1, 2, 3, 4, 5] (lo' := [(0, .ref oP), (1, .ref oO), (2, .int p1), (3, .int p2), (4, .int p3), (5, .int v5_3)]) rfl ?_
          refine ww_perm [1, 0] (Gs' := [gX4 cy oP aP P_13, gX4 cy oO aO O]) rfl ?_
          exact hJ112_10 P_13 hf
      have hJ40_14 : ∀ (_ : Unit), j_X4_moveFrom_40_14 O P_4 p1 p2 p3 v5_3 = some o2 → ww X D A 8 Q 0 0 40 [(0, .ref oP), (1, .ref oO), (2, .int p1), (3, .int p2), (4, .int p3), (5, .int v5_3)] [] [gX4 cy oP aP P_4, gX4 cy oO aO O] := by
        intro _ hf
        unfold j_X4_moveFrom_40_14 at hf
        refine ww_iload h dX4_moveFrom_40 5 rfl 42 rfl ?_
        refine ww_iload h dX4_moveFrom_42 4 rfl 44 rfl ?_
        have hJ56_16 : ∀ (t_15 : Int32), j_X4_moveFrom_56_16 O P_4 p1 p2 v5_3 t_15 = some o2 → ww X D A 8 Q 0 0 56 [(0, .ref oP), (1, .ref oO), (2, .int p1), (3, .int p2), (4, .int p3), (5, .int v5_3)] [.int t_15] [gX4 cy oP aP P_4, gX4 cy oO aO O] := by
          intro t_15 hf
          unfold j_X4_moveFrom_56_16 at hf
          refine ww_ist h dX4_moveFrom_56 (by decide) (fun v7_17 => [(7, .int v7_17), (0, .ref oP), (1, .ref oO), (2, .int p1), (3, .int p2), (4, .int p3), (5, .int v5_3)]) (fun _ => rfl) 58 rfl (fun v7_17 e => ?_)
          replace hf := bnd_at e hf
          clear e
          refine ww_iload h dX4_moveFrom_58 0 rfl 60 rfl ?_
          refine ww_iload_n h dX4_moveFrom_60 rfl 3 rfl 61 rfl ?_
          have hJ73_19 : ∀ (t_18 : Int32), j_X4_moveFrom_73_19 O P_4 v5_3 t_18 = some o2 → ww X D A 8 Q 0 0 73 [(0, .ref oP), (1, .ref oO), (2, .int p1), (3, .int p2), (4, .int p3), (5, .int v5_3)] [.int t_18] [gX4 cy oP aP P_4, gX4 cy oO aO O] := by
            intro t_18 hf
            unfold j_X4_moveFrom_73_19 at hf
            refine ww_ist h dX4_moveFrom_73 (by decide) (fun v6_20 => [(6, .int v6_20), (0, .ref oP), (1, .ref oO), (2, .int p1), (3, .int p2), (4, .int p3), (5, .int v5_3)]) (fun _ => rfl) 75 rfl (fun v6_20 e => ?_)
            replace hf := bnd_at e hf
            clear e
            refine ww_lo [1, 2, 3, 4, 5, 6, 0] (lo' := [(0, .ref oP), (1, .ref oO), (2, .int p1), (3, .int p2), (4, .int p3), (5, .int v5_3), (6, .int v6_20)]) rfl ?_
            exact hJ75_6 v6_20 hf
          refine ww_icmp_ge h dX4_moveFrom_61 69 (by decide) 64 rfl (fun c => ?_) (fun c => ?_)
          · replace hf := ite_t c hf
            refine ww_iload h dX4_moveFrom_69 0 rfl 71 rfl ?_
            refine ww_iload_n h dX4_moveFrom_71 rfl 4 rfl 72 rfl ?_
            refine ww_iadd h dX4_moveFrom_72 73 rfl ?_
            refine ww_lo [1, 2, 3, 4, 5, 6] (lo' := [(0, .ref oP), (1, .ref oO), (2, .int p1), (3, .int p2), (4, .int p3), (5, .int v5_3)]) rfl ?_
            exact hJ73_19 (v7_17 + p2) hf
          · replace hf := ite_f c hf
            refine ww_iload h dX4_moveFrom_64 0 rfl 66 rfl ?_
            refine ww_goto h dX4_moveFrom_66 73 (by decide) ?_
            refine ww_lo [1, 2, 3, 4, 5, 6] (lo' := [(0, .ref oP), (1, .ref oO), (2, .int p1), (3, .int p2), (4, .int p3), (5, .int v5_3)]) rfl ?_
            exact hJ73_19 v7_17 hf
        refine ww_icmp_ge h dX4_moveFrom_44 52 (by decide) 47 rfl (fun c => ?_) (fun c => ?_)
        · replace hf := ite_t c hf
          refine ww_iload h dX4_moveFrom_52 5 rfl 54 rfl ?_
          refine ww_iload_n h dX4_moveFrom_54 rfl 3 rfl 55 rfl ?_
          refine ww_isub h dX4_moveFrom_55 56 rfl ?_
          exact hJ56_16 (v5_3 - p2) hf
        · replace hf := ite_f c hf
          refine ww_iload h dX4_moveFrom_47 5 rfl 49 rfl ?_
          refine ww_goto h dX4_moveFrom_49 56 (by decide) ?_
          exact hJ56_16 v5_3 hf
      refine ww_icmp_lt h dX4_moveFrom_16 40 (by decide) 19 rfl (fun c => ?_) (fun c => ?_)
      · replace hf := ite_t c hf
        exact hJ40_14 () hf
      · replace hf := ite_f c hf
        refine ww_iload h dX4_moveFrom_19 5 rfl 21 rfl ?_
        refine ww_iload h dX4_moveFrom_21 4 rfl 23 rfl ?_
        refine ww_iload_n h dX4_moveFrom_23 rfl 3 rfl 24 rfl ?_
        refine ww_iadd h dX4_moveFrom_24 25 rfl ?_
        refine ww_icmp_ge h dX4_moveFrom_25 40 (by decide) 28 rfl (fun c => ?_) (fun c => ?_)
        · replace hf := ite_t c hf
          exact hJ40_14 () hf
        · replace hf := ite_f c hf
          refine ww_iload_n h dX4_moveFrom_28 rfl 2 rfl 29 rfl ?_
          refine ww_iload h dX4_moveFrom_29 5 rfl 31 rfl ?_
          refine ww_iadd h dX4_moveFrom_31 32 rfl ?_
          refine ww_iload h dX4_moveFrom_32 4 rfl 34 rfl ?_
          refine ww_isub h dX4_moveFrom_34 35 rfl ?_
          refine ww_ist h dX4_moveFrom_35 (by decide) (fun v6_21 => [(6, .int v6_21), (0, .ref oP), (1, .ref oO), (2, .int p1), (3, .int p2), (4, .int p3), (5, .int v5_3)]) (fun _ => rfl) 37 rfl (fun v6_21 e => ?_)
          replace hf := bnd_at e hf
          clear e
          refine ww_goto h dX4_moveFrom_37 75 (by decide) ?_
          refine ww_lo [1, 2, 3, 4, 5, 6, 0] (lo' := [(0, .ref oP), (1, .ref oO), (2, .int p1), (3, .int p2), (4, .int p3), (5, .int v5_3), (6, .int v6_21)]) rfl ?_
          exact hJ75_6 v6_21 hf
  · clear h2
    show ww X D A 8 Q 0 0 118 [] [] [gX4 cy oP aP P_22, gX4 cy oO aO O]
    obtain rfl := Option.some.inj hf
    exact ww_vret h dX4_moveFrom_118 hQ ⟨rfl, rfl⟩
theorem dX4_isKept_0 : decode cX4_isKept 0 = .ok (.aload_n 0, 1) := by decide +kernel
theorem dX4_isKept_1 : decode cX4_isKept 1 = .ok (.getfield 18, 3) := by decide +kernel
theorem dX4_isKept_4 : decode cX4_isKept 4 = .ok (.iload_n 1, 1) := by decide +kernel
theorem dX4_isKept_5 : decode cX4_isKept 5 = .ok (.iaload, 1) := by decide +kernel
theorem dX4_isKept_6 : decode cX4_isKept 6 = .ok (.iload_n 2, 1) := by decide +kernel
theorem dX4_isKept_7 : decode cX4_isKept 7 = .ok (.invokestatic 60, 3) := by decide +kernel
theorem dX4_isKept_10 : decode cX4_isKept 10 = .ok (.iconst 1, 1) := by decide +kernel
theorem dX4_isKept_11 : decode cX4_isKept 11 = .ok (.if_icmp .ne 7, 3) := by decide +kernel
theorem dX4_isKept_14 : decode cX4_isKept 14 = .ok (.iconst 1, 1) := by decide +kernel
theorem dX4_isKept_15 : decode cX4_isKept 15 = .ok (.goto 4, 3) := by decide +kernel
theorem dX4_isKept_18 : decode cX4_isKept 18 = .ok (.iconst 0, 1) := by decide +kernel
theorem dX4_isKept_19 : decode cX4_isKept 19 = .ok (.ireturn, 1) := by decide +kernel
theorem ok_X4_isKept : okY RX4 yX4_isKept 2 := ⟨rfl, by decide, by decide, by decide +kernel⟩
def f_X4_isKept (P : OV) (p0 : Int32) (p1 : Int32) : Option (Int32) := gd (ix p0 26) ((f_X9_bitOf (ar P 2 p0.toNatClampNeg) p1).bind (un1 (fun r_1 => (if r_1 = (1 : Int32) then some (1 : Int32) else some (0 : Int32)))))
def r_X4_isKept : Room := { frames := 1, cells := 0, slots := 0, locals := 21 }
set_option maxHeartbeats 4000000 in
set_option maxRecDepth 100000 in
theorem c_X4_isKept (l : Launch) (D : va_G) (ev : EvT) (cy : Nat → ClassId) (oP : Nat) (aP : Nat → Nat) (P : OV) (p0 : Int32) (p1 : Int32) (o : Int32) (hf : f_X4_isKept P p0 p1 = some o) : Fn l yX4_isKept cX4_isKept 3 (some .boolean) r_X4_isKept D ev cy [.ref oP, .int p0, .int p1] [gX4 cy oP aP P] (fun v G => v = some (.int o) ∧ G = [gX4 cy oP aP P]) := by
  refine Fn_of (by decide) (Nat.le_of_ble_eq_true rfl) (fun X A Q h hQ _ => ?_)
  unfold f_X4_isKept at hf
  show ww X D A 3 Q 0 0 0 [(0, .ref oP), (1, .int p0), (2, .int p1)] [] [gX4 cy oP aP P]
  refine ww_aload_n h dX4_isKept_0 rfl 0 rfl 1 rfl ?_
  refine ww_get h inG4 rfl 0 rfl rfl 2 (by decide) w_202 rfl dX4_isKept_1 4 rfl ?_
  refine ww_iload_n h dX4_isKept_4 rfl 1 rfl 5 rfl ?_
  have hi := (gd_some hf).1
  replace hf := (gd_some hf).2
  refine ww_iald h 0 rfl 3 rfl (ix_in hi) dX4_isKept_5 6 rfl ?_
  clear hi
  refine ww_iload_n h dX4_isKept_6 rfl 2 rfl 7 rfl ?_
  obtain ⟨r_1, hu2, hf⟩ := ob1 hf
  refine ww_cSNi h (c_X9_bitOf l D ev cy (ar P 2 p0.toNatClampNeg) p1 _ hu2) w_636 (nw_in 744 rfl rfl) w_635 w_101 ok_X9_bitOf ⟨by decide, by decide⟩ ⟨by decide, by decide⟩ ⟨rfl, rfl⟩ [] rfl rfl (Nat.le_of_ble_eq_true rfl) dX4_isKept_7 10 rfl (Gs' := [gX4 cy oP aP P]) rfl ?_
  clear hu2
  refine ww_iconst (v := 1) h dX4_isKept_10 (by decide) 11 rfl ?_
  refine ww_icmp_ne h dX4_isKept_11 18 (by decide) 14 rfl (fun c => ?_) (fun c => ?_)
  · replace hf := ite_f c hf
    refine ww_iconst (v := 0) h dX4_isKept_18 (by decide) 19 rfl ?_
    obtain rfl := Option.some.inj hf
    exact ww_zret h (Or.inl rfl) dX4_isKept_19 hQ ⟨rfl, rfl⟩
  · replace hf := ite_t c hf
    refine ww_iconst (v := 1) h dX4_isKept_14 (by decide) 15 rfl ?_
    refine ww_goto h dX4_isKept_15 19 (by decide) ?_
    obtain rfl := Option.some.inj hf
    exact ww_zret h (Or.inr rfl) dX4_isKept_19 hQ ⟨rfl, rfl⟩
theorem dX4_isLegalEnd_0 : decode cX4_isLegalEnd 0 = .ok (.iload_n 1, 1) := by decide +kernel
theorem dX4_isLegalEnd_1 : decode cX4_isLegalEnd 1 = .ok (.aload_n 0, 1) := by decide +kernel
theorem dX4_isLegalEnd_2 : decode cX4_isLegalEnd 2 = .ok (.getfield 34, 3) := by decide +kernel
theorem dX4_isLegalEnd_5 : decode cX4_isLegalEnd 5 = .ok (.iconst 1, 1) := by decide +kernel
theorem dX4_isLegalEnd_6 : decode cX4_isLegalEnd 6 = .ok (.isub, 1) := by decide +kernel
theorem dX4_isLegalEnd_7 : decode cX4_isLegalEnd 7 = .ok (.if_icmp .eq 13, 3) := by decide +kernel
theorem dX4_isLegalEnd_10 : decode cX4_isLegalEnd 10 = .ok (.aload_n 0, 1) := by decide +kernel
theorem dX4_isLegalEnd_11 : decode cX4_isLegalEnd 11 = .ok (.getfield 15, 3) := by decide +kernel
theorem dX4_isLegalEnd_14 : decode cX4_isLegalEnd 14 = .ok (.iload_n 1, 1) := by decide +kernel
theorem dX4_isLegalEnd_15 : decode cX4_isLegalEnd 15 = .ok (.iaload, 1) := by decide +kernel
theorem dX4_isLegalEnd_16 : decode cX4_isLegalEnd 16 = .ok (.iconst 1, 1) := by decide +kernel
theorem dX4_isLegalEnd_17 : decode cX4_isLegalEnd 17 = .ok (.if_icmp .ne 5, 3) := by decide +kernel
theorem dX4_isLegalEnd_20 : decode cX4_isLegalEnd 20 = .ok (.iconst 1, 1) := by decide +kernel
theorem dX4_isLegalEnd_21 : decode cX4_isLegalEnd 21 = .ok (.ireturn, 1) := by decide +kernel
theorem dX4_isLegalEnd_22 : decode cX4_isLegalEnd 22 = .ok (.aload_n 0, 1) := by decide +kernel
theorem dX4_isLegalEnd_23 : decode cX4_isLegalEnd 23 = .ok (.getfield 15, 3) := by decide +kernel
theorem dX4_isLegalEnd_26 : decode cX4_isLegalEnd 26 = .ok (.iload_n 1, 1) := by decide +kernel
theorem dX4_isLegalEnd_27 : decode cX4_isLegalEnd 27 = .ok (.iaload, 1) := by decide +kernel
theorem dX4_isLegalEnd_28 : decode cX4_isLegalEnd 28 = .ok (.iconst 2, 1) := by decide +kernel
theorem dX4_isLegalEnd_29 : decode cX4_isLegalEnd 29 = .ok (.if_icmp .ne 5, 3) := by decide +kernel
theorem dX4_isLegalEnd_32 : decode cX4_isLegalEnd 32 = .ok (.iconst 0, 1) := by decide +kernel
theorem dX4_isLegalEnd_33 : decode cX4_isLegalEnd 33 = .ok (.ireturn, 1) := by decide +kernel
theorem dX4_isLegalEnd_34 : decode cX4_isLegalEnd 34 = .ok (.aload_n 0, 1) := by decide +kernel
theorem dX4_isLegalEnd_35 : decode cX4_isLegalEnd 35 = .ok (.getfield 9, 3) := by decide +kernel
theorem dX4_isLegalEnd_38 : decode cX4_isLegalEnd 38 = .ok (.iload_n 1, 1) := by decide +kernel
theorem dX4_isLegalEnd_39 : decode cX4_isLegalEnd 39 = .ok (.iaload, 1) := by decide +kernel
theorem dX4_isLegalEnd_40 : decode cX4_isLegalEnd 40 = .ok (.istore_n 2, 1) := by decide +kernel
theorem dX4_isLegalEnd_41 : decode cX4_isLegalEnd 41 = .ok (.aload_n 0, 1) := by decide +kernel
theorem dX4_isLegalEnd_42 : decode cX4_isLegalEnd 42 = .ok (.getfield 9, 3) := by decide +kernel
theorem dX4_isLegalEnd_45 : decode cX4_isLegalEnd 45 = .ok (.iload_n 1, 1) := by decide +kernel
theorem dX4_isLegalEnd_46 : decode cX4_isLegalEnd 46 = .ok (.iconst 1, 1) := by decide +kernel
theorem dX4_isLegalEnd_47 : decode cX4_isLegalEnd 47 = .ok (.iadd, 1) := by decide +kernel
theorem dX4_isLegalEnd_48 : decode cX4_isLegalEnd 48 = .ok (.iaload, 1) := by decide +kernel
theorem dX4_isLegalEnd_49 : decode cX4_isLegalEnd 49 = .ok (.istore_n 3, 1) := by decide +kernel
theorem dX4_isLegalEnd_50 : decode cX4_isLegalEnd 50 = .ok (.aload_n 0, 1) := by decide +kernel
theorem dX4_isLegalEnd_51 : decode cX4_isLegalEnd 51 = .ok (.getfield 40, 3) := by decide +kernel
theorem dX4_isLegalEnd_54 : decode cX4_isLegalEnd 54 = .ok (.iload_n 2, 1) := by decide +kernel
theorem dX4_isLegalEnd_55 : decode cX4_isLegalEnd 55 = .ok (.invokestatic 60, 3) := by decide +kernel
theorem dX4_isLegalEnd_58 : decode cX4_isLegalEnd 58 = .ok (.ifCond .ne 31, 3) := by decide +kernel
theorem dX4_isLegalEnd_61 : decode cX4_isLegalEnd 61 = .ok (.aload_n 0, 1) := by decide +kernel
theorem dX4_isLegalEnd_62 : decode cX4_isLegalEnd 62 = .ok (.getfield 37, 3) := by decide +kernel
theorem dX4_isLegalEnd_65 : decode cX4_isLegalEnd 65 = .ok (.iload_n 3, 1) := by decide +kernel
theorem dX4_isLegalEnd_66 : decode cX4_isLegalEnd 66 = .ok (.invokestatic 60, 3) := by decide +kernel
theorem dX4_isLegalEnd_69 : decode cX4_isLegalEnd 69 = .ok (.ifCond .ne 20, 3) := by decide +kernel
theorem dX4_isLegalEnd_72 : decode cX4_isLegalEnd 72 = .ok (.aload_n 0, 1) := by decide +kernel
theorem dX4_isLegalEnd_73 : decode cX4_isLegalEnd 73 = .ok (.getfield 18, 3) := by decide +kernel
theorem dX4_isLegalEnd_76 : decode cX4_isLegalEnd 76 = .ok (.iload_n 2, 1) := by decide +kernel
theorem dX4_isLegalEnd_77 : decode cX4_isLegalEnd 77 = .ok (.iaload, 1) := by decide +kernel
theorem dX4_isLegalEnd_78 : decode cX4_isLegalEnd 78 = .ok (.iload_n 3, 1) := by decide +kernel
theorem dX4_isLegalEnd_79 : decode cX4_isLegalEnd 79 = .ok (.invokestatic 60, 3) := by decide +kernel
theorem dX4_isLegalEnd_82 : decode cX4_isLegalEnd 82 = .ok (.ifCond .ne 7, 3) := by decide +kernel
theorem dX4_isLegalEnd_85 : decode cX4_isLegalEnd 85 = .ok (.iconst 1, 1) := by decide +kernel
theorem dX4_isLegalEnd_86 : decode cX4_isLegalEnd 86 = .ok (.goto 4, 3) := by decide +kernel
theorem dX4_isLegalEnd_89 : decode cX4_isLegalEnd 89 = .ok (.iconst 0, 1) := by decide +kernel
theorem dX4_isLegalEnd_90 : decode cX4_isLegalEnd 90 = .ok (.ireturn, 1) := by decide +kernel
theorem ok_X4_isLegalEnd : okY RX4 yX4_isLegalEnd 1 := ⟨rfl, by decide, by decide, by decide +kernel⟩
def j_X4_isLegalEnd_89_5 : Option (Int32) := some (0 : Int32)
def f_X4_isLegalEnd (P : OV) (p0 : Int32) : Option (Int32) := (if p0 = ((iv P 4) - (1 : Int32)) then some (1 : Int32) else gd (ix p0 40) ((if (ar P 1 p0.toNatClampNeg) = (1 : Int32) then some (1 : Int32) else gd (ix p0 40) ((if (ar P 1 p0.toNatClampNeg) = (2 : Int32) then some (0 : Int32) else gd (ix p0 40) (bnd (ar P 0 p0.toNatClampNeg) (fun v2_1 => gd (ix (p0 + (1 : Int32)) 40) (bnd (ar P 0 (p0 + (1 : Int32)).toNatClampNeg) (fun v3_2 => (f_X9_bitOf (iv P 7) v2_1).bind (un1 (fun r_3 => (if r_3 = 0 then (f_X9_bitOf (iv P 6) v3_2).bind (un1 (fun r_6 => (if r_6 = 0 then gd (ix v2_1 26) ((f_X9_bitOf (ar P 2 v2_1.toNatClampNeg) v3_2).bind (un1 (fun r_8 => (if r_8 = 0 then some (1 : Int32) else j_X4_isLegalEnd_89_5)))) else j_X4_isLegalEnd_89_5))) else j_X4_isLegalEnd_89_5))))))))))))
def r_X4_isLegalEnd : Room := { frames := 1, cells := 0, slots := 0, locals := 21 }
set_option maxHeartbeats 4000000 in
set_option maxRecDepth 100000 in
theorem c_X4_isLegalEnd (l : Launch) (D : va_G) (ev : EvT) (cy : Nat → ClassId) (oP : Nat) (aP : Nat → Nat) (P : OV) (p0 : Int32) (o : Int32) (hf : f_X4_isLegalEnd P p0 = some o) : Fn l yX4_isLegalEnd cX4_isLegalEnd 4 (some .boolean) r_X4_isLegalEnd D ev cy [.ref oP, .int p0] [gX4 cy oP aP P] (fun v G => v = some (.int o) ∧ G = [gX4 cy oP aP P]) := by
  refine Fn_of (by decide) (Nat.le_of_ble_eq_true rfl) (fun X A Q h hQ _ => ?_)
  unfold f_X4_isLegalEnd at hf
  show ww X D A 4 Q 0 0 0 [(0, .ref oP), (1, .int p0)] [] [gX4 cy oP aP P]
  refine ww_iload_n h dX4_isLegalEnd_0 rfl 1 rfl 1 rfl ?_
  refine ww_aload_n h dX4_isLegalEnd_1 rfl 0 rfl 2 rfl ?_
  refine ww_get h inG4 rfl 0 rfl rfl 4 (by decide) w_208 rfl dX4_isLegalEnd_2 5 rfl ?_
  refine ww_iconst (v := 1) h dX4_isLegalEnd_5 (by decide) 6 rfl ?_
  refine ww_isub h dX4_isLegalEnd_6 7 rfl ?_
  refine ww_icmp_eq h dX4_isLegalEnd_7 20 (by decide) 10 rfl (fun c => ?_) (fun c => ?_)
  · replace hf := ite_t c hf
    refine ww_iconst (v := 1) h dX4_isLegalEnd_20 (by decide) 21 rfl ?_
    obtain rfl := Option.some.inj hf
    exact ww_zret h (Or.inr rfl) dX4_isLegalEnd_21 hQ ⟨rfl, rfl⟩
  · replace hf := ite_f c hf
    refine ww_aload_n h dX4_isLegalEnd_10 rfl 0 rfl 11 rfl ?_
    refine ww_get h inG4 rfl 0 rfl rfl 1 (by decide) w_198 rfl dX4_isLegalEnd_11 14 rfl ?_
    refine ww_iload_n h dX4_isLegalEnd_14 rfl 1 rfl 15 rfl ?_
    have hi := (gd_some hf).1
    replace hf := (gd_some hf).2
    refine ww_iald h 0 rfl 2 rfl (ix_in hi) dX4_isLegalEnd_15 16 rfl ?_
    clear hi
    refine ww_iconst (v := 1) h dX4_isLegalEnd_16 (by decide) 17 rfl ?_
    refine ww_icmp_ne h dX4_isLegalEnd_17 22 (by decide) 20 rfl (fun c => ?_) (fun c => ?_)
    · replace hf := ite_f c hf
      refine ww_aload_n h dX4_isLegalEnd_22 rfl 0 rfl 23 rfl ?_
      refine ww_get h inG4 rfl 0 rfl rfl 1 (by decide) w_198 rfl dX4_isLegalEnd_23 26 rfl ?_
      refine ww_iload_n h dX4_isLegalEnd_26 rfl 1 rfl 27 rfl ?_
      have hi := (gd_some hf).1
      replace hf := (gd_some hf).2
      refine ww_iald h 0 rfl 2 rfl (ix_in hi) dX4_isLegalEnd_27 28 rfl ?_
      clear hi
      refine ww_iconst (v := 2) h dX4_isLegalEnd_28 (by decide) 29 rfl ?_
      refine ww_icmp_ne h dX4_isLegalEnd_29 34 (by decide) 32 rfl (fun c => ?_) (fun c => ?_)
      · replace hf := ite_f c hf
        refine ww_aload_n h dX4_isLegalEnd_34 rfl 0 rfl 35 rfl ?_
        refine ww_get h inG4 rfl 0 rfl rfl 0 (by decide) w_195 rfl dX4_isLegalEnd_35 38 rfl ?_
        refine ww_iload_n h dX4_isLegalEnd_38 rfl 1 rfl 39 rfl ?_
        have hi := (gd_some hf).1
        replace hf := (gd_some hf).2
        refine ww_iald h 0 rfl 1 rfl (ix_in hi) dX4_isLegalEnd_39 40 rfl ?_
        clear hi
        refine ww_ist_n h dX4_isLegalEnd_40 rfl (by decide) (fun v2_1 => [(2, .int v2_1), (0, .ref oP), (1, .int p0)]) (fun _ => rfl) 41 rfl (fun v2_1 e => ?_)
        replace hf := bnd_at e hf
        clear e
        refine ww_aload_n h dX4_isLegalEnd_41 rfl 1 rfl 42 rfl ?_
        refine ww_get h inG4 rfl 0 rfl rfl 0 (by decide) w_195 rfl dX4_isLegalEnd_42 45 rfl ?_
        refine ww_iload_n h dX4_isLegalEnd_45 rfl 2 rfl 46 rfl ?_
        refine ww_iconst (v := 1) h dX4_isLegalEnd_46 (by decide) 47 rfl ?_
        refine ww_iadd h dX4_isLegalEnd_47 48 rfl ?_
        have hi := (gd_some hf).1
        replace hf := (gd_some hf).2
        refine ww_iald h 0 rfl 1 rfl (ix_in hi) dX4_isLegalEnd_48 49 rfl ?_
        clear hi
        refine ww_ist_n h dX4_isLegalEnd_49 rfl (by decide) (fun v3_2 => [(3, .int v3_2), (2, .int v2_1), (0, .ref oP), (1, .int p0)]) (fun _ => rfl) 50 rfl (fun v3_2 e => ?_)
        replace hf := bnd_at e hf
        clear e
        refine ww_aload_n h dX4_isLegalEnd_50 rfl 2 rfl 51 rfl ?_
        refine ww_get h inG4 rfl 0 rfl rfl 7 (by decide) w_215 rfl dX4_isLegalEnd_51 54 rfl ?_
        refine ww_iload_n h dX4_isLegalEnd_54 rfl 1 rfl 55 rfl ?_
        obtain ⟨r_3, hu4, hf⟩ := ob1 hf
        refine ww_cSNi h (c_X9_bitOf l D ev cy (iv P 7) v2_1 _ hu4) w_636 (nw_in 744 rfl rfl) w_635 w_101 ok_X9_bitOf ⟨by decide, by decide⟩ ⟨by decide, by decide⟩ ⟨rfl, rfl⟩ [] rfl rfl (Nat.le_of_ble_eq_true rfl) dX4_isLegalEnd_55 58 rfl (Gs' := [gX4 cy oP aP P]) rfl ?_
        clear hu4
        have hJ89_5 : ∀ (_ : Unit), j_X4_isLegalEnd_89_5 = some o → ww X D A 4 Q 0 0 89 [] [] [gX4 cy oP aP P] := by
          intro _ hf
          unfold j_X4_isLegalEnd_89_5 at hf
          refine ww_iconst (v := 0) h dX4_isLegalEnd_89 (by decide) 90 rfl ?_
          obtain rfl := Option.some.inj hf
          exact ww_zret h (Or.inl rfl) dX4_isLegalEnd_90 hQ ⟨rfl, rfl⟩
        refine ww_if_ne h dX4_isLegalEnd_58 89 (by decide) 61 rfl (fun c => ?_) (fun c => ?_)
        · replace hf := ite_f c hf
          refine ww_lo [] (lo' := []) rfl ?_
          exact hJ89_5 () hf
        · replace hf := ite_t c hf
          refine ww_aload_n h dX4_isLegalEnd_61 rfl 2 rfl 62 rfl ?_
          refine ww_get h inG4 rfl 0 rfl rfl 6 (by decide) w_213 rfl dX4_isLegalEnd_62 65 rfl ?_
          refine ww_iload_n h dX4_isLegalEnd_65 rfl 0 rfl 66 rfl ?_
          obtain ⟨r_6, hu7, hf⟩ := ob1 hf
          refine ww_cSNi h (c_X9_bitOf l D ev cy (iv P 6) v3_2 _ hu7) w_636 (nw_in 744 rfl rfl) w_635 w_101 ok_X9_bitOf ⟨by decide, by decide⟩ ⟨by decide, by decide⟩ ⟨rfl, rfl⟩ [] rfl rfl (Nat.le_of_ble_eq_true rfl) dX4_isLegalEnd_66 69 rfl (Gs' := [gX4 cy oP aP P]) rfl ?_
          clear hu7
          refine ww_if_ne h dX4_isLegalEnd_69 89 (by decide) 72 rfl (fun c => ?_) (fun c => ?_)
          · replace hf := ite_f c hf
            refine ww_lo [] (lo' := []) rfl ?_
            exact hJ89_5 () hf
          · replace hf := ite_t c hf
            refine ww_aload_n h dX4_isLegalEnd_72 rfl 2 rfl 73 rfl ?_
            refine ww_get h inG4 rfl 0 rfl rfl 2 (by decide) w_202 rfl dX4_isLegalEnd_73 76 rfl ?_
            refine ww_iload_n h dX4_isLegalEnd_76 rfl 1 rfl 77 rfl ?_
            have hi := (gd_some hf).1
            replace hf := (gd_some hf).2
            refine ww_iald h 0 rfl 3 rfl (ix_in hi) dX4_isLegalEnd_77 78 rfl ?_
            clear hi
            refine ww_iload_n h dX4_isLegalEnd_78 rfl 0 rfl 79 rfl ?_
            obtain ⟨r_8, hu9, hf⟩ := ob1 hf
            refine ww_cSNi h (c_X9_bitOf l D ev cy (ar P 2 v2_1.toNatClampNeg) v3_2 _ hu9) w_636 (nw_in 744 rfl rfl) w_635 w_101 ok_X9_bitOf ⟨by decide, by decide⟩ ⟨by decide, by decide⟩ ⟨rfl, rfl⟩ [] rfl rfl (Nat.le_of_ble_eq_true rfl) dX4_isLegalEnd_79 82 rfl (Gs' := [gX4 cy oP aP P]) rfl ?_
            clear hu9
            refine ww_if_ne h dX4_isLegalEnd_82 89 (by decide) 85 rfl (fun c => ?_) (fun c => ?_)
            · replace hf := ite_f c hf
              refine ww_lo [] (lo' := []) rfl ?_
              exact hJ89_5 () hf
            · replace hf := ite_t c hf
              refine ww_iconst (v := 1) h dX4_isLegalEnd_85 (by decide) 86 rfl ?_
              refine ww_goto h dX4_isLegalEnd_86 90 (by decide) ?_
              obtain rfl := Option.some.inj hf
              exact ww_zret h (Or.inr rfl) dX4_isLegalEnd_90 hQ ⟨rfl, rfl⟩
      · replace hf := ite_t c hf
        refine ww_iconst (v := 0) h dX4_isLegalEnd_32 (by decide) 33 rfl ?_
        obtain rfl := Option.some.inj hf
        exact ww_zret h (Or.inl rfl) dX4_isLegalEnd_33 hQ ⟨rfl, rfl⟩
    · replace hf := ite_t c hf
      refine ww_iconst (v := 1) h dX4_isLegalEnd_20 (by decide) 21 rfl ?_
      obtain rfl := Option.some.inj hf
      exact ww_zret h (Or.inr rfl) dX4_isLegalEnd_21 hQ ⟨rfl, rfl⟩
theorem dX4_legalEnds_0 : decode cX4_legalEnds 0 = .ok (.iconst 0, 1) := by decide +kernel
theorem dX4_legalEnds_1 : decode cX4_legalEnds 1 = .ok (.istore_n 1, 1) := by decide +kernel
theorem dX4_legalEnds_2 : decode cX4_legalEnds 2 = .ok (.iconst 0, 1) := by decide +kernel
theorem dX4_legalEnds_3 : decode cX4_legalEnds 3 = .ok (.istore_n 2, 1) := by decide +kernel
theorem dX4_legalEnds_4 : decode cX4_legalEnds 4 = .ok (.iload_n 2, 1) := by decide +kernel
theorem dX4_legalEnds_5 : decode cX4_legalEnds 5 = .ok (.aload_n 0, 1) := by decide +kernel
theorem dX4_legalEnds_6 : decode cX4_legalEnds 6 = .ok (.getfield 34, 3) := by decide +kernel
theorem dX4_legalEnds_9 : decode cX4_legalEnds 9 = .ok (.if_icmp .ge 20, 3) := by decide +kernel
theorem dX4_legalEnds_12 : decode cX4_legalEnds 12 = .ok (.aload_n 0, 1) := by decide +kernel
theorem dX4_legalEnds_13 : decode cX4_legalEnds 13 = .ok (.iload_n 2, 1) := by decide +kernel
theorem dX4_legalEnds_14 : decode cX4_legalEnds 14 = .ok (.invokevirtual 64, 3) := by decide +kernel
theorem dX4_legalEnds_17 : decode cX4_legalEnds 17 = .ok (.ifCond .eq 6, 3) := by decide +kernel
theorem dX4_legalEnds_20 : decode cX4_legalEnds 20 = .ok (.iinc 1 1, 3) := by decide +kernel
theorem dX4_legalEnds_23 : decode cX4_legalEnds 23 = .ok (.iinc 2 1, 3) := by decide +kernel
theorem dX4_legalEnds_26 : decode cX4_legalEnds 26 = .ok (.goto (-22), 3) := by decide +kernel
theorem dX4_legalEnds_29 : decode cX4_legalEnds 29 = .ok (.iload_n 1, 1) := by decide +kernel
theorem dX4_legalEnds_30 : decode cX4_legalEnds 30 = .ok (.ireturn, 1) := by decide +kernel
theorem ok_X4_legalEnds : okY RX4 yX4_legalEnds 0 := ⟨rfl, by decide, by decide, by decide +kernel⟩
def j_X4_legalEnds_23_9 (v2_5 : Int32) (v1_8 : Int32) : Option ((Int32 × Int32) ⊕ (Int32)) := bnd (v2_5 + 1) (fun v2_10 => some (.inl (v1_8, v2_10)))
def s_X4_legalEnds_4_3 (P : OV) : (Int32 × Int32) → Option ((Int32 × Int32) ⊕ (Int32)) := un2 (fun v1_4 v2_5 => (if (iv P 4) ≤ v2_5 then some (.inr v1_4) else (f_X4_isLegalEnd P v2_5).bind (un1 (fun r_6 => (if r_6 = 0 then j_X4_legalEnds_23_9 v2_5 v1_4 else bnd (v1_4 + 1) (fun v1_11 => j_X4_legalEnds_23_9 v2_5 v1_11))))))
def f_X4_legalEnds (P : OV) : Option (Int32) := bnd (0 : Int32) (fun v1_1 => bnd (0 : Int32) (fun v2_2 => ((lp (s_X4_legalEnds_4_3 P) 5000 (v1_1, v2_2)).bind (un1 (fun v1_12 => some v1_12)))))
def r_X4_legalEnds : Room := { frames := 2, cells := 0, slots := 0, locals := 44 }
set_option maxHeartbeats 4000000 in
set_option maxRecDepth 100000 in
theorem c_X4_legalEnds (l : Launch) (D : va_G) (ev : EvT) (cy : Nat → ClassId) (oP : Nat) (aP : Nat → Nat) (P : OV) (o : Int32) (hf : f_X4_legalEnds P = some o) : Fn l yX4_legalEnds cX4_legalEnds 3 (some .int) r_X4_legalEnds D ev cy [.ref oP] [gX4 cy oP aP P] (fun v G => v = some (.int o) ∧ G = [gX4 cy oP aP P]) := by
  refine Fn_of (by decide) (Nat.le_of_ble_eq_true rfl) (fun X A Q h hQ _ => ?_)
  unfold f_X4_legalEnds at hf
  show ww X D A 3 Q 0 0 0 [(0, .ref oP)] [] [gX4 cy oP aP P]
  refine ww_iconst (v := 0) h dX4_legalEnds_0 (by decide) 1 rfl ?_
  refine ww_ist_n h dX4_legalEnds_1 rfl (by decide) (fun v1_1 => [(1, .int v1_1), (0, .ref oP)]) (fun _ => rfl) 2 rfl (fun v1_1 e => ?_)
  replace hf := bnd_at e hf
  clear e
  refine ww_iconst (v := 0) h dX4_legalEnds_2 (by decide) 3 rfl ?_
  refine ww_ist_n h dX4_legalEnds_3 rfl (by decide) (fun v2_2 => [(2, .int v2_2), (1, .int v1_1), (0, .ref oP)]) (fun _ => rfl) 4 rfl (fun v2_2 e => ?_)
  replace hf := bnd_at e hf
  clear e
  refine ww_lo [2, 1, 0] (lo' := [(0, .ref oP), (1, .int v1_1), (2, .int v2_2)]) rfl ?_
  obtain ⟨v1_12, h3, hf⟩ := ob1 hf
  refine lp_walk (un2 (fun v1_4 v2_5 => ww X D A 3 Q 0 0 4 [(0, .ref oP), (1, .int v1_4), (2, .int v2_5)] [] [gX4 cy oP aP P])) (un1 (fun v1_12 => ww X D A 3 Q 0 0 29 [(1, .int v1_12)] [] [gX4 cy oP aP P])) ?_ _ _ _ h3 ?_
  · clear h3 hf
    intro s3 o3 hf hI3 hE3
    obtain ⟨v1_4, v2_5⟩ := s3
    unfold s_X4_legalEnds_4_3 at hf
    replace hf := un2_e hf
    show ww X D A 3 Q 0 0 4 [(0, .ref oP), (1, .int v1_4), (2, .int v2_5)] [] [gX4 cy oP aP P]
    refine ww_iload_n h dX4_legalEnds_4 rfl 2 rfl 5 rfl ?_
    refine ww_aload_n h dX4_legalEnds_5 rfl 0 rfl 6 rfl ?_
    refine ww_get h inG4 rfl 0 rfl rfl 4 (by decide) w_208 rfl dX4_legalEnds_6 9 rfl ?_
    refine ww_icmp_ge h dX4_legalEnds_9 29 (by decide) 12 rfl (fun c => ?_) (fun c => ?_)
    · replace hf := ite_t c hf
      refine ww_lo [1] (lo' := [(1, .int v1_4)]) rfl ?_
      exact hE3 v1_4 (Option.some.inj hf).symm
    · replace hf := ite_f c hf
      refine ww_aload_n h dX4_legalEnds_12 rfl 0 rfl 13 rfl ?_
      refine ww_iload_n h dX4_legalEnds_13 rfl 2 rfl 14 rfl ?_
      obtain ⟨r_6, hu7, hf⟩ := ob1 hf
      refine ww_cVi h (c_X4_isLegalEnd l D ev cy oP aP P v2_5 _ hu7) ⟨w_801, w_1142, w_799, w_800, w_105, ok_X4_isLegalEnd⟩ ⟨by decide, by decide⟩ ⟨by decide, by decide⟩ ⟨rfl, rfl⟩ [0] rfl 0 rfl rfl rfl rfl (Nat.le_of_ble_eq_true rfl) dX4_legalEnds_14 17 rfl (Gs' := [gX4 cy oP aP P]) rfl ?_
      clear hu7
      have hJ23_9 : ∀ (v1_8 : Int32), j_X4_legalEnds_23_9 v2_5 v1_8 = some o3 → ww X D A 3 Q 0 0 23 [(0, .ref oP), (1, .int v1_8), (2, .int v2_5)] [] [gX4 cy oP aP P] := by
        intro v1_8 hf
        unfold j_X4_legalEnds_23_9 at hf
        refine ww_inc (c := 1) h dX4_legalEnds_23 2 rfl (by decide) (by decide) (fun v2_10 => [(2, .int v2_10), (0, .ref oP), (1, .int v1_8)]) (fun _ => rfl) 26 rfl (fun v2_10 e => ?_)
        replace hf := bnd_at e hf
        clear e
        refine ww_goto h dX4_legalEnds_26 4 (by decide) ?_
        refine ww_lo [1, 2, 0] (lo' := [(0, .ref oP), (1, .int v1_8), (2, .int v2_10)]) rfl ?_
        exact hI3 (v1_8, v2_10) (Option.some.inj hf).symm
      refine ww_if_eq h dX4_legalEnds_17 23 (by decide) 20 rfl (fun c => ?_) (fun c => ?_)
      · replace hf := ite_t c hf
        exact hJ23_9 v1_4 hf
      · replace hf := ite_f c hf
        refine ww_inc (c := 1) h dX4_legalEnds_20 1 rfl (by decide) (by decide) (fun v1_11 => [(1, .int v1_11), (0, .ref oP), (2, .int v2_5)]) (fun _ => rfl) 23 rfl (fun v1_11 e => ?_)
        replace hf := bnd_at e hf
        clear e
        refine ww_lo [1, 0, 2] (lo' := [(0, .ref oP), (1, .int v1_11), (2, .int v2_5)]) rfl ?_
        exact hJ23_9 v1_11 hf
  · clear h3
    show ww X D A 3 Q 0 0 29 [(1, .int v1_12)] [] [gX4 cy oP aP P]
    refine ww_iload_n h dX4_legalEnds_29 rfl 0 rfl 30 rfl ?_
    obtain rfl := Option.some.inj hf
    exact ww_iret h dX4_legalEnds_30 hQ ⟨rfl, rfl⟩
theorem dX4_longestStretch_0 : decode cX4_longestStretch 0 = .ok (.iconst 0, 1) := by decide +kernel
theorem dX4_longestStretch_1 : decode cX4_longestStretch 1 = .ok (.istore_n 1, 1) := by decide +kernel
theorem dX4_longestStretch_2 : decode cX4_longestStretch 2 = .ok (.iconst 0, 1) := by decide +kernel
theorem dX4_longestStretch_3 : decode cX4_longestStretch 3 = .ok (.istore_n 2, 1) := by decide +kernel
theorem dX4_longestStretch_4 : decode cX4_longestStretch 4 = .ok (.iconst 0, 1) := by decide +kernel
theorem dX4_longestStretch_5 : decode cX4_longestStretch 5 = .ok (.istore_n 3, 1) := by decide +kernel
theorem dX4_longestStretch_6 : decode cX4_longestStretch 6 = .ok (.iload_n 3, 1) := by decide +kernel
theorem dX4_longestStretch_7 : decode cX4_longestStretch 7 = .ok (.aload_n 0, 1) := by decide +kernel
theorem dX4_longestStretch_8 : decode cX4_longestStretch 8 = .ok (.getfield 34, 3) := by decide +kernel
theorem dX4_longestStretch_11 : decode cX4_longestStretch 11 = .ok (.if_icmp .ge 31, 3) := by decide +kernel
theorem dX4_longestStretch_14 : decode cX4_longestStretch 14 = .ok (.aload_n 0, 1) := by decide +kernel
theorem dX4_longestStretch_15 : decode cX4_longestStretch 15 = .ok (.iload_n 3, 1) := by decide +kernel
theorem dX4_longestStretch_16 : decode cX4_longestStretch 16 = .ok (.invokevirtual 64, 3) := by decide +kernel
theorem dX4_longestStretch_19 : decode cX4_longestStretch 19 = .ok (.ifCond .eq 17, 3) := by decide +kernel
theorem dX4_longestStretch_22 : decode cX4_longestStretch 22 = .ok (.iload_n 1, 1) := by decide +kernel
theorem dX4_longestStretch_23 : decode cX4_longestStretch 23 = .ok (.iload_n 3, 1) := by decide +kernel
theorem dX4_longestStretch_24 : decode cX4_longestStretch 24 = .ok (.iconst 1, 1) := by decide +kernel
theorem dX4_longestStretch_25 : decode cX4_longestStretch 25 = .ok (.iadd, 1) := by decide +kernel
theorem dX4_longestStretch_26 : decode cX4_longestStretch 26 = .ok (.iload_n 2, 1) := by decide +kernel
theorem dX4_longestStretch_27 : decode cX4_longestStretch 27 = .ok (.isub, 1) := by decide +kernel
theorem dX4_longestStretch_28 : decode cX4_longestStretch 28 = .ok (.invokestatic 67, 3) := by decide +kernel
theorem dX4_longestStretch_31 : decode cX4_longestStretch 31 = .ok (.istore_n 1, 1) := by decide +kernel
theorem dX4_longestStretch_32 : decode cX4_longestStretch 32 = .ok (.iload_n 3, 1) := by decide +kernel
theorem dX4_longestStretch_33 : decode cX4_longestStretch 33 = .ok (.iconst 1, 1) := by decide +kernel
theorem dX4_longestStretch_34 : decode cX4_longestStretch 34 = .ok (.iadd, 1) := by decide +kernel
theorem dX4_longestStretch_35 : decode cX4_longestStretch 35 = .ok (.istore_n 2, 1) := by decide +kernel
theorem dX4_longestStretch_36 : decode cX4_longestStretch 36 = .ok (.iinc 3 1, 3) := by decide +kernel
theorem dX4_longestStretch_39 : decode cX4_longestStretch 39 = .ok (.goto (-33), 3) := by decide +kernel
theorem dX4_longestStretch_42 : decode cX4_longestStretch 42 = .ok (.iload_n 1, 1) := by decide +kernel
theorem dX4_longestStretch_43 : decode cX4_longestStretch 43 = .ok (.ireturn, 1) := by decide +kernel
theorem ok_X4_longestStretch : okY RX4 yX4_longestStretch 0 := ⟨rfl, by decide, by decide, by decide +kernel⟩
def j_X4_longestStretch_36_12 (v3_7 : Int32) (v1_10 : Int32) (v2_11 : Int32) : Option ((Int32 × Int32 × Int32) ⊕ (Int32)) := bnd (v3_7 + 1) (fun v3_13 => some (.inl (v1_10, v2_11, v3_13)))
def s_X4_longestStretch_6_4 (P : OV) : (Int32 × Int32 × Int32) → Option ((Int32 × Int32 × Int32) ⊕ (Int32)) := un3 (fun v1_5 v2_6 v3_7 => (if (iv P 4) ≤ v3_7 then some (.inr v1_5) else (f_X4_isLegalEnd P v3_7).bind (un1 (fun r_8 => (if r_8 = 0 then j_X4_longestStretch_36_12 v3_7 v1_5 v2_6 else bnd (if v1_5 < ((v3_7 + (1 : Int32)) - v2_6) then ((v3_7 + (1 : Int32)) - v2_6) else v1_5) (fun v1_14 => bnd (v3_7 + (1 : Int32)) (fun v2_15 => j_X4_longestStretch_36_12 v3_7 v1_14 v2_15)))))))
def f_X4_longestStretch (P : OV) : Option (Int32) := bnd (0 : Int32) (fun v1_1 => bnd (0 : Int32) (fun v2_2 => bnd (0 : Int32) (fun v3_3 => ((lp (s_X4_longestStretch_6_4 P) 5000 (v1_1, v2_2, v3_3)).bind (un1 (fun v1_16 => some v1_16))))))
def r_X4_longestStretch : Room := { frames := 2, cells := 0, slots := 0, locals := 44 }
set_option maxHeartbeats 4000000 in
set_option maxRecDepth 100000 in
theorem c_X4_longestStretch (l : Launch) (D : va_G) (ev : EvT) (cy : Nat → ClassId) (oP : Nat) (aP : Nat → Nat) (P : OV) (o : Int32) (hf : f_X4_longestStretch P = some o) : Fn l yX4_longestStretch cX4_longestStretch 4 (some .int) r_X4_longestStretch D ev cy [.ref oP] [gX4 cy oP aP P] (fun v G => v = some (.int o) ∧ G = [gX4 cy oP aP P]) := by
  refine Fn_of (by decide) (Nat.le_of_ble_eq_true rfl) (fun X A Q h hQ _ => ?_)
  unfold f_X4_longestStretch at hf
  show ww X D A 4 Q 0 0 0 [(0, .ref oP)] [] [gX4 cy oP aP P]
  refine ww_iconst (v := 0) h dX4_longestStretch_0 (by decide) 1 rfl ?_
  refine ww_ist_n h dX4_longestStretch_1 rfl (by decide) (fun v1_1 => [(1, .int v1_1), (0, .ref oP)]) (fun _ => rfl) 2 rfl (fun v1_1 e => ?_)
  replace hf := bnd_at e hf
  clear e
  refine ww_iconst (v := 0) h dX4_longestStretch_2 (by decide) 3 rfl ?_
  refine ww_ist_n h dX4_longestStretch_3 rfl (by decide) (fun v2_2 => [(2, .int v2_2), (1, .int v1_1), (0, .ref oP)]) (fun _ => rfl) 4 rfl (fun v2_2 e => ?_)
  replace hf := bnd_at e hf
  clear e
  refine ww_iconst (v := 0) h dX4_longestStretch_4 (by decide) 5 rfl ?_
  refine ww_ist_n h dX4_longestStretch_5 rfl (by decide) (fun v3_3 => [(3, .int v3_3), (2, .int v2_2), (1, .int v1_1), (0, .ref oP)]) (fun _ => rfl) 6 rfl (fun v3_3 e => ?_)
  replace hf := bnd_at e hf
  clear e
  refine ww_lo [3, 2, 1, 0] (lo' := [(0, .ref oP), (1, .int v1_1), (2, .int v2_2), (3, .int v3_3)]) rfl ?_
  obtain ⟨v1_16, h4, hf⟩ := ob1 hf
  refine lp_walk (un3 (fun v1_5 v2_6 v3_7 => ww X D A 4 Q 0 0 6 [(0, .ref oP), (1, .int v1_5), (2, .int v2_6), (3, .int v3_7)] [] [gX4 cy oP aP P])) (un1 (fun v1_16 => ww X D A 4 Q 0 0 42 [(1, .int v1_16)] [] [gX4 cy oP aP P])) ?_ _ _ _ h4 ?_
  · clear h4 hf
    intro s4 o4 hf hI4 hE4
    obtain ⟨v1_5, v2_6, v3_7⟩ := s4
    unfold s_X4_longestStretch_6_4 at hf
    replace hf := un3_e hf
    show ww X D A 4 Q 0 0 6 [(0, .ref oP), (1, .int v1_5), (2, .int v2_6), (3, .int v3_7)] [] [gX4 cy oP aP P]
    refine ww_iload_n h dX4_longestStretch_6 rfl 3 rfl 7 rfl ?_
    refine ww_aload_n h dX4_longestStretch_7 rfl 0 rfl 8 rfl ?_
    refine ww_get h inG4 rfl 0 rfl rfl 4 (by decide) w_208 rfl dX4_longestStretch_8 11 rfl ?_
    refine ww_icmp_ge h dX4_longestStretch_11 42 (by decide) 14 rfl (fun c => ?_) (fun c => ?_)
    · replace hf := ite_t c hf
      refine ww_lo [1] (lo' := [(1, .int v1_5)]) rfl ?_
      exact hE4 v1_5 (Option.some.inj hf).symm
    · replace hf := ite_f c hf
      refine ww_aload_n h dX4_longestStretch_14 rfl 0 rfl 15 rfl ?_
      refine ww_iload_n h dX4_longestStretch_15 rfl 3 rfl 16 rfl ?_
      obtain ⟨r_8, hu9, hf⟩ := ob1 hf
      refine ww_cVi h (c_X4_isLegalEnd l D ev cy oP aP P v3_7 _ hu9) ⟨w_801, w_1142, w_799, w_800, w_105, ok_X4_isLegalEnd⟩ ⟨by decide, by decide⟩ ⟨by decide, by decide⟩ ⟨rfl, rfl⟩ [0] rfl 0 rfl rfl rfl rfl (Nat.le_of_ble_eq_true rfl) dX4_longestStretch_16 19 rfl (Gs' := [gX4 cy oP aP P]) rfl ?_
      clear hu9
      have hJ36_12 : ∀ (v1_10 : Int32) (v2_11 : Int32), j_X4_longestStretch_36_12 v3_7 v1_10 v2_11 = some o4 → ww X D A 4 Q 0 0 36 [(0, .ref oP), (1, .int v1_10), (2, .int v2_11), (3, .int v3_7)] [] [gX4 cy oP aP P] := by
        intro v1_10 v2_11 hf
        unfold j_X4_longestStretch_36_12 at hf
        refine ww_inc (c := 1) h dX4_longestStretch_36 3 rfl (by decide) (by decide) (fun v3_13 => [(3, .int v3_13), (0, .ref oP), (1, .int v1_10), (2, .int v2_11)]) (fun _ => rfl) 39 rfl (fun v3_13 e => ?_)
        replace hf := bnd_at e hf
        clear e
        refine ww_goto h dX4_longestStretch_39 6 (by decide) ?_
        refine ww_lo [1, 2, 3, 0] (lo' := [(0, .ref oP), (1, .int v1_10), (2, .int v2_11), (3, .int v3_13)]) rfl ?_
        exact hI4 (v1_10, v2_11, v3_13) (Option.some.inj hf).symm
      refine ww_if_eq h dX4_longestStretch_19 36 (by decide) 22 rfl (fun c => ?_) (fun c => ?_)
      · replace hf := ite_t c hf
        exact hJ36_12 v1_5 v2_6 hf
      · replace hf := ite_f c hf
        refine ww_iload_n h dX4_longestStretch_22 rfl 1 rfl 23 rfl ?_
        refine ww_iload_n h dX4_longestStretch_23 rfl 3 rfl 24 rfl ?_
        refine ww_iconst (v := 1) h dX4_longestStretch_24 (by decide) 25 rfl ?_
        refine ww_iadd h dX4_longestStretch_25 26 rfl ?_
        refine ww_iload_n h dX4_longestStretch_26 rfl 2 rfl 27 rfl ?_
        refine ww_isub h dX4_longestStretch_27 28 rfl ?_
        refine ww_max h w_1147 w_134 w_103 w_135 ⟨by decide, Nat.le_of_ble_eq_true rfl, by decide, by decide⟩ dX4_longestStretch_28 31 rfl ?_
        refine ww_ist_n h dX4_longestStretch_31 rfl (by decide) (fun v1_14 => [(1, .int v1_14), (0, .ref oP), (2, .int v2_6), (3, .int v3_7)]) (fun _ => rfl) 32 rfl (fun v1_14 e => ?_)
        replace hf := bnd_at e hf
        clear e
        refine ww_iload_n h dX4_longestStretch_32 rfl 3 rfl 33 rfl ?_
        refine ww_iconst (v := 1) h dX4_longestStretch_33 (by decide) 34 rfl ?_
        refine ww_iadd h dX4_longestStretch_34 35 rfl ?_
        refine ww_ist_n h dX4_longestStretch_35 rfl (by decide) (fun v2_15 => [(2, .int v2_15), (1, .int v1_14), (0, .ref oP), (3, .int v3_7)]) (fun _ => rfl) 36 rfl (fun v2_15 e => ?_)
        replace hf := bnd_at e hf
        clear e
        refine ww_lo [2, 1, 0, 3] (lo' := [(0, .ref oP), (1, .int v1_14), (2, .int v2_15), (3, .int v3_7)]) rfl ?_
        exact hJ36_12 v1_14 v2_15 hf
  · clear h4
    show ww X D A 4 Q 0 0 42 [(1, .int v1_16)] [] [gX4 cy oP aP P]
    refine ww_iload_n h dX4_longestStretch_42 rfl 0 rfl 43 rfl ?_
    obtain rfl := Option.some.inj hf
    exact ww_iret h dX4_longestStretch_43 hQ ⟨rfl, rfl⟩
theorem dX4_signsOf_0 : decode cX4_signsOf 0 = .ok (.iconst 0, 1) := by decide +kernel
theorem dX4_signsOf_1 : decode cX4_signsOf 1 = .ok (.istore_n 2, 1) := by decide +kernel
theorem dX4_signsOf_2 : decode cX4_signsOf 2 = .ok (.iconst 0, 1) := by decide +kernel
theorem dX4_signsOf_3 : decode cX4_signsOf 3 = .ok (.istore_n 3, 1) := by decide +kernel
theorem dX4_signsOf_4 : decode cX4_signsOf 4 = .ok (.iload_n 3, 1) := by decide +kernel
theorem dX4_signsOf_5 : decode cX4_signsOf 5 = .ok (.aload_n 0, 1) := by decide +kernel
theorem dX4_signsOf_6 : decode cX4_signsOf 6 = .ok (.getfield 34, 3) := by decide +kernel
theorem dX4_signsOf_9 : decode cX4_signsOf 9 = .ok (.if_icmp .ge 22, 3) := by decide +kernel
theorem dX4_signsOf_12 : decode cX4_signsOf 12 = .ok (.aload_n 0, 1) := by decide +kernel
theorem dX4_signsOf_13 : decode cX4_signsOf 13 = .ok (.getfield 9, 3) := by decide +kernel
theorem dX4_signsOf_16 : decode cX4_signsOf 16 = .ok (.iload_n 3, 1) := by decide +kernel
theorem dX4_signsOf_17 : decode cX4_signsOf 17 = .ok (.iaload, 1) := by decide +kernel
theorem dX4_signsOf_18 : decode cX4_signsOf 18 = .ok (.iload_n 1, 1) := by decide +kernel
theorem dX4_signsOf_19 : decode cX4_signsOf 19 = .ok (.if_icmp .ne 6, 3) := by decide +kernel
theorem dX4_signsOf_22 : decode cX4_signsOf 22 = .ok (.iinc 2 1, 3) := by decide +kernel
theorem dX4_signsOf_25 : decode cX4_signsOf 25 = .ok (.iinc 3 1, 3) := by decide +kernel
theorem dX4_signsOf_28 : decode cX4_signsOf 28 = .ok (.goto (-24), 3) := by decide +kernel
theorem dX4_signsOf_31 : decode cX4_signsOf 31 = .ok (.iload_n 2, 1) := by decide +kernel
theorem dX4_signsOf_32 : decode cX4_signsOf 32 = .ok (.ireturn, 1) := by decide +kernel
theorem ok_X4_signsOf : okY RX4 yX4_signsOf 1 := ⟨rfl, by decide, by decide, by decide +kernel⟩
def j_X4_signsOf_25_7 (v3_5 : Int32) (v2_6 : Int32) : Option ((Int32 × Int32) ⊕ (Int32)) := bnd (v3_5 + 1) (fun v3_8 => some (.inl (v2_6, v3_8)))
def s_X4_signsOf_4_3 (P : OV) (p0 : Int32) : (Int32 × Int32) → Option ((Int32 × Int32) ⊕ (Int32)) := un2 (fun v2_4 v3_5 => (if (iv P 4) ≤ v3_5 then some (.inr v2_4) else gd (ix v3_5 40) ((if (ar P 0 v3_5.toNatClampNeg) = p0 then bnd (v2_4 + 1) (fun v2_9 => j_X4_signsOf_25_7 v3_5 v2_9) else j_X4_signsOf_25_7 v3_5 v2_4))))
def f_X4_signsOf (P : OV) (p0 : Int32) : Option (Int32) := bnd (0 : Int32) (fun v2_1 => bnd (0 : Int32) (fun v3_2 => ((lp (s_X4_signsOf_4_3 P p0) 5000 (v2_1, v3_2)).bind (un1 (fun v2_10 => some v2_10)))))
def r_X4_signsOf : Room := { frames := 0, cells := 0, slots := 0, locals := 0 }
set_option maxHeartbeats 4000000 in
set_option maxRecDepth 100000 in
theorem c_X4_signsOf (l : Launch) (D : va_G) (ev : EvT) (cy : Nat → ClassId) (oP : Nat) (aP : Nat → Nat) (P : OV) (p0 : Int32) (o : Int32) (hf : f_X4_signsOf P p0 = some o) : Fn l yX4_signsOf cX4_signsOf 4 (some .int) r_X4_signsOf D ev cy [.ref oP, .int p0] [gX4 cy oP aP P] (fun v G => v = some (.int o) ∧ G = [gX4 cy oP aP P]) := by
  refine Fn_of (by decide) (Nat.le_of_ble_eq_true rfl) (fun X A Q h hQ _ => ?_)
  unfold f_X4_signsOf at hf
  show ww X D A 4 Q 0 0 0 [(0, .ref oP), (1, .int p0)] [] [gX4 cy oP aP P]
  refine ww_iconst (v := 0) h dX4_signsOf_0 (by decide) 1 rfl ?_
  refine ww_ist_n h dX4_signsOf_1 rfl (by decide) (fun v2_1 => [(2, .int v2_1), (0, .ref oP), (1, .int p0)]) (fun _ => rfl) 2 rfl (fun v2_1 e => ?_)
  replace hf := bnd_at e hf
  clear e
  refine ww_iconst (v := 0) h dX4_signsOf_2 (by decide) 3 rfl ?_
  refine ww_ist_n h dX4_signsOf_3 rfl (by decide) (fun v3_2 => [(3, .int v3_2), (2, .int v2_1), (0, .ref oP), (1, .int p0)]) (fun _ => rfl) 4 rfl (fun v3_2 e => ?_)
  replace hf := bnd_at e hf
  clear e
  refine ww_lo [2, 3, 1, 0] (lo' := [(0, .ref oP), (1, .int p0), (2, .int v2_1), (3, .int v3_2)]) rfl ?_
  obtain ⟨v2_10, h3, hf⟩ := ob1 hf
  refine lp_walk (un2 (fun v2_4 v3_5 => ww X D A 4 Q 0 0 4 [(0, .ref oP), (1, .int p0), (2, .int v2_4), (3, .int v3_5)] [] [gX4 cy oP aP P])) (un1 (fun v2_10 => ww X D A 4 Q 0 0 31 [(2, .int v2_10)] [] [gX4 cy oP aP P])) ?_ _ _ _ h3 ?_
  · clear h3 hf
    intro s3 o3 hf hI3 hE3
    obtain ⟨v2_4, v3_5⟩ := s3
    unfold s_X4_signsOf_4_3 at hf
    replace hf := un2_e hf
    show ww X D A 4 Q 0 0 4 [(0, .ref oP), (1, .int p0), (2, .int v2_4), (3, .int v3_5)] [] [gX4 cy oP aP P]
    refine ww_iload_n h dX4_signsOf_4 rfl 3 rfl 5 rfl ?_
    refine ww_aload_n h dX4_signsOf_5 rfl 0 rfl 6 rfl ?_
    refine ww_get h inG4 rfl 0 rfl rfl 4 (by decide) w_208 rfl dX4_signsOf_6 9 rfl ?_
    refine ww_icmp_ge h dX4_signsOf_9 31 (by decide) 12 rfl (fun c => ?_) (fun c => ?_)
    · replace hf := ite_t c hf
      refine ww_lo [2] (lo' := [(2, .int v2_4)]) rfl ?_
      exact hE3 v2_4 (Option.some.inj hf).symm
    · replace hf := ite_f c hf
      refine ww_aload_n h dX4_signsOf_12 rfl 0 rfl 13 rfl ?_
      refine ww_get h inG4 rfl 0 rfl rfl 0 (by decide) w_195 rfl dX4_signsOf_13 16 rfl ?_
      refine ww_iload_n h dX4_signsOf_16 rfl 3 rfl 17 rfl ?_
      have hi := (gd_some hf).1
      replace hf := (gd_some hf).2
      refine ww_iald h 0 rfl 1 rfl (ix_in hi) dX4_signsOf_17 18 rfl ?_
      clear hi
      refine ww_iload_n h dX4_signsOf_18 rfl 1 rfl 19 rfl ?_
      have hJ25_7 : ∀ (v2_6 : Int32), j_X4_signsOf_25_7 v3_5 v2_6 = some o3 → ww X D A 4 Q 0 0 25 [(0, .ref oP), (1, .int p0), (2, .int v2_6), (3, .int v3_5)] [] [gX4 cy oP aP P] := by
        intro v2_6 hf
        unfold j_X4_signsOf_25_7 at hf
        refine ww_inc (c := 1) h dX4_signsOf_25 3 rfl (by decide) (by decide) (fun v3_8 => [(3, .int v3_8), (0, .ref oP), (1, .int p0), (2, .int v2_6)]) (fun _ => rfl) 28 rfl (fun v3_8 e => ?_)
        replace hf := bnd_at e hf
        clear e
        refine ww_goto h dX4_signsOf_28 4 (by decide) ?_
        refine ww_lo [1, 2, 3, 0] (lo' := [(0, .ref oP), (1, .int p0), (2, .int v2_6), (3, .int v3_8)]) rfl ?_
        exact hI3 (v2_6, v3_8) (Option.some.inj hf).symm
      refine ww_icmp_ne h dX4_signsOf_19 25 (by decide) 22 rfl (fun c => ?_) (fun c => ?_)
      · replace hf := ite_f c hf
        exact hJ25_7 v2_4 hf
      · replace hf := ite_t c hf
        refine ww_inc (c := 1) h dX4_signsOf_22 2 rfl (by decide) (by decide) (fun v2_9 => [(2, .int v2_9), (0, .ref oP), (1, .int p0), (3, .int v3_5)]) (fun _ => rfl) 25 rfl (fun v2_9 e => ?_)
        replace hf := bnd_at e hf
        clear e
        refine ww_lo [1, 2, 0, 3] (lo' := [(0, .ref oP), (1, .int p0), (2, .int v2_9), (3, .int v3_5)]) rfl ?_
        exact hJ25_7 v2_9 hf
  · clear h3
    show ww X D A 4 Q 0 0 31 [(2, .int v2_10)] [] [gX4 cy oP aP P]
    refine ww_iload_n h dX4_signsOf_31 rfl 0 rfl 32 rfl ?_
    obtain rfl := Option.some.inj hf
    exact ww_iret h dX4_signsOf_32 hQ ⟨rfl, rfl⟩
theorem dX4_marksOf_0 : decode cX4_marksOf 0 = .ok (.iconst 0, 1) := by decide +kernel
theorem dX4_marksOf_1 : decode cX4_marksOf 1 = .ok (.istore_n 2, 1) := by decide +kernel
theorem dX4_marksOf_2 : decode cX4_marksOf 2 = .ok (.iconst 0, 1) := by decide +kernel
theorem dX4_marksOf_3 : decode cX4_marksOf 3 = .ok (.istore_n 3, 1) := by decide +kernel
theorem dX4_marksOf_4 : decode cX4_marksOf 4 = .ok (.iload_n 3, 1) := by decide +kernel
theorem dX4_marksOf_5 : decode cX4_marksOf 5 = .ok (.aload_n 0, 1) := by decide +kernel
theorem dX4_marksOf_6 : decode cX4_marksOf 6 = .ok (.getfield 34, 3) := by decide +kernel
theorem dX4_marksOf_9 : decode cX4_marksOf 9 = .ok (.if_icmp .ge 22, 3) := by decide +kernel
theorem dX4_marksOf_12 : decode cX4_marksOf 12 = .ok (.aload_n 0, 1) := by decide +kernel
theorem dX4_marksOf_13 : decode cX4_marksOf 13 = .ok (.getfield 15, 3) := by decide +kernel
theorem dX4_marksOf_16 : decode cX4_marksOf 16 = .ok (.iload_n 3, 1) := by decide +kernel
theorem dX4_marksOf_17 : decode cX4_marksOf 17 = .ok (.iaload, 1) := by decide +kernel
theorem dX4_marksOf_18 : decode cX4_marksOf 18 = .ok (.iload_n 1, 1) := by decide +kernel
theorem dX4_marksOf_19 : decode cX4_marksOf 19 = .ok (.if_icmp .ne 6, 3) := by decide +kernel
theorem dX4_marksOf_22 : decode cX4_marksOf 22 = .ok (.iinc 2 1, 3) := by decide +kernel
theorem dX4_marksOf_25 : decode cX4_marksOf 25 = .ok (.iinc 3 1, 3) := by decide +kernel
theorem dX4_marksOf_28 : decode cX4_marksOf 28 = .ok (.goto (-24), 3) := by decide +kernel
theorem dX4_marksOf_31 : decode cX4_marksOf 31 = .ok (.iload_n 2, 1) := by decide +kernel
theorem dX4_marksOf_32 : decode cX4_marksOf 32 = .ok (.ireturn, 1) := by decide +kernel
theorem ok_X4_marksOf : okY RX4 yX4_marksOf 1 := ⟨rfl, by decide, by decide, by decide +kernel⟩
def j_X4_marksOf_25_7 (v3_5 : Int32) (v2_6 : Int32) : Option ((Int32 × Int32) ⊕ (Int32)) := bnd (v3_5 + 1) (fun v3_8 => some (.inl (v2_6, v3_8)))
def s_X4_marksOf_4_3 (P : OV) (p0 : Int32) : (Int32 × Int32) → Option ((Int32 × Int32) ⊕ (Int32)) := un2 (fun v2_4 v3_5 => (if (iv P 4) ≤ v3_5 then some (.inr v2_4) else gd (ix v3_5 40) ((if (ar P 1 v3_5.toNatClampNeg) = p0 then bnd (v2_4 + 1) (fun v2_9 => j_X4_marksOf_25_7 v3_5 v2_9) else j_X4_marksOf_25_7 v3_5 v2_4))))
def f_X4_marksOf (P : OV) (p0 : Int32) : Option (Int32) := bnd (0 : Int32) (fun v2_1 => bnd (0 : Int32) (fun v3_2 => ((lp (s_X4_marksOf_4_3 P p0) 5000 (v2_1, v3_2)).bind (un1 (fun v2_10 => some v2_10)))))
def r_X4_marksOf : Room := { frames := 0, cells := 0, slots := 0, locals := 0 }
set_option maxHeartbeats 4000000 in
set_option maxRecDepth 100000 in
theorem c_X4_marksOf (l : Launch) (D : va_G) (ev : EvT) (cy : Nat → ClassId) (oP : Nat) (aP : Nat → Nat) (P : OV) (p0 : Int32) (o : Int32) (hf : f_X4_marksOf P p0 = some o) : Fn l yX4_marksOf cX4_marksOf 4 (some .int) r_X4_marksOf D ev cy [.ref oP, .int p0] [gX4 cy oP aP P] (fun v G => v = some (.int o) ∧ G = [gX4 cy oP aP P]) := by
  refine Fn_of (by decide) (Nat.le_of_ble_eq_true rfl) (fun X A Q h hQ _ => ?_)
  unfold f_X4_marksOf at hf
  show ww X D A 4 Q 0 0 0 [(0, .ref oP), (1, .int p0)] [] [gX4 cy oP aP P]
  refine ww_iconst (v := 0) h dX4_marksOf_0 (by decide) 1 rfl ?_
  refine ww_ist_n h dX4_marksOf_1 rfl (by decide) (fun v2_1 => [(2, .int v2_1), (0, .ref oP), (1, .int p0)]) (fun _ => rfl) 2 rfl (fun v2_1 e => ?_)
  replace hf := bnd_at e hf
  clear e
  refine ww_iconst (v := 0) h dX4_marksOf_2 (by decide) 3 rfl ?_
  refine ww_ist_n h dX4_marksOf_3 rfl (by decide) (fun v3_2 => [(3, .int v3_2), (2, .int v2_1), (0, .ref oP), (1, .int p0)]) (fun _ => rfl) 4 rfl (fun v3_2 e => ?_)
  replace hf := bnd_at e hf
  clear e
  refine ww_lo [2, 3, 1, 0] (lo' := [(0, .ref oP), (1, .int p0), (2, .int v2_1), (3, .int v3_2)]) rfl ?_
  obtain ⟨v2_10, h3, hf⟩ := ob1 hf
  refine lp_walk (un2 (fun v2_4 v3_5 => ww X D A 4 Q 0 0 4 [(0, .ref oP), (1, .int p0), (2, .int v2_4), (3, .int v3_5)] [] [gX4 cy oP aP P])) (un1 (fun v2_10 => ww X D A 4 Q 0 0 31 [(2, .int v2_10)] [] [gX4 cy oP aP P])) ?_ _ _ _ h3 ?_
  · clear h3 hf
    intro s3 o3 hf hI3 hE3
    obtain ⟨v2_4, v3_5⟩ := s3
    unfold s_X4_marksOf_4_3 at hf
    replace hf := un2_e hf
    show ww X D A 4 Q 0 0 4 [(0, .ref oP), (1, .int p0), (2, .int v2_4), (3, .int v3_5)] [] [gX4 cy oP aP P]
    refine ww_iload_n h dX4_marksOf_4 rfl 3 rfl 5 rfl ?_
    refine ww_aload_n h dX4_marksOf_5 rfl 0 rfl 6 rfl ?_
    refine ww_get h inG4 rfl 0 rfl rfl 4 (by decide) w_208 rfl dX4_marksOf_6 9 rfl ?_
    refine ww_icmp_ge h dX4_marksOf_9 31 (by decide) 12 rfl (fun c => ?_) (fun c => ?_)
    · replace hf := ite_t c hf
      refine ww_lo [2] (lo' := [(2, .int v2_4)]) rfl ?_
      exact hE3 v2_4 (Option.some.inj hf).symm
    · replace hf := ite_f c hf
      refine ww_aload_n h dX4_marksOf_12 rfl 0 rfl 13 rfl ?_
      refine ww_get h inG4 rfl 0 rfl rfl 1 (by decide) w_198 rfl dX4_marksOf_13 16 rfl ?_
      refine ww_iload_n h dX4_marksOf_16 rfl 3 rfl 17 rfl ?_
      have hi := (gd_some hf).1
      replace hf := (gd_some hf).2
      refine ww_iald h 0 rfl 2 rfl (ix_in hi) dX4_marksOf_17 18 rfl ?_
      clear hi
      refine ww_iload_n h dX4_marksOf_18 rfl 1 rfl 19 rfl ?_
      have hJ25_7 : ∀ (v2_6 : Int32), j_X4_marksOf_25_7 v3_5 v2_6 = some o3 → ww X D A 4 Q 0 0 25 [(0, .ref oP), (1, .int p0), (2, .int v2_6), (3, .int v3_5)] [] [gX4 cy oP aP P] := by
        intro v2_6 hf
        unfold j_X4_marksOf_25_7 at hf
        refine ww_inc (c := 1) h dX4_marksOf_25 3 rfl (by decide) (by decide) (fun v3_8 => [(3, .int v3_8), (0, .ref oP), (1, .int p0), (2, .int v2_6)]) (fun _ => rfl) 28 rfl (fun v3_8 e => ?_)
        replace hf := bnd_at e hf
        clear e
        refine ww_goto h dX4_marksOf_28 4 (by decide) ?_
        refine ww_lo [1, 2, 3, 0] (lo' := [(0, .ref oP), (1, .int p0), (2, .int v2_6), (3, .int v3_8)]) rfl ?_
        exact hI3 (v2_6, v3_8) (Option.some.inj hf).symm
      refine ww_icmp_ne h dX4_marksOf_19 25 (by decide) 22 rfl (fun c => ?_) (fun c => ?_)
      · replace hf := ite_f c hf
        exact hJ25_7 v2_4 hf
      · replace hf := ite_t c hf
        refine ww_inc (c := 1) h dX4_marksOf_22 2 rfl (by decide) (by decide) (fun v2_9 => [(2, .int v2_9), (0, .ref oP), (1, .int p0), (3, .int v3_5)]) (fun _ => rfl) 25 rfl (fun v2_9 e => ?_)
        replace hf := bnd_at e hf
        clear e
        refine ww_lo [1, 2, 0, 3] (lo' := [(0, .ref oP), (1, .int p0), (2, .int v2_9), (3, .int v3_5)]) rfl ?_
        exact hJ25_7 v2_9 hf
  · clear h3
    show ww X D A 4 Q 0 0 31 [(2, .int v2_10)] [] [gX4 cy oP aP P]
    refine ww_iload_n h dX4_marksOf_31 rfl 0 rfl 32 rfl ?_
    obtain rfl := Option.some.inj hf
    exact ww_iret h dX4_marksOf_32 hQ ⟨rfl, rfl⟩
theorem dX4_bears_0 : decode cX4_bears 0 = .ok (.iconst 0, 1) := by decide +kernel
theorem dX4_bears_1 : decode cX4_bears 1 = .ok (.istore 4, 2) := by decide +kernel
theorem dX4_bears_3 : decode cX4_bears 3 = .ok (.iload 4, 2) := by decide +kernel
theorem dX4_bears_5 : decode cX4_bears 5 = .ok (.iload_n 2, 1) := by decide +kernel
theorem dX4_bears_6 : decode cX4_bears 6 = .ok (.if_icmp .ge 41, 3) := by decide +kernel
theorem dX4_bears_9 : decode cX4_bears 9 = .ok (.aload_n 0, 1) := by decide +kernel
theorem dX4_bears_10 : decode cX4_bears 10 = .ok (.iload_n 3, 1) := by decide +kernel
theorem dX4_bears_11 : decode cX4_bears 11 = .ok (.iload 4, 2) := by decide +kernel
theorem dX4_bears_13 : decode cX4_bears 13 = .ok (.iadd, 1) := by decide +kernel
theorem dX4_bears_14 : decode cX4_bears 14 = .ok (.invokevirtual 52, 3) := by decide +kernel
theorem dX4_bears_17 : decode cX4_bears 17 = .ok (.ifCond .eq 22, 3) := by decide +kernel
theorem dX4_bears_20 : decode cX4_bears 20 = .ok (.aload_n 0, 1) := by decide +kernel
theorem dX4_bears_21 : decode cX4_bears 21 = .ok (.getfield 9, 3) := by decide +kernel
theorem dX4_bears_24 : decode cX4_bears 24 = .ok (.iload_n 3, 1) := by decide +kernel
theorem dX4_bears_25 : decode cX4_bears 25 = .ok (.iload 4, 2) := by decide +kernel
theorem dX4_bears_27 : decode cX4_bears 27 = .ok (.iadd, 1) := by decide +kernel
theorem dX4_bears_28 : decode cX4_bears 28 = .ok (.iaload, 1) := by decide +kernel
theorem dX4_bears_29 : decode cX4_bears 29 = .ok (.aload_n 1, 1) := by decide +kernel
theorem dX4_bears_30 : decode cX4_bears 30 = .ok (.getfield 72, 3) := by decide +kernel
theorem dX4_bears_33 : decode cX4_bears 33 = .ok (.iload 4, 2) := by decide +kernel
theorem dX4_bears_35 : decode cX4_bears 35 = .ok (.iaload, 1) := by decide +kernel
theorem dX4_bears_36 : decode cX4_bears 36 = .ok (.if_icmp .eq 5, 3) := by decide +kernel
theorem dX4_bears_39 : decode cX4_bears 39 = .ok (.iconst 0, 1) := by decide +kernel
theorem dX4_bears_40 : decode cX4_bears 40 = .ok (.ireturn, 1) := by decide +kernel
theorem dX4_bears_41 : decode cX4_bears 41 = .ok (.iinc 4 1, 3) := by decide +kernel
theorem dX4_bears_44 : decode cX4_bears 44 = .ok (.goto (-41), 3) := by decide +kernel
theorem dX4_bears_47 : decode cX4_bears 47 = .ok (.iconst 1, 1) := by decide +kernel
theorem dX4_bears_48 : decode cX4_bears 48 = .ok (.ireturn, 1) := by decide +kernel
theorem ok_X4_bears : okY RX4 yX4_bears 3 := ⟨rfl, by decide, by decide, by decide +kernel⟩
def s_X4_bears_3_2 (aB : Nat → Nat) (P : OV) (B : OV) (p1 : Int32) (p2 : Int32) : (Int32) → Option ((Int32) ⊕ ((Unit) ⊕ (Int32))) := un1 (fun v4_3 => (if p1 ≤ v4_3 then some (.inr (.inl ())) else (f_X4_has P (p2 + v4_3)).bind (un1 (fun r_4 => (if r_4 = 0 then some (.inr (.inr (0 : Int32))) else gd (ix (p2 + v4_3) 40) (gd (ix v4_3 (aB 98)) ((if (ar P 0 (p2 + v4_3).toNatClampNeg) = (ar B 0 v4_3.toNatClampNeg) then bnd (v4_3 + 1) (fun v4_6 => some (.inl v4_6)) else some (.inr (.inr (0 : Int32)))))))))))
def f_X4_bears (P : OV) (aB : Nat → Nat) (B : OV) (p1 : Int32) (p2 : Int32) : Option (Int32) := bnd (0 : Int32) (fun v4_1 => ((lp (s_X4_bears_3_2 aB P B p1 p2) 5000 v4_1).bind (Sum.elim (un1 (fun (_u : Unit) => some (1 : Int32))) (fun r => some r))))
def r_X4_bears : Room := { frames := 1, cells := 0, slots := 0, locals := 21 }
set_option maxHeartbeats 4000000 in
set_option maxRecDepth 100000 in
theorem c_X4_bears (l : Launch) (D : va_G) (ev : EvT) (cy : Nat → ClassId) (oP : Nat) (aP : Nat → Nat) (P : OV) (oB : Nat) (aB : Nat → Nat) (B : OV) (p1 : Int32) (p2 : Int32) (o : Int32) (hf : f_X4_bears P aB B p1 p2 = some o) : Fn l yX4_bears cX4_bears 5 (some .boolean) r_X4_bears D ev cy [.ref oP, .ref oB, .int p1, .int p2] [gX4 cy oP aP P, gX0 cy oB aB B] (fun v G => v = some (.int o) ∧ G = [gX4 cy oP aP P, gX0 cy oB aB B]) := by
  refine Fn_of (by decide) (Nat.le_of_ble_eq_true rfl) (fun X A Q h hQ _ => ?_)
  unfold f_X4_bears at hf
  show ww X D A 5 Q 0 0 0 [(0, .ref oP), (1, .ref oB), (2, .int p1), (3, .int p2)] [] [gX4 cy oP aP P, gX0 cy oB aB B]
  refine ww_iconst (v := 0) h dX4_bears_0 (by decide) 1 rfl ?_
  refine ww_ist h dX4_bears_1 (by decide) (fun v4_1 => [(4, .int v4_1), (0, .ref oP), (1, .ref oB), (2, .int p1), (3, .int p2)]) (fun _ => rfl) 3 rfl (fun v4_1 e => ?_)
  replace hf := bnd_at e hf
  clear e
  refine ww_lo [1, 2, 3, 4, 0] (lo' := [(0, .ref oP), (1, .ref oB), (2, .int p1), (3, .int p2), (4, .int v4_1)]) rfl ?_
  obtain ⟨x2, h2, hf⟩ := ob_some hf
  refine lp_walk (un1 (fun v4_3 => ww X D A 5 Q 0 0 3 [(0, .ref oP), (1, .ref oB), (2, .int p1), (3, .int p2), (4, .int v4_3)] [] [gX4 cy oP aP P, gX0 cy oB aB B])) (Sum.elim (un1 (fun (_u : Unit) => ww X D A 5 Q 0 0 47 [] [] [gX4 cy oP aP P, gX0 cy oB aB B])) (fun r => r = o)) ?_ _ _ _ h2 ?_
  · clear h2 hf
    intro s2 o2 hf hI2 hE2
    obtain ⟨v4_3, rfl⟩ : ∃ z, z = s2 := ⟨_, rfl⟩
    unfold s_X4_bears_3_2 at hf
    replace hf := un1_e hf
    show ww X D A 5 Q 0 0 3 [(0, .ref oP), (1, .ref oB), (2, .int p1), (3, .int p2), (4, .int v4_3)] [] [gX4 cy oP aP P, gX0 cy oB aB B]
    refine ww_iload h dX4_bears_3 4 rfl 5 rfl ?_
    refine ww_iload_n h dX4_bears_5 rfl 2 rfl 6 rfl ?_
    refine ww_icmp_ge h dX4_bears_6 47 (by decide) 9 rfl (fun c => ?_) (fun c => ?_)
    · replace hf := ite_t c hf
      refine ww_lo [] (lo' := []) rfl ?_
      exact hE2 (.inl ()) (Option.some.inj hf).symm
    · replace hf := ite_f c hf
      refine ww_aload_n h dX4_bears_9 rfl 0 rfl 10 rfl ?_
      refine ww_iload_n h dX4_bears_10 rfl 3 rfl 11 rfl ?_
      refine ww_iload h dX4_bears_11 4 rfl 13 rfl ?_
      refine ww_iadd h dX4_bears_13 14 rfl ?_
      obtain ⟨r_4, hu5, hf⟩ := ob1 hf
      refine ww_cVi h (c_X4_has l D ev cy oP aP P (p2 + v4_3) _ hu5) ⟨w_694, w_691, w_692, w_693, w_105, ok_X4_has⟩ ⟨by decide, by decide⟩ ⟨by decide, by decide⟩ ⟨rfl, rfl⟩ [0] rfl 0 rfl rfl rfl rfl (Nat.le_of_ble_eq_true rfl) dX4_bears_14 17 rfl (Gs' := [gX4 cy oP aP P, gX0 cy oB aB B]) rfl ?_
      clear hu5
      refine ww_if_eq h dX4_bears_17 39 (by decide) 20 rfl (fun c => ?_) (fun c => ?_)
      · replace hf := ite_t c hf
        refine ww_iconst (v := 0) h dX4_bears_39 (by decide) 40 rfl ?_
        obtain rfl := hE2 (.inr (0 : Int32)) (Option.some.inj hf).symm
        exact ww_zret h (Or.inl rfl) dX4_bears_40 hQ ⟨rfl, rfl⟩
      · replace hf := ite_f c hf
        refine ww_aload_n h dX4_bears_20 rfl 0 rfl 21 rfl ?_
        refine ww_get h inG4 rfl 0 rfl rfl 0 (by decide) w_195 rfl dX4_bears_21 24 rfl ?_
        refine ww_iload_n h dX4_bears_24 rfl 3 rfl 25 rfl ?_
        refine ww_iload h dX4_bears_25 4 rfl 27 rfl ?_
        refine ww_iadd h dX4_bears_27 28 rfl ?_
        have hi := (gd_some hf).1
        replace hf := (gd_some hf).2
        refine ww_iald h 0 rfl 1 rfl (ix_in hi) dX4_bears_28 29 rfl ?_
        clear hi
        refine ww_aload_n h dX4_bears_29 rfl 1 rfl 30 rfl ?_
        refine ww_get h inG0 rfl 1 rfl rfl 0 (by decide) w_139 rfl dX4_bears_30 33 rfl ?_
        refine ww_iload h dX4_bears_33 4 rfl 35 rfl ?_
        have hi := (gd_some hf).1
        replace hf := (gd_some hf).2
        refine ww_iald h 1 rfl 1 rfl (ix_in hi) dX4_bears_35 36 rfl ?_
        clear hi
        refine ww_icmp_eq h dX4_bears_36 41 (by decide) 39 rfl (fun c => ?_) (fun c => ?_)
        · replace hf := ite_t c hf
          refine ww_inc (c := 1) h dX4_bears_41 4 rfl (by decide) (by decide) (fun v4_6 => [(4, .int v4_6), (0, .ref oP), (1, .ref oB), (2, .int p1), (3, .int p2)]) (fun _ => rfl) 44 rfl (fun v4_6 e => ?_)
          replace hf := bnd_at e hf
          clear e
          refine ww_goto h dX4_bears_44 3 (by decide) ?_
          refine ww_lo [1, 2, 3, 4, 0] (lo' := [(0, .ref oP), (1, .ref oB), (2, .int p1), (3, .int p2), (4, .int v4_6)]) rfl ?_
          exact hI2 v4_6 (Option.some.inj hf).symm
        · replace hf := ite_f c hf
          refine ww_iconst (v := 0) h dX4_bears_39 (by decide) 40 rfl ?_
          obtain rfl := hE2 (.inr (0 : Int32)) (Option.some.inj hf).symm
          exact ww_zret h (Or.inl rfl) dX4_bears_40 hQ ⟨rfl, rfl⟩
  · clear h2
    rcases x2 with x2 | x2
    · replace hf := sel_l hf
      obtain ⟨_u, rfl⟩ : ∃ z, z = x2 := ⟨_, rfl⟩
      replace hf := un1_e hf
      show ww X D A 5 Q 0 0 47 [] [] [gX4 cy oP aP P, gX0 cy oB aB B]
      refine ww_iconst (v := 1) h dX4_bears_47 (by decide) 48 rfl ?_
      obtain rfl := Option.some.inj hf
      exact ww_zret h (Or.inr rfl) dX4_bears_48 hQ ⟨rfl, rfl⟩
    · replace hf := sel_r hf
      exact Option.some.inj hf
theorem dX2_clear_0 : decode cX2_clear 0 = .ok (.aload_n 0, 1) := by decide +kernel
theorem dX2_clear_1 : decode cX2_clear 1 = .ok (.iconst 0, 1) := by decide +kernel
theorem dX2_clear_2 : decode cX2_clear 2 = .ok (.putfield 22, 3) := by decide +kernel
theorem dX2_clear_5 : decode cX2_clear 5 = .ok (.return_, 1) := by decide +kernel
theorem ok_X2_clear : okY RX2 yX2_clear 0 := ⟨rfl, by decide, by decide, by decide +kernel⟩
def f_X2_clear (H : OV) : Option (OV) := bnd (sI H 2 (0 : Int32)) (fun H_1 => some H_1)
def r_X2_clear : Room := { frames := 0, cells := 0, slots := 0, locals := 0 }
set_option maxHeartbeats 4000000 in
set_option maxRecDepth 100000 in
theorem c_X2_clear (l : Launch) (D : va_G) (ev : EvT) (cy : Nat → ClassId) (oH : Nat) (aH : Nat → Nat) (H : OV) (o : OV) (hf : f_X2_clear H = some o) : Fn l yX2_clear cX2_clear 1 none r_X2_clear D ev cy [.ref oH] [gX2 cy oH aH H] (fun v G => v = none ∧ G = [gX2 cy oH aH o]) := by
  refine Fn_of (by decide) (Nat.le_of_ble_eq_true rfl) (fun X A Q h hQ _ => ?_)
  unfold f_X2_clear at hf
  show ww X D A 1 Q 0 0 0 [(0, .ref oH)] [] [gX2 cy oH aH H]
  refine ww_aload_n h dX2_clear_0 rfl 0 rfl 1 rfl ?_
  refine ww_iconst (v := 0) h dX2_clear_1 (by decide) 2 rfl ?_
  refine ww_put (ty := .int) h inG2 tyX2_ok nmX2 rfl 0 rfl rfl 2 (by decide) w_249 rfl (by decide +kernel) rfl rfl (Nat.le_of_ble_eq_true rfl) (Nat.le_of_ble_eq_true rfl) dX2_clear_2 5 rfl ?_
  refine ww_nm (fun z => [gX2 cy oH aH z]) (sI H 2 (0 : Int32)) (fun H_1 e => ?_)
  replace hf := bnd_at e hf
  clear e
  obtain rfl := Option.some.inj hf
  exact ww_vret h dX2_clear_5 hQ ⟨rfl, rfl⟩
theorem dX2_keep_0 : decode cX2_keep 0 = .ok (.aload_n 0, 1) := by decide +kernel
theorem dX2_keep_1 : decode cX2_keep 1 = .ok (.getfield 11, 3) := by decide +kernel
theorem dX2_keep_4 : decode cX2_keep 4 = .ok (.aload_n 0, 1) := by decide +kernel
theorem dX2_keep_5 : decode cX2_keep 5 = .ok (.getfield 18, 3) := by decide +kernel
theorem dX2_keep_8 : decode cX2_keep 8 = .ok (.aaload, 1) := by decide +kernel
theorem dX2_keep_9 : decode cX2_keep 9 = .ok (.aload_n 1, 1) := by decide +kernel
theorem dX2_keep_10 : decode cX2_keep 10 = .ok (.invokevirtual 25, 3) := by decide +kernel
theorem dX2_keep_13 : decode cX2_keep 13 = .ok (.aload_n 0, 1) := by decide +kernel
theorem dX2_keep_14 : decode cX2_keep 14 = .ok (.aload_n 0, 1) := by decide +kernel
theorem dX2_keep_15 : decode cX2_keep 15 = .ok (.getfield 18, 3) := by decide +kernel
theorem dX2_keep_18 : decode cX2_keep 18 = .ok (.iconst 1, 1) := by decide +kernel
theorem dX2_keep_19 : decode cX2_keep 19 = .ok (.iadd, 1) := by decide +kernel
theorem dX2_keep_20 : decode cX2_keep 20 = .ok (.bipush 12, 2) := by decide +kernel
theorem dX2_keep_22 : decode cX2_keep 22 = .ok (.if_icmp .ge 12, 3) := by decide +kernel
theorem dX2_keep_25 : decode cX2_keep 25 = .ok (.aload_n 0, 1) := by decide +kernel
theorem dX2_keep_26 : decode cX2_keep 26 = .ok (.getfield 18, 3) := by decide +kernel
theorem dX2_keep_29 : decode cX2_keep 29 = .ok (.iconst 1, 1) := by decide +kernel
theorem dX2_keep_30 : decode cX2_keep 30 = .ok (.iadd, 1) := by decide +kernel
theorem dX2_keep_31 : decode cX2_keep 31 = .ok (.goto 4, 3) := by decide +kernel
theorem dX2_keep_34 : decode cX2_keep 34 = .ok (.iconst 0, 1) := by decide +kernel
theorem dX2_keep_35 : decode cX2_keep 35 = .ok (.putfield 18, 3) := by decide +kernel
theorem dX2_keep_38 : decode cX2_keep 38 = .ok (.aload_n 0, 1) := by decide +kernel
theorem dX2_keep_39 : decode cX2_keep 39 = .ok (.aload_n 0, 1) := by decide +kernel
theorem dX2_keep_40 : decode cX2_keep 40 = .ok (.getfield 22, 3) := by decide +kernel
theorem dX2_keep_43 : decode cX2_keep 43 = .ok (.iconst 1, 1) := by decide +kernel
theorem dX2_keep_44 : decode cX2_keep 44 = .ok (.iadd, 1) := by decide +kernel
theorem dX2_keep_45 : decode cX2_keep 45 = .ok (.bipush 12, 2) := by decide +kernel
theorem dX2_keep_47 : decode cX2_keep 47 = .ok (.invokestatic 29, 3) := by decide +kernel
theorem dX2_keep_50 : decode cX2_keep 50 = .ok (.putfield 22, 3) := by decide +kernel
theorem dX2_keep_53 : decode cX2_keep 53 = .ok (.return_, 1) := by decide +kernel
theorem ok_X2_keep : okY RX2 yX2_keep 1 := ⟨rfl, by decide, by decide, by decide +kernel⟩
def j_X2_keep_35_5 (H : OV) (K_2 : OV) (t_4 : Int32) : Option (OV × OV) := bnd (sI H 1 t_4) (fun H_6 => bnd (sI H_6 2 (if (12 : Int32) < ((iv H_6 2) + (1 : Int32)) then (12 : Int32) else ((iv H_6 2) + (1 : Int32)))) (fun H_7 => some (H_7, K_2)))
def f_X2_keep (aH : Nat → Nat) (H : OV) (P : OV) (oK : Nat) (K : OV) : Option (OV × OV) := gd (ix (iv H 1) 12) (gd (decide (aH (100 + (iv H 1).toNatClampNeg) = oK)) ((f_X4_copyFrom K P).bind (un1 (fun K_2 => (if (12 : Int32) ≤ ((iv H 1) + (1 : Int32)) then j_X2_keep_35_5 H K_2 (0 : Int32) else j_X2_keep_35_5 H K_2 ((iv H 1) + (1 : Int32)))))))
def r_X2_keep : Room := { frames := 2, cells := 0, slots := 0, locals := 47 }
set_option maxHeartbeats 4000000 in
set_option maxRecDepth 100000 in
theorem c_X2_keep (l : Launch) (D : va_G) (ev : EvT) (cy : Nat → ClassId) (oH : Nat) (aH : Nat → Nat) (H : OV) (oP : Nat) (aP : Nat → Nat) (P : OV) (oK : Nat) (aK : Nat → Nat) (K : OV) (o : OV × OV) (hf : f_X2_keep aH H P oK K = some o) : Fn l yX2_keep cX2_keep 2 none r_X2_keep D ev cy [.ref oH, .ref oP] [gX2 cy oH aH H, gX4 cy oP aP P, gX4 cy oK aK K] (fun v G => v = none ∧ G = [gX2 cy oH aH o.1, gX4 cy oP aP P, gX4 cy oK aK o.2]) := by
  refine Fn_of (by decide) (Nat.le_of_ble_eq_true rfl) (fun X A Q h hQ _ => ?_)
  unfold f_X2_keep at hf
  show ww X D A 2 Q 0 0 0 [(0, .ref oH), (1, .ref oP)] [] [gX2 cy oH aH H, gX4 cy oP aP P, gX4 cy oK aK K]
  refine ww_aload_n h dX2_keep_0 rfl 0 rfl 1 rfl ?_
  refine ww_get h inG2 rfl 0 rfl rfl 0 (by decide) w_247 rfl dX2_keep_1 4 rfl ?_
  refine ww_aload_n h dX2_keep_4 rfl 0 rfl 5 rfl ?_
  refine ww_get h inG2 rfl 0 rfl rfl 1 (by decide) w_248 rfl dX2_keep_5 8 rfl ?_
  have hi := (gd_some hf).1
  replace hf := (gd_some hf).2
  have hj1 := ix_lt hi
  refine ww_aaldR h 0 rfl 1 rfl 5 rfl rfl (ix_in hi) dX2_keep_8 9 rfl ?_
  clear hi
  have hi := (gd_some hf).1
  replace hf := (gd_some hf).2
  refine ww_ref hi ?_
  clear hi
  refine ww_aload_n h dX2_keep_9 rfl 1 rfl 10 rfl ?_
  obtain ⟨K_2, hu3, hf⟩ := ob1 hf
  refine ww_cVv h (c_X4_copyFrom l D ev cy oK aK K oP aP P _ hu3) ⟨w_681, w_678, w_679, w_680, w_105, ok_X4_copyFrom⟩ ⟨by decide, by decide⟩ ⟨by decide, by decide⟩ ⟨rfl, rfl⟩ [2, 1] rfl 0 rfl rfl rfl rfl (Nat.le_of_ble_eq_true rfl) dX2_keep_10 13 rfl (Gs' := [gX4 cy oK aK K_2, gX4 cy oP aP P, gX2 cy oH aH H]) rfl ?_
  clear hu3
  refine ww_aload_n h dX2_keep_13 rfl 0 rfl 14 rfl ?_
  refine ww_aload_n h dX2_keep_14 rfl 0 rfl 15 rfl ?_
  refine ww_get h inG2 rfl 2 rfl rfl 1 (by decide) w_248 rfl dX2_keep_15 18 rfl ?_
  refine ww_iconst (v := 1) h dX2_keep_18 (by decide) 19 rfl ?_
  refine ww_iadd h dX2_keep_19 20 rfl ?_
  refine ww_bipush (v := 12) h dX2_keep_20 (by decide) 22 rfl ?_
  have hJ35_5 : ∀ (t_4 : Int32), j_X2_keep_35_5 H K_2 t_4 = some o → ww X D A 2 Q 0 0 35 [(0, .ref oH)] [.int t_4, .ref oH] [gX2 cy oH aH H, gX4 cy oP aP P, gX4 cy oK aK K_2] := by
    intro t_4 hf
    unfold j_X2_keep_35_5 at hf
    refine ww_put (ty := .int) h inG2 tyX2_ok nmX2 rfl 0 rfl rfl 1 (by decide) w_248 rfl (by decide +kernel) rfl rfl (Nat.le_of_ble_eq_true rfl) (Nat.le_of_ble_eq_true rfl) dX2_keep_35 38 rfl ?_
    refine ww_nm (fun z => [gX2 cy oH aH z, gX4 cy oP aP P, gX4 cy oK aK K_2]) (sI H 1 t_4) (fun H_6 e => ?_)
    replace hf := bnd_at e hf
    clear e
    refine ww_aload_n h dX2_keep_38 rfl 0 rfl 39 rfl ?_
    refine ww_aload_n h dX2_keep_39 rfl 0 rfl 40 rfl ?_
    refine ww_get h inG2 rfl 0 rfl rfl 2 (by decide) w_249 rfl dX2_keep_40 43 rfl ?_
    refine ww_iconst (v := 1) h dX2_keep_43 (by decide) 44 rfl ?_
    refine ww_iadd h dX2_keep_44 45 rfl ?_
    refine ww_bipush (v := 12) h dX2_keep_45 (by decide) 47 rfl ?_
    refine ww_min h w_682 w_518 w_103 w_519 ⟨by decide, Nat.le_of_ble_eq_true rfl, by decide, by decide⟩ dX2_keep_47 50 rfl ?_
    refine ww_put (ty := .int) h inG2 tyX2_ok nmX2 rfl 0 rfl rfl 2 (by decide) w_249 rfl (by decide +kernel) rfl rfl (Nat.le_of_ble_eq_true rfl) (Nat.le_of_ble_eq_true rfl) dX2_keep_50 53 rfl ?_
    refine ww_nm (fun z => [gX2 cy oH aH z, gX4 cy oP aP P, gX4 cy oK aK K_2]) (sI H_6 2 (if (12 : Int32) < ((iv H_6 2) + (1 : Int32)) then (12 : Int32) else ((iv H_6 2) + (1 : Int32)))) (fun H_7 e => ?_)
    replace hf := bnd_at e hf
    clear e
    obtain rfl := Option.some.inj hf
    exact ww_vret h dX2_keep_53 hQ ⟨rfl, rfl⟩
  refine ww_icmp_ge h dX2_keep_22 34 (by decide) 25 rfl (fun c => ?_) (fun c => ?_)
  · replace hf := ite_t c hf
    refine ww_iconst (v := 0) h dX2_keep_34 (by decide) 35 rfl ?_
    refine ww_lo [0] (lo' := [(0, .ref oH)]) rfl ?_
    refine ww_perm [2, 1, 0] (Gs' := [gX2 cy oH aH H, gX4 cy oP aP P, gX4 cy oK aK K_2]) rfl ?_
    exact hJ35_5 (0 : Int32) hf
  · replace hf := ite_f c hf
    refine ww_aload_n h dX2_keep_25 rfl 0 rfl 26 rfl ?_
    refine ww_get h inG2 rfl 2 rfl rfl 1 (by decide) w_248 rfl dX2_keep_26 29 rfl ?_
    refine ww_iconst (v := 1) h dX2_keep_29 (by decide) 30 rfl ?_
    refine ww_iadd h dX2_keep_30 31 rfl ?_
    refine ww_goto h dX2_keep_31 35 (by decide) ?_
    refine ww_lo [0] (lo' := [(0, .ref oH)]) rfl ?_
    refine ww_perm [2, 1, 0] (Gs' := [gX2 cy oH aH H, gX4 cy oP aP P, gX4 cy oK aK K_2]) rfl ?_
    exact hJ35_5 ((iv H 1) + (1 : Int32)) hf
theorem dX2_bringBack_0 : decode cX2_bringBack 0 = .ok (.aload_n 0, 1) := by decide +kernel
theorem dX2_bringBack_1 : decode cX2_bringBack 1 = .ok (.getfield 22, 3) := by decide +kernel
theorem dX2_bringBack_4 : decode cX2_bringBack 4 = .ok (.ifCond .le 48, 3) := by decide +kernel
theorem dX2_bringBack_7 : decode cX2_bringBack 7 = .ok (.aload_n 0, 1) := by decide +kernel
theorem dX2_bringBack_8 : decode cX2_bringBack 8 = .ok (.aload_n 0, 1) := by decide +kernel
theorem dX2_bringBack_9 : decode cX2_bringBack 9 = .ok (.getfield 18, 3) := by decide +kernel
theorem dX2_bringBack_12 : decode cX2_bringBack 12 = .ok (.ifCond .le 12, 3) := by decide +kernel
theorem dX2_bringBack_15 : decode cX2_bringBack 15 = .ok (.aload_n 0, 1) := by decide +kernel
theorem dX2_bringBack_16 : decode cX2_bringBack 16 = .ok (.getfield 18, 3) := by decide +kernel
theorem dX2_bringBack_19 : decode cX2_bringBack 19 = .ok (.iconst 1, 1) := by decide +kernel
theorem dX2_bringBack_20 : decode cX2_bringBack 20 = .ok (.isub, 1) := by decide +kernel
theorem dX2_bringBack_21 : decode cX2_bringBack 21 = .ok (.goto 5, 3) := by decide +kernel
theorem dX2_bringBack_24 : decode cX2_bringBack 24 = .ok (.bipush 11, 2) := by decide +kernel
theorem dX2_bringBack_26 : decode cX2_bringBack 26 = .ok (.putfield 18, 3) := by decide +kernel
theorem dX2_bringBack_29 : decode cX2_bringBack 29 = .ok (.aload_n 1, 1) := by decide +kernel
theorem dX2_bringBack_30 : decode cX2_bringBack 30 = .ok (.aload_n 0, 1) := by decide +kernel
theorem dX2_bringBack_31 : decode cX2_bringBack 31 = .ok (.getfield 11, 3) := by decide +kernel
theorem dX2_bringBack_34 : decode cX2_bringBack 34 = .ok (.aload_n 0, 1) := by decide +kernel
theorem dX2_bringBack_35 : decode cX2_bringBack 35 = .ok (.getfield 18, 3) := by decide +kernel
theorem dX2_bringBack_38 : decode cX2_bringBack 38 = .ok (.aaload, 1) := by decide +kernel
theorem dX2_bringBack_39 : decode cX2_bringBack 39 = .ok (.invokevirtual 25, 3) := by decide +kernel
theorem dX2_bringBack_42 : decode cX2_bringBack 42 = .ok (.aload_n 0, 1) := by decide +kernel
theorem dX2_bringBack_43 : decode cX2_bringBack 43 = .ok (.dup, 1) := by decide +kernel
theorem dX2_bringBack_44 : decode cX2_bringBack 44 = .ok (.getfield 22, 3) := by decide +kernel
theorem dX2_bringBack_47 : decode cX2_bringBack 47 = .ok (.iconst 1, 1) := by decide +kernel
theorem dX2_bringBack_48 : decode cX2_bringBack 48 = .ok (.isub, 1) := by decide +kernel
theorem dX2_bringBack_49 : decode cX2_bringBack 49 = .ok (.putfield 22, 3) := by decide +kernel
theorem dX2_bringBack_52 : decode cX2_bringBack 52 = .ok (.return_, 1) := by decide +kernel
theorem ok_X2_bringBack : okY RX2 yX2_bringBack 1 := ⟨rfl, by decide, by decide, by decide +kernel⟩
def j_X2_bringBack_26_2 (oK : Nat) (aH : Nat → Nat) (H : OV) (P : OV) (K : OV) (t_1 : Int32) : Option (OV × OV) := bnd (sI H 1 t_1) (fun H_3 => gd (ix (iv H_3 1) 12) (gd (decide (aH (100 + (iv H_3 1).toNatClampNeg) = oK)) ((f_X4_copyFrom P K).bind (un1 (fun P_5 => bnd (sI H_3 2 ((iv H_3 2) - (1 : Int32))) (fun H_7 => some (H_7, P_5)))))))
def f_X2_bringBack (aH : Nat → Nat) (H : OV) (P : OV) (oK : Nat) (K : OV) : Option (OV × OV) := (if (iv H 2) ≤ 0 then some (H, P) else (if (iv H 1) ≤ 0 then j_X2_bringBack_26_2 oK aH H P K (11 : Int32) else j_X2_bringBack_26_2 oK aH H P K ((iv H 1) - (1 : Int32))))
def r_X2_bringBack : Room := { frames := 2, cells := 0, slots := 0, locals := 47 }
set_option maxHeartbeats 4000000 in
set_option maxRecDepth 100000 in
theorem c_X2_bringBack (l : Launch) (D : va_G) (ev : EvT) (cy : Nat → ClassId) (oH : Nat) (aH : Nat → Nat) (H : OV) (oP : Nat) (aP : Nat → Nat) (P : OV) (oK : Nat) (aK : Nat → Nat) (K : OV) (o : OV × OV) (hf : f_X2_bringBack aH H P oK K = some o) : Fn l yX2_bringBack cX2_bringBack 2 none r_X2_bringBack D ev cy [.ref oH, .ref oP] [gX2 cy oH aH H, gX4 cy oP aP P, gX4 cy oK aK K] (fun v G => v = none ∧ G = [gX2 cy oH aH o.1, gX4 cy oP aP o.2, gX4 cy oK aK K]) := by
  refine Fn_of (by decide) (Nat.le_of_ble_eq_true rfl) (fun X A Q h hQ _ => ?_)
  unfold f_X2_bringBack at hf
  show ww X D A 2 Q 0 0 0 [(0, .ref oH), (1, .ref oP)] [] [gX2 cy oH aH H, gX4 cy oP aP P, gX4 cy oK aK K]
  refine ww_aload_n h dX2_bringBack_0 rfl 0 rfl 1 rfl ?_
  refine ww_get h inG2 rfl 0 rfl rfl 2 (by decide) w_249 rfl dX2_bringBack_1 4 rfl ?_
  refine ww_if_le h dX2_bringBack_4 52 (by decide) 7 rfl (fun c => ?_) (fun c => ?_)
  · replace hf := ite_t c hf
    obtain rfl := Option.some.inj hf
    exact ww_vret h dX2_bringBack_52 hQ ⟨rfl, rfl⟩
  · replace hf := ite_f c hf
    refine ww_aload_n h dX2_bringBack_7 rfl 0 rfl 8 rfl ?_
    refine ww_aload_n h dX2_bringBack_8 rfl 0 rfl 9 rfl ?_
    refine ww_get h inG2 rfl 0 rfl rfl 1 (by decide) w_248 rfl dX2_bringBack_9 12 rfl ?_
    have hJ26_2 : ∀ (t_1 : Int32), j_X2_bringBack_26_2 oK aH H P K t_1 = some o → ww X D A 2 Q 0 0 26 [(0, .ref oH), (1, .ref oP)] [.int t_1, .ref oH] [gX2 cy oH aH H, gX4 cy oP aP P, gX4 cy oK aK K] := by
      intro t_1 hf
      unfold j_X2_bringBack_26_2 at hf
      refine ww_put (ty := .int) h inG2 tyX2_ok nmX2 rfl 0 rfl rfl 1 (by decide) w_248 rfl (by decide +kernel) rfl rfl (Nat.le_of_ble_eq_true rfl) (Nat.le_of_ble_eq_true rfl) dX2_bringBack_26 29 rfl ?_
      refine ww_nm (fun z => [gX2 cy oH aH z, gX4 cy oP aP P, gX4 cy oK aK K]) (sI H 1 t_1) (fun H_3 e => ?_)
      replace hf := bnd_at e hf
      clear e
      refine ww_aload_n h dX2_bringBack_29 rfl 1 rfl 30 rfl ?_
      refine ww_aload_n h dX2_bringBack_30 rfl 0 rfl 31 rfl ?_
      refine ww_get h inG2 rfl 0 rfl rfl 0 (by decide) w_247 rfl dX2_bringBack_31 34 rfl ?_
      refine ww_aload_n h dX2_bringBack_34 rfl 0 rfl 35 rfl ?_
      refine ww_get h inG2 rfl 0 rfl rfl 1 (by decide) w_248 rfl dX2_bringBack_35 38 rfl ?_
      have hi := (gd_some hf).1
      replace hf := (gd_some hf).2
      have hj4 := ix_lt hi
      refine ww_aaldR h 0 rfl 1 rfl 5 rfl rfl (ix_in hi) dX2_bringBack_38 39 rfl ?_
      clear hi
      have hi := (gd_some hf).1
      replace hf := (gd_some hf).2
      refine ww_ref hi ?_
      clear hi
      obtain ⟨P_5, hu6, hf⟩ := ob1 hf
      refine ww_cVv h (c_X4_copyFrom l D ev cy oP aP P oK aK K _ hu6) ⟨w_681, w_678, w_679, w_680, w_105, ok_X4_copyFrom⟩ ⟨by decide, by decide⟩ ⟨by decide, by decide⟩ ⟨rfl, rfl⟩ [1, 1] rfl 0 rfl rfl rfl rfl (Nat.le_of_ble_eq_true rfl) dX2_bringBack_39 42 rfl (Gs' := [gX4 cy oP aP P_5, gX4 cy oK aK K, gX2 cy oH aH H_3]) rfl ?_
      clear hu6
      refine ww_aload_n h dX2_bringBack_42 rfl 0 rfl 43 rfl ?_
      refine ww_dup h dX2_bringBack_43 rfl 44 rfl ?_
      refine ww_get h inG2 rfl 2 rfl rfl 2 (by decide) w_249 rfl dX2_bringBack_44 47 rfl ?_
      refine ww_iconst (v := 1) h dX2_bringBack_47 (by decide) 48 rfl ?_
      refine ww_isub h dX2_bringBack_48 49 rfl ?_
      refine ww_put (ty := .int) h inG2 tyX2_ok nmX2 rfl 2 rfl rfl 2 (by decide) w_249 rfl (by decide +kernel) rfl rfl (Nat.le_of_ble_eq_true rfl) (Nat.le_of_ble_eq_true rfl) dX2_bringBack_49 52 rfl ?_
      refine ww_nm (fun z => [gX4 cy oP aP P_5, gX4 cy oK aK K, gX2 cy oH aH z]) (sI H_3 2 ((iv H_3 2) - (1 : Int32))) (fun H_7 e => ?_)
      replace hf := bnd_at e hf
      clear e
      refine ww_perm [2, 0, 0] (Gs' := [gX2 cy oH aH H_7, gX4 cy oP aP P_5, gX4 cy oK aK K]) rfl ?_
      obtain rfl := Option.some.inj hf
      exact ww_vret h dX2_bringBack_52 hQ ⟨rfl, rfl⟩
    refine ww_if_le h dX2_bringBack_12 24 (by decide) 15 rfl (fun c => ?_) (fun c => ?_)
    · replace hf := ite_t c hf
      refine ww_bipush (v := 11) h dX2_bringBack_24 (by decide) 26 rfl ?_
      exact hJ26_2 (11 : Int32) hf
    · replace hf := ite_f c hf
      refine ww_aload_n h dX2_bringBack_15 rfl 0 rfl 16 rfl ?_
      refine ww_get h inG2 rfl 0 rfl rfl 1 (by decide) w_248 rfl dX2_bringBack_16 19 rfl ?_
      refine ww_iconst (v := 1) h dX2_bringBack_19 (by decide) 20 rfl ?_
      refine ww_isub h dX2_bringBack_20 21 rfl ?_
      refine ww_goto h dX2_bringBack_21 26 (by decide) ?_
      exact hJ26_2 ((iv H 1) - (1 : Int32)) hf
