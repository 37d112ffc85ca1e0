theorem dX10_delete_0 : decode cX10_delete 0 = .ok (.aload_n 0, 1) := by decide +kernel
theorem dX10_delete_1 : decode cX10_delete 1 = .ok (.iload_n 1, 1) := by decide +kernel
theorem dX10_delete_2 : decode cX10_delete 2 = .ok (.invokevirtual 161, 3) := by decide +kernel
theorem dX10_delete_5 : decode cX10_delete 5 = .ok (.ifCond .eq 18, 3) := by decide +kernel
theorem dX10_delete_8 : decode cX10_delete 8 = .ok (.iload_n 2, 1) := by decide +kernel
theorem dX10_delete_9 : decode cX10_delete 9 = .ok (.iconst 1, 1) := by decide +kernel
theorem dX10_delete_10 : decode cX10_delete 10 = .ok (.if_icmp .lt 13, 3) := by decide +kernel
theorem dX10_delete_13 : decode cX10_delete 13 = .ok (.iload_n 2, 1) := by decide +kernel
theorem dX10_delete_14 : decode cX10_delete 14 = .ok (.aload_n 0, 1) := by decide +kernel
theorem dX10_delete_15 : decode cX10_delete 15 = .ok (.invokevirtual 132, 3) := by decide +kernel
theorem dX10_delete_18 : decode cX10_delete 18 = .ok (.iload_n 1, 1) := by decide +kernel
theorem dX10_delete_19 : decode cX10_delete 19 = .ok (.isub, 1) := by decide +kernel
theorem dX10_delete_20 : decode cX10_delete 20 = .ok (.if_icmp .le 5, 3) := by decide +kernel
theorem dX10_delete_23 : decode cX10_delete 23 = .ok (.iconst 0, 1) := by decide +kernel
theorem dX10_delete_24 : decode cX10_delete 24 = .ok (.ireturn, 1) := by decide +kernel
theorem dX10_delete_25 : decode cX10_delete 25 = .ok (.aload_n 0, 1) := by decide +kernel
theorem dX10_delete_26 : decode cX10_delete 26 = .ok (.invokevirtual 155, 3) := by decide +kernel
theorem dX10_delete_29 : decode cX10_delete 29 = .ok (.aload_n 0, 1) := by decide +kernel
theorem dX10_delete_30 : decode cX10_delete 30 = .ok (.iload_n 1, 1) := by decide +kernel
theorem dX10_delete_31 : decode cX10_delete 31 = .ok (.iload_n 2, 1) := by decide +kernel
theorem dX10_delete_32 : decode cX10_delete 32 = .ok (.invokevirtual 164, 3) := by decide +kernel
theorem dX10_delete_35 : decode cX10_delete 35 = .ok (.iconst 1, 1) := by decide +kernel
theorem dX10_delete_36 : decode cX10_delete 36 = .ok (.ireturn, 1) := by decide +kernel
theorem ok_X10_delete : okY RX10 yX10_delete 2 := ⟨rfl, by decide, by decide, by decide +kernel⟩
def f_X10_delete (M : OV) (p0 : Int32) (p1 : Int32) : Option (Int32 × OV) := (f_X10_isSign M p0).bind (un1 (fun r_1 => (if r_1 = 0 then some ((0 : Int32), M) else (if p1 < (1 : Int32) then some ((0 : Int32), M) else (f_X10_many M).bind (un1 (fun r_3 => (if p1 ≤ (r_3 - p0) then (f_X10_keeps M).bind (un1 (fun M_5 => (f_X10_drops M_5 p0 p1).bind (un1 (fun M_7 => some ((1 : Int32), M_7))))) else some ((0 : Int32), M))))))))
def r_X10_delete : Room := { frames := 3, cells := 0, slots := 0, locals := 67 }
set_option maxHeartbeats 4000000 in
set_option maxRecDepth 100000 in
theorem c_X10_delete (l : Launch) (D : va_G) (ev : EvT) (cy : Nat → ClassId) (oM : Nat) (aM : Nat → Nat) (M : OV) (p0 : Int32) (p1 : Int32) (o : Int32 × OV) (hf : f_X10_delete M p0 p1 = some o) : Fn l yX10_delete cX10_delete 3 (some .boolean) r_X10_delete D ev cy [.ref oM, .int p0, .int p1] [gX10 cy oM aM M] (fun v G => v = some (.int o.1) ∧ G = [gX10 cy oM aM o.2]) := by
  refine Fn_of (by decide) (Nat.le_of_ble_eq_true rfl) (fun X A Q h hQ _ => ?_)
  unfold f_X10_delete at hf
  show ww X D A 3 Q 0 0 0 [(0, .ref oM), (1, .int p0), (2, .int p1)] [] [gX10 cy oM aM M]
  refine ww_aload_n h dX10_delete_0 rfl 0 rfl 1 rfl ?_
  refine ww_iload_n h dX10_delete_1 rfl 1 rfl 2 rfl ?_
  obtain ⟨r_1, hu2, hf⟩ := ob1 hf
  refine ww_cVi h (c_X10_isSign l D ev cy oM aM M p0 _ hu2) ⟨w_1357, w_1354, w_1356, w_42, w_111, ok_X10_isSign⟩ ⟨by decide, by decide⟩ ⟨by decide, by decide⟩ ⟨rfl, rfl⟩ [0] rfl 0 rfl rfl rfl rfl (Nat.le_of_ble_eq_true rfl) dX10_delete_2 5 rfl (Gs' := [gX10 cy oM aM M]) rfl ?_
  clear hu2
  refine ww_if_eq h dX10_delete_5 23 (by decide) 8 rfl (fun c => ?_) (fun c => ?_)
  · replace hf := ite_t c hf
    refine ww_iconst (v := 0) h dX10_delete_23 (by decide) 24 rfl ?_
    obtain rfl := Option.some.inj hf
    exact ww_zret h (Or.inl rfl) dX10_delete_24 hQ ⟨rfl, rfl⟩
  · replace hf := ite_f c hf
    refine ww_iload_n h dX10_delete_8 rfl 2 rfl 9 rfl ?_
    refine ww_iconst (v := 1) h dX10_delete_9 (by decide) 10 rfl ?_
    refine ww_icmp_lt h dX10_delete_10 23 (by decide) 13 rfl (fun c => ?_) (fun c => ?_)
    · replace hf := ite_t c hf
      refine ww_iconst (v := 0) h dX10_delete_23 (by decide) 24 rfl ?_
      obtain rfl := Option.some.inj hf
      exact ww_zret h (Or.inl rfl) dX10_delete_24 hQ ⟨rfl, rfl⟩
    · replace hf := ite_f c hf
      refine ww_iload_n h dX10_delete_13 rfl 2 rfl 14 rfl ?_
      refine ww_aload_n h dX10_delete_14 rfl 0 rfl 15 rfl ?_
      obtain ⟨r_3, hu4, hf⟩ := ob1 hf
      refine ww_cVi h (c_X10_many l D ev cy oM aM M _ hu4) ⟨w_1330, w_1327, w_1329, w_37, w_111, ok_X10_many⟩ ⟨by decide, by decide⟩ ⟨by decide, by decide⟩ ⟨rfl, rfl⟩ [0] rfl 0 rfl rfl rfl rfl (Nat.le_of_ble_eq_true rfl) dX10_delete_15 18 rfl (Gs' := [gX10 cy oM aM M]) rfl ?_
      clear hu4
      refine ww_iload_n h dX10_delete_18 rfl 1 rfl 19 rfl ?_
      refine ww_isub h dX10_delete_19 20 rfl ?_
      refine ww_icmp_le h dX10_delete_20 25 (by decide) 23 rfl (fun c => ?_) (fun c => ?_)
      · replace hf := ite_t c hf
        refine ww_aload_n h dX10_delete_25 rfl 0 rfl 26 rfl ?_
        obtain ⟨M_5, hu6, hf⟩ := ob1 hf
        refine ww_cVv h (c_X10_keeps l D ev cy oM aM M _ hu6) ⟨w_1341, w_1338, w_1340, w_39, w_111, ok_X10_keeps⟩ ⟨by decide, by decide⟩ ⟨by decide, by decide⟩ ⟨rfl, rfl⟩ [0] rfl 0 rfl rfl rfl rfl (Nat.le_of_ble_eq_true rfl) dX10_delete_26 29 rfl (Gs' := [gX10 cy oM aM M_5]) rfl ?_
        clear hu6
        refine ww_aload_n h dX10_delete_29 rfl 0 rfl 30 rfl ?_
        refine ww_iload_n h dX10_delete_30 rfl 1 rfl 31 rfl ?_
        refine ww_iload_n h dX10_delete_31 rfl 2 rfl 32 rfl ?_
        obtain ⟨M_7, hu8, hf⟩ := ob1 hf
        refine ww_cVv h (c_X10_drops l D ev cy oM aM M_5 p0 p1 _ hu8) ⟨w_1361, w_1358, w_1360, w_43, w_111, ok_X10_drops⟩ ⟨by decide, by decide⟩ ⟨by decide, by decide⟩ ⟨rfl, rfl⟩ [0] rfl 0 rfl rfl rfl rfl (Nat.le_of_ble_eq_true rfl) dX10_delete_32 35 rfl (Gs' := [gX10 cy oM aM M_7]) rfl ?_
        clear hu8
        refine ww_iconst (v := 1) h dX10_delete_35 (by decide) 36 rfl ?_
        obtain rfl := Option.some.inj hf
        exact ww_zret h (Or.inr rfl) dX10_delete_36 hQ ⟨rfl, rfl⟩
      · replace hf := ite_f c hf
        refine ww_iconst (v := 0) h dX10_delete_23 (by decide) 24 rfl ?_
        obtain rfl := Option.some.inj hf
        exact ww_zret h (Or.inl rfl) dX10_delete_24 hQ ⟨rfl, rfl⟩
theorem dX10_shift_0 : decode cX10_shift 0 = .ok (.aload_n 0, 1) := by decide +kernel
theorem dX10_shift_1 : decode cX10_shift 1 = .ok (.iload_n 1, 1) := by decide +kernel
theorem dX10_shift_2 : decode cX10_shift 2 = .ok (.invokevirtual 161, 3) := by decide +kernel
theorem dX10_shift_5 : decode cX10_shift 5 = .ok (.ifCond .eq 37, 3) := by decide +kernel
theorem dX10_shift_8 : decode cX10_shift 8 = .ok (.iload_n 2, 1) := by decide +kernel
theorem dX10_shift_9 : decode cX10_shift 9 = .ok (.iconst 1, 1) := by decide +kernel
theorem dX10_shift_10 : decode cX10_shift 10 = .ok (.if_icmp .lt 32, 3) := by decide +kernel
theorem dX10_shift_13 : decode cX10_shift 13 = .ok (.iload_n 2, 1) := by decide +kernel
theorem dX10_shift_14 : decode cX10_shift 14 = .ok (.aload_n 0, 1) := by decide +kernel
theorem dX10_shift_15 : decode cX10_shift 15 = .ok (.invokevirtual 132, 3) := by decide +kernel
theorem dX10_shift_18 : decode cX10_shift 18 = .ok (.iload_n 1, 1) := by decide +kernel
theorem dX10_shift_19 : decode cX10_shift 19 = .ok (.isub, 1) := by decide +kernel
theorem dX10_shift_20 : decode cX10_shift 20 = .ok (.if_icmp .gt 22, 3) := by decide +kernel
theorem dX10_shift_23 : decode cX10_shift 23 = .ok (.iload_n 3, 1) := by decide +kernel
theorem dX10_shift_24 : decode cX10_shift 24 = .ok (.iconst 0, 1) := by decide +kernel
theorem dX10_shift_25 : decode cX10_shift 25 = .ok (.aload_n 0, 1) := by decide +kernel
theorem dX10_shift_26 : decode cX10_shift 26 = .ok (.invokevirtual 132, 3) := by decide +kernel
theorem dX10_shift_29 : decode cX10_shift 29 = .ok (.iload_n 2, 1) := by decide +kernel
theorem dX10_shift_30 : decode cX10_shift 30 = .ok (.isub, 1) := by decide +kernel
theorem dX10_shift_31 : decode cX10_shift 31 = .ok (.invokestatic 125, 3) := by decide +kernel
theorem dX10_shift_34 : decode cX10_shift 34 = .ok (.ifCond .eq 8, 3) := by decide +kernel
theorem dX10_shift_37 : decode cX10_shift 37 = .ok (.iload_n 3, 1) := by decide +kernel
theorem dX10_shift_38 : decode cX10_shift 38 = .ok (.iload_n 1, 1) := by decide +kernel
theorem dX10_shift_39 : decode cX10_shift 39 = .ok (.if_icmp .ne 5, 3) := by decide +kernel
theorem dX10_shift_42 : decode cX10_shift 42 = .ok (.iconst 0, 1) := by decide +kernel
theorem dX10_shift_43 : decode cX10_shift 43 = .ok (.ireturn, 1) := by decide +kernel
theorem dX10_shift_44 : decode cX10_shift 44 = .ok (.aload_n 0, 1) := by decide +kernel
theorem dX10_shift_45 : decode cX10_shift 45 = .ok (.invokevirtual 155, 3) := by decide +kernel
theorem dX10_shift_48 : decode cX10_shift 48 = .ok (.aload_n 0, 1) := by decide +kernel
theorem dX10_shift_49 : decode cX10_shift 49 = .ok (.invokevirtual 167, 3) := by decide +kernel
theorem dX10_shift_52 : decode cX10_shift 52 = .ok (.aload_n 0, 1) := by decide +kernel
theorem dX10_shift_53 : decode cX10_shift 53 = .ok (.iload_n 1, 1) := by decide +kernel
theorem dX10_shift_54 : decode cX10_shift 54 = .ok (.iload_n 2, 1) := by decide +kernel
theorem dX10_shift_55 : decode cX10_shift 55 = .ok (.invokevirtual 164, 3) := by decide +kernel
theorem dX10_shift_58 : decode cX10_shift 58 = .ok (.aload_n 0, 1) := by decide +kernel
theorem dX10_shift_59 : decode cX10_shift 59 = .ok (.iload_n 3, 1) := by decide +kernel
theorem dX10_shift_60 : decode cX10_shift 60 = .ok (.iload_n 2, 1) := by decide +kernel
theorem dX10_shift_61 : decode cX10_shift 61 = .ok (.invokevirtual 158, 3) := by decide +kernel
theorem dX10_shift_64 : decode cX10_shift 64 = .ok (.iconst 0, 1) := by decide +kernel
theorem dX10_shift_65 : decode cX10_shift 65 = .ok (.istore 4, 2) := by decide +kernel
theorem dX10_shift_67 : decode cX10_shift 67 = .ok (.iload 4, 2) := by decide +kernel
theorem dX10_shift_69 : decode cX10_shift 69 = .ok (.iload_n 2, 1) := by decide +kernel
theorem dX10_shift_70 : decode cX10_shift 70 = .ok (.if_icmp .ge 55, 3) := by decide +kernel
theorem dX10_shift_73 : decode cX10_shift 73 = .ok (.aload_n 0, 1) := by decide +kernel
theorem dX10_shift_74 : decode cX10_shift 74 = .ok (.getfield 36, 3) := by decide +kernel
theorem dX10_shift_77 : decode cX10_shift 77 = .ok (.iconst 1, 1) := by decide +kernel
theorem dX10_shift_78 : decode cX10_shift 78 = .ok (.iload_n 3, 1) := by decide +kernel
theorem dX10_shift_79 : decode cX10_shift 79 = .ok (.iadd, 1) := by decide +kernel
theorem dX10_shift_80 : decode cX10_shift 80 = .ok (.iload 4, 2) := by decide +kernel
theorem dX10_shift_82 : decode cX10_shift 82 = .ok (.iadd, 1) := by decide +kernel
theorem dX10_shift_83 : decode cX10_shift 83 = .ok (.aload_n 0, 1) := by decide +kernel
theorem dX10_shift_84 : decode cX10_shift 84 = .ok (.getfield 39, 3) := by decide +kernel
theorem dX10_shift_87 : decode cX10_shift 87 = .ok (.iconst 1, 1) := by decide +kernel
theorem dX10_shift_88 : decode cX10_shift 88 = .ok (.iload_n 1, 1) := by decide +kernel
theorem dX10_shift_89 : decode cX10_shift 89 = .ok (.iadd, 1) := by decide +kernel
theorem dX10_shift_90 : decode cX10_shift 90 = .ok (.iload 4, 2) := by decide +kernel
theorem dX10_shift_92 : decode cX10_shift 92 = .ok (.iadd, 1) := by decide +kernel
theorem dX10_shift_93 : decode cX10_shift 93 = .ok (.iaload, 1) := by decide +kernel
theorem dX10_shift_94 : decode cX10_shift 94 = .ok (.iastore, 1) := by decide +kernel
theorem dX10_shift_95 : decode cX10_shift 95 = .ok (.aload_n 0, 1) := by decide +kernel
theorem dX10_shift_96 : decode cX10_shift 96 = .ok (.getfield 36, 3) := by decide +kernel
theorem dX10_shift_99 : decode cX10_shift 99 = .ok (.bipush 41, 2) := by decide +kernel
theorem dX10_shift_101 : decode cX10_shift 101 = .ok (.iload_n 3, 1) := by decide +kernel
theorem dX10_shift_102 : decode cX10_shift 102 = .ok (.iadd, 1) := by decide +kernel
theorem dX10_shift_103 : decode cX10_shift 103 = .ok (.iload 4, 2) := by decide +kernel
theorem dX10_shift_105 : decode cX10_shift 105 = .ok (.iadd, 1) := by decide +kernel
theorem dX10_shift_106 : decode cX10_shift 106 = .ok (.aload_n 0, 1) := by decide +kernel
theorem dX10_shift_107 : decode cX10_shift 107 = .ok (.getfield 39, 3) := by decide +kernel
theorem dX10_shift_110 : decode cX10_shift 110 = .ok (.bipush 41, 2) := by decide +kernel
theorem dX10_shift_112 : decode cX10_shift 112 = .ok (.iload_n 1, 1) := by decide +kernel
theorem dX10_shift_113 : decode cX10_shift 113 = .ok (.iadd, 1) := by decide +kernel
theorem dX10_shift_114 : decode cX10_shift 114 = .ok (.iload 4, 2) := by decide +kernel
theorem dX10_shift_116 : decode cX10_shift 116 = .ok (.iadd, 1) := by decide +kernel
theorem dX10_shift_117 : decode cX10_shift 117 = .ok (.iaload, 1) := by decide +kernel
theorem dX10_shift_118 : decode cX10_shift 118 = .ok (.iastore, 1) := by decide +kernel
theorem dX10_shift_119 : decode cX10_shift 119 = .ok (.iinc 4 1, 3) := by decide +kernel
theorem dX10_shift_122 : decode cX10_shift 122 = .ok (.goto (-55), 3) := by decide +kernel
theorem dX10_shift_125 : decode cX10_shift 125 = .ok (.iconst 1, 1) := by decide +kernel
theorem dX10_shift_126 : decode cX10_shift 126 = .ok (.ireturn, 1) := by decide +kernel
theorem ok_X10_shift : okY RX10 yX10_shift 3 := ⟨rfl, by decide, by decide, by decide +kernel⟩
def s_X10_shift_67_18 (p0 : Int32) (p1 : Int32) (p2 : Int32) : (Int32 × OV) → Option ((Int32 × OV) ⊕ (OV)) := un2 (fun v4_19 M_20 => (if p1 ≤ v4_19 then some (.inr M_20) else gd (ix (((1 : Int32) + p0) + v4_19) 113) (gd (ix (((1 : Int32) + p2) + v4_19) 113) (bnd (sA M_20 8 (((1 : Int32) + p2) + v4_19).toNatClampNeg (ar M_20 9 (((1 : Int32) + p0) + v4_19).toNatClampNeg)) (fun M_21 => gd (ix (((41 : Int32) + p0) + v4_19) 113) (gd (ix (((41 : Int32) + p2) + v4_19) 113) (bnd (sA M_21 8 (((41 : Int32) + p2) + v4_19).toNatClampNeg (ar M_21 9 (((41 : Int32) + p0) + v4_19).toNatClampNeg)) (fun M_22 => bnd (v4_19 + 1) (fun v4_23 => some (.inl (v4_23, M_22)))))))))))
def f_X10_shift (M : OV) (p0 : Int32) (p1 : Int32) (p2 : Int32) : Option (Int32 × OV) := (f_X10_isSign M p0).bind (un1 (fun r_1 => (if r_1 = 0 then some ((0 : Int32), M) else (if p1 < (1 : Int32) then some ((0 : Int32), M) else (f_X10_many M).bind (un1 (fun r_3 => (if (r_3 - p0) < p1 then some ((0 : Int32), M) else (f_X10_many M).bind (un1 (fun r_5 => (f_X10_in p2 (0 : Int32) (r_5 - p1)).bind (un1 (fun r_7 => (if r_7 = 0 then some ((0 : Int32), M) else (if p2 = p0 then some ((0 : Int32), M) else (f_X10_keeps M).bind (un1 (fun M_9 => (f_X10_putsAside M_9).bind (un1 (fun M_11 => (f_X10_drops M_11 p0 p1).bind (un1 (fun M_13 => (f_X10_moves M_13 p2 p1).bind (un1 (fun M_15 => bnd (0 : Int32) (fun v4_17 => ((lp (s_X10_shift_67_18 p0 p1 p2) 5000 (v4_17, M_15)).bind (un1 (fun M_24 => some ((1 : Int32), M_24))))))))))))))))))))))))))
def r_X10_shift : Room := { frames := 3, cells := 0, slots := 0, locals := 67 }
set_option maxHeartbeats 4000000 in
set_option maxRecDepth 100000 in
theorem c_X10_shift (l : Launch) (D : va_G) (ev : EvT) (cy : Nat → ClassId) (oM : Nat) (aM : Nat → Nat) (M : OV) (p0 : Int32) (p1 : Int32) (p2 : Int32) (o : Int32 × OV) (hf : f_X10_shift M p0 p1 p2 = some o) : Fn l yX10_shift cX10_shift 5 (some .boolean) r_X10_shift D ev cy [.ref oM, .int p0, .int p1, .int p2] [gX10 cy oM aM M] (fun v G => v = some (.int o.1) ∧ G = [gX10 cy oM aM o.2]) := by
  refine Fn_of (by decide) (Nat.le_of_ble_eq_true rfl) (fun X A Q h hQ _ => ?_)
  unfold f_X10_shift at hf
  show ww X D A 5 Q 0 0 0 [(0, .ref oM), (1, .int p0), (2, .int p1), (3, .int p2)] [] [gX10 cy oM aM M]
  refine ww_aload_n h dX10_shift_0 rfl 0 rfl 1 rfl ?_
  refine ww_iload_n h dX10_shift_1 rfl 1 rfl 2 rfl ?_
  obtain ⟨r_1, hu2, hf⟩ := ob1 hf
  refine ww_cVi h (c_X10_isSign l D ev cy oM aM M p0 _ hu2) ⟨w_1357, w_1354, w_1356, w_42, w_111, ok_X10_isSign⟩ ⟨by decide, by decide⟩ ⟨by decide, by decide⟩ ⟨rfl, rfl⟩ [0] rfl 0 rfl rfl rfl rfl (Nat.le_of_ble_eq_true rfl) dX10_shift_2 5 rfl (Gs' := [gX10 cy oM aM M]) rfl ?_
  clear hu2
  refine ww_if_eq h dX10_shift_5 42 (by decide) 8 rfl (fun c => ?_) (fun c => ?_)
  · replace hf := ite_t c hf
    refine ww_iconst (v := 0) h dX10_shift_42 (by decide) 43 rfl ?_
    obtain rfl := Option.some.inj hf
    exact ww_zret h (Or.inl rfl) dX10_shift_43 hQ ⟨rfl, rfl⟩
  · replace hf := ite_f c hf
    refine ww_iload_n h dX10_shift_8 rfl 2 rfl 9 rfl ?_
    refine ww_iconst (v := 1) h dX10_shift_9 (by decide) 10 rfl ?_
    refine ww_icmp_lt h dX10_shift_10 42 (by decide) 13 rfl (fun c => ?_) (fun c => ?_)
    · replace hf := ite_t c hf
      refine ww_iconst (v := 0) h dX10_shift_42 (by decide) 43 rfl ?_
      obtain rfl := Option.some.inj hf
      exact ww_zret h (Or.inl rfl) dX10_shift_43 hQ ⟨rfl, rfl⟩
    · replace hf := ite_f c hf
      refine ww_iload_n h dX10_shift_13 rfl 2 rfl 14 rfl ?_
      refine ww_aload_n h dX10_shift_14 rfl 0 rfl 15 rfl ?_
      obtain ⟨r_3, hu4, hf⟩ := ob1 hf
      refine ww_cVi h (c_X10_many l D ev cy oM aM M _ hu4) ⟨w_1330, w_1327, w_1329, w_37, w_111, ok_X10_many⟩ ⟨by decide, by decide⟩ ⟨by decide, by decide⟩ ⟨rfl, rfl⟩ [0] rfl 0 rfl rfl rfl rfl (Nat.le_of_ble_eq_true rfl) dX10_shift_15 18 rfl (Gs' := [gX10 cy oM aM M]) rfl ?_
      clear hu4
      refine ww_iload_n h dX10_shift_18 rfl 1 rfl 19 rfl ?_
      refine ww_isub h dX10_shift_19 20 rfl ?_
      refine ww_icmp_gt h dX10_shift_20 42 (by decide) 23 rfl (fun c => ?_) (fun c => ?_)
      · replace hf := ite_t c hf
        refine ww_iconst (v := 0) h dX10_shift_42 (by decide) 43 rfl ?_
        obtain rfl := Option.some.inj hf
        exact ww_zret h (Or.inl rfl) dX10_shift_43 hQ ⟨rfl, rfl⟩
      · replace hf := ite_f c hf
        refine ww_iload_n h dX10_shift_23 rfl 3 rfl 24 rfl ?_
        refine ww_iconst (v := 0) h dX10_shift_24 (by decide) 25 rfl ?_
        refine ww_aload_n h dX10_shift_25 rfl 0 rfl 26 rfl ?_
        obtain ⟨r_5, hu6, hf⟩ := ob1 hf
        refine ww_cVi h (c_X10_many l D ev cy oM aM M _ hu6) ⟨w_1330, w_1327, w_1329, w_37, w_111, ok_X10_many⟩ ⟨by decide, by decide⟩ ⟨by decide, by decide⟩ ⟨rfl, rfl⟩ [0] rfl 0 rfl rfl rfl rfl (Nat.le_of_ble_eq_true rfl) dX10_shift_26 29 rfl (Gs' := [gX10 cy oM aM M]) rfl ?_
        clear hu6
        refine ww_iload_n h dX10_shift_29 rfl 2 rfl 30 rfl ?_
        refine ww_isub h dX10_shift_30 31 rfl ?_
        obtain ⟨r_7, hu8, hf⟩ := ob1 hf
        refine ww_cSi h (c_X10_in l D ev cy p2 (0 : Int32) (r_5 - p1) _ hu8) ⟨w_1333, w_1331, w_1332, w_111, ok_X10_in⟩ ⟨by decide, by decide⟩ ⟨by decide, by decide⟩ ⟨rfl, rfl⟩ [] rfl rfl (Nat.le_of_ble_eq_true rfl) dX10_shift_31 34 rfl (Gs' := [gX10 cy oM aM M]) rfl ?_
        clear hu8
        refine ww_if_eq h dX10_shift_34 42 (by decide) 37 rfl (fun c => ?_) (fun c => ?_)
        · replace hf := ite_t c hf
          refine ww_iconst (v := 0) h dX10_shift_42 (by decide) 43 rfl ?_
          obtain rfl := Option.some.inj hf
          exact ww_zret h (Or.inl rfl) dX10_shift_43 hQ ⟨rfl, rfl⟩
        · replace hf := ite_f c hf
          refine ww_iload_n h dX10_shift_37 rfl 3 rfl 38 rfl ?_
          refine ww_iload_n h dX10_shift_38 rfl 1 rfl 39 rfl ?_
          refine ww_icmp_ne h dX10_shift_39 44 (by decide) 42 rfl (fun c => ?_) (fun c => ?_)
          · replace hf := ite_f c hf
            refine ww_aload_n h dX10_shift_44 rfl 0 rfl 45 rfl ?_
            obtain ⟨M_9, hu10, hf⟩ := ob1 hf
            refine ww_cVv h (c_X10_keeps l D ev cy oM aM M _ hu10) ⟨w_1341, w_1338, w_1340, w_39, w_111, ok_X10_keeps⟩ ⟨by decide, by decide⟩ ⟨by decide, by decide⟩ ⟨rfl, rfl⟩ [0] rfl 0 rfl rfl rfl rfl (Nat.le_of_ble_eq_true rfl) dX10_shift_45 48 rfl (Gs' := [gX10 cy oM aM M_9]) rfl ?_
            clear hu10
            refine ww_aload_n h dX10_shift_48 rfl 0 rfl 49 rfl ?_
            obtain ⟨M_11, hu12, hf⟩ := ob1 hf
            refine ww_cVv h (c_X10_putsAside l D ev cy oM aM M_9 _ hu12) ⟨w_1377, w_1374, w_1376, w_45, w_111, ok_X10_putsAside⟩ ⟨by decide, by decide⟩ ⟨by decide, by decide⟩ ⟨rfl, rfl⟩ [0] rfl 0 rfl rfl rfl rfl (Nat.le_of_ble_eq_true rfl) dX10_shift_49 52 rfl (Gs' := [gX10 cy oM aM M_11]) rfl ?_
            clear hu12
            refine ww_aload_n h dX10_shift_52 rfl 0 rfl 53 rfl ?_
            refine ww_iload_n h dX10_shift_53 rfl 1 rfl 54 rfl ?_
            refine ww_iload_n h dX10_shift_54 rfl 2 rfl 55 rfl ?_
            obtain ⟨M_13, hu14, hf⟩ := ob1 hf
            refine ww_cVv h (c_X10_drops l D ev cy oM aM M_11 p0 p1 _ hu14) ⟨w_1361, w_1358, w_1360, w_43, w_111, ok_X10_drops⟩ ⟨by decide, by decide⟩ ⟨by decide, by decide⟩ ⟨rfl, rfl⟩ [0] rfl 0 rfl rfl rfl rfl (Nat.le_of_ble_eq_true rfl) dX10_shift_55 58 rfl (Gs' := [gX10 cy oM aM M_13]) rfl ?_
            clear hu14
            refine ww_aload_n h dX10_shift_58 rfl 0 rfl 59 rfl ?_
            refine ww_iload_n h dX10_shift_59 rfl 3 rfl 60 rfl ?_
            refine ww_iload_n h dX10_shift_60 rfl 2 rfl 61 rfl ?_
            obtain ⟨M_15, hu16, hf⟩ := ob1 hf
            refine ww_cVv h (c_X10_moves l D ev cy oM aM M_13 p2 p1 _ hu16) ⟨w_1345, w_1342, w_1344, w_40, w_111, ok_X10_moves⟩ ⟨by decide, by decide⟩ ⟨by decide, by decide⟩ ⟨rfl, rfl⟩ [0] rfl 0 rfl rfl rfl rfl (Nat.le_of_ble_eq_true rfl) dX10_shift_61 64 rfl (Gs' := [gX10 cy oM aM M_15]) rfl ?_
            clear hu16
            refine ww_iconst (v := 0) h dX10_shift_64 (by decide) 65 rfl ?_
            refine ww_ist h dX10_shift_65 (by decide) (fun v4_17 => [(4, .int v4_17), (0, .ref oM), (1, .int p0), (2, .int p1), (3, .int p2)]) (fun _ => rfl) 67 rfl (fun v4_17 e => ?_)
            replace hf := bnd_at e hf
            clear e
            refine ww_lo [1, 2, 3, 4, 0] (lo' := [(0, .ref oM), (1, .int p0), (2, .int p1), (3, .int p2), (4, .int v4_17)]) rfl ?_
            obtain ⟨M_24, h18, hf⟩ := ob1 hf
            refine lp_walk (un2 (fun v4_19 M_20 => ww X D A 5 Q 0 0 67 [(0, .ref oM), (1, .int p0), (2, .int p1), (3, .int p2), (4, .int v4_19)] [] [gX10 cy oM aM M_20])) (un1 (fun M_24 => ww X D A 5 Q 0 0 125 [] [] [gX10 cy oM aM M_24])) ?_ _ _ _ h18 ?_
            · clear h18 hf
              intro s18 o18 hf hI18 hE18
              obtain ⟨v4_19, M_20⟩ := s18
              unfold s_X10_shift_67_18 at hf
              replace hf := un2_e hf
              show ww X D A 5 Q 0 0 67 [(0, .ref oM), (1, .int p0), (2, .int p1), (3, .int p2), (4, .int v4_19)] [] [gX10 cy oM aM M_20]
              refine ww_iload h dX10_shift_67 4 rfl 69 rfl ?_
              refine ww_iload_n h dX10_shift_69 rfl 2 rfl 70 rfl ?_
              refine ww_icmp_ge h dX10_shift_70 125 (by decide) 73 rfl (fun c => ?_) (fun c => ?_)
              · replace hf := ite_t c hf
                refine ww_lo [] (lo' := []) rfl ?_
                exact hE18 M_20 (Option.some.inj hf).symm
              · replace hf := ite_f c hf
                refine ww_aload_n h dX10_shift_73 rfl 0 rfl 74 rfl ?_
                refine ww_get h inG10 rfl 0 rfl rfl 8 (by decide) w_1165 rfl dX10_shift_74 77 rfl ?_
                refine ww_iconst (v := 1) h dX10_shift_77 (by decide) 78 rfl ?_
                refine ww_iload_n h dX10_shift_78 rfl 3 rfl 79 rfl ?_
                refine ww_iadd h dX10_shift_79 80 rfl ?_
                refine ww_iload h dX10_shift_80 4 rfl 82 rfl ?_
                refine ww_iadd h dX10_shift_82 83 rfl ?_
                refine ww_aload_n h dX10_shift_83 rfl 0 rfl 84 rfl ?_
                refine ww_get h inG10 rfl 0 rfl rfl 9 (by decide) w_1166 rfl dX10_shift_84 87 rfl ?_
                refine ww_iconst (v := 1) h dX10_shift_87 (by decide) 88 rfl ?_
                refine ww_iload_n h dX10_shift_88 rfl 1 rfl 89 rfl ?_
                refine ww_iadd h dX10_shift_89 90 rfl ?_
                refine ww_iload h dX10_shift_90 4 rfl 92 rfl ?_
                refine ww_iadd h dX10_shift_92 93 rfl ?_
                have hi := (gd_some hf).1
                replace hf := (gd_some hf).2
                refine ww_iald h 0 rfl 9 rfl (ix_in hi) dX10_shift_93 94 rfl ?_
                clear hi
                have hi := (gd_some hf).1
                replace hf := (gd_some hf).2
                refine ww_iast h 0 rfl 8 rfl (ix_in hi) dX10_shift_94 95 rfl ?_
                clear hi
                refine ww_nm (fun z => [gX10 cy oM aM z]) (sA M_20 8 (((1 : Int32) + p2) + v4_19).toNatClampNeg (ar M_20 9 (((1 : Int32) + p0) + v4_19).toNatClampNeg)) (fun M_21 e => ?_)
                replace hf := bnd_at e hf
                clear e
                refine ww_aload_n h dX10_shift_95 rfl 0 rfl 96 rfl ?_
                refine ww_get h inG10 rfl 0 rfl rfl 8 (by decide) w_1165 rfl dX10_shift_96 99 rfl ?_
                refine ww_bipush (v := 41) h dX10_shift_99 (by decide) 101 rfl ?_
                refine ww_iload_n h dX10_shift_101 rfl 3 rfl 102 rfl ?_
                refine ww_iadd h dX10_shift_102 103 rfl ?_
                refine ww_iload h dX10_shift_103 4 rfl 105 rfl ?_
                refine ww_iadd h dX10_shift_105 106 rfl ?_
                refine ww_aload_n h dX10_shift_106 rfl 0 rfl 107 rfl ?_
                refine ww_get h inG10 rfl 0 rfl rfl 9 (by decide) w_1166 rfl dX10_shift_107 110 rfl ?_
                refine ww_bipush (v := 41) h dX10_shift_110 (by decide) 112 rfl ?_
                refine ww_iload_n h dX10_shift_112 rfl 1 rfl 113 rfl ?_
                refine ww_iadd h dX10_shift_113 114 rfl ?_
                refine ww_iload h dX10_shift_114 4 rfl 116 rfl ?_
                refine ww_iadd h dX10_shift_116 117 rfl ?_
                have hi := (gd_some hf).1
                replace hf := (gd_some hf).2
                refine ww_iald h 0 rfl 9 rfl (ix_in hi) dX10_shift_117 118 rfl ?_
                clear hi
                have hi := (gd_some hf).1
                replace hf := (gd_some hf).2
                refine ww_iast h 0 rfl 8 rfl (ix_in hi) dX10_shift_118 119 rfl ?_
                clear hi
                refine ww_nm (fun z => [gX10 cy oM aM z]) (sA M_21 8 (((41 : Int32) + p2) + v4_19).toNatClampNeg (ar M_21 9 (((41 : Int32) + p0) + v4_19).toNatClampNeg)) (fun M_22 e => ?_)
                replace hf := bnd_at e hf
                clear e
                refine ww_inc (c := 1) h dX10_shift_119 4 rfl (by decide) (by decide) (fun v4_23 => [(4, .int v4_23), (0, .ref oM), (1, .int p0), (2, .int p1), (3, .int p2)]) (fun _ => rfl) 122 rfl (fun v4_23 e => ?_)
                replace hf := bnd_at e hf
                clear e
                refine ww_goto h dX10_shift_122 67 (by decide) ?_
                refine ww_lo [1, 2, 3, 4, 0] (lo' := [(0, .ref oM), (1, .int p0), (2, .int p1), (3, .int p2), (4, .int v4_23)]) rfl ?_
                exact hI18 (v4_23, M_22) (Option.some.inj hf).symm
            · clear h18
              show ww X D A 5 Q 0 0 125 [] [] [gX10 cy oM aM M_24]
              refine ww_iconst (v := 1) h dX10_shift_125 (by decide) 126 rfl ?_
              obtain rfl := Option.some.inj hf
              exact ww_zret h (Or.inr rfl) dX10_shift_126 hQ ⟨rfl, rfl⟩
          · replace hf := ite_t c hf
            refine ww_iconst (v := 0) h dX10_shift_42 (by decide) 43 rfl ?_
            obtain rfl := Option.some.inj hf
            exact ww_zret h (Or.inl rfl) dX10_shift_43 hQ ⟨rfl, rfl⟩
theorem dX10_looks_0 : decode cX10_looks 0 = .ok (.iconst 0, 1) := by decide +kernel
theorem dX10_looks_1 : decode cX10_looks 1 = .ok (.istore_n 3, 1) := by decide +kernel
theorem dX10_looks_2 : decode cX10_looks 2 = .ok (.iload_n 1, 1) := by decide +kernel
theorem dX10_looks_3 : decode cX10_looks 3 = .ok (.istore 4, 2) := by decide +kernel
theorem dX10_looks_5 : decode cX10_looks 5 = .ok (.iload 4, 2) := by decide +kernel
theorem dX10_looks_7 : decode cX10_looks 7 = .ok (.iload_n 2, 1) := by decide +kernel
theorem dX10_looks_8 : decode cX10_looks 8 = .ok (.if_icmp .gt 23, 3) := by decide +kernel
theorem dX10_looks_11 : decode cX10_looks 11 = .ok (.iload_n 3, 1) := by decide +kernel
theorem dX10_looks_12 : decode cX10_looks 12 = .ok (.aload_n 0, 1) := by decide +kernel
theorem dX10_looks_13 : decode cX10_looks 13 = .ok (.getfield 13, 3) := by decide +kernel
theorem dX10_looks_16 : decode cX10_looks 16 = .ok (.aload_n 0, 1) := by decide +kernel
theorem dX10_looks_17 : decode cX10_looks 17 = .ok (.iload 4, 2) := by decide +kernel
theorem dX10_looks_19 : decode cX10_looks 19 = .ok (.invokevirtual 144, 3) := by decide +kernel
theorem dX10_looks_22 : decode cX10_looks 22 = .ok (.iaload, 1) := by decide +kernel
theorem dX10_looks_23 : decode cX10_looks 23 = .ok (.iadd, 1) := by decide +kernel
theorem dX10_looks_24 : decode cX10_looks 24 = .ok (.istore_n 3, 1) := by decide +kernel
theorem dX10_looks_25 : decode cX10_looks 25 = .ok (.iinc 4 1, 3) := by decide +kernel
theorem dX10_looks_28 : decode cX10_looks 28 = .ok (.goto (-23), 3) := by decide +kernel
theorem dX10_looks_31 : decode cX10_looks 31 = .ok (.aload_n 0, 1) := by decide +kernel
theorem dX10_looks_32 : decode cX10_looks 32 = .ok (.iload_n 2, 1) := by decide +kernel
theorem dX10_looks_33 : decode cX10_looks 33 = .ok (.invokevirtual 144, 3) := by decide +kernel
theorem dX10_looks_36 : decode cX10_looks 36 = .ok (.istore 4, 2) := by decide +kernel
theorem dX10_looks_38 : decode cX10_looks 38 = .ok (.aload_n 0, 1) := by decide +kernel
theorem dX10_looks_39 : decode cX10_looks 39 = .ok (.iload_n 3, 1) := by decide +kernel
theorem dX10_looks_40 : decode cX10_looks 40 = .ok (.aload_n 0, 1) := by decide +kernel
theorem dX10_looks_41 : decode cX10_looks 41 = .ok (.getfield 21, 3) := by decide +kernel
theorem dX10_looks_44 : decode cX10_looks 44 = .ok (.iload 4, 2) := by decide +kernel
theorem dX10_looks_46 : decode cX10_looks 46 = .ok (.iaload, 1) := by decide +kernel
theorem dX10_looks_47 : decode cX10_looks 47 = .ok (.isub, 1) := by decide +kernel
theorem dX10_looks_48 : decode cX10_looks 48 = .ok (.putfield 192, 3) := by decide +kernel
theorem dX10_looks_51 : decode cX10_looks 51 = .ok (.aload_n 0, 1) := by decide +kernel
theorem dX10_looks_52 : decode cX10_looks 52 = .ok (.getfield 192, 3) := by decide +kernel
theorem dX10_looks_55 : decode cX10_looks 55 = .ok (.aload_n 0, 1) := by decide +kernel
theorem dX10_looks_56 : decode cX10_looks 56 = .ok (.getfield 36, 3) := by decide +kernel
theorem dX10_looks_59 : decode cX10_looks 59 = .ok (.bipush 81, 2) := by decide +kernel
theorem dX10_looks_61 : decode cX10_looks 61 = .ok (.iaload, 1) := by decide +kernel
theorem dX10_looks_62 : decode cX10_looks 62 = .ok (.isub, 1) := by decide +kernel
theorem dX10_looks_63 : decode cX10_looks 63 = .ok (.istore 5, 2) := by decide +kernel
theorem dX10_looks_65 : decode cX10_looks 65 = .ok (.aload_n 0, 1) := by decide +kernel
theorem dX10_looks_66 : decode cX10_looks 66 = .ok (.iload 5, 2) := by decide +kernel
theorem dX10_looks_68 : decode cX10_looks 68 = .ok (.ifCond .le 22, 3) := by decide +kernel
theorem dX10_looks_71 : decode cX10_looks 71 = .ok (.aload_n 0, 1) := by decide +kernel
theorem dX10_looks_72 : decode cX10_looks 72 = .ok (.getfield 17, 3) := by decide +kernel
theorem dX10_looks_75 : decode cX10_looks 75 = .ok (.iload 4, 2) := by decide +kernel
theorem dX10_looks_77 : decode cX10_looks 77 = .ok (.baload, 1) := by decide +kernel
theorem dX10_looks_78 : decode cX10_looks 78 = .ok (.ifCond .eq 12, 3) := by decide +kernel
theorem dX10_looks_81 : decode cX10_looks 81 = .ok (.iload_n 1, 1) := by decide +kernel
theorem dX10_looks_82 : decode cX10_looks 82 = .ok (.iload_n 2, 1) := by decide +kernel
theorem dX10_looks_83 : decode cX10_looks 83 = .ok (.if_icmp .ge 7, 3) := by decide +kernel
theorem dX10_looks_86 : decode cX10_looks 86 = .ok (.iconst 1, 1) := by decide +kernel
theorem dX10_looks_87 : decode cX10_looks 87 = .ok (.goto 4, 3) := by decide +kernel
theorem dX10_looks_90 : decode cX10_looks 90 = .ok (.iconst 0, 1) := by decide +kernel
theorem dX10_looks_91 : decode cX10_looks 91 = .ok (.putfield 195, 3) := by decide +kernel
theorem dX10_looks_94 : decode cX10_looks 94 = .ok (.aload_n 0, 1) := by decide +kernel
theorem dX10_looks_95 : decode cX10_looks 95 = .ok (.getfield 195, 3) := by decide +kernel
theorem dX10_looks_98 : decode cX10_looks 98 = .ok (.ifCond .eq 22, 3) := by decide +kernel
theorem dX10_looks_101 : decode cX10_looks 101 = .ok (.iload_n 3, 1) := by decide +kernel
theorem dX10_looks_102 : decode cX10_looks 102 = .ok (.aload_n 0, 1) := by decide +kernel
theorem dX10_looks_103 : decode cX10_looks 103 = .ok (.getfield 13, 3) := by decide +kernel
theorem dX10_looks_106 : decode cX10_looks 106 = .ok (.iload 4, 2) := by decide +kernel
theorem dX10_looks_108 : decode cX10_looks 108 = .ok (.iaload, 1) := by decide +kernel
theorem dX10_looks_109 : decode cX10_looks 109 = .ok (.isub, 1) := by decide +kernel
theorem dX10_looks_110 : decode cX10_looks 110 = .ok (.aload_n 0, 1) := by decide +kernel
theorem dX10_looks_111 : decode cX10_looks 111 = .ok (.getfield 36, 3) := by decide +kernel
theorem dX10_looks_114 : decode cX10_looks 114 = .ok (.bipush 81, 2) := by decide +kernel
theorem dX10_looks_116 : decode cX10_looks 116 = .ok (.iaload, 1) := by decide +kernel
theorem dX10_looks_117 : decode cX10_looks 117 = .ok (.isub, 1) := by decide +kernel
theorem dX10_looks_118 : decode cX10_looks 118 = .ok (.istore 5, 2) := by decide +kernel
theorem dX10_looks_120 : decode cX10_looks 120 = .ok (.aload_n 0, 1) := by decide +kernel
theorem dX10_looks_121 : decode cX10_looks 121 = .ok (.iconst 0, 1) := by decide +kernel
theorem dX10_looks_122 : decode cX10_looks 122 = .ok (.putfield 199, 3) := by decide +kernel
theorem dX10_looks_125 : decode cX10_looks 125 = .ok (.aload_n 0, 1) := by decide +kernel
theorem dX10_looks_126 : decode cX10_looks 126 = .ok (.iconst 0, 1) := by decide +kernel
theorem dX10_looks_127 : decode cX10_looks 127 = .ok (.putfield 202, 3) := by decide +kernel
theorem dX10_looks_130 : decode cX10_looks 130 = .ok (.aload_n 0, 1) := by decide +kernel
theorem dX10_looks_131 : decode cX10_looks 131 = .ok (.iconst 0, 1) := by decide +kernel
theorem dX10_looks_132 : decode cX10_looks 132 = .ok (.putfield 205, 3) := by decide +kernel
theorem dX10_looks_135 : decode cX10_looks 135 = .ok (.aload_n 0, 1) := by decide +kernel
theorem dX10_looks_136 : decode cX10_looks 136 = .ok (.aload_n 0, 1) := by decide +kernel
theorem dX10_looks_137 : decode cX10_looks 137 = .ok (.getfield 195, 3) := by decide +kernel
theorem dX10_looks_140 : decode cX10_looks 140 = .ok (.ifCond .eq 13, 3) := by decide +kernel
theorem dX10_looks_143 : decode cX10_looks 143 = .ok (.aload_n 0, 1) := by decide +kernel
theorem dX10_looks_144 : decode cX10_looks 144 = .ok (.getfield 36, 3) := by decide +kernel
theorem dX10_looks_147 : decode cX10_looks 147 = .ok (.bipush 84, 2) := by decide +kernel
theorem dX10_looks_149 : decode cX10_looks 149 = .ok (.iaload, 1) := by decide +kernel
theorem dX10_looks_150 : decode cX10_looks 150 = .ok (.goto 4, 3) := by decide +kernel
theorem dX10_looks_153 : decode cX10_looks 153 = .ok (.iconst 0, 1) := by decide +kernel
theorem dX10_looks_154 : decode cX10_looks 154 = .ok (.putfield 208, 3) := by decide +kernel
theorem dX10_looks_157 : decode cX10_looks 157 = .ok (.aload_n 0, 1) := by decide +kernel
theorem dX10_looks_158 : decode cX10_looks 158 = .ok (.iconst 0, 1) := by decide +kernel
theorem dX10_looks_159 : decode cX10_looks 159 = .ok (.putfield 211, 3) := by decide +kernel
theorem dX10_looks_162 : decode cX10_looks 162 = .ok (.iload 5, 2) := by decide +kernel
theorem dX10_looks_164 : decode cX10_looks 164 = .ok (.ifCond .le 14, 3) := by decide +kernel
theorem dX10_looks_167 : decode cX10_looks 167 = .ok (.aload_n 0, 1) := by decide +kernel
theorem dX10_looks_168 : decode cX10_looks 168 = .ok (.iload_n 1, 1) := by decide +kernel
theorem dX10_looks_169 : decode cX10_looks 169 = .ok (.iload_n 2, 1) := by decide +kernel
theorem dX10_looks_170 : decode cX10_looks 170 = .ok (.iload 5, 2) := by decide +kernel
theorem dX10_looks_172 : decode cX10_looks 172 = .ok (.invokevirtual 214, 3) := by decide +kernel
theorem dX10_looks_175 : decode cX10_looks 175 = .ok (.goto 22, 3) := by decide +kernel
theorem dX10_looks_178 : decode cX10_looks 178 = .ok (.iload_n 2, 1) := by decide +kernel
theorem dX10_looks_179 : decode cX10_looks 179 = .ok (.aload_n 0, 1) := by decide +kernel
theorem dX10_looks_180 : decode cX10_looks 180 = .ok (.invokevirtual 132, 3) := by decide +kernel
theorem dX10_looks_183 : decode cX10_looks 183 = .ok (.iconst 1, 1) := by decide +kernel
theorem dX10_looks_184 : decode cX10_looks 184 = .ok (.isub, 1) := by decide +kernel
theorem dX10_looks_185 : decode cX10_looks 185 = .ok (.if_icmp .ge 12, 3) := by decide +kernel
theorem dX10_looks_188 : decode cX10_looks 188 = .ok (.aload_n 0, 1) := by decide +kernel
theorem dX10_looks_189 : decode cX10_looks 189 = .ok (.iload_n 1, 1) := by decide +kernel
theorem dX10_looks_190 : decode cX10_looks 190 = .ok (.iload_n 2, 1) := by decide +kernel
theorem dX10_looks_191 : decode cX10_looks 191 = .ok (.iload 5, 2) := by decide +kernel
theorem dX10_looks_193 : decode cX10_looks 193 = .ok (.ineg, 1) := by decide +kernel
theorem dX10_looks_194 : decode cX10_looks 194 = .ok (.invokevirtual 218, 3) := by decide +kernel
theorem dX10_looks_197 : decode cX10_looks 197 = .ok (.aload_n 0, 1) := by decide +kernel
theorem dX10_looks_198 : decode cX10_looks 198 = .ok (.iload_n 2, 1) := by decide +kernel
theorem dX10_looks_199 : decode cX10_looks 199 = .ok (.invokevirtual 221, 3) := by decide +kernel
theorem dX10_looks_202 : decode cX10_looks 202 = .ok (.ifCond .ne 19, 3) := by decide +kernel
theorem dX10_looks_205 : decode cX10_looks 205 = .ok (.aload_n 0, 1) := by decide +kernel
theorem dX10_looks_206 : decode cX10_looks 206 = .ok (.dup, 1) := by decide +kernel
theorem dX10_looks_207 : decode cX10_looks 207 = .ok (.getfield 208, 3) := by decide +kernel
theorem dX10_looks_210 : decode cX10_looks 210 = .ok (.aload_n 0, 1) := by decide +kernel
theorem dX10_looks_211 : decode cX10_looks 211 = .ok (.getfield 36, 3) := by decide +kernel
theorem dX10_looks_214 : decode cX10_looks 214 = .ok (.bipush 86, 2) := by decide +kernel
theorem dX10_looks_216 : decode cX10_looks 216 = .ok (.iaload, 1) := by decide +kernel
theorem dX10_looks_217 : decode cX10_looks 217 = .ok (.iadd, 1) := by decide +kernel
theorem dX10_looks_218 : decode cX10_looks 218 = .ok (.putfield 208, 3) := by decide +kernel
theorem dX10_looks_221 : decode cX10_looks 221 = .ok (.aload_n 0, 1) := by decide +kernel
theorem dX10_looks_222 : decode cX10_looks 222 = .ok (.getfield 211, 3) := by decide +kernel
theorem dX10_looks_225 : decode cX10_looks 225 = .ok (.ifCond .ne 4, 3) := by decide +kernel
theorem dX10_looks_228 : decode cX10_looks 228 = .ok (.return_, 1) := by decide +kernel
theorem dX10_looks_229 : decode cX10_looks 229 = .ok (.aload_n 0, 1) := by decide +kernel
theorem dX10_looks_230 : decode cX10_looks 230 = .ok (.iconst 0, 1) := by decide +kernel
theorem dX10_looks_231 : decode cX10_looks 231 = .ok (.putfield 195, 3) := by decide +kernel
theorem dX10_looks_234 : decode cX10_looks 234 = .ok (.aload_n 0, 1) := by decide +kernel
theorem dX10_looks_235 : decode cX10_looks 235 = .ok (.iconst 0, 1) := by decide +kernel
theorem dX10_looks_236 : decode cX10_looks 236 = .ok (.putfield 199, 3) := by decide +kernel
theorem dX10_looks_239 : decode cX10_looks 239 = .ok (.aload_n 0, 1) := by decide +kernel
theorem dX10_looks_240 : decode cX10_looks 240 = .ok (.aload_n 0, 1) := by decide +kernel
theorem dX10_looks_241 : decode cX10_looks 241 = .ok (.iload_n 2, 1) := by decide +kernel
theorem dX10_looks_242 : decode cX10_looks 242 = .ok (.invokevirtual 221, 3) := by decide +kernel
theorem dX10_looks_245 : decode cX10_looks 245 = .ok (.ifCond .eq 13, 3) := by decide +kernel
theorem dX10_looks_248 : decode cX10_looks 248 = .ok (.aload_n 0, 1) := by decide +kernel
theorem dX10_looks_249 : decode cX10_looks 249 = .ok (.getfield 36, 3) := by decide +kernel
theorem dX10_looks_252 : decode cX10_looks 252 = .ok (.bipush 86, 2) := by decide +kernel
theorem dX10_looks_254 : decode cX10_looks 254 = .ok (.iaload, 1) := by decide +kernel
theorem dX10_looks_255 : decode cX10_looks 255 = .ok (.goto 12, 3) := by decide +kernel
theorem dX10_looks_258 : decode cX10_looks 258 = .ok (.iconst 2, 1) := by decide +kernel
theorem dX10_looks_259 : decode cX10_looks 259 = .ok (.aload_n 0, 1) := by decide +kernel
theorem dX10_looks_260 : decode cX10_looks 260 = .ok (.getfield 36, 3) := by decide +kernel
theorem dX10_looks_263 : decode cX10_looks 263 = .ok (.bipush 86, 2) := by decide +kernel
theorem dX10_looks_265 : decode cX10_looks 265 = .ok (.iaload, 1) := by decide +kernel
theorem dX10_looks_266 : decode cX10_looks 266 = .ok (.imul, 1) := by decide +kernel
theorem dX10_looks_267 : decode cX10_looks 267 = .ok (.putfield 208, 3) := by decide +kernel
theorem dX10_looks_270 : decode cX10_looks 270 = .ok (.return_, 1) := by decide +kernel
theorem ok_X10_looks : okY RX10 yX10_looks 2 := ⟨rfl, by decide, by decide, by decide +kernel⟩
def s_X10_looks_5_3 (M : OV) (p1 : Int32) : (Int32 × Int32) → Option ((Int32 × Int32) ⊕ (Int32)) := un2 (fun v3_4 v4_5 => (if p1 < v4_5 then some (.inr v3_4) else (f_X10_classOf M v4_5).bind (un1 (fun r_6 => gd (ix r_6 26) (bnd (v3_4 + (ar M 1 r_6.toNatClampNeg)) (fun v3_8 => bnd (v4_5 + 1) (fun v4_9 => some (.inl (v3_8, v4_9)))))))))
def j_X10_looks_221_33 (p1 : Int32) (M_32 : OV) : Option (OV) := (if (iv M_32 14) = 0 then some M_32 else bnd (sI M_32 13 (0 : Int32)) (fun M_34 => bnd (sI M_34 15 (0 : Int32)) (fun M_35 => (f_X10_isLegal M_35 p1).bind (un1 (fun r_36 => (if r_36 = 0 then gd (ix (86 : Int32) 113) (bnd (sI M_35 18 ((2 : Int32) * (ar M_35 8 (86 : Int32).toNatClampNeg))) (fun M_38 => some M_38)) else gd (ix (86 : Int32) 113) (bnd (sI M_35 18 (ar M_35 8 (86 : Int32).toNatClampNeg)) (fun M_39 => some M_39))))))))
def j_X10_looks_197_29 (p1 : Int32) (M_28 : OV) : Option (OV) := (f_X10_isLegal M_28 p1).bind (un1 (fun r_30 => (if r_30 = 0 then gd (ix (86 : Int32) 113) (bnd (sI M_28 18 ((iv M_28 18) + (ar M_28 8 (86 : Int32).toNatClampNeg))) (fun M_40 => j_X10_looks_221_33 p1 M_40)) else j_X10_looks_221_33 p1 M_28)))
def j_X10_looks_154_25 (M_23 : OV) (p0 : Int32) (p1 : Int32) (v5_19 : Int32) (t_24 : Int32) : Option (OV) := bnd (sI M_23 18 t_24) (fun M_26 => bnd (sI M_26 14 (0 : Int32)) (fun M_27 => (if v5_19 ≤ 0 then (f_X10_many M_27).bind (un1 (fun r_41 => (if (r_41 - (1 : Int32)) ≤ p1 then j_X10_looks_197_29 p1 M_27 else (f_X10_gives M_27 p0 p1 (-v5_19)).bind (un1 (fun M_43 => j_X10_looks_197_29 p1 M_43))))) else (f_X10_takes M_27 p0 p1 v5_19).bind (un1 (fun M_45 => j_X10_looks_197_29 p1 M_45)))))
def j_X10_looks_120_20 (M_18 : OV) (p0 : Int32) (p1 : Int32) (v5_19 : Int32) : Option (OV) := bnd (sI M_18 15 (0 : Int32)) (fun M_21 => bnd (sI M_21 16 (0 : Int32)) (fun M_22 => bnd (sI M_22 17 (0 : Int32)) (fun M_23 => (if (iv M_23 13) = 0 then j_X10_looks_154_25 M_23 p0 p1 v5_19 (0 : Int32) else gd (ix (84 : Int32) 113) (j_X10_looks_154_25 M_23 p0 p1 v5_19 (ar M_23 8 (84 : Int32).toNatClampNeg))))))
def j_X10_looks_91_17 (M_14 : OV) (p0 : Int32) (p1 : Int32) (v3_10 : Int32) (v4_13 : Int32) (v5_15 : Int32) (t_16 : Int32) : Option (OV) := gd (b01 t_16) (bnd (sI M_14 13 t_16) (fun M_18 => (if (iv M_18 13) = 0 then j_X10_looks_120_20 M_18 p0 p1 v5_15 else gd (ix v4_13 26) (gd (ix (81 : Int32) 113) (bnd ((v3_10 - (ar M_18 1 v4_13.toNatClampNeg)) - (ar M_18 8 (81 : Int32).toNatClampNeg)) (fun v5_47 => j_X10_looks_120_20 M_18 p0 p1 v5_47))))))
def j_X10_looks_90_48 (M_14 : OV) (p0 : Int32) (p1 : Int32) (v3_10 : Int32) (v4_13 : Int32) (v5_15 : Int32) : Option (OV) := j_X10_looks_91_17 M_14 p0 p1 v3_10 v4_13 v5_15 (0 : Int32)
def f_X10_looks (M : OV) (p0 : Int32) (p1 : Int32) : Option (OV) := bnd (0 : Int32) (fun v3_1 => bnd p0 (fun v4_2 => ((lp (s_X10_looks_5_3 M p1) 5000 (v3_1, v4_2)).bind (un1 (fun v3_10 => (f_X10_classOf M p1).bind (un1 (fun r_11 => bnd r_11 (fun v4_13 => gd (ix v4_13 26) (bnd (sI M 12 (v3_10 - (ar M 3 v4_13.toNatClampNeg))) (fun M_14 => gd (ix (81 : Int32) 113) (bnd ((iv M_14 12) - (ar M_14 8 (81 : Int32).toNatClampNeg)) (fun v5_15 => (if v5_15 ≤ 0 then j_X10_looks_90_48 M_14 p0 p1 v3_10 v4_13 v5_15 else gd (ix v4_13 26) ((if (ar M_14 2 v4_13.toNatClampNeg) = 0 then j_X10_looks_90_48 M_14 p0 p1 v3_10 v4_13 v5_15 else (if p1 ≤ p0 then j_X10_looks_90_48 M_14 p0 p1 v3_10 v4_13 v5_15 else j_X10_looks_91_17 M_14 p0 p1 v3_10 v4_13 v5_15 (1 : Int32)))))))))))))))))
def r_X10_looks : Room := { frames := 3, cells := 0, slots := 0, locals := 72 }
set_option maxHeartbeats 4000000 in
set_option maxRecDepth 100000 in
theorem c_X10_looks (l : Launch) (D : va_G) (ev : EvT) (cy : Nat → ClassId) (oM : Nat) (aM : Nat → Nat) (M : OV) (p0 : Int32) (p1 : Int32) (o : OV) (hf : f_X10_looks M p0 p1 = some o) : Fn l yX10_looks cX10_looks 6 none r_X10_looks D ev cy [.ref oM, .int p0, .int p1] [gX10 cy oM aM M] (fun v G => v = none ∧ G = [gX10 cy oM aM o]) := by
  refine Fn_of (by decide) (Nat.le_of_ble_eq_true rfl) (fun X A Q h hQ _ => ?_)
  unfold f_X10_looks at hf
  show ww X D A 6 Q 0 0 0 [(0, .ref oM), (1, .int p0), (2, .int p1)] [] [gX10 cy oM aM M]
  refine ww_iconst (v := 0) h dX10_looks_0 (by decide) 1 rfl ?_
  refine ww_ist_n h dX10_looks_1 rfl (by decide) (fun v3_1 => [(3, .int v3_1), (0, .ref oM), (1, .int p0), (2, .int p1)]) (fun _ => rfl) 2 rfl (fun v3_1 e => ?_)
  replace hf := bnd_at e hf
  clear e
  refine ww_iload_n h dX10_looks_2 rfl 2 rfl 3 rfl ?_
  refine ww_ist h dX10_looks_3 (by decide) (fun v4_2 => [(4, .int v4_2), (3, .int v3_1), (0, .ref oM), (1, .int p0), (2, .int p1)]) (fun _ => rfl) 5 rfl (fun v4_2 e => ?_)
  replace hf := bnd_at e hf
  clear e
  refine ww_lo [2, 3, 4, 1, 0] (lo' := [(0, .ref oM), (1, .int p0), (2, .int p1), (3, .int v3_1), (4, .int v4_2)]) rfl ?_
  obtain ⟨v3_10, h3, hf⟩ := ob1 hf
  refine lp_walk (un2 (fun v3_4 v4_5 => ww X D A 6 Q 0 0 5 [(0, .ref oM), (1, .int p0), (2, .int p1), (3, .int v3_4), (4, .int v4_5)] [] [gX10 cy oM aM M])) (un1 (fun v3_10 => ww X D A 6 Q 0 0 31 [(0, .ref oM), (1, .int p0), (2, .int p1), (3, .int v3_10)] [] [gX10 cy oM aM M])) ?_ _ _ _ h3 ?_
  · clear h3 hf
    intro s3 o3 hf hI3 hE3
    obtain ⟨v3_4, v4_5⟩ := s3
    unfold s_X10_looks_5_3 at hf
    replace hf := un2_e hf
    show ww X D A 6 Q 0 0 5 [(0, .ref oM), (1, .int p0), (2, .int p1), (3, .int v3_4), (4, .int v4_5)] [] [gX10 cy oM aM M]
    refine ww_iload h dX10_looks_5 4 rfl 7 rfl ?_
    refine ww_iload_n h dX10_looks_7 rfl 2 rfl 8 rfl ?_
    refine ww_icmp_gt h dX10_looks_8 31 (by decide) 11 rfl (fun c => ?_) (fun c => ?_)
    · replace hf := ite_t c hf
      refine ww_lo [0, 1, 2, 3] (lo' := [(0, .ref oM), (1, .int p0), (2, .int p1), (3, .int v3_4)]) rfl ?_
      exact hE3 v3_4 (Option.some.inj hf).symm
    · replace hf := ite_f c hf
      refine ww_iload_n h dX10_looks_11 rfl 3 rfl 12 rfl ?_
      refine ww_aload_n h dX10_looks_12 rfl 0 rfl 13 rfl ?_
      refine ww_get h inG10 rfl 0 rfl rfl 1 (by decide) w_1158 rfl dX10_looks_13 16 rfl ?_
      refine ww_aload_n h dX10_looks_16 rfl 0 rfl 17 rfl ?_
      refine ww_iload h dX10_looks_17 4 rfl 19 rfl ?_
      obtain ⟨r_6, hu7, hf⟩ := ob1 hf
      refine ww_cVi h (c_X10_classOf l D ev cy oM aM M v4_5 _ hu7) ⟨w_1369, w_1366, w_1368, w_44, w_111, ok_X10_classOf⟩ ⟨by decide, by decide⟩ ⟨by decide, by decide⟩ ⟨rfl, rfl⟩ [0] rfl 0 rfl rfl rfl rfl (Nat.le_of_ble_eq_true rfl) dX10_looks_19 22 rfl (Gs' := [gX10 cy oM aM M]) rfl ?_
      clear hu7
      have hi := (gd_some hf).1
      replace hf := (gd_some hf).2
      refine ww_iald h 0 rfl 1 rfl (ix_in hi) dX10_looks_22 23 rfl ?_
      clear hi
      refine ww_iadd h dX10_looks_23 24 rfl ?_
      refine ww_ist_n h dX10_looks_24 rfl (by decide) (fun v3_8 => [(3, .int v3_8), (0, .ref oM), (1, .int p0), (2, .int p1), (4, .int v4_5)]) (fun _ => rfl) 25 rfl (fun v3_8 e => ?_)
      replace hf := bnd_at e hf
      clear e
      refine ww_inc (c := 1) h dX10_looks_25 4 rfl (by decide) (by decide) (fun v4_9 => [(4, .int v4_9), (3, .int v3_8), (0, .ref oM), (1, .int p0), (2, .int p1)]) (fun _ => rfl) 28 rfl (fun v4_9 e => ?_)
      replace hf := bnd_at e hf
      clear e
      refine ww_goto h dX10_looks_28 5 (by decide) ?_
      refine ww_lo [2, 3, 4, 1, 0] (lo' := [(0, .ref oM), (1, .int p0), (2, .int p1), (3, .int v3_8), (4, .int v4_9)]) rfl ?_
      exact hI3 (v3_8, v4_9) (Option.some.inj hf).symm
  · clear h3
    show ww X D A 6 Q 0 0 31 [(0, .ref oM), (1, .int p0), (2, .int p1), (3, .int v3_10)] [] [gX10 cy oM aM M]
    refine ww_aload_n h dX10_looks_31 rfl 0 rfl 32 rfl ?_
    refine ww_iload_n h dX10_looks_32 rfl 2 rfl 33 rfl ?_
    obtain ⟨r_11, hu12, hf⟩ := ob1 hf
    refine ww_cVi h (c_X10_classOf l D ev cy oM aM M p1 _ hu12) ⟨w_1369, w_1366, w_1368, w_44, w_111, ok_X10_classOf⟩ ⟨by decide, by decide⟩ ⟨by decide, by decide⟩ ⟨rfl, rfl⟩ [0] rfl 0 rfl rfl rfl rfl (Nat.le_of_ble_eq_true rfl) dX10_looks_33 36 rfl (Gs' := [gX10 cy oM aM M]) rfl ?_
    clear hu12
    refine ww_ist h dX10_looks_36 (by decide) (fun v4_13 => [(4, .int v4_13), (0, .ref oM), (1, .int p0), (2, .int p1), (3, .int v3_10)]) (fun _ => rfl) 38 rfl (fun v4_13 e => ?_)
    replace hf := bnd_at e hf
    clear e
    refine ww_aload_n h dX10_looks_38 rfl 1 rfl 39 rfl ?_
    refine ww_iload_n h dX10_looks_39 rfl 4 rfl 40 rfl ?_
    refine ww_aload_n h dX10_looks_40 rfl 1 rfl 41 rfl ?_
    refine ww_get h inG10 rfl 0 rfl rfl 3 (by decide) w_1160 rfl dX10_looks_41 44 rfl ?_
    refine ww_iload h dX10_looks_44 0 rfl 46 rfl ?_
    have hi := (gd_some hf).1
    replace hf := (gd_some hf).2
    refine ww_iald h 0 rfl 3 rfl (ix_in hi) dX10_looks_46 47 rfl ?_
    clear hi
    refine ww_isub h dX10_looks_47 48 rfl ?_
    refine ww_put (ty := .int) h inG10 tyX10_ok nmX10 rfl 0 rfl rfl 12 (by decide) w_1169 rfl (by decide +kernel) rfl rfl (Nat.le_of_ble_eq_true rfl) (Nat.le_of_ble_eq_true rfl) dX10_looks_48 51 rfl ?_
    refine ww_nm (fun z => [gX10 cy oM aM z]) (sI M 12 (v3_10 - (ar M 3 v4_13.toNatClampNeg))) (fun M_14 e => ?_)
    replace hf := bnd_at e hf
    clear e
    refine ww_aload_n h dX10_looks_51 rfl 1 rfl 52 rfl ?_
    refine ww_get h inG10 rfl 0 rfl rfl 12 (by decide) w_1169 rfl dX10_looks_52 55 rfl ?_
    refine ww_aload_n h dX10_looks_55 rfl 1 rfl 56 rfl ?_
    refine ww_get h inG10 rfl 0 rfl rfl 8 (by decide) w_1165 rfl dX10_looks_56 59 rfl ?_
    refine ww_bipush (v := 81) h dX10_looks_59 (by decide) 61 rfl ?_
    have hi := (gd_some hf).1
    replace hf := (gd_some hf).2
    refine ww_iald h 0 rfl 8 rfl (ix_in hi) dX10_looks_61 62 rfl ?_
    clear hi
    refine ww_isub h dX10_looks_62 63 rfl ?_
    refine ww_ist h dX10_looks_63 (by decide) (fun v5_15 => [(5, .int v5_15), (4, .int v4_13), (0, .ref oM), (1, .int p0), (2, .int p1), (3, .int v3_10)]) (fun _ => rfl) 65 rfl (fun v5_15 e => ?_)
    replace hf := bnd_at e hf
    clear e
    refine ww_aload_n h dX10_looks_65 rfl 2 rfl 66 rfl ?_
    refine ww_iload h dX10_looks_66 0 rfl 68 rfl ?_
    have hJ91_17 : ∀ (t_16 : Int32), j_X10_looks_91_17 M_14 p0 p1 v3_10 v4_13 v5_15 t_16 = some o → ww X D A 6 Q 0 0 91 [(0, .ref oM), (1, .int p0), (2, .int p1), (3, .int v3_10), (4, .int v4_13), (5, .int v5_15)] [.int t_16, .ref oM] [gX10 cy oM aM M_14] := by
      intro t_16 hf
      unfold j_X10_looks_91_17 at hf
      have hi := (gd_some hf).1
      replace hf := (gd_some hf).2
      refine ww_put (ty := .boolean) h inG10 tyX10_ok nmX10 rfl 0 rfl rfl 13 (by decide) w_1170 rfl (by decide +kernel) (b01_nar hi) (b01_fit hi) (Nat.le_of_ble_eq_true rfl) (Nat.le_of_ble_eq_true rfl) dX10_looks_91 94 rfl ?_
      clear hi
      refine ww_nm (fun z => [gX10 cy oM aM z]) (sI M_14 13 t_16) (fun M_18 e => ?_)
      replace hf := bnd_at e hf
      clear e
      refine ww_aload_n h dX10_looks_94 rfl 0 rfl 95 rfl ?_
      refine ww_get h inG10 rfl 0 rfl rfl 13 (by decide) w_1170 rfl dX10_looks_95 98 rfl ?_
      have hJ120_20 : ∀ (v5_19 : Int32), j_X10_looks_120_20 M_18 p0 p1 v5_19 = some o → ww X D A 6 Q 0 0 120 [(0, .ref oM), (1, .int p0), (2, .int p1), (5, .int v5_19)] [] [gX10 cy oM aM M_18] := by
        intro v5_19 hf
        unfold j_X10_looks_120_20 at hf
        refine ww_aload_n h dX10_looks_120 rfl 0 rfl 121 rfl ?_
        refine ww_iconst (v := 0) h dX10_looks_121 (by decide) 122 rfl ?_
        refine ww_put (ty := .int) h inG10 tyX10_ok nmX10 rfl 0 rfl rfl 15 (by decide) w_1172 rfl (by decide +kernel) rfl rfl (Nat.le_of_ble_eq_true rfl) (Nat.le_of_ble_eq_true rfl) dX10_looks_122 125 rfl ?_
        refine ww_nm (fun z => [gX10 cy oM aM z]) (sI M_18 15 (0 : Int32)) (fun M_21 e => ?_)
        replace hf := bnd_at e hf
        clear e
        refine ww_aload_n h dX10_looks_125 rfl 0 rfl 126 rfl ?_
        refine ww_iconst (v := 0) h dX10_looks_126 (by decide) 127 rfl ?_
        refine ww_put (ty := .int) h inG10 tyX10_ok nmX10 rfl 0 rfl rfl 16 (by decide) w_1173 rfl (by decide +kernel) rfl rfl (Nat.le_of_ble_eq_true rfl) (Nat.le_of_ble_eq_true rfl) dX10_looks_127 130 rfl ?_
        refine ww_nm (fun z => [gX10 cy oM aM z]) (sI M_21 16 (0 : Int32)) (fun M_22 e => ?_)
        replace hf := bnd_at e hf
        clear e
        refine ww_aload_n h dX10_looks_130 rfl 0 rfl 131 rfl ?_
        refine ww_iconst (v := 0) h dX10_looks_131 (by decide) 132 rfl ?_
        refine ww_put (ty := .int) h inG10 tyX10_ok nmX10 rfl 0 rfl rfl 17 (by decide) w_1174 rfl (by decide +kernel) rfl rfl (Nat.le_of_ble_eq_true rfl) (Nat.le_of_ble_eq_true rfl) dX10_looks_132 135 rfl ?_
        refine ww_nm (fun z => [gX10 cy oM aM z]) (sI M_22 17 (0 : Int32)) (fun M_23 e => ?_)
        replace hf := bnd_at e hf
        clear e
        refine ww_aload_n h dX10_looks_135 rfl 0 rfl 136 rfl ?_
        refine ww_aload_n h dX10_looks_136 rfl 0 rfl 137 rfl ?_
        refine ww_get h inG10 rfl 0 rfl rfl 13 (by decide) w_1170 rfl dX10_looks_137 140 rfl ?_
        have hJ154_25 : ∀ (t_24 : Int32), j_X10_looks_154_25 M_23 p0 p1 v5_19 t_24 = some o → ww X D A 6 Q 0 0 154 [(0, .ref oM), (1, .int p0), (2, .int p1), (5, .int v5_19)] [.int t_24, .ref oM] [gX10 cy oM aM M_23] := by
          intro t_24 hf
          unfold j_X10_looks_154_25 at hf
          refine ww_put (ty := .int) h inG10 tyX10_ok nmX10 rfl 0 rfl rfl 18 (by decide) w_1175 rfl (by decide +kernel) rfl rfl (Nat.le_of_ble_eq_true rfl) (Nat.le_of_ble_eq_true rfl) dX10_looks_154 157 rfl ?_
          refine ww_nm (fun z => [gX10 cy oM aM z]) (sI M_23 18 t_24) (fun M_26 e => ?_)
          replace hf := bnd_at e hf
          clear e
          refine ww_aload_n h dX10_looks_157 rfl 0 rfl 158 rfl ?_
          refine ww_iconst (v := 0) h dX10_looks_158 (by decide) 159 rfl ?_
          refine ww_put (ty := .boolean) h inG10 tyX10_ok nmX10 rfl 0 rfl rfl 14 (by decide) w_1171 rfl (by decide +kernel) (by decide) (by decide) (Nat.le_of_ble_eq_true rfl) (Nat.le_of_ble_eq_true rfl) dX10_looks_159 162 rfl ?_
          refine ww_nm (fun z => [gX10 cy oM aM z]) (sI M_26 14 (0 : Int32)) (fun M_27 e => ?_)
          replace hf := bnd_at e hf
          clear e
          refine ww_iload h dX10_looks_162 3 rfl 164 rfl ?_
          have hJ197_29 : ∀ (M_28 : OV), j_X10_looks_197_29 p1 M_28 = some o → ww X D A 6 Q 0 0 197 [(0, .ref oM), (2, .int p1)] [] [gX10 cy oM aM M_28] := by
            intro M_28 hf
            unfold j_X10_looks_197_29 at hf
            refine ww_aload_n h dX10_looks_197 rfl 0 rfl 198 rfl ?_
            refine ww_iload_n h dX10_looks_198 rfl 1 rfl 199 rfl ?_
            obtain ⟨r_30, hu31, hf⟩ := ob1 hf
            refine ww_cVi h (c_X10_isLegal l D ev cy oM aM M_28 p1 _ hu31) ⟨w_1461, w_1458, w_1460, w_51, w_111, ok_X10_isLegal⟩ ⟨by decide, by decide⟩ ⟨by decide, by decide⟩ ⟨rfl, rfl⟩ [0] rfl 0 rfl rfl rfl rfl (Nat.le_of_ble_eq_true rfl) dX10_looks_199 202 rfl (Gs' := [gX10 cy oM aM M_28]) rfl ?_
            clear hu31
            have hJ221_33 : ∀ (M_32 : OV), j_X10_looks_221_33 p1 M_32 = some o → ww X D A 6 Q 0 0 221 [(0, .ref oM), (2, .int p1)] [] [gX10 cy oM aM M_32] := by
              intro M_32 hf
              unfold j_X10_looks_221_33 at hf
              refine ww_aload_n h dX10_looks_221 rfl 0 rfl 222 rfl ?_
              refine ww_get h inG10 rfl 0 rfl rfl 14 (by decide) w_1171 rfl dX10_looks_222 225 rfl ?_
              refine ww_if_ne h dX10_looks_225 229 (by decide) 228 rfl (fun c => ?_) (fun c => ?_)
              · replace hf := ite_f c hf
                refine ww_aload_n h dX10_looks_229 rfl 0 rfl 230 rfl ?_
                refine ww_iconst (v := 0) h dX10_looks_230 (by decide) 231 rfl ?_
                refine ww_put (ty := .boolean) h inG10 tyX10_ok nmX10 rfl 0 rfl rfl 13 (by decide) w_1170 rfl (by decide +kernel) (by decide) (by decide) (Nat.le_of_ble_eq_true rfl) (Nat.le_of_ble_eq_true rfl) dX10_looks_231 234 rfl ?_
                refine ww_nm (fun z => [gX10 cy oM aM z]) (sI M_32 13 (0 : Int32)) (fun M_34 e => ?_)
                replace hf := bnd_at e hf
                clear e
                refine ww_aload_n h dX10_looks_234 rfl 0 rfl 235 rfl ?_
                refine ww_iconst (v := 0) h dX10_looks_235 (by decide) 236 rfl ?_
                refine ww_put (ty := .int) h inG10 tyX10_ok nmX10 rfl 0 rfl rfl 15 (by decide) w_1172 rfl (by decide +kernel) rfl rfl (Nat.le_of_ble_eq_true rfl) (Nat.le_of_ble_eq_true rfl) dX10_looks_236 239 rfl ?_
                refine ww_nm (fun z => [gX10 cy oM aM z]) (sI M_34 15 (0 : Int32)) (fun M_35 e => ?_)
                replace hf := bnd_at e hf
                clear e
                refine ww_aload_n h dX10_looks_239 rfl 0 rfl 240 rfl ?_
                refine ww_aload_n h dX10_looks_240 rfl 0 rfl 241 rfl ?_
                refine ww_iload_n h dX10_looks_241 rfl 1 rfl 242 rfl ?_
                obtain ⟨r_36, hu37, hf⟩ := ob1 hf
                refine ww_cVi h (c_X10_isLegal l D ev cy oM aM M_35 p1 _ hu37) ⟨w_1461, w_1458, w_1460, w_51, w_111, ok_X10_isLegal⟩ ⟨by decide, by decide⟩ ⟨by decide, by decide⟩ ⟨rfl, rfl⟩ [0] rfl 0 rfl rfl rfl rfl (Nat.le_of_ble_eq_true rfl) dX10_looks_242 245 rfl (Gs' := [gX10 cy oM aM M_35]) rfl ?_
                clear hu37
                refine ww_if_eq h dX10_looks_245 258 (by decide) 248 rfl (fun c => ?_) (fun c => ?_)
                · replace hf := ite_t c hf
                  refine ww_iconst (v := 2) h dX10_looks_258 (by decide) 259 rfl ?_
                  refine ww_aload_n h dX10_looks_259 rfl 0 rfl 260 rfl ?_
                  refine ww_get h inG10 rfl 0 rfl rfl 8 (by decide) w_1165 rfl dX10_looks_260 263 rfl ?_
                  refine ww_bipush (v := 86) h dX10_looks_263 (by decide) 265 rfl ?_
                  have hi := (gd_some hf).1
                  replace hf := (gd_some hf).2
                  refine ww_iald h 0 rfl 8 rfl (ix_in hi) dX10_looks_265 266 rfl ?_
                  clear hi
                  refine ww_imul h dX10_looks_266 267 rfl ?_
                  refine ww_put (ty := .int) h inG10 tyX10_ok nmX10 rfl 0 rfl rfl 18 (by decide) w_1175 rfl (by decide +kernel) rfl rfl (Nat.le_of_ble_eq_true rfl) (Nat.le_of_ble_eq_true rfl) dX10_looks_267 270 rfl ?_
                  refine ww_nm (fun z => [gX10 cy oM aM z]) (sI M_35 18 ((2 : Int32) * (ar M_35 8 (86 : Int32).toNatClampNeg))) (fun M_38 e => ?_)
                  replace hf := bnd_at e hf
                  clear e
                  obtain rfl := Option.some.inj hf
                  exact ww_vret h dX10_looks_270 hQ ⟨rfl, rfl⟩
                · replace hf := ite_f c hf
                  refine ww_aload_n h dX10_looks_248 rfl 0 rfl 249 rfl ?_
                  refine ww_get h inG10 rfl 0 rfl rfl 8 (by decide) w_1165 rfl dX10_looks_249 252 rfl ?_
                  refine ww_bipush (v := 86) h dX10_looks_252 (by decide) 254 rfl ?_
                  have hi := (gd_some hf).1
                  replace hf := (gd_some hf).2
                  refine ww_iald h 0 rfl 8 rfl (ix_in hi) dX10_looks_254 255 rfl ?_
                  clear hi
                  refine ww_goto h dX10_looks_255 267 (by decide) ?_
                  refine ww_put (ty := .int) h inG10 tyX10_ok nmX10 rfl 0 rfl rfl 18 (by decide) w_1175 rfl (by decide +kernel) rfl rfl (Nat.le_of_ble_eq_true rfl) (Nat.le_of_ble_eq_true rfl) dX10_looks_267 270 rfl ?_
                  refine ww_nm (fun z => [gX10 cy oM aM z]) (sI M_35 18 (ar M_35 8 (86 : Int32).toNatClampNeg)) (fun M_39 e => ?_)
                  replace hf := bnd_at e hf
                  clear e
                  obtain rfl := Option.some.inj hf
                  exact ww_vret h dX10_looks_270 hQ ⟨rfl, rfl⟩
              · replace hf := ite_t c hf
                obtain rfl := Option.some.inj hf
                exact ww_vret h dX10_looks_228 hQ ⟨rfl, rfl⟩
            refine ww_if_ne h dX10_looks_202 221 (by decide) 205 rfl (fun c => ?_) (fun c => ?_)
            · replace hf := ite_f c hf
              exact hJ221_33 M_28 hf
            · replace hf := ite_t c hf
              refine ww_aload_n h dX10_looks_205 rfl 0 rfl 206 rfl ?_
              refine ww_dup h dX10_looks_206 rfl 207 rfl ?_
              refine ww_get h inG10 rfl 0 rfl rfl 18 (by decide) w_1175 rfl dX10_looks_207 210 rfl ?_
              refine ww_aload_n h dX10_looks_210 rfl 0 rfl 211 rfl ?_
              refine ww_get h inG10 rfl 0 rfl rfl 8 (by decide) w_1165 rfl dX10_looks_211 214 rfl ?_
              refine ww_bipush (v := 86) h dX10_looks_214 (by decide) 216 rfl ?_
              have hi := (gd_some hf).1
              replace hf := (gd_some hf).2
              refine ww_iald h 0 rfl 8 rfl (ix_in hi) dX10_looks_216 217 rfl ?_
              clear hi
              refine ww_iadd h dX10_looks_217 218 rfl ?_
              refine ww_put (ty := .int) h inG10 tyX10_ok nmX10 rfl 0 rfl rfl 18 (by decide) w_1175 rfl (by decide +kernel) rfl rfl (Nat.le_of_ble_eq_true rfl) (Nat.le_of_ble_eq_true rfl) dX10_looks_218 221 rfl ?_
              refine ww_nm (fun z => [gX10 cy oM aM z]) (sI M_28 18 ((iv M_28 18) + (ar M_28 8 (86 : Int32).toNatClampNeg))) (fun M_40 e => ?_)
              replace hf := bnd_at e hf
              clear e
              exact hJ221_33 M_40 hf
          refine ww_if_le h dX10_looks_164 178 (by decide) 167 rfl (fun c => ?_) (fun c => ?_)
          · replace hf := ite_t c hf
            refine ww_iload_n h dX10_looks_178 rfl 2 rfl 179 rfl ?_
            refine ww_aload_n h dX10_looks_179 rfl 0 rfl 180 rfl ?_
            obtain ⟨r_41, hu42, hf⟩ := ob1 hf
            refine ww_cVi h (c_X10_many l D ev cy oM aM M_27 _ hu42) ⟨w_1330, w_1327, w_1329, w_37, w_111, ok_X10_many⟩ ⟨by decide, by decide⟩ ⟨by decide, by decide⟩ ⟨rfl, rfl⟩ [0] rfl 0 rfl rfl rfl rfl (Nat.le_of_ble_eq_true rfl) dX10_looks_180 183 rfl (Gs' := [gX10 cy oM aM M_27]) rfl ?_
            clear hu42
            refine ww_iconst (v := 1) h dX10_looks_183 (by decide) 184 rfl ?_
            refine ww_isub h dX10_looks_184 185 rfl ?_
            refine ww_icmp_ge h dX10_looks_185 197 (by decide) 188 rfl (fun c => ?_) (fun c => ?_)
            · replace hf := ite_t c hf
              refine ww_lo [0, 2] (lo' := [(0, .ref oM), (2, .int p1)]) rfl ?_
              exact hJ197_29 M_27 hf
            · replace hf := ite_f c hf
              refine ww_aload_n h dX10_looks_188 rfl 0 rfl 189 rfl ?_
              refine ww_iload_n h dX10_looks_189 rfl 1 rfl 190 rfl ?_
              refine ww_iload_n h dX10_looks_190 rfl 2 rfl 191 rfl ?_
              refine ww_iload h dX10_looks_191 3 rfl 193 rfl ?_
              refine ww_ineg h dX10_looks_193 194 rfl ?_
              obtain ⟨M_43, hu44, hf⟩ := ob1 hf
              refine ww_cVv h (c_X10_gives l D ev cy oM aM M_27 p0 p1 (-v5_19) _ hu44) ⟨w_1481, w_1478, w_1480, w_55, w_111, ok_X10_gives⟩ ⟨by decide, by decide⟩ ⟨by decide, by decide⟩ ⟨rfl, rfl⟩ [0] rfl 0 rfl rfl rfl rfl (Nat.le_of_ble_eq_true rfl) dX10_looks_194 197 rfl (Gs' := [gX10 cy oM aM M_43]) rfl ?_
              clear hu44
              refine ww_lo [0, 2] (lo' := [(0, .ref oM), (2, .int p1)]) rfl ?_
              exact hJ197_29 M_43 hf
          · replace hf := ite_f c hf
            refine ww_aload_n h dX10_looks_167 rfl 0 rfl 168 rfl ?_
            refine ww_iload_n h dX10_looks_168 rfl 1 rfl 169 rfl ?_
            refine ww_iload_n h dX10_looks_169 rfl 2 rfl 170 rfl ?_
            refine ww_iload h dX10_looks_170 3 rfl 172 rfl ?_
            obtain ⟨M_45, hu46, hf⟩ := ob1 hf
            refine ww_cVv h (c_X10_takes l D ev cy oM aM M_27 p0 p1 v5_19 _ hu46) ⟨w_1473, w_1470, w_1472, w_53, w_111, ok_X10_takes⟩ ⟨by decide, by decide⟩ ⟨by decide, by decide⟩ ⟨rfl, rfl⟩ [0] rfl 0 rfl rfl rfl rfl (Nat.le_of_ble_eq_true rfl) dX10_looks_172 175 rfl (Gs' := [gX10 cy oM aM M_45]) rfl ?_
            clear hu46
            refine ww_goto h dX10_looks_175 197 (by decide) ?_
            refine ww_lo [0, 2] (lo' := [(0, .ref oM), (2, .int p1)]) rfl ?_
            exact hJ197_29 M_45 hf
        refine ww_if_eq h dX10_looks_140 153 (by decide) 143 rfl (fun c => ?_) (fun c => ?_)
        · replace hf := ite_t c hf
          refine ww_iconst (v := 0) h dX10_looks_153 (by decide) 154 rfl ?_
          exact hJ154_25 (0 : Int32) hf
        · replace hf := ite_f c hf
          refine ww_aload_n h dX10_looks_143 rfl 0 rfl 144 rfl ?_
          refine ww_get h inG10 rfl 0 rfl rfl 8 (by decide) w_1165 rfl dX10_looks_144 147 rfl ?_
          refine ww_bipush (v := 84) h dX10_looks_147 (by decide) 149 rfl ?_
          have hi := (gd_some hf).1
          replace hf := (gd_some hf).2
          refine ww_iald h 0 rfl 8 rfl (ix_in hi) dX10_looks_149 150 rfl ?_
          clear hi
          refine ww_goto h dX10_looks_150 154 (by decide) ?_
          exact hJ154_25 (ar M_23 8 (84 : Int32).toNatClampNeg) hf
      refine ww_if_eq h dX10_looks_98 120 (by decide) 101 rfl (fun c => ?_) (fun c => ?_)
      · replace hf := ite_t c hf
        refine ww_lo [0, 1, 2, 5] (lo' := [(0, .ref oM), (1, .int p0), (2, .int p1), (5, .int v5_15)]) rfl ?_
        exact hJ120_20 v5_15 hf
      · replace hf := ite_f c hf
        refine ww_iload_n h dX10_looks_101 rfl 3 rfl 102 rfl ?_
        refine ww_aload_n h dX10_looks_102 rfl 0 rfl 103 rfl ?_
        refine ww_get h inG10 rfl 0 rfl rfl 1 (by decide) w_1158 rfl dX10_looks_103 106 rfl ?_
        refine ww_iload h dX10_looks_106 4 rfl 108 rfl ?_
        have hi := (gd_some hf).1
        replace hf := (gd_some hf).2
        refine ww_iald h 0 rfl 1 rfl (ix_in hi) dX10_looks_108 109 rfl ?_
        clear hi
        refine ww_isub h dX10_looks_109 110 rfl ?_
        refine ww_aload_n h dX10_looks_110 rfl 0 rfl 111 rfl ?_
        refine ww_get h inG10 rfl 0 rfl rfl 8 (by decide) w_1165 rfl dX10_looks_111 114 rfl ?_
        refine ww_bipush (v := 81) h dX10_looks_114 (by decide) 116 rfl ?_
        have hi := (gd_some hf).1
        replace hf := (gd_some hf).2
        refine ww_iald h 0 rfl 8 rfl (ix_in hi) dX10_looks_116 117 rfl ?_
        clear hi
        refine ww_isub h dX10_looks_117 118 rfl ?_
        refine ww_ist h dX10_looks_118 (by decide) (fun v5_47 => [(5, .int v5_47), (0, .ref oM), (1, .int p0), (2, .int p1), (3, .int v3_10), (4, .int v4_13)]) (fun _ => rfl) 120 rfl (fun v5_47 e => ?_)
        replace hf := bnd_at e hf
        clear e
        refine ww_lo [1, 2, 3, 0] (lo' := [(0, .ref oM), (1, .int p0), (2, .int p1), (5, .int v5_47)]) rfl ?_
        exact hJ120_20 v5_47 hf
    have hJ90_48 : ∀ (_ : Unit), j_X10_looks_90_48 M_14 p0 p1 v3_10 v4_13 v5_15 = some o → ww X D A 6 Q 0 0 90 [(0, .ref oM), (1, .int p0), (2, .int p1), (3, .int v3_10), (4, .int v4_13), (5, .int v5_15)] [.ref oM] [gX10 cy oM aM M_14] := by
      intro _ hf
      unfold j_X10_looks_90_48 at hf
      refine ww_iconst (v := 0) h dX10_looks_90 (by decide) 91 rfl ?_
      exact hJ91_17 (0 : Int32) hf
    refine ww_if_le h dX10_looks_68 90 (by decide) 71 rfl (fun c => ?_) (fun c => ?_)
    · replace hf := ite_t c hf
      refine ww_lo [2, 3, 4, 5, 1, 0] (lo' := [(0, .ref oM), (1, .int p0), (2, .int p1), (3, .int v3_10), (4, .int v4_13), (5, .int v5_15)]) rfl ?_
      exact hJ90_48 () hf
    · replace hf := ite_f c hf
      refine ww_aload_n h dX10_looks_71 rfl 2 rfl 72 rfl ?_
      refine ww_get h inG10 rfl 0 rfl rfl 2 (by decide) w_1159 rfl dX10_looks_72 75 rfl ?_
      refine ww_iload h dX10_looks_75 1 rfl 77 rfl ?_
      have hi := (gd_some hf).1
      replace hf := (gd_some hf).2
      refine ww_zald h 0 rfl 2 rfl (ix_in hi) dX10_looks_77 78 rfl ?_
      clear hi
      refine ww_if_eq h dX10_looks_78 90 (by decide) 81 rfl (fun c => ?_) (fun c => ?_)
      · replace hf := ite_t c hf
        refine ww_lo [2, 3, 4, 5, 1, 0] (lo' := [(0, .ref oM), (1, .int p0), (2, .int p1), (3, .int v3_10), (4, .int v4_13), (5, .int v5_15)]) rfl ?_
        exact hJ90_48 () hf
      · replace hf := ite_f c hf
        refine ww_iload_n h dX10_looks_81 rfl 3 rfl 82 rfl ?_
        refine ww_iload_n h dX10_looks_82 rfl 4 rfl 83 rfl ?_
        refine ww_icmp_ge h dX10_looks_83 90 (by decide) 86 rfl (fun c => ?_) (fun c => ?_)
        · replace hf := ite_t c hf
          refine ww_lo [2, 3, 4, 5, 1, 0] (lo' := [(0, .ref oM), (1, .int p0), (2, .int p1), (3, .int v3_10), (4, .int v4_13), (5, .int v5_15)]) rfl ?_
          exact hJ90_48 () hf
        · replace hf := ite_f c hf
          refine ww_iconst (v := 1) h dX10_looks_86 (by decide) 87 rfl ?_
          refine ww_goto h dX10_looks_87 91 (by decide) ?_
          refine ww_lo [2, 3, 4, 5, 1, 0] (lo' := [(0, .ref oM), (1, .int p0), (2, .int p1), (3, .int v3_10), (4, .int v4_13), (5, .int v5_15)]) rfl ?_
          exact hJ91_17 (1 : Int32) hf
theorem dX10_laysCosts_0 : decode cX10_laysCosts 0 = .ok (.iconst 0, 1) := by decide +kernel
theorem dX10_laysCosts_1 : decode cX10_laysCosts 1 = .ok (.istore_n 1, 1) := by decide +kernel
theorem dX10_laysCosts_2 : decode cX10_laysCosts 2 = .ok (.iload_n 1, 1) := by decide +kernel
theorem dX10_laysCosts_3 : decode cX10_laysCosts 3 = .ok (.aload_n 0, 1) := by decide +kernel
theorem dX10_laysCosts_4 : decode cX10_laysCosts 4 = .ok (.invokevirtual 132, 3) := by decide +kernel
theorem dX10_laysCosts_7 : decode cX10_laysCosts 7 = .ok (.if_icmp .ge 65, 3) := by decide +kernel
theorem dX10_laysCosts_10 : decode cX10_laysCosts 10 = .ok (.aload_n 0, 1) := by decide +kernel
theorem dX10_laysCosts_11 : decode cX10_laysCosts 11 = .ok (.iload_n 1, 1) := by decide +kernel
theorem dX10_laysCosts_12 : decode cX10_laysCosts 12 = .ok (.invokevirtual 228, 3) := by decide +kernel
theorem dX10_laysCosts_15 : decode cX10_laysCosts 15 = .ok (.istore_n 2, 1) := by decide +kernel
theorem dX10_laysCosts_16 : decode cX10_laysCosts 16 = .ok (.iload_n 1, 1) := by decide +kernel
theorem dX10_laysCosts_17 : decode cX10_laysCosts 17 = .ok (.istore_n 3, 1) := by decide +kernel
theorem dX10_laysCosts_18 : decode cX10_laysCosts 18 = .ok (.iload_n 3, 1) := by decide +kernel
theorem dX10_laysCosts_19 : decode cX10_laysCosts 19 = .ok (.iload_n 2, 1) := by decide +kernel
theorem dX10_laysCosts_20 : decode cX10_laysCosts 20 = .ok (.if_icmp .gt 46, 3) := by decide +kernel
theorem dX10_laysCosts_23 : decode cX10_laysCosts 23 = .ok (.aload_n 0, 1) := by decide +kernel
theorem dX10_laysCosts_24 : decode cX10_laysCosts 24 = .ok (.iload_n 1, 1) := by decide +kernel
theorem dX10_laysCosts_25 : decode cX10_laysCosts 25 = .ok (.iload_n 3, 1) := by decide +kernel
theorem dX10_laysCosts_26 : decode cX10_laysCosts 26 = .ok (.invokevirtual 231, 3) := by decide +kernel
theorem dX10_laysCosts_29 : decode cX10_laysCosts 29 = .ok (.aload_n 0, 1) := by decide +kernel
theorem dX10_laysCosts_30 : decode cX10_laysCosts 30 = .ok (.getfield 45, 3) := by decide +kernel
theorem dX10_laysCosts_33 : decode cX10_laysCosts 33 = .ok (.bipush 40, 2) := by decide +kernel
theorem dX10_laysCosts_35 : decode cX10_laysCosts 35 = .ok (.iload_n 1, 1) := by decide +kernel
theorem dX10_laysCosts_36 : decode cX10_laysCosts 36 = .ok (.imul, 1) := by decide +kernel
theorem dX10_laysCosts_37 : decode cX10_laysCosts 37 = .ok (.iload_n 3, 1) := by decide +kernel
theorem dX10_laysCosts_38 : decode cX10_laysCosts 38 = .ok (.iadd, 1) := by decide +kernel
theorem dX10_laysCosts_39 : decode cX10_laysCosts 39 = .ok (.aload_n 0, 1) := by decide +kernel
theorem dX10_laysCosts_40 : decode cX10_laysCosts 40 = .ok (.getfield 211, 3) := by decide +kernel
theorem dX10_laysCosts_43 : decode cX10_laysCosts 43 = .ok (.ifCond .eq 12, 3) := by decide +kernel
theorem dX10_laysCosts_46 : decode cX10_laysCosts 46 = .ok (.iload_n 3, 1) := by decide +kernel
theorem dX10_laysCosts_47 : decode cX10_laysCosts 47 = .ok (.iload_n 1, 1) := by decide +kernel
theorem dX10_laysCosts_48 : decode cX10_laysCosts 48 = .ok (.if_icmp .le 7, 3) := by decide +kernel
theorem dX10_laysCosts_51 : decode cX10_laysCosts 51 = .ok (.iconst (-1), 1) := by decide +kernel
theorem dX10_laysCosts_52 : decode cX10_laysCosts 52 = .ok (.goto 7, 3) := by decide +kernel
theorem dX10_laysCosts_55 : decode cX10_laysCosts 55 = .ok (.aload_n 0, 1) := by decide +kernel
theorem dX10_laysCosts_56 : decode cX10_laysCosts 56 = .ok (.getfield 208, 3) := by decide +kernel
theorem dX10_laysCosts_59 : decode cX10_laysCosts 59 = .ok (.iastore, 1) := by decide +kernel
theorem dX10_laysCosts_60 : decode cX10_laysCosts 60 = .ok (.iinc 3 1, 3) := by decide +kernel
theorem dX10_laysCosts_63 : decode cX10_laysCosts 63 = .ok (.goto (-45), 3) := by decide +kernel
theorem dX10_laysCosts_66 : decode cX10_laysCosts 66 = .ok (.iinc 1 1, 3) := by decide +kernel
theorem dX10_laysCosts_69 : decode cX10_laysCosts 69 = .ok (.goto (-67), 3) := by decide +kernel
theorem dX10_laysCosts_72 : decode cX10_laysCosts 72 = .ok (.return_, 1) := by decide +kernel
theorem ok_X10_laysCosts : okY RX10 yX10_laysCosts 0 := ⟨rfl, by decide, by decide, by decide +kernel⟩
def j_X10_laysCosts_59_17 (M_14 : OV) (v1_3 : Int32) (v3_12 : Int32) (t_16 : Int32) : Option ((Int32 × OV) ⊕ (OV)) := gd (ix (((40 : Int32) * v1_3) + v3_12) 1640) (bnd (sA M_14 19 (((40 : Int32) * v1_3) + v3_12).toNatClampNeg t_16) (fun M_18 => bnd (v3_12 + 1) (fun v3_19 => some (.inl (v3_19, M_18)))))
def j_X10_laysCosts_55_20 (M_14 : OV) (v1_3 : Int32) (v3_12 : Int32) : Option ((Int32 × OV) ⊕ (OV)) := j_X10_laysCosts_59_17 M_14 v1_3 v3_12 (iv M_14 18)
def s_X10_laysCosts_18_11 (v1_3 : Int32) (v2_9 : Int32) : (Int32 × OV) → Option ((Int32 × OV) ⊕ (OV)) := un2 (fun v3_12 M_13 => (if v2_9 < v3_12 then some (.inr M_13) else (f_X10_looks M_13 v1_3 v3_12).bind (un1 (fun M_14 => (if (iv M_14 14) = 0 then j_X10_laysCosts_55_20 M_14 v1_3 v3_12 else (if v3_12 ≤ v1_3 then j_X10_laysCosts_55_20 M_14 v1_3 v3_12 else j_X10_laysCosts_59_17 M_14 v1_3 v3_12 (-1 : Int32)))))))
def s_X10_laysCosts_2_2 : (Int32 × OV) → Option ((Int32 × OV) ⊕ (OV)) := un2 (fun v1_3 M_4 => (f_X10_many M_4).bind (un1 (fun r_5 => (if r_5 ≤ v1_3 then some (.inr M_4) else (f_X10_limitOf M_4 v1_3).bind (un1 (fun r_7 => bnd r_7 (fun v2_9 => bnd v1_3 (fun v3_10 => ((lp (s_X10_laysCosts_18_11 v1_3 v2_9) 5000 (v3_10, M_4)).bind (un1 (fun M_21 => bnd (v1_3 + 1) (fun v1_22 => some (.inl (v1_22, M_21))))))))))))))
def f_X10_laysCosts (M : OV) : Option (OV) := bnd (0 : Int32) (fun v1_1 => ((lp (s_X10_laysCosts_2_2) 5000 (v1_1, M)).bind (un1 (fun M_23 => some M_23))))
def r_X10_laysCosts : Room := { frames := 4, cells := 0, slots := 0, locals := 97 }
set_option maxHeartbeats 4000000 in
set_option maxRecDepth 100000 in
theorem c_X10_laysCosts (l : Launch) (D : va_G) (ev : EvT) (cy : Nat → ClassId) (oM : Nat) (aM : Nat → Nat) (M : OV) (o : OV) (hf : f_X10_laysCosts M = some o) : Fn l yX10_laysCosts cX10_laysCosts 4 none r_X10_laysCosts D ev cy [.ref oM] [gX10 cy oM aM M] (fun v G => v = none ∧ G = [gX10 cy oM aM o]) := by
  refine Fn_of (by decide) (Nat.le_of_ble_eq_true rfl) (fun X A Q h hQ _ => ?_)
  unfold f_X10_laysCosts at hf
  show ww X D A 4 Q 0 0 0 [(0, .ref oM)] [] [gX10 cy oM aM M]
  refine ww_iconst (v := 0) h dX10_laysCosts_0 (by decide) 1 rfl ?_
  refine ww_ist_n h dX10_laysCosts_1 rfl (by decide) (fun v1_1 => [(1, .int v1_1), (0, .ref oM)]) (fun _ => rfl) 2 rfl (fun v1_1 e => ?_)
  replace hf := bnd_at e hf
  clear e
  refine ww_lo [1, 0] (lo' := [(0, .ref oM), (1, .int v1_1)]) rfl ?_
  obtain ⟨M_23, h2, hf⟩ := ob1 hf
  refine lp_walk (un2 (fun v1_3 M_4 => ww X D A 4 Q 0 0 2 [(0, .ref oM), (1, .int v1_3)] [] [gX10 cy oM aM M_4])) (un1 (fun M_23 => ww X D A 4 Q 0 0 72 [] [] [gX10 cy oM aM M_23])) ?_ _ _ _ h2 ?_
  · clear h2 hf
    intro s2 o2 hf hI2 hE2
    obtain ⟨v1_3, M_4⟩ := s2
    unfold s_X10_laysCosts_2_2 at hf
    replace hf := un2_e hf
    show ww X D A 4 Q 0 0 2 [(0, .ref oM), (1, .int v1_3)] [] [gX10 cy oM aM M_4]
    refine ww_iload_n h dX10_laysCosts_2 rfl 1 rfl 3 rfl ?_
    refine ww_aload_n h dX10_laysCosts_3 rfl 0 rfl 4 rfl ?_
    obtain ⟨r_5, hu6, hf⟩ := ob1 hf
    refine ww_cVi h (c_X10_many l D ev cy oM aM M_4 _ hu6) ⟨w_1330, w_1327, w_1329, w_37, w_111, ok_X10_many⟩ ⟨by decide, by decide⟩ ⟨by decide, by decide⟩ ⟨rfl, rfl⟩ [0] rfl 0 rfl rfl rfl rfl (Nat.le_of_ble_eq_true rfl) dX10_laysCosts_4 7 rfl (Gs' := [gX10 cy oM aM M_4]) rfl ?_
    clear hu6
    refine ww_icmp_ge h dX10_laysCosts_7 72 (by decide) 10 rfl (fun c => ?_) (fun c => ?_)
    · replace hf := ite_t c hf
      refine ww_lo [] (lo' := []) rfl ?_
      exact hE2 M_4 (Option.some.inj hf).symm
    · replace hf := ite_f c hf
      refine ww_aload_n h dX10_laysCosts_10 rfl 0 rfl 11 rfl ?_
      refine ww_iload_n h dX10_laysCosts_11 rfl 1 rfl 12 rfl ?_
      obtain ⟨r_7, hu8, hf⟩ := ob1 hf
      refine ww_cVi h (c_X10_limitOf l D ev cy oM aM M_4 v1_3 _ hu8) ⟨w_1504, w_1501, w_1503, w_58, w_111, ok_X10_limitOf⟩ ⟨by decide, by decide⟩ ⟨by decide, by decide⟩ ⟨rfl, rfl⟩ [0] rfl 0 rfl rfl rfl rfl (Nat.le_of_ble_eq_true rfl) dX10_laysCosts_12 15 rfl (Gs' := [gX10 cy oM aM M_4]) rfl ?_
      clear hu8
      refine ww_ist_n h dX10_laysCosts_15 rfl (by decide) (fun v2_9 => [(2, .int v2_9), (0, .ref oM), (1, .int v1_3)]) (fun _ => rfl) 16 rfl (fun v2_9 e => ?_)
      replace hf := bnd_at e hf
      clear e
      refine ww_iload_n h dX10_laysCosts_16 rfl 2 rfl 17 rfl ?_
      refine ww_ist_n h dX10_laysCosts_17 rfl (by decide) (fun v3_10 => [(3, .int v3_10), (2, .int v2_9), (0, .ref oM), (1, .int v1_3)]) (fun _ => rfl) 18 rfl (fun v3_10 e => ?_)
      replace hf := bnd_at e hf
      clear e
      refine ww_lo [2, 3, 1, 0] (lo' := [(0, .ref oM), (1, .int v1_3), (2, .int v2_9), (3, .int v3_10)]) rfl ?_
      obtain ⟨M_21, h11, hf⟩ := ob1 hf
      refine lp_walk (un2 (fun v3_12 M_13 => ww X D A 4 Q 0 0 18 [(0, .ref oM), (1, .int v1_3), (2, .int v2_9), (3, .int v3_12)] [] [gX10 cy oM aM M_13])) (un1 (fun M_21 => ww X D A 4 Q 0 0 66 [(0, .ref oM), (1, .int v1_3)] [] [gX10 cy oM aM M_21])) ?_ _ _ _ h11 ?_
      · clear h11 hf
        intro s11 o11 hf hI11 hE11
        obtain ⟨v3_12, M_13⟩ := s11
        unfold s_X10_laysCosts_18_11 at hf
        replace hf := un2_e hf
        show ww X D A 4 Q 0 0 18 [(0, .ref oM), (1, .int v1_3), (2, .int v2_9), (3, .int v3_12)] [] [gX10 cy oM aM M_13]
        refine ww_iload_n h dX10_laysCosts_18 rfl 3 rfl 19 rfl ?_
        refine ww_iload_n h dX10_laysCosts_19 rfl 2 rfl 20 rfl ?_
        refine ww_icmp_gt h dX10_laysCosts_20 66 (by decide) 23 rfl (fun c => ?_) (fun c => ?_)
        · replace hf := ite_t c hf
          refine ww_lo [0, 1] (lo' := [(0, .ref oM), (1, .int v1_3)]) rfl ?_
          exact hE11 M_13 (Option.some.inj hf).symm
        · replace hf := ite_f c hf
          refine ww_aload_n h dX10_laysCosts_23 rfl 0 rfl 24 rfl ?_
          refine ww_iload_n h dX10_laysCosts_24 rfl 1 rfl 25 rfl ?_
          refine ww_iload_n h dX10_laysCosts_25 rfl 3 rfl 26 rfl ?_
          obtain ⟨M_14, hu15, hf⟩ := ob1 hf
          refine ww_cVv h (c_X10_looks l D ev cy oM aM M_13 v1_3 v3_12 _ hu15) ⟨w_1469, w_1466, w_1468, w_52, w_111, ok_X10_looks⟩ ⟨by decide, by decide⟩ ⟨by decide, by decide⟩ ⟨rfl, rfl⟩ [0] rfl 0 rfl rfl rfl rfl (Nat.le_of_ble_eq_true rfl) dX10_laysCosts_26 29 rfl (Gs' := [gX10 cy oM aM M_14]) rfl ?_
          clear hu15
          refine ww_aload_n h dX10_laysCosts_29 rfl 0 rfl 30 rfl ?_
          refine ww_get h inG10 rfl 0 rfl rfl 19 (by decide) w_1176 rfl dX10_laysCosts_30 33 rfl ?_
          refine ww_bipush (v := 40) h dX10_laysCosts_33 (by decide) 35 rfl ?_
          refine ww_iload_n h dX10_laysCosts_35 rfl 1 rfl 36 rfl ?_
          refine ww_imul h dX10_laysCosts_36 37 rfl ?_
          refine ww_iload_n h dX10_laysCosts_37 rfl 3 rfl 38 rfl ?_
          refine ww_iadd h dX10_laysCosts_38 39 rfl ?_
          refine ww_aload_n h dX10_laysCosts_39 rfl 0 rfl 40 rfl ?_
          refine ww_get h inG10 rfl 0 rfl rfl 14 (by decide) w_1171 rfl dX10_laysCosts_40 43 rfl ?_
          have hJ59_17 : ∀ (t_16 : Int32), j_X10_laysCosts_59_17 M_14 v1_3 v3_12 t_16 = some o11 → ww X D A 4 Q 0 0 59 [(0, .ref oM), (1, .int v1_3), (2, .int v2_9), (3, .int v3_12)] [.int t_16, .int (((40 : Int32) * v1_3) + v3_12), .ref (aM 19)] [gX10 cy oM aM M_14] := by
            intro t_16 hf
            unfold j_X10_laysCosts_59_17 at hf
            have hi := (gd_some hf).1
            replace hf := (gd_some hf).2
            refine ww_iast h 0 rfl 11 rfl (ix_in hi) dX10_laysCosts_59 60 rfl ?_
            clear hi
            refine ww_nm (fun z => [gX10 cy oM aM z]) (sA M_14 19 (((40 : Int32) * v1_3) + v3_12).toNatClampNeg t_16) (fun M_18 e => ?_)
            replace hf := bnd_at e hf
            clear e
            refine ww_inc (c := 1) h dX10_laysCosts_60 3 rfl (by decide) (by decide) (fun v3_19 => [(3, .int v3_19), (0, .ref oM), (1, .int v1_3), (2, .int v2_9)]) (fun _ => rfl) 63 rfl (fun v3_19 e => ?_)
            replace hf := bnd_at e hf
            clear e
            refine ww_goto h dX10_laysCosts_63 18 (by decide) ?_
            refine ww_lo [1, 2, 3, 0] (lo' := [(0, .ref oM), (1, .int v1_3), (2, .int v2_9), (3, .int v3_19)]) rfl ?_
            exact hI11 (v3_19, M_18) (Option.some.inj hf).symm
          have hJ55_20 : ∀ (_ : Unit), j_X10_laysCosts_55_20 M_14 v1_3 v3_12 = some o11 → ww X D A 4 Q 0 0 55 [(0, .ref oM), (1, .int v1_3), (2, .int v2_9), (3, .int v3_12)] [.int (((40 : Int32) * v1_3) + v3_12), .ref (aM 19)] [gX10 cy oM aM M_14] := by
            intro _ hf
            unfold j_X10_laysCosts_55_20 at hf
            refine ww_aload_n h dX10_laysCosts_55 rfl 0 rfl 56 rfl ?_
            refine ww_get h inG10 rfl 0 rfl rfl 18 (by decide) w_1175 rfl dX10_laysCosts_56 59 rfl ?_
            exact hJ59_17 (iv M_14 18) hf
          refine ww_if_eq h dX10_laysCosts_43 55 (by decide) 46 rfl (fun c => ?_) (fun c => ?_)
          · replace hf := ite_t c hf
            exact hJ55_20 () hf
          · replace hf := ite_f c hf
            refine ww_iload_n h dX10_laysCosts_46 rfl 3 rfl 47 rfl ?_
            refine ww_iload_n h dX10_laysCosts_47 rfl 1 rfl 48 rfl ?_
            refine ww_icmp_le h dX10_laysCosts_48 55 (by decide) 51 rfl (fun c => ?_) (fun c => ?_)
            · replace hf := ite_t c hf
              exact hJ55_20 () hf
            · replace hf := ite_f c hf
              refine ww_iconst (v := (-1)) h dX10_laysCosts_51 (by decide) 52 rfl ?_
              refine ww_goto h dX10_laysCosts_52 59 (by decide) ?_
              exact hJ59_17 (-1 : Int32) hf
      · clear h11
        show ww X D A 4 Q 0 0 66 [(0, .ref oM), (1, .int v1_3)] [] [gX10 cy oM aM M_21]
        refine ww_inc (c := 1) h dX10_laysCosts_66 1 rfl (by decide) (by decide) (fun v1_22 => [(1, .int v1_22), (0, .ref oM)]) (fun _ => rfl) 69 rfl (fun v1_22 e => ?_)
        replace hf := bnd_at e hf
        clear e
        refine ww_goto h dX10_laysCosts_69 2 (by decide) ?_
        refine ww_lo [1, 0] (lo' := [(0, .ref oM), (1, .int v1_22)]) rfl ?_
        exact hI2 (v1_22, M_21) (Option.some.inj hf).symm
  · clear h2
    show ww X D A 4 Q 0 0 72 [] [] [gX10 cy oM aM M_23]
    obtain rfl := Option.some.inj hf
    exact ww_vret h dX10_laysCosts_72 hQ ⟨rfl, rfl⟩
theorem dX10_bestAsIs_0 : decode cX10_bestAsIs 0 = .ok (.aload_n 0, 1) := by decide +kernel
theorem dX10_bestAsIs_1 : decode cX10_bestAsIs 1 = .ok (.invokevirtual 234, 3) := by decide +kernel
theorem dX10_bestAsIs_4 : decode cX10_bestAsIs 4 = .ok (.aload_n 0, 1) := by decide +kernel
theorem dX10_bestAsIs_5 : decode cX10_bestAsIs 5 = .ok (.ldc 237, 2) := by decide +kernel
theorem dX10_bestAsIs_7 : decode cX10_bestAsIs 7 = .ok (.invokevirtual 238, 3) := by decide +kernel
theorem dX10_bestAsIs_10 : decode cX10_bestAsIs 10 = .ok (.aload_n 0, 1) := by decide +kernel
theorem dX10_bestAsIs_11 : decode cX10_bestAsIs 11 = .ok (.getfield 48, 3) := by decide +kernel
theorem dX10_bestAsIs_14 : decode cX10_bestAsIs 14 = .ok (.iconst 0, 1) := by decide +kernel
theorem dX10_bestAsIs_15 : decode cX10_bestAsIs 15 = .ok (.iaload, 1) := by decide +kernel
theorem dX10_bestAsIs_16 : decode cX10_bestAsIs 16 = .ok (.ireturn, 1) := by decide +kernel
theorem ok_X10_bestAsIs : okY RX10 yX10_bestAsIs 0 := ⟨rfl, by decide, by decide, by decide +kernel⟩
def f_X10_bestAsIs (M : OV) : Option (Int32 × OV) := (f_X10_laysCosts M).bind (un1 (fun M_1 => (f_X10_laysBest M_1 (1000000000 : Int32)).bind (un1 (fun M_3 => gd (ix (0 : Int32) 41) (some ((ar M_3 20 (0 : Int32).toNatClampNeg), M_3))))))
def r_X10_bestAsIs : Room := { frames := 5, cells := 0, slots := 0, locals := 120 }
set_option maxHeartbeats 4000000 in
set_option maxRecDepth 100000 in
theorem c_X10_bestAsIs (l : Launch) (D : va_G) (ev : EvT) (cy : Nat → ClassId) (oM : Nat) (aM : Nat → Nat) (M : OV) (o : Int32 × OV) (hf : f_X10_bestAsIs M = some o) : Fn l yX10_bestAsIs cX10_bestAsIs 1 (some .int) r_X10_bestAsIs D ev cy [.ref oM] [gX10 cy oM aM M] (fun v G => v = some (.int o.1) ∧ G = [gX10 cy oM aM o.2]) := by
  refine Fn_of (by decide) (Nat.le_of_ble_eq_true rfl) (fun X A Q h hQ _ => ?_)
  unfold f_X10_bestAsIs at hf
  show ww X D A 1 Q 0 0 0 [(0, .ref oM)] [] [gX10 cy oM aM M]
  refine ww_aload_n h dX10_bestAsIs_0 rfl 0 rfl 1 rfl ?_
  obtain ⟨M_1, hu2, hf⟩ := ob1 hf
  refine ww_cVv h (c_X10_laysCosts l D ev cy oM aM M _ hu2) ⟨w_1500, w_1497, w_1499, w_57, w_111, ok_X10_laysCosts⟩ ⟨by decide, by decide⟩ ⟨by decide, by decide⟩ ⟨rfl, rfl⟩ [0] rfl 0 rfl rfl rfl rfl (Nat.le_of_ble_eq_true rfl) dX10_bestAsIs_1 4 rfl (Gs' := [gX10 cy oM aM M_1]) rfl ?_
  clear hu2
  refine ww_aload_n h dX10_bestAsIs_4 rfl 0 rfl 5 rfl ?_
  refine ww_ldc h w_1505 dX10_bestAsIs_5 7 rfl ?_
  obtain ⟨M_3, hu4, hf⟩ := ob1 hf
  refine ww_cVv h (c_X10_laysBest l D ev cy oM aM M_1 (1000000000 : Int32) _ hu4) ⟨w_1513, w_1510, w_1512, w_60, w_111, ok_X10_laysBest⟩ ⟨by decide, by decide⟩ ⟨by decide, by decide⟩ ⟨rfl, rfl⟩ [0] rfl 0 rfl rfl rfl rfl (Nat.le_of_ble_eq_true rfl) dX10_bestAsIs_7 10 rfl (Gs' := [gX10 cy oM aM M_3]) rfl ?_
  clear hu4
  refine ww_aload_n h dX10_bestAsIs_10 rfl 0 rfl 11 rfl ?_
  refine ww_get h inG10 rfl 0 rfl rfl 20 (by decide) w_1177 rfl dX10_bestAsIs_11 14 rfl ?_
  refine ww_iconst (v := 0) h dX10_bestAsIs_14 (by decide) 15 rfl ?_
  have hi := (gd_some hf).1
  replace hf := (gd_some hf).2
  refine ww_iald h 0 rfl 12 rfl (ix_in hi) dX10_bestAsIs_15 16 rfl ?_
  clear hi
  obtain rfl := Option.some.inj hf
  exact ww_iret h dX10_bestAsIs_16 hQ ⟨rfl, rfl⟩
theorem dX10_lastEnd_0 : decode cX10_lastEnd 0 = .ok (.iconst (-1), 1) := by decide +kernel
theorem dX10_lastEnd_1 : decode cX10_lastEnd 1 = .ok (.istore 4, 2) := by decide +kernel
theorem dX10_lastEnd_3 : decode cX10_lastEnd 3 = .ok (.aload_n 0, 1) := by decide +kernel
theorem dX10_lastEnd_4 : decode cX10_lastEnd 4 = .ok (.iload_n 1, 1) := by decide +kernel
theorem dX10_lastEnd_5 : decode cX10_lastEnd 5 = .ok (.invokevirtual 228, 3) := by decide +kernel
theorem dX10_lastEnd_8 : decode cX10_lastEnd 8 = .ok (.istore 5, 2) := by decide +kernel
theorem dX10_lastEnd_10 : decode cX10_lastEnd 10 = .ok (.iload_n 1, 1) := by decide +kernel
theorem dX10_lastEnd_11 : decode cX10_lastEnd 11 = .ok (.istore 6, 2) := by decide +kernel
theorem dX10_lastEnd_13 : decode cX10_lastEnd 13 = .ok (.iload 6, 2) := by decide +kernel
theorem dX10_lastEnd_15 : decode cX10_lastEnd 15 = .ok (.iload 5, 2) := by decide +kernel
theorem dX10_lastEnd_17 : decode cX10_lastEnd 17 = .ok (.if_icmp .gt 57, 3) := by decide +kernel
theorem dX10_lastEnd_20 : decode cX10_lastEnd 20 = .ok (.iload_n 2, 1) := by decide +kernel
theorem dX10_lastEnd_21 : decode cX10_lastEnd 21 = .ok (.ifCond .eq 15, 3) := by decide +kernel
theorem dX10_lastEnd_24 : decode cX10_lastEnd 24 = .ok (.aload_n 0, 1) := by decide +kernel
theorem dX10_lastEnd_25 : decode cX10_lastEnd 25 = .ok (.iload 6, 2) := by decide +kernel
theorem dX10_lastEnd_27 : decode cX10_lastEnd 27 = .ok (.invokevirtual 221, 3) := by decide +kernel
theorem dX10_lastEnd_30 : decode cX10_lastEnd 30 = .ok (.ifCond .ne 6, 3) := by decide +kernel
theorem dX10_lastEnd_33 : decode cX10_lastEnd 33 = .ok (.goto 35, 3) := by decide +kernel
theorem dX10_lastEnd_36 : decode cX10_lastEnd 36 = .ok (.aload_n 0, 1) := by decide +kernel
theorem dX10_lastEnd_37 : decode cX10_lastEnd 37 = .ok (.iload_n 1, 1) := by decide +kernel
theorem dX10_lastEnd_38 : decode cX10_lastEnd 38 = .ok (.iload 6, 2) := by decide +kernel
theorem dX10_lastEnd_40 : decode cX10_lastEnd 40 = .ok (.invokevirtual 231, 3) := by decide +kernel
theorem dX10_lastEnd_43 : decode cX10_lastEnd 43 = .ok (.aload_n 0, 1) := by decide +kernel
theorem dX10_lastEnd_44 : decode cX10_lastEnd 44 = .ok (.getfield 211, 3) := by decide +kernel
theorem dX10_lastEnd_47 : decode cX10_lastEnd 47 = .ok (.ifCond .ne 21, 3) := by decide +kernel
theorem dX10_lastEnd_50 : decode cX10_lastEnd 50 = .ok (.iload_n 3, 1) := by decide +kernel
theorem dX10_lastEnd_51 : decode cX10_lastEnd 51 = .ok (.ifCond .eq 13, 3) := by decide +kernel
theorem dX10_lastEnd_54 : decode cX10_lastEnd 54 = .ok (.aload_n 0, 1) := by decide +kernel
theorem dX10_lastEnd_55 : decode cX10_lastEnd 55 = .ok (.getfield 199, 3) := by decide +kernel
theorem dX10_lastEnd_58 : decode cX10_lastEnd 58 = .ok (.ifCond .le 6, 3) := by decide +kernel
theorem dX10_lastEnd_61 : decode cX10_lastEnd 61 = .ok (.goto 7, 3) := by decide +kernel
theorem dX10_lastEnd_64 : decode cX10_lastEnd 64 = .ok (.iload 6, 2) := by decide +kernel
theorem dX10_lastEnd_66 : decode cX10_lastEnd 66 = .ok (.istore 4, 2) := by decide +kernel
theorem dX10_lastEnd_68 : decode cX10_lastEnd 68 = .ok (.iinc 6 1, 3) := by decide +kernel
theorem dX10_lastEnd_71 : decode cX10_lastEnd 71 = .ok (.goto (-58), 3) := by decide +kernel
theorem dX10_lastEnd_74 : decode cX10_lastEnd 74 = .ok (.iload 4, 2) := by decide +kernel
theorem dX10_lastEnd_76 : decode cX10_lastEnd 76 = .ok (.ireturn, 1) := by decide +kernel
theorem ok_X10_lastEnd : okY RX10 yX10_lastEnd 3 := ⟨rfl, by decide, by decide, by decide +kernel⟩
def j_X10_lastEnd_68_12 (v6_8 : Int32) (v4_10 : Int32) (M_11 : OV) : Option ((Int32 × Int32 × OV) ⊕ (Int32 × OV)) := bnd (v6_8 + 1) (fun v6_13 => some (.inl (v4_10, v6_13, M_11)))
def j_X10_lastEnd_64_17 (M_15 : OV) (v6_8 : Int32) : Option ((Int32 × Int32 × OV) ⊕ (Int32 × OV)) := bnd v6_8 (fun v4_18 => j_X10_lastEnd_68_12 v6_8 v4_18 M_15)
def j_X10_lastEnd_36_14 (M_9 : OV) (p0 : Int32) (p2 : Int32) (v4_7 : Int32) (v6_8 : Int32) : Option ((Int32 × Int32 × OV) ⊕ (Int32 × OV)) := (f_X10_looks M_9 p0 v6_8).bind (un1 (fun M_15 => (if (iv M_15 14) = 0 then (if p2 = 0 then j_X10_lastEnd_64_17 M_15 v6_8 else (if (iv M_15 15) ≤ 0 then j_X10_lastEnd_64_17 M_15 v6_8 else j_X10_lastEnd_68_12 v6_8 v4_7 M_15)) else j_X10_lastEnd_68_12 v6_8 v4_7 M_15)))
def s_X10_lastEnd_13_6 (p0 : Int32) (p1 : Int32) (p2 : Int32) (v5_4 : Int32) : (Int32 × Int32 × OV) → Option ((Int32 × Int32 × OV) ⊕ (Int32 × OV)) := un3 (fun v4_7 v6_8 M_9 => (if v5_4 < v6_8 then some (.inr (v4_7, M_9)) else (if p1 = 0 then j_X10_lastEnd_36_14 M_9 p0 p2 v4_7 v6_8 else (f_X10_isLegal M_9 v6_8).bind (un1 (fun r_19 => (if r_19 = 0 then j_X10_lastEnd_68_12 v6_8 v4_7 M_9 else j_X10_lastEnd_36_14 M_9 p0 p2 v4_7 v6_8))))))
def f_X10_lastEnd (M : OV) (p0 : Int32) (p1 : Int32) (p2 : Int32) : Option (Int32 × OV) := bnd (-1 : Int32) (fun v4_1 => (f_X10_limitOf M p0).bind (un1 (fun r_2 => bnd r_2 (fun v5_4 => bnd p0 (fun v6_5 => ((lp (s_X10_lastEnd_13_6 p0 p1 p2 v5_4) 5000 (v4_1, v6_5, M)).bind (un2 (fun v4_21 M_22 => some (v4_21, M_22)))))))))
def r_X10_lastEnd : Room := { frames := 4, cells := 0, slots := 0, locals := 97 }
set_option maxHeartbeats 4000000 in
set_option maxRecDepth 100000 in
theorem c_X10_lastEnd (l : Launch) (D : va_G) (ev : EvT) (cy : Nat → ClassId) (oM : Nat) (aM : Nat → Nat) (M : OV) (p0 : Int32) (p1 : Int32) (p2 : Int32) (o : Int32 × OV) (hf : f_X10_lastEnd M p0 p1 p2 = some o) : Fn l yX10_lastEnd cX10_lastEnd 7 (some .int) r_X10_lastEnd D ev cy [.ref oM, .int p0, .int p1, .int p2] [gX10 cy oM aM M] (fun v G => v = some (.int o.1) ∧ G = [gX10 cy oM aM o.2]) := by
  refine Fn_of (by decide) (Nat.le_of_ble_eq_true rfl) (fun X A Q h hQ _ => ?_)
  unfold f_X10_lastEnd at hf
  show ww X D A 7 Q 0 0 0 [(0, .ref oM), (1, .int p0), (2, .int p1), (3, .int p2)] [] [gX10 cy oM aM M]
  refine ww_iconst (v := (-1)) h dX10_lastEnd_0 (by decide) 1 rfl ?_
  refine ww_ist h dX10_lastEnd_1 (by decide) (fun v4_1 => [(4, .int v4_1), (0, .ref oM), (1, .int p0), (2, .int p1), (3, .int p2)]) (fun _ => rfl) 3 rfl (fun v4_1 e => ?_)
  replace hf := bnd_at e hf
  clear e
  refine ww_aload_n h dX10_lastEnd_3 rfl 1 rfl 4 rfl ?_
  refine ww_iload_n h dX10_lastEnd_4 rfl 2 rfl 5 rfl ?_
  obtain ⟨r_2, hu3, hf⟩ := ob1 hf
  refine ww_cVi h (c_X10_limitOf l D ev cy oM aM M p0 _ hu3) ⟨w_1504, w_1501, w_1503, w_58, w_111, ok_X10_limitOf⟩ ⟨by decide, by decide⟩ ⟨by decide, by decide⟩ ⟨rfl, rfl⟩ [0] rfl 0 rfl rfl rfl rfl (Nat.le_of_ble_eq_true rfl) dX10_lastEnd_5 8 rfl (Gs' := [gX10 cy oM aM M]) rfl ?_
  clear hu3
  refine ww_ist h dX10_lastEnd_8 (by decide) (fun v5_4 => [(5, .int v5_4), (4, .int v4_1), (0, .ref oM), (1, .int p0), (2, .int p1), (3, .int p2)]) (fun _ => rfl) 10 rfl (fun v5_4 e => ?_)
  replace hf := bnd_at e hf
  clear e
  refine ww_iload_n h dX10_lastEnd_10 rfl 3 rfl 11 rfl ?_
  refine ww_ist h dX10_lastEnd_11 (by decide) (fun v6_5 => [(6, .int v6_5), (5, .int v5_4), (4, .int v4_1), (0, .ref oM), (1, .int p0), (2, .int p1), (3, .int p2)]) (fun _ => rfl) 13 rfl (fun v6_5 e => ?_)
  replace hf := bnd_at e hf
  clear e
  refine ww_lo [3, 4, 5, 6, 2, 1, 0] (lo' := [(0, .ref oM), (1, .int p0), (2, .int p1), (3, .int p2), (4, .int v4_1), (5, .int v5_4), (6, .int v6_5)]) rfl ?_
  obtain ⟨v4_21, M_22, h6, hf⟩ := ob2 hf
  refine lp_walk (un3 (fun v4_7 v6_8 M_9 => ww X D A 7 Q 0 0 13 [(0, .ref oM), (1, .int p0), (2, .int p1), (3, .int p2), (4, .int v4_7), (5, .int v5_4), (6, .int v6_8)] [] [gX10 cy oM aM M_9])) (un2 (fun v4_21 M_22 => ww X D A 7 Q 0 0 74 [(4, .int v4_21)] [] [gX10 cy oM aM M_22])) ?_ _ _ _ h6 ?_
  · clear h6 hf
    intro s6 o6 hf hI6 hE6
    obtain ⟨v4_7, v6_8, M_9⟩ := s6
    unfold s_X10_lastEnd_13_6 at hf
    replace hf := un3_e hf
    show ww X D A 7 Q 0 0 13 [(0, .ref oM), (1, .int p0), (2, .int p1), (3, .int p2), (4, .int v4_7), (5, .int v5_4), (6, .int v6_8)] [] [gX10 cy oM aM M_9]
    refine ww_iload h dX10_lastEnd_13 6 rfl 15 rfl ?_
    refine ww_iload h dX10_lastEnd_15 5 rfl 17 rfl ?_
    refine ww_icmp_gt h dX10_lastEnd_17 74 (by decide) 20 rfl (fun c => ?_) (fun c => ?_)
    · replace hf := ite_t c hf
      refine ww_lo [4] (lo' := [(4, .int v4_7)]) rfl ?_
      exact hE6 (v4_7, M_9) (Option.some.inj hf).symm
    · replace hf := ite_f c hf
      refine ww_iload_n h dX10_lastEnd_20 rfl 2 rfl 21 rfl ?_
      have hJ68_12 : ∀ (v4_10 : Int32) (M_11 : OV), j_X10_lastEnd_68_12 v6_8 v4_10 M_11 = some o6 → ww X D A 7 Q 0 0 68 [(0, .ref oM), (1, .int p0), (2, .int p1), (3, .int p2), (4, .int v4_10), (5, .int v5_4), (6, .int v6_8)] [] [gX10 cy oM aM M_11] := by
        intro v4_10 M_11 hf
        unfold j_X10_lastEnd_68_12 at hf
        refine ww_inc (c := 1) h dX10_lastEnd_68 6 rfl (by decide) (by decide) (fun v6_13 => [(6, .int v6_13), (0, .ref oM), (1, .int p0), (2, .int p1), (3, .int p2), (4, .int v4_10), (5, .int v5_4)]) (fun _ => rfl) 71 rfl (fun v6_13 e => ?_)
        replace hf := bnd_at e hf
        clear e
        refine ww_goto h dX10_lastEnd_71 13 (by decide) ?_
        refine ww_lo [1, 2, 3, 4, 5, 6, 0] (lo' := [(0, .ref oM), (1, .int p0), (2, .int p1), (3, .int p2), (4, .int v4_10), (5, .int v5_4), (6, .int v6_13)]) rfl ?_
        exact hI6 (v4_10, v6_13, M_11) (Option.some.inj hf).symm
      have hJ36_14 : ∀ (_ : Unit), j_X10_lastEnd_36_14 M_9 p0 p2 v4_7 v6_8 = some o6 → ww X D A 7 Q 0 0 36 [(0, .ref oM), (1, .int p0), (2, .int p1), (3, .int p2), (4, .int v4_7), (5, .int v5_4), (6, .int v6_8)] [] [gX10 cy oM aM M_9] := by
        intro _ hf
        unfold j_X10_lastEnd_36_14 at hf
        refine ww_aload_n h dX10_lastEnd_36 rfl 0 rfl 37 rfl ?_
        refine ww_iload_n h dX10_lastEnd_37 rfl 1 rfl 38 rfl ?_
        refine ww_iload h dX10_lastEnd_38 6 rfl 40 rfl ?_
        obtain ⟨M_15, hu16, hf⟩ := ob1 hf
        refine ww_cVv h (c_X10_looks l D ev cy oM aM M_9 p0 v6_8 _ hu16) ⟨w_1469, w_1466, w_1468, w_52, w_111, ok_X10_looks⟩ ⟨by decide, by decide⟩ ⟨by decide, by decide⟩ ⟨rfl, rfl⟩ [0] rfl 0 rfl rfl rfl rfl (Nat.le_of_ble_eq_true rfl) dX10_lastEnd_40 43 rfl (Gs' := [gX10 cy oM aM M_15]) rfl ?_
        clear hu16
        refine ww_aload_n h dX10_lastEnd_43 rfl 0 rfl 44 rfl ?_
        refine ww_get h inG10 rfl 0 rfl rfl 14 (by decide) w_1171 rfl dX10_lastEnd_44 47 rfl ?_
        refine ww_if_ne h dX10_lastEnd_47 68 (by decide) 50 rfl (fun c => ?_) (fun c => ?_)
        · replace hf := ite_f c hf
          exact hJ68_12 v4_7 M_15 hf
        · replace hf := ite_t c hf
          refine ww_iload_n h dX10_lastEnd_50 rfl 3 rfl 51 rfl ?_
          have hJ64_17 : ∀ (_ : Unit), j_X10_lastEnd_64_17 M_15 v6_8 = some o6 → ww X D A 7 Q 0 0 64 [(0, .ref oM), (1, .int p0), (2, .int p1), (3, .int p2), (5, .int v5_4), (6, .int v6_8)] [] [gX10 cy oM aM M_15] := by
            intro _ hf
            unfold j_X10_lastEnd_64_17 at hf
            refine ww_iload h dX10_lastEnd_64 5 rfl 66 rfl ?_
            refine ww_ist h dX10_lastEnd_66 (by decide) (fun v4_18 => [(4, .int v4_18), (0, .ref oM), (1, .int p0), (2, .int p1), (3, .int p2), (5, .int v5_4), (6, .int v6_8)]) (fun _ => rfl) 68 rfl (fun v4_18 e => ?_)
            replace hf := bnd_at e hf
            clear e
            refine ww_lo [1, 2, 3, 4, 0, 5, 6] (lo' := [(0, .ref oM), (1, .int p0), (2, .int p1), (3, .int p2), (4, .int v4_18), (5, .int v5_4), (6, .int v6_8)]) rfl ?_
            exact hJ68_12 v4_18 M_15 hf
          refine ww_if_eq h dX10_lastEnd_51 64 (by decide) 54 rfl (fun c => ?_) (fun c => ?_)
          · replace hf := ite_t c hf
            refine ww_lo [0, 1, 2, 3, 5, 6] (lo' := [(0, .ref oM), (1, .int p0), (2, .int p1), (3, .int p2), (5, .int v5_4), (6, .int v6_8)]) rfl ?_
            exact hJ64_17 () hf
          · replace hf := ite_f c hf
            refine ww_aload_n h dX10_lastEnd_54 rfl 0 rfl 55 rfl ?_
            refine ww_get h inG10 rfl 0 rfl rfl 15 (by decide) w_1172 rfl dX10_lastEnd_55 58 rfl ?_
            refine ww_if_le h dX10_lastEnd_58 64 (by decide) 61 rfl (fun c => ?_) (fun c => ?_)
            · replace hf := ite_t c hf
              refine ww_lo [0, 1, 2, 3, 5, 6] (lo' := [(0, .ref oM), (1, .int p0), (2, .int p1), (3, .int p2), (5, .int v5_4), (6, .int v6_8)]) rfl ?_
              exact hJ64_17 () hf
            · replace hf := ite_f c hf
              refine ww_goto h dX10_lastEnd_61 68 (by decide) ?_
              exact hJ68_12 v4_7 M_15 hf
      refine ww_if_eq h dX10_lastEnd_21 36 (by decide) 24 rfl (fun c => ?_) (fun c => ?_)
      · replace hf := ite_t c hf
        exact hJ36_14 () hf
      · replace hf := ite_f c hf
        refine ww_aload_n h dX10_lastEnd_24 rfl 0 rfl 25 rfl ?_
        refine ww_iload h dX10_lastEnd_25 6 rfl 27 rfl ?_
        obtain ⟨r_19, hu20, hf⟩ := ob1 hf
        refine ww_cVi h (c_X10_isLegal l D ev cy oM aM M_9 v6_8 _ hu20) ⟨w_1461, w_1458, w_1460, w_51, w_111, ok_X10_isLegal⟩ ⟨by decide, by decide⟩ ⟨by decide, by decide⟩ ⟨rfl, rfl⟩ [0] rfl 0 rfl rfl rfl rfl (Nat.le_of_ble_eq_true rfl) dX10_lastEnd_27 30 rfl (Gs' := [gX10 cy oM aM M_9]) rfl ?_
        clear hu20
        refine ww_if_ne h dX10_lastEnd_30 36 (by decide) 33 rfl (fun c => ?_) (fun c => ?_)
        · replace hf := ite_f c hf
          exact hJ36_14 () hf
        · replace hf := ite_t c hf
          refine ww_goto h dX10_lastEnd_33 68 (by decide) ?_
          exact hJ68_12 v4_7 M_9 hf
  · clear h6
    show ww X D A 7 Q 0 0 74 [(4, .int v4_21)] [] [gX10 cy oM aM M_22]
    refine ww_iload h dX10_lastEnd_74 0 rfl 76 rfl ?_
    obtain rfl := Option.some.inj hf
    exact ww_iret h dX10_lastEnd_76 hQ ⟨rfl, rfl⟩
theorem dX10_oneEnd_0 : decode cX10_oneEnd 0 = .ok (.iload_n 1, 1) := by decide +kernel
theorem dX10_oneEnd_1 : decode cX10_oneEnd 1 = .ok (.iconst 2, 1) := by decide +kernel
theorem dX10_oneEnd_2 : decode cX10_oneEnd 2 = .ok (.if_icmp .ne 13, 3) := by decide +kernel
theorem dX10_oneEnd_5 : decode cX10_oneEnd 5 = .ok (.aload_n 0, 1) := by decide +kernel
theorem dX10_oneEnd_6 : decode cX10_oneEnd 6 = .ok (.iload_n 2, 1) := by decide +kernel
theorem dX10_oneEnd_7 : decode cX10_oneEnd 7 = .ok (.iconst 1, 1) := by decide +kernel
theorem dX10_oneEnd_8 : decode cX10_oneEnd 8 = .ok (.iconst 1, 1) := by decide +kernel
theorem dX10_oneEnd_9 : decode cX10_oneEnd 9 = .ok (.invokevirtual 242, 3) := by decide +kernel
theorem dX10_oneEnd_12 : decode cX10_oneEnd 12 = .ok (.goto 4, 3) := by decide +kernel
theorem dX10_oneEnd_15 : decode cX10_oneEnd 15 = .ok (.iconst (-1), 1) := by decide +kernel
theorem dX10_oneEnd_16 : decode cX10_oneEnd 16 = .ok (.istore_n 3, 1) := by decide +kernel
theorem dX10_oneEnd_17 : decode cX10_oneEnd 17 = .ok (.iload_n 3, 1) := by decide +kernel
theorem dX10_oneEnd_18 : decode cX10_oneEnd 18 = .ok (.iconst (-1), 1) := by decide +kernel
theorem dX10_oneEnd_19 : decode cX10_oneEnd 19 = .ok (.if_icmp .ne 11, 3) := by decide +kernel
theorem dX10_oneEnd_22 : decode cX10_oneEnd 22 = .ok (.aload_n 0, 1) := by decide +kernel
theorem dX10_oneEnd_23 : decode cX10_oneEnd 23 = .ok (.iload_n 2, 1) := by decide +kernel
theorem dX10_oneEnd_24 : decode cX10_oneEnd 24 = .ok (.iconst 1, 1) := by decide +kernel
theorem dX10_oneEnd_25 : decode cX10_oneEnd 25 = .ok (.iconst 0, 1) := by decide +kernel
theorem dX10_oneEnd_26 : decode cX10_oneEnd 26 = .ok (.invokevirtual 242, 3) := by decide +kernel
theorem dX10_oneEnd_29 : decode cX10_oneEnd 29 = .ok (.istore_n 3, 1) := by decide +kernel
theorem dX10_oneEnd_30 : decode cX10_oneEnd 30 = .ok (.iload_n 3, 1) := by decide +kernel
theorem dX10_oneEnd_31 : decode cX10_oneEnd 31 = .ok (.iconst (-1), 1) := by decide +kernel
theorem dX10_oneEnd_32 : decode cX10_oneEnd 32 = .ok (.if_icmp .ne 11, 3) := by decide +kernel
theorem dX10_oneEnd_35 : decode cX10_oneEnd 35 = .ok (.aload_n 0, 1) := by decide +kernel
theorem dX10_oneEnd_36 : decode cX10_oneEnd 36 = .ok (.iload_n 2, 1) := by decide +kernel
theorem dX10_oneEnd_37 : decode cX10_oneEnd 37 = .ok (.iconst 0, 1) := by decide +kernel
theorem dX10_oneEnd_38 : decode cX10_oneEnd 38 = .ok (.iconst 0, 1) := by decide +kernel
theorem dX10_oneEnd_39 : decode cX10_oneEnd 39 = .ok (.invokevirtual 242, 3) := by decide +kernel
theorem dX10_oneEnd_42 : decode cX10_oneEnd 42 = .ok (.istore_n 3, 1) := by decide +kernel
theorem dX10_oneEnd_43 : decode cX10_oneEnd 43 = .ok (.iload_n 3, 1) := by decide +kernel
theorem dX10_oneEnd_44 : decode cX10_oneEnd 44 = .ok (.iconst (-1), 1) := by decide +kernel
theorem dX10_oneEnd_45 : decode cX10_oneEnd 45 = .ok (.if_icmp .ne 7, 3) := by decide +kernel
theorem dX10_oneEnd_48 : decode cX10_oneEnd 48 = .ok (.iload_n 2, 1) := by decide +kernel
theorem dX10_oneEnd_49 : decode cX10_oneEnd 49 = .ok (.goto 4, 3) := by decide +kernel
theorem dX10_oneEnd_52 : decode cX10_oneEnd 52 = .ok (.iload_n 3, 1) := by decide +kernel
theorem dX10_oneEnd_53 : decode cX10_oneEnd 53 = .ok (.ireturn, 1) := by decide +kernel
theorem ok_X10_oneEnd : okY RX10 yX10_oneEnd 2 := ⟨rfl, by decide, by decide, by decide +kernel⟩
def j_X10_oneEnd_43_10 (p1 : Int32) (v3_8 : Int32) (M_9 : OV) : Option (Int32 × OV) := (if v3_8 = (-1 : Int32) then some (p1, M_9) else some (v3_8, M_9))
def j_X10_oneEnd_30_7 (p1 : Int32) (v3_5 : Int32) (M_6 : OV) : Option (Int32 × OV) := (if v3_5 = (-1 : Int32) then (f_X10_lastEnd M_6 p1 (0 : Int32) (0 : Int32)).bind (un2 (fun r_11 M_12 => bnd r_11 (fun v3_14 => j_X10_oneEnd_43_10 p1 v3_14 M_12))) else j_X10_oneEnd_43_10 p1 v3_5 M_6)
def j_X10_oneEnd_16_3 (p1 : Int32) (t_1 : Int32) (M_2 : OV) : Option (Int32 × OV) := bnd t_1 (fun v3_4 => (if v3_4 = (-1 : Int32) then (f_X10_lastEnd M_2 p1 (1 : Int32) (0 : Int32)).bind (un2 (fun r_15 M_16 => bnd r_15 (fun v3_18 => j_X10_oneEnd_30_7 p1 v3_18 M_16))) else j_X10_oneEnd_30_7 p1 v3_4 M_2))
def f_X10_oneEnd (M : OV) (p0 : Int32) (p1 : Int32) : Option (Int32 × OV) := (if p0 = (2 : Int32) then (f_X10_lastEnd M p1 (1 : Int32) (1 : Int32)).bind (un2 (fun r_19 M_20 => j_X10_oneEnd_16_3 p1 r_19 M_20)) else j_X10_oneEnd_16_3 p1 (-1 : Int32) M)
def r_X10_oneEnd : Room := { frames := 5, cells := 0, slots := 0, locals := 123 }
set_option maxHeartbeats 4000000 in
set_option maxRecDepth 100000 in
theorem c_X10_oneEnd (l : Launch) (D : va_G) (ev : EvT) (cy : Nat → ClassId) (oM : Nat) (aM : Nat → Nat) (M : OV) (p0 : Int32) (p1 : Int32) (o : Int32 × OV) (hf : f_X10_oneEnd M p0 p1 = some o) : Fn l yX10_oneEnd cX10_oneEnd 4 (some .int) r_X10_oneEnd D ev cy [.ref oM, .int p0, .int p1] [gX10 cy oM aM M] (fun v G => v = some (.int o.1) ∧ G = [gX10 cy oM aM o.2]) := by
  refine Fn_of (by decide) (Nat.le_of_ble_eq_true rfl) (fun X A Q h hQ _ => ?_)
  unfold f_X10_oneEnd at hf
  show ww X D A 4 Q 0 0 0 [(0, .ref oM), (1, .int p0), (2, .int p1)] [] [gX10 cy oM aM M]
  refine ww_iload_n h dX10_oneEnd_0 rfl 1 rfl 1 rfl ?_
  refine ww_iconst (v := 2) h dX10_oneEnd_1 (by decide) 2 rfl ?_
  have hJ16_3 : ∀ (t_1 : Int32) (M_2 : OV), j_X10_oneEnd_16_3 p1 t_1 M_2 = some o → ww X D A 4 Q 0 0 16 [(0, .ref oM), (2, .int p1)] [.int t_1] [gX10 cy oM aM M_2] := by
    intro t_1 M_2 hf
    unfold j_X10_oneEnd_16_3 at hf
    refine ww_ist_n h dX10_oneEnd_16 rfl (by decide) (fun v3_4 => [(3, .int v3_4), (0, .ref oM), (2, .int p1)]) (fun _ => rfl) 17 rfl (fun v3_4 e => ?_)
    replace hf := bnd_at e hf
    clear e
    refine ww_iload_n h dX10_oneEnd_17 rfl 0 rfl 18 rfl ?_
    refine ww_iconst (v := (-1)) h dX10_oneEnd_18 (by decide) 19 rfl ?_
    have hJ30_7 : ∀ (v3_5 : Int32) (M_6 : OV), j_X10_oneEnd_30_7 p1 v3_5 M_6 = some o → ww X D A 4 Q 0 0 30 [(0, .ref oM), (2, .int p1), (3, .int v3_5)] [] [gX10 cy oM aM M_6] := by
      intro v3_5 M_6 hf
      unfold j_X10_oneEnd_30_7 at hf
      refine ww_iload_n h dX10_oneEnd_30 rfl 2 rfl 31 rfl ?_
      refine ww_iconst (v := (-1)) h dX10_oneEnd_31 (by decide) 32 rfl ?_
      have hJ43_10 : ∀ (v3_8 : Int32) (M_9 : OV), j_X10_oneEnd_43_10 p1 v3_8 M_9 = some o → ww X D A 4 Q 0 0 43 [(2, .int p1), (3, .int v3_8)] [] [gX10 cy oM aM M_9] := by
        intro v3_8 M_9 hf
        unfold j_X10_oneEnd_43_10 at hf
        refine ww_iload_n h dX10_oneEnd_43 rfl 1 rfl 44 rfl ?_
        refine ww_iconst (v := (-1)) h dX10_oneEnd_44 (by decide) 45 rfl ?_
        refine ww_icmp_ne h dX10_oneEnd_45 52 (by decide) 48 rfl (fun c => ?_) (fun c => ?_)
        · replace hf := ite_f c hf
          refine ww_iload_n h dX10_oneEnd_52 rfl 1 rfl 53 rfl ?_
          obtain rfl := Option.some.inj hf
          exact ww_iret h dX10_oneEnd_53 hQ ⟨rfl, rfl⟩
        · replace hf := ite_t c hf
          refine ww_iload_n h dX10_oneEnd_48 rfl 0 rfl 49 rfl ?_
          refine ww_goto h dX10_oneEnd_49 53 (by decide) ?_
          obtain rfl := Option.some.inj hf
          exact ww_iret h dX10_oneEnd_53 hQ ⟨rfl, rfl⟩
      refine ww_icmp_ne h dX10_oneEnd_32 43 (by decide) 35 rfl (fun c => ?_) (fun c => ?_)
      · replace hf := ite_f c hf
        refine ww_lo [1, 2] (lo' := [(2, .int p1), (3, .int v3_5)]) rfl ?_
        exact hJ43_10 v3_5 M_6 hf
      · replace hf := ite_t c hf
        refine ww_aload_n h dX10_oneEnd_35 rfl 0 rfl 36 rfl ?_
        refine ww_iload_n h dX10_oneEnd_36 rfl 1 rfl 37 rfl ?_
        refine ww_iconst (v := 0) h dX10_oneEnd_37 (by decide) 38 rfl ?_
        refine ww_iconst (v := 0) h dX10_oneEnd_38 (by decide) 39 rfl ?_
        obtain ⟨r_11, M_12, hu13, hf⟩ := ob2 hf
        refine ww_cVi h (c_X10_lastEnd l D ev cy oM aM M_6 p1 (0 : Int32) (0 : Int32) _ hu13) ⟨w_1521, w_1518, w_1520, w_62, w_111, ok_X10_lastEnd⟩ ⟨by decide, by decide⟩ ⟨by decide, by decide⟩ ⟨rfl, rfl⟩ [0] rfl 0 rfl rfl rfl rfl (Nat.le_of_ble_eq_true rfl) dX10_oneEnd_39 42 rfl (Gs' := [gX10 cy oM aM M_12]) rfl ?_
        clear hu13
        refine ww_ist_n h dX10_oneEnd_42 rfl (by decide) (fun v3_14 => [(3, .int v3_14), (0, .ref oM), (2, .int p1)]) (fun _ => rfl) 43 rfl (fun v3_14 e => ?_)
        replace hf := bnd_at e hf
        clear e
        refine ww_lo [2, 0] (lo' := [(2, .int p1), (3, .int v3_14)]) rfl ?_
        exact hJ43_10 v3_14 M_12 hf
    refine ww_icmp_ne h dX10_oneEnd_19 30 (by decide) 22 rfl (fun c => ?_) (fun c => ?_)
    · replace hf := ite_f c hf
      refine ww_lo [1, 2, 0] (lo' := [(0, .ref oM), (2, .int p1), (3, .int v3_4)]) rfl ?_
      exact hJ30_7 v3_4 M_2 hf
    · replace hf := ite_t c hf
      refine ww_aload_n h dX10_oneEnd_22 rfl 1 rfl 23 rfl ?_
      refine ww_iload_n h dX10_oneEnd_23 rfl 2 rfl 24 rfl ?_
      refine ww_iconst (v := 1) h dX10_oneEnd_24 (by decide) 25 rfl ?_
      refine ww_iconst (v := 0) h dX10_oneEnd_25 (by decide) 26 rfl ?_
      obtain ⟨r_15, M_16, hu17, hf⟩ := ob2 hf
      refine ww_cVi h (c_X10_lastEnd l D ev cy oM aM M_2 p1 (1 : Int32) (0 : Int32) _ hu17) ⟨w_1521, w_1518, w_1520, w_62, w_111, ok_X10_lastEnd⟩ ⟨by decide, by decide⟩ ⟨by decide, by decide⟩ ⟨rfl, rfl⟩ [0] rfl 0 rfl rfl rfl rfl (Nat.le_of_ble_eq_true rfl) dX10_oneEnd_26 29 rfl (Gs' := [gX10 cy oM aM M_16]) rfl ?_
      clear hu17
      refine ww_ist_n h dX10_oneEnd_29 rfl (by decide) (fun v3_18 => [(3, .int v3_18), (0, .ref oM), (2, .int p1)]) (fun _ => rfl) 30 rfl (fun v3_18 e => ?_)
      replace hf := bnd_at e hf
      clear e
      refine ww_lo [1, 2, 0] (lo' := [(0, .ref oM), (2, .int p1), (3, .int v3_18)]) rfl ?_
      exact hJ30_7 v3_18 M_16 hf
  refine ww_icmp_ne h dX10_oneEnd_2 15 (by decide) 5 rfl (fun c => ?_) (fun c => ?_)
  · replace hf := ite_f c hf
    refine ww_iconst (v := (-1)) h dX10_oneEnd_15 (by decide) 16 rfl ?_
    refine ww_lo [0, 2] (lo' := [(0, .ref oM), (2, .int p1)]) rfl ?_
    exact hJ16_3 (-1 : Int32) M hf
  · replace hf := ite_t c hf
    refine ww_aload_n h dX10_oneEnd_5 rfl 0 rfl 6 rfl ?_
    refine ww_iload_n h dX10_oneEnd_6 rfl 2 rfl 7 rfl ?_
    refine ww_iconst (v := 1) h dX10_oneEnd_7 (by decide) 8 rfl ?_
    refine ww_iconst (v := 1) h dX10_oneEnd_8 (by decide) 9 rfl ?_
    obtain ⟨r_19, M_20, hu21, hf⟩ := ob2 hf
    refine ww_cVi h (c_X10_lastEnd l D ev cy oM aM M p1 (1 : Int32) (1 : Int32) _ hu21) ⟨w_1521, w_1518, w_1520, w_62, w_111, ok_X10_lastEnd⟩ ⟨by decide, by decide⟩ ⟨by decide, by decide⟩ ⟨rfl, rfl⟩ [0] rfl 0 rfl rfl rfl rfl (Nat.le_of_ble_eq_true rfl) dX10_oneEnd_9 12 rfl (Gs' := [gX10 cy oM aM M_20]) rfl ?_
    clear hu21
    refine ww_goto h dX10_oneEnd_12 16 (by decide) ?_
    refine ww_lo [0, 2] (lo' := [(0, .ref oM), (2, .int p1)]) rfl ?_
    exact hJ16_3 r_19 M_20 hf
theorem dX10_laysLines_0 : decode cX10_laysLines 0 = .ok (.aload_n 0, 1) := by decide +kernel
theorem dX10_laysLines_1 : decode cX10_laysLines 1 = .ok (.iconst 0, 1) := by decide +kernel
theorem dX10_laysLines_2 : decode cX10_laysLines 2 = .ok (.putfield 246, 3) := by decide +kernel
theorem dX10_laysLines_5 : decode cX10_laysLines 5 = .ok (.iload_n 1, 1) := by decide +kernel
theorem dX10_laysLines_6 : decode cX10_laysLines 6 = .ok (.ifCond .eq 8, 3) := by decide +kernel
theorem dX10_laysLines_9 : decode cX10_laysLines 9 = .ok (.iload_n 1, 1) := by decide +kernel
theorem dX10_laysLines_10 : decode cX10_laysLines 10 = .ok (.iconst 2, 1) := by decide +kernel
theorem dX10_laysLines_11 : decode cX10_laysLines 11 = .ok (.if_icmp .ne 7, 3) := by decide +kernel
theorem dX10_laysLines_14 : decode cX10_laysLines 14 = .ok (.iconst 1, 1) := by decide +kernel
theorem dX10_laysLines_15 : decode cX10_laysLines 15 = .ok (.goto 4, 3) := by decide +kernel
theorem dX10_laysLines_18 : decode cX10_laysLines 18 = .ok (.iconst 0, 1) := by decide +kernel
theorem dX10_laysLines_19 : decode cX10_laysLines 19 = .ok (.istore_n 2, 1) := by decide +kernel
theorem dX10_laysLines_20 : decode cX10_laysLines 20 = .ok (.iload_n 2, 1) := by decide +kernel
theorem dX10_laysLines_21 : decode cX10_laysLines 21 = .ok (.ifCond .ne 25, 3) := by decide +kernel
theorem dX10_laysLines_24 : decode cX10_laysLines 24 = .ok (.aload_n 0, 1) := by decide +kernel
theorem dX10_laysLines_25 : decode cX10_laysLines 25 = .ok (.invokevirtual 234, 3) := by decide +kernel
theorem dX10_laysLines_28 : decode cX10_laysLines 28 = .ok (.aload_n 0, 1) := by decide +kernel
theorem dX10_laysLines_29 : decode cX10_laysLines 29 = .ok (.iload_n 1, 1) := by decide +kernel
theorem dX10_laysLines_30 : decode cX10_laysLines 30 = .ok (.iconst 1, 1) := by decide +kernel
theorem dX10_laysLines_31 : decode cX10_laysLines 31 = .ok (.if_icmp .ne 8, 3) := by decide +kernel
theorem dX10_laysLines_34 : decode cX10_laysLines 34 = .ok (.ldc 237, 2) := by decide +kernel
theorem dX10_laysLines_36 : decode cX10_laysLines 36 = .ok (.goto 7, 3) := by decide +kernel
theorem dX10_laysLines_39 : decode cX10_laysLines 39 = .ok (.aload_n 0, 1) := by decide +kernel
theorem dX10_laysLines_40 : decode cX10_laysLines 40 = .ok (.invokevirtual 249, 3) := by decide +kernel
theorem dX10_laysLines_43 : decode cX10_laysLines 43 = .ok (.invokevirtual 238, 3) := by decide +kernel
theorem dX10_laysLines_46 : decode cX10_laysLines 46 = .ok (.iconst 0, 1) := by decide +kernel
theorem dX10_laysLines_47 : decode cX10_laysLines 47 = .ok (.istore_n 3, 1) := by decide +kernel
theorem dX10_laysLines_48 : decode cX10_laysLines 48 = .ok (.iload_n 3, 1) := by decide +kernel
theorem dX10_laysLines_49 : decode cX10_laysLines 49 = .ok (.aload_n 0, 1) := by decide +kernel
theorem dX10_laysLines_50 : decode cX10_laysLines 50 = .ok (.invokevirtual 132, 3) := by decide +kernel
theorem dX10_laysLines_53 : decode cX10_laysLines 53 = .ok (.if_icmp .ge 56, 3) := by decide +kernel
theorem dX10_laysLines_56 : decode cX10_laysLines 56 = .ok (.aload_n 0, 1) := by decide +kernel
theorem dX10_laysLines_57 : decode cX10_laysLines 57 = .ok (.getfield 60, 3) := by decide +kernel
theorem dX10_laysLines_60 : decode cX10_laysLines 60 = .ok (.aload_n 0, 1) := by decide +kernel
theorem dX10_laysLines_61 : decode cX10_laysLines 61 = .ok (.getfield 246, 3) := by decide +kernel
theorem dX10_laysLines_64 : decode cX10_laysLines 64 = .ok (.iload_n 2, 1) := by decide +kernel
theorem dX10_laysLines_65 : decode cX10_laysLines 65 = .ok (.ifCond .eq 12, 3) := by decide +kernel
theorem dX10_laysLines_68 : decode cX10_laysLines 68 = .ok (.aload_n 0, 1) := by decide +kernel
theorem dX10_laysLines_69 : decode cX10_laysLines 69 = .ok (.iload_n 1, 1) := by decide +kernel
theorem dX10_laysLines_70 : decode cX10_laysLines 70 = .ok (.iload_n 3, 1) := by decide +kernel
theorem dX10_laysLines_71 : decode cX10_laysLines 71 = .ok (.invokevirtual 252, 3) := by decide +kernel
theorem dX10_laysLines_74 : decode cX10_laysLines 74 = .ok (.goto 9, 3) := by decide +kernel
theorem dX10_laysLines_77 : decode cX10_laysLines 77 = .ok (.aload_n 0, 1) := by decide +kernel
theorem dX10_laysLines_78 : decode cX10_laysLines 78 = .ok (.getfield 54, 3) := by decide +kernel
theorem dX10_laysLines_81 : decode cX10_laysLines 81 = .ok (.iload_n 3, 1) := by decide +kernel
theorem dX10_laysLines_82 : decode cX10_laysLines 82 = .ok (.iaload, 1) := by decide +kernel
theorem dX10_laysLines_83 : decode cX10_laysLines 83 = .ok (.iastore, 1) := by decide +kernel
theorem dX10_laysLines_84 : decode cX10_laysLines 84 = .ok (.aload_n 0, 1) := by decide +kernel
theorem dX10_laysLines_85 : decode cX10_laysLines 85 = .ok (.getfield 60, 3) := by decide +kernel
theorem dX10_laysLines_88 : decode cX10_laysLines 88 = .ok (.aload_n 0, 1) := by decide +kernel
theorem dX10_laysLines_89 : decode cX10_laysLines 89 = .ok (.getfield 246, 3) := by decide +kernel
theorem dX10_laysLines_92 : decode cX10_laysLines 92 = .ok (.iaload, 1) := by decide +kernel
theorem dX10_laysLines_93 : decode cX10_laysLines 93 = .ok (.iconst 1, 1) := by decide +kernel
theorem dX10_laysLines_94 : decode cX10_laysLines 94 = .ok (.iadd, 1) := by decide +kernel
theorem dX10_laysLines_95 : decode cX10_laysLines 95 = .ok (.istore_n 3, 1) := by decide +kernel
theorem dX10_laysLines_96 : decode cX10_laysLines 96 = .ok (.aload_n 0, 1) := by decide +kernel
theorem dX10_laysLines_97 : decode cX10_laysLines 97 = .ok (.dup, 1) := by decide +kernel
theorem dX10_laysLines_98 : decode cX10_laysLines 98 = .ok (.getfield 246, 3) := by decide +kernel
theorem dX10_laysLines_101 : decode cX10_laysLines 101 = .ok (.iconst 1, 1) := by decide +kernel
theorem dX10_laysLines_102 : decode cX10_laysLines 102 = .ok (.iadd, 1) := by decide +kernel
theorem dX10_laysLines_103 : decode cX10_laysLines 103 = .ok (.putfield 246, 3) := by decide +kernel
theorem dX10_laysLines_106 : decode cX10_laysLines 106 = .ok (.goto (-58), 3) := by decide +kernel
theorem dX10_laysLines_109 : decode cX10_laysLines 109 = .ok (.return_, 1) := by decide +kernel
theorem ok_X10_laysLines : okY RX10 yX10_laysLines 1 := ⟨rfl, by decide, by decide, by decide +kernel⟩
def j_X10_laysLines_83_15 (M_10 : OV) (t_13 : Int32) (M_14 : OV) : Option ((Int32 × OV) ⊕ (OV)) := gd (ix (iv M_10 25) 41) (bnd (sA M_14 24 (iv M_10 25).toNatClampNeg t_13) (fun M_16 => gd (ix (iv M_16 25) 41) (bnd ((ar M_16 24 (iv M_16 25).toNatClampNeg) + (1 : Int32)) (fun v3_17 => bnd (sI M_16 25 ((iv M_16 25) + (1 : Int32))) (fun M_18 => some (.inl (v3_17, M_18)))))))
def s_X10_laysLines_48_8 (p0 : Int32) (v2_4 : Int32) : (Int32 × OV) → Option ((Int32 × OV) ⊕ (OV)) := un2 (fun v3_9 M_10 => (f_X10_many M_10).bind (un1 (fun r_11 => (if r_11 ≤ v3_9 then some (.inr M_10) else (if v2_4 = 0 then gd (ix v3_9 41) (j_X10_laysLines_83_15 M_10 (ar M_10 22 v3_9.toNatClampNeg) M_10) else (f_X10_oneEnd M_10 p0 v3_9).bind (un2 (fun r_19 M_20 => j_X10_laysLines_83_15 M_10 r_19 M_20)))))))
def j_X10_laysLines_46_6 (p0 : Int32) (v2_4 : Int32) (M_5 : OV) : Option (OV) := bnd (0 : Int32) (fun v3_7 => ((lp (s_X10_laysLines_48_8 p0 v2_4) 5000 (v3_7, M_5)).bind (un1 (fun M_22 => some M_22))))
def j_X10_laysLines_43_27 (p0 : Int32) (v2_4 : Int32) (t_25 : Int32) (M_26 : OV) : Option (OV) := (f_X10_laysBest M_26 t_25).bind (un1 (fun M_28 => j_X10_laysLines_46_6 p0 v2_4 M_28))
def j_X10_laysLines_19_3 (M_1 : OV) (p0 : Int32) (t_2 : Int32) : Option (OV) := bnd t_2 (fun v2_4 => (if v2_4 = 0 then (f_X10_laysCosts M_1).bind (un1 (fun M_23 => (if p0 = (1 : Int32) then j_X10_laysLines_43_27 p0 v2_4 (1000000000 : Int32) M_23 else (f_X10_leastGreatest M_23).bind (un2 (fun r_30 M_31 => j_X10_laysLines_43_27 p0 v2_4 r_30 M_31))))) else j_X10_laysLines_46_6 p0 v2_4 M_1))
def j_X10_laysLines_14_33 (M_1 : OV) (p0 : Int32) : Option (OV) := j_X10_laysLines_19_3 M_1 p0 (1 : Int32)
def f_X10_laysLines (M : OV) (p0 : Int32) : Option (OV) := bnd (sI M 25 (0 : Int32)) (fun M_1 => (if p0 = 0 then j_X10_laysLines_14_33 M_1 p0 else (if p0 = (2 : Int32) then j_X10_laysLines_14_33 M_1 p0 else j_X10_laysLines_19_3 M_1 p0 (0 : Int32))))
def r_X10_laysLines : Room := { frames := 6, cells := 0, slots := 0, locals := 146 }
set_option maxHeartbeats 4000000 in
set_option maxRecDepth 100000 in
theorem c_X10_laysLines (l : Launch) (D : va_G) (ev : EvT) (cy : Nat → ClassId) (oM : Nat) (aM : Nat → Nat) (M : OV) (p0 : Int32) (o : OV) (hf : f_X10_laysLines M p0 = some o) : Fn l yX10_laysLines cX10_laysLines 4 none r_X10_laysLines D ev cy [.ref oM, .int p0] [gX10 cy oM aM M] (fun v G => v = none ∧ G = [gX10 cy oM aM o]) := by
  refine Fn_of (by decide) (Nat.le_of_ble_eq_true rfl) (fun X A Q h hQ _ => ?_)
  unfold f_X10_laysLines at hf
  show ww X D A 4 Q 0 0 0 [(0, .ref oM), (1, .int p0)] [] [gX10 cy oM aM M]
  refine ww_aload_n h dX10_laysLines_0 rfl 0 rfl 1 rfl ?_
  refine ww_iconst (v := 0) h dX10_laysLines_1 (by decide) 2 rfl ?_
  refine ww_put (ty := .int) h inG10 tyX10_ok nmX10 rfl 0 rfl rfl 25 (by decide) w_1182 rfl (by decide +kernel) rfl rfl (Nat.le_of_ble_eq_true rfl) (Nat.le_of_ble_eq_true rfl) dX10_laysLines_2 5 rfl ?_
  refine ww_nm (fun z => [gX10 cy oM aM z]) (sI M 25 (0 : Int32)) (fun M_1 e => ?_)
  replace hf := bnd_at e hf
  clear e
  refine ww_iload_n h dX10_laysLines_5 rfl 1 rfl 6 rfl ?_
  have hJ19_3 : ∀ (t_2 : Int32), j_X10_laysLines_19_3 M_1 p0 t_2 = some o → ww X D A 4 Q 0 0 19 [(0, .ref oM), (1, .int p0)] [.int t_2] [gX10 cy oM aM M_1] := by
    intro t_2 hf
    unfold j_X10_laysLines_19_3 at hf
    refine ww_ist_n h dX10_laysLines_19 rfl (by decide) (fun v2_4 => [(2, .int v2_4), (0, .ref oM), (1, .int p0)]) (fun _ => rfl) 20 rfl (fun v2_4 e => ?_)
    replace hf := bnd_at e hf
    clear e
    refine ww_iload_n h dX10_laysLines_20 rfl 0 rfl 21 rfl ?_
    have hJ46_6 : ∀ (M_5 : OV), j_X10_laysLines_46_6 p0 v2_4 M_5 = some o → ww X D A 4 Q 0 0 46 [(0, .ref oM), (1, .int p0), (2, .int v2_4)] [] [gX10 cy oM aM M_5] := by
      intro M_5 hf
      unfold j_X10_laysLines_46_6 at hf
      refine ww_iconst (v := 0) h dX10_laysLines_46 (by decide) 47 rfl ?_
      refine ww_ist_n h dX10_laysLines_47 rfl (by decide) (fun v3_7 => [(3, .int v3_7), (0, .ref oM), (1, .int p0), (2, .int v2_4)]) (fun _ => rfl) 48 rfl (fun v3_7 e => ?_)
      replace hf := bnd_at e hf
      clear e
      refine ww_lo [1, 2, 3, 0] (lo' := [(0, .ref oM), (1, .int p0), (2, .int v2_4), (3, .int v3_7)]) rfl ?_
      obtain ⟨M_22, h8, hf⟩ := ob1 hf
      refine lp_walk (un2 (fun v3_9 M_10 => ww X D A 4 Q 0 0 48 [(0, .ref oM), (1, .int p0), (2, .int v2_4), (3, .int v3_9)] [] [gX10 cy oM aM M_10])) (un1 (fun M_22 => ww X D A 4 Q 0 0 109 [] [] [gX10 cy oM aM M_22])) ?_ _ _ _ h8 ?_
      · clear h8 hf
        intro s8 o8 hf hI8 hE8
        obtain ⟨v3_9, M_10⟩ := s8
        unfold s_X10_laysLines_48_8 at hf
        replace hf := un2_e hf
        show ww X D A 4 Q 0 0 48 [(0, .ref oM), (1, .int p0), (2, .int v2_4), (3, .int v3_9)] [] [gX10 cy oM aM M_10]
        refine ww_iload_n h dX10_laysLines_48 rfl 3 rfl 49 rfl ?_
        refine ww_aload_n h dX10_laysLines_49 rfl 0 rfl 50 rfl ?_
        obtain ⟨r_11, hu12, hf⟩ := ob1 hf
        refine ww_cVi h (c_X10_many l D ev cy oM aM M_10 _ hu12) ⟨w_1330, w_1327, w_1329, w_37, w_111, ok_X10_many⟩ ⟨by decide, by decide⟩ ⟨by decide, by decide⟩ ⟨rfl, rfl⟩ [0] rfl 0 rfl rfl rfl rfl (Nat.le_of_ble_eq_true rfl) dX10_laysLines_50 53 rfl (Gs' := [gX10 cy oM aM M_10]) rfl ?_
        clear hu12
        refine ww_icmp_ge h dX10_laysLines_53 109 (by decide) 56 rfl (fun c => ?_) (fun c => ?_)
        · replace hf := ite_t c hf
          refine ww_lo [] (lo' := []) rfl ?_
          exact hE8 M_10 (Option.some.inj hf).symm
        · replace hf := ite_f c hf
          refine ww_aload_n h dX10_laysLines_56 rfl 0 rfl 57 rfl ?_
          refine ww_get h inG10 rfl 0 rfl rfl 24 (by decide) w_1181 rfl dX10_laysLines_57 60 rfl ?_
          refine ww_aload_n h dX10_laysLines_60 rfl 0 rfl 61 rfl ?_
          refine ww_get h inG10 rfl 0 rfl rfl 25 (by decide) w_1182 rfl dX10_laysLines_61 64 rfl ?_
          refine ww_iload_n h dX10_laysLines_64 rfl 2 rfl 65 rfl ?_
          have hJ83_15 : ∀ (t_13 : Int32) (M_14 : OV), j_X10_laysLines_83_15 M_10 t_13 M_14 = some o8 → ww X D A 4 Q 0 0 83 [(0, .ref oM), (1, .int p0), (2, .int v2_4)] [.int t_13, .int (iv M_10 25), .ref (aM 24)] [gX10 cy oM aM M_14] := by
            intro t_13 M_14 hf
            unfold j_X10_laysLines_83_15 at hf
            have hi := (gd_some hf).1
            replace hf := (gd_some hf).2
            refine ww_iast h 0 rfl 16 rfl (ix_in hi) dX10_laysLines_83 84 rfl ?_
            clear hi
            refine ww_nm (fun z => [gX10 cy oM aM z]) (sA M_14 24 (iv M_10 25).toNatClampNeg t_13) (fun M_16 e => ?_)
            replace hf := bnd_at e hf
            clear e
            refine ww_aload_n h dX10_laysLines_84 rfl 0 rfl 85 rfl ?_
            refine ww_get h inG10 rfl 0 rfl rfl 24 (by decide) w_1181 rfl dX10_laysLines_85 88 rfl ?_
            refine ww_aload_n h dX10_laysLines_88 rfl 0 rfl 89 rfl ?_
            refine ww_get h inG10 rfl 0 rfl rfl 25 (by decide) w_1182 rfl dX10_laysLines_89 92 rfl ?_
            have hi := (gd_some hf).1
            replace hf := (gd_some hf).2
            refine ww_iald h 0 rfl 16 rfl (ix_in hi) dX10_laysLines_92 93 rfl ?_
            clear hi
            refine ww_iconst (v := 1) h dX10_laysLines_93 (by decide) 94 rfl ?_
            refine ww_iadd h dX10_laysLines_94 95 rfl ?_
            refine ww_ist_n h dX10_laysLines_95 rfl (by decide) (fun v3_17 => [(3, .int v3_17), (0, .ref oM), (1, .int p0), (2, .int v2_4)]) (fun _ => rfl) 96 rfl (fun v3_17 e => ?_)
            replace hf := bnd_at e hf
            clear e
            refine ww_aload_n h dX10_laysLines_96 rfl 1 rfl 97 rfl ?_
            refine ww_dup h dX10_laysLines_97 rfl 98 rfl ?_
            refine ww_get h inG10 rfl 0 rfl rfl 25 (by decide) w_1182 rfl dX10_laysLines_98 101 rfl ?_
            refine ww_iconst (v := 1) h dX10_laysLines_101 (by decide) 102 rfl ?_
            refine ww_iadd h dX10_laysLines_102 103 rfl ?_
            refine ww_put (ty := .int) h inG10 tyX10_ok nmX10 rfl 0 rfl rfl 25 (by decide) w_1182 rfl (by decide +kernel) rfl rfl (Nat.le_of_ble_eq_true rfl) (Nat.le_of_ble_eq_true rfl) dX10_laysLines_103 106 rfl ?_
            refine ww_nm (fun z => [gX10 cy oM aM z]) (sI M_16 25 ((iv M_16 25) + (1 : Int32))) (fun M_18 e => ?_)
            replace hf := bnd_at e hf
            clear e
            refine ww_goto h dX10_laysLines_106 48 (by decide) ?_
            refine ww_lo [1, 2, 3, 0] (lo' := [(0, .ref oM), (1, .int p0), (2, .int v2_4), (3, .int v3_17)]) rfl ?_
            exact hI8 (v3_17, M_18) (Option.some.inj hf).symm
          refine ww_if_eq h dX10_laysLines_65 77 (by decide) 68 rfl (fun c => ?_) (fun c => ?_)
          · replace hf := ite_t c hf
            refine ww_aload_n h dX10_laysLines_77 rfl 0 rfl 78 rfl ?_
            refine ww_get h inG10 rfl 0 rfl rfl 22 (by decide) w_1179 rfl dX10_laysLines_78 81 rfl ?_
            refine ww_iload_n h dX10_laysLines_81 rfl 3 rfl 82 rfl ?_
            have hi := (gd_some hf).1
            replace hf := (gd_some hf).2
            refine ww_iald h 0 rfl 14 rfl (ix_in hi) dX10_laysLines_82 83 rfl ?_
            clear hi
            refine ww_lo [0, 1, 2] (lo' := [(0, .ref oM), (1, .int p0), (2, .int v2_4)]) rfl ?_
            exact hJ83_15 (ar M_10 22 v3_9.toNatClampNeg) M_10 hf
          · replace hf := ite_f c hf
            refine ww_aload_n h dX10_laysLines_68 rfl 0 rfl 69 rfl ?_
            refine ww_iload_n h dX10_laysLines_69 rfl 1 rfl 70 rfl ?_
            refine ww_iload_n h dX10_laysLines_70 rfl 3 rfl 71 rfl ?_
            obtain ⟨r_19, M_20, hu21, hf⟩ := ob2 hf
            refine ww_cVi h (c_X10_oneEnd l D ev cy oM aM M_10 p0 v3_9 _ hu21) ⟨w_1517, w_1514, w_1516, w_61, w_111, ok_X10_oneEnd⟩ ⟨by decide, by decide⟩ ⟨by decide, by decide⟩ ⟨rfl, rfl⟩ [0] rfl 0 rfl rfl rfl rfl (Nat.le_of_ble_eq_true rfl) dX10_laysLines_71 74 rfl (Gs' := [gX10 cy oM aM M_20]) rfl ?_
            clear hu21
            refine ww_goto h dX10_laysLines_74 83 (by decide) ?_
            refine ww_lo [0, 1, 2] (lo' := [(0, .ref oM), (1, .int p0), (2, .int v2_4)]) rfl ?_
            exact hJ83_15 r_19 M_20 hf
      · clear h8
        show ww X D A 4 Q 0 0 109 [] [] [gX10 cy oM aM M_22]
        obtain rfl := Option.some.inj hf
        exact ww_vret h dX10_laysLines_109 hQ ⟨rfl, rfl⟩
    refine ww_if_ne h dX10_laysLines_21 46 (by decide) 24 rfl (fun c => ?_) (fun c => ?_)
    · replace hf := ite_f c hf
      refine ww_lo [1, 2, 0] (lo' := [(0, .ref oM), (1, .int p0), (2, .int v2_4)]) rfl ?_
      exact hJ46_6 M_1 hf
    · replace hf := ite_t c hf
      refine ww_aload_n h dX10_laysLines_24 rfl 1 rfl 25 rfl ?_
      obtain ⟨M_23, hu24, hf⟩ := ob1 hf
      refine ww_cVv h (c_X10_laysCosts l D ev cy oM aM M_1 _ hu24) ⟨w_1500, w_1497, w_1499, w_57, w_111, ok_X10_laysCosts⟩ ⟨by decide, by decide⟩ ⟨by decide, by decide⟩ ⟨rfl, rfl⟩ [0] rfl 0 rfl rfl rfl rfl (Nat.le_of_ble_eq_true rfl) dX10_laysLines_25 28 rfl (Gs' := [gX10 cy oM aM M_23]) rfl ?_
      clear hu24
      refine ww_aload_n h dX10_laysLines_28 rfl 1 rfl 29 rfl ?_
      refine ww_iload_n h dX10_laysLines_29 rfl 2 rfl 30 rfl ?_
      refine ww_iconst (v := 1) h dX10_laysLines_30 (by decide) 31 rfl ?_
      have hJ43_27 : ∀ (t_25 : Int32) (M_26 : OV), j_X10_laysLines_43_27 p0 v2_4 t_25 M_26 = some o → ww X D A 4 Q 0 0 43 [(0, .ref oM), (1, .int p0), (2, .int v2_4)] [.int t_25, .ref oM] [gX10 cy oM aM M_26] := by
        intro t_25 M_26 hf
        unfold j_X10_laysLines_43_27 at hf
        obtain ⟨M_28, hu29, hf⟩ := ob1 hf
        refine ww_cVv h (c_X10_laysBest l D ev cy oM aM M_26 t_25 _ hu29) ⟨w_1513, w_1510, w_1512, w_60, w_111, ok_X10_laysBest⟩ ⟨by decide, by decide⟩ ⟨by decide, by decide⟩ ⟨rfl, rfl⟩ [0] rfl 0 rfl rfl rfl rfl (Nat.le_of_ble_eq_true rfl) dX10_laysLines_43 46 rfl (Gs' := [gX10 cy oM aM M_28]) rfl ?_
        clear hu29
        exact hJ46_6 M_28 hf
      refine ww_icmp_ne h dX10_laysLines_31 39 (by decide) 34 rfl (fun c => ?_) (fun c => ?_)
      · replace hf := ite_f c hf
        refine ww_aload_n h dX10_laysLines_39 rfl 1 rfl 40 rfl ?_
        obtain ⟨r_30, M_31, hu32, hf⟩ := ob2 hf
        refine ww_cVi h (c_X10_leastGreatest l D ev cy oM aM M_23 _ hu32) ⟨w_1509, w_1506, w_1508, w_59, w_111, ok_X10_leastGreatest⟩ ⟨by decide, by decide⟩ ⟨by decide, by decide⟩ ⟨rfl, rfl⟩ [0] rfl 0 rfl rfl rfl rfl (Nat.le_of_ble_eq_true rfl) dX10_laysLines_40 43 rfl (Gs' := [gX10 cy oM aM M_31]) rfl ?_
        clear hu32
        refine ww_lo [1, 2, 0] (lo' := [(0, .ref oM), (1, .int p0), (2, .int v2_4)]) rfl ?_
        exact hJ43_27 r_30 M_31 hf
      · replace hf := ite_t c hf
        refine ww_ldc h w_1505 dX10_laysLines_34 36 rfl ?_
        refine ww_goto h dX10_laysLines_36 43 (by decide) ?_
        refine ww_lo [1, 2, 0] (lo' := [(0, .ref oM), (1, .int p0), (2, .int v2_4)]) rfl ?_
        exact hJ43_27 (1000000000 : Int32) M_23 hf
  have hJ14_33 : ∀ (_ : Unit), j_X10_laysLines_14_33 M_1 p0 = some o → ww X D A 4 Q 0 0 14 [(0, .ref oM), (1, .int p0)] [] [gX10 cy oM aM M_1] := by
    intro _ hf
    unfold j_X10_laysLines_14_33 at hf
    refine ww_iconst (v := 1) h dX10_laysLines_14 (by decide) 15 rfl ?_
    refine ww_goto h dX10_laysLines_15 19 (by decide) ?_
    exact hJ19_3 (1 : Int32) hf
  refine ww_if_eq h dX10_laysLines_6 14 (by decide) 9 rfl (fun c => ?_) (fun c => ?_)
  · replace hf := ite_t c hf
    exact hJ14_33 () hf
  · replace hf := ite_f c hf
    refine ww_iload_n h dX10_laysLines_9 rfl 1 rfl 10 rfl ?_
    refine ww_iconst (v := 2) h dX10_laysLines_10 (by decide) 11 rfl ?_
    refine ww_icmp_ne h dX10_laysLines_11 18 (by decide) 14 rfl (fun c => ?_) (fun c => ?_)
    · replace hf := ite_f c hf
      refine ww_iconst (v := 0) h dX10_laysLines_18 (by decide) 19 rfl ?_
      exact hJ19_3 (0 : Int32) hf
    · replace hf := ite_t c hf
      exact hJ14_33 () hf
theorem dX10_looksAt_0 : decode cX10_looksAt 0 = .ok (.iload_n 1, 1) := by decide +kernel
theorem dX10_looksAt_1 : decode cX10_looksAt 1 = .ok (.invokestatic 255, 3) := by decide +kernel
theorem dX10_looksAt_4 : decode cX10_looksAt 4 = .ok (.ifCond .eq 7, 3) := by decide +kernel
theorem dX10_looksAt_7 : decode cX10_looksAt 7 = .ok (.iload_n 2, 1) := by decide +kernel
theorem dX10_looksAt_8 : decode cX10_looksAt 8 = .ok (.ifCond .ge 5, 3) := by decide +kernel
theorem dX10_looksAt_11 : decode cX10_looksAt 11 = .ok (.iconst 0, 1) := by decide +kernel
theorem dX10_looksAt_12 : decode cX10_looksAt 12 = .ok (.ireturn, 1) := by decide +kernel
theorem dX10_looksAt_13 : decode cX10_looksAt 13 = .ok (.aload_n 0, 1) := by decide +kernel
theorem dX10_looksAt_14 : decode cX10_looksAt 14 = .ok (.iload_n 1, 1) := by decide +kernel
theorem dX10_looksAt_15 : decode cX10_looksAt 15 = .ok (.invokevirtual 258, 3) := by decide +kernel
theorem dX10_looksAt_18 : decode cX10_looksAt 18 = .ok (.iload_n 2, 1) := by decide +kernel
theorem dX10_looksAt_19 : decode cX10_looksAt 19 = .ok (.aload_n 0, 1) := by decide +kernel
theorem dX10_looksAt_20 : decode cX10_looksAt 20 = .ok (.getfield 246, 3) := by decide +kernel
theorem dX10_looksAt_23 : decode cX10_looksAt 23 = .ok (.if_icmp .lt 5, 3) := by decide +kernel
theorem dX10_looksAt_26 : decode cX10_looksAt 26 = .ok (.iconst 0, 1) := by decide +kernel
theorem dX10_looksAt_27 : decode cX10_looksAt 27 = .ok (.ireturn, 1) := by decide +kernel
theorem dX10_looksAt_28 : decode cX10_looksAt 28 = .ok (.aload_n 0, 1) := by decide +kernel
theorem dX10_looksAt_29 : decode cX10_looksAt 29 = .ok (.aload_n 0, 1) := by decide +kernel
theorem dX10_looksAt_30 : decode cX10_looksAt 30 = .ok (.iload_n 2, 1) := by decide +kernel
theorem dX10_looksAt_31 : decode cX10_looksAt 31 = .ok (.invokevirtual 261, 3) := by decide +kernel
theorem dX10_looksAt_34 : decode cX10_looksAt 34 = .ok (.aload_n 0, 1) := by decide +kernel
theorem dX10_looksAt_35 : decode cX10_looksAt 35 = .ok (.getfield 60, 3) := by decide +kernel
theorem dX10_looksAt_38 : decode cX10_looksAt 38 = .ok (.iload_n 2, 1) := by decide +kernel
theorem dX10_looksAt_39 : decode cX10_looksAt 39 = .ok (.iaload, 1) := by decide +kernel
theorem dX10_looksAt_40 : decode cX10_looksAt 40 = .ok (.invokevirtual 231, 3) := by decide +kernel
theorem dX10_looksAt_43 : decode cX10_looksAt 43 = .ok (.iconst 1, 1) := by decide +kernel
theorem dX10_looksAt_44 : decode cX10_looksAt 44 = .ok (.ireturn, 1) := by decide +kernel
theorem ok_X10_looksAt : okY RX10 yX10_looksAt 2 := ⟨rfl, by decide, by decide, by decide +kernel⟩
def f_X10_looksAt (M : OV) (p0 : Int32) (p1 : Int32) : Option (Int32 × OV) := (f_X10_isKind p0).bind (un1 (fun r_1 => (if r_1 = 0 then some ((0 : Int32), M) else (if 0 ≤ p1 then (f_X10_laysLines M p0).bind (un1 (fun M_3 => (if p1 < (iv M_3 25) then (f_X10_firstOf M_3 p1).bind (un1 (fun r_5 => gd (ix p1 41) ((f_X10_looks M_3 r_5 (ar M_3 24 p1.toNatClampNeg)).bind (un1 (fun M_7 => some ((1 : Int32), M_7)))))) else some ((0 : Int32), M_3)))) else some ((0 : Int32), M)))))
def r_X10_looksAt : Room := { frames := 7, cells := 0, slots := 0, locals := 169 }
set_option maxHeartbeats 4000000 in
set_option maxRecDepth 100000 in
theorem c_X10_looksAt (l : Launch) (D : va_G) (ev : EvT) (cy : Nat → ClassId) (oM : Nat) (aM : Nat → Nat) (M : OV) (p0 : Int32) (p1 : Int32) (o : Int32 × OV) (hf : f_X10_looksAt M p0 p1 = some o) : Fn l yX10_looksAt cX10_looksAt 3 (some .boolean) r_X10_looksAt D ev cy [.ref oM, .int p0, .int p1] [gX10 cy oM aM M] (fun v G => v = some (.int o.1) ∧ G = [gX10 cy oM aM o.2]) := by
  refine Fn_of (by decide) (Nat.le_of_ble_eq_true rfl) (fun X A Q h hQ _ => ?_)
  unfold f_X10_looksAt at hf
  show ww X D A 3 Q 0 0 0 [(0, .ref oM), (1, .int p0), (2, .int p1)] [] [gX10 cy oM aM M]
  refine ww_iload_n h dX10_looksAt_0 rfl 1 rfl 1 rfl ?_
  obtain ⟨r_1, hu2, hf⟩ := ob1 hf
  refine ww_cSi h (c_X10_isKind l D ev cy p0 _ hu2) ⟨w_1492, w_1490, w_1491, w_111, ok_X10_isKind⟩ ⟨by decide, by decide⟩ ⟨by decide, by decide⟩ ⟨rfl, rfl⟩ [] rfl rfl (Nat.le_of_ble_eq_true rfl) dX10_looksAt_1 4 rfl (Gs' := [gX10 cy oM aM M]) rfl ?_
  clear hu2
  refine ww_if_eq h dX10_looksAt_4 11 (by decide) 7 rfl (fun c => ?_) (fun c => ?_)
  · replace hf := ite_t c hf
    refine ww_iconst (v := 0) h dX10_looksAt_11 (by decide) 12 rfl ?_
    obtain rfl := Option.some.inj hf
    exact ww_zret h (Or.inl rfl) dX10_looksAt_12 hQ ⟨rfl, rfl⟩
  · replace hf := ite_f c hf
    refine ww_iload_n h dX10_looksAt_7 rfl 2 rfl 8 rfl ?_
    refine ww_if_ge h dX10_looksAt_8 13 (by decide) 11 rfl (fun c => ?_) (fun c => ?_)
    · replace hf := ite_t c hf
      refine ww_aload_n h dX10_looksAt_13 rfl 0 rfl 14 rfl ?_
      refine ww_iload_n h dX10_looksAt_14 rfl 1 rfl 15 rfl ?_
      obtain ⟨M_3, hu4, hf⟩ := ob1 hf
      refine ww_cVv h (c_X10_laysLines l D ev cy oM aM M p0 _ hu4) ⟨w_1496, w_1493, w_1495, w_56, w_111, ok_X10_laysLines⟩ ⟨by decide, by decide⟩ ⟨by decide, by decide⟩ ⟨rfl, rfl⟩ [0] rfl 0 rfl rfl rfl rfl (Nat.le_of_ble_eq_true rfl) dX10_looksAt_15 18 rfl (Gs' := [gX10 cy oM aM M_3]) rfl ?_
      clear hu4
      refine ww_iload_n h dX10_looksAt_18 rfl 2 rfl 19 rfl ?_
      refine ww_aload_n h dX10_looksAt_19 rfl 0 rfl 20 rfl ?_
      refine ww_get h inG10 rfl 0 rfl rfl 25 (by decide) w_1182 rfl dX10_looksAt_20 23 rfl ?_
      refine ww_icmp_lt h dX10_looksAt_23 28 (by decide) 26 rfl (fun c => ?_) (fun c => ?_)
      · replace hf := ite_t c hf
        refine ww_aload_n h dX10_looksAt_28 rfl 0 rfl 29 rfl ?_
        refine ww_aload_n h dX10_looksAt_29 rfl 0 rfl 30 rfl ?_
        refine ww_iload_n h dX10_looksAt_30 rfl 2 rfl 31 rfl ?_
        obtain ⟨r_5, hu6, hf⟩ := ob1 hf
        refine ww_cVi h (c_X10_firstOf l D ev cy oM aM M_3 p1 _ hu6) ⟨w_1525, w_1522, w_1524, w_63, w_111, ok_X10_firstOf⟩ ⟨by decide, by decide⟩ ⟨by decide, by decide⟩ ⟨rfl, rfl⟩ [0] rfl 0 rfl rfl rfl rfl (Nat.le_of_ble_eq_true rfl) dX10_looksAt_31 34 rfl (Gs' := [gX10 cy oM aM M_3]) rfl ?_
        clear hu6
        refine ww_aload_n h dX10_looksAt_34 rfl 0 rfl 35 rfl ?_
        refine ww_get h inG10 rfl 0 rfl rfl 24 (by decide) w_1181 rfl dX10_looksAt_35 38 rfl ?_
        refine ww_iload_n h dX10_looksAt_38 rfl 2 rfl 39 rfl ?_
        have hi := (gd_some hf).1
        replace hf := (gd_some hf).2
        refine ww_iald h 0 rfl 16 rfl (ix_in hi) dX10_looksAt_39 40 rfl ?_
        clear hi
        obtain ⟨M_7, hu8, hf⟩ := ob1 hf
        refine ww_cVv h (c_X10_looks l D ev cy oM aM M_3 r_5 (ar M_3 24 p1.toNatClampNeg) _ hu8) ⟨w_1469, w_1466, w_1468, w_52, w_111, ok_X10_looks⟩ ⟨by decide, by decide⟩ ⟨by decide, by decide⟩ ⟨rfl, rfl⟩ [0] rfl 0 rfl rfl rfl rfl (Nat.le_of_ble_eq_true rfl) dX10_looksAt_40 43 rfl (Gs' := [gX10 cy oM aM M_7]) rfl ?_
        clear hu8
        refine ww_iconst (v := 1) h dX10_looksAt_43 (by decide) 44 rfl ?_
        obtain rfl := Option.some.inj hf
        exact ww_zret h (Or.inr rfl) dX10_looksAt_44 hQ ⟨rfl, rfl⟩
      · replace hf := ite_f c hf
        refine ww_iconst (v := 0) h dX10_looksAt_26 (by decide) 27 rfl ?_
        obtain rfl := Option.some.inj hf
        exact ww_zret h (Or.inl rfl) dX10_looksAt_27 hQ ⟨rfl, rfl⟩
    · replace hf := ite_f c hf
      refine ww_iconst (v := 0) h dX10_looksAt_11 (by decide) 12 rfl ?_
      obtain rfl := Option.some.inj hf
      exact ww_zret h (Or.inl rfl) dX10_looksAt_12 hQ ⟨rfl, rfl⟩
theorem dX10_deals_0 : decode cX10_deals 0 = .ok (.iload_n 1, 1) := by decide +kernel
theorem dX10_deals_1 : decode cX10_deals 1 = .ok (.istore_n 3, 1) := by decide +kernel
theorem dX10_deals_2 : decode cX10_deals 2 = .ok (.iload_n 3, 1) := by decide +kernel
theorem dX10_deals_3 : decode cX10_deals 3 = .ok (.iload_n 2, 1) := by decide +kernel
theorem dX10_deals_4 : decode cX10_deals 4 = .ok (.if_icmp .gt 23, 3) := by decide +kernel
theorem dX10_deals_7 : decode cX10_deals 7 = .ok (.aload_n 0, 1) := by decide +kernel
theorem dX10_deals_8 : decode cX10_deals 8 = .ok (.getfield 63, 3) := by decide +kernel
theorem dX10_deals_11 : decode cX10_deals 11 = .ok (.iload_n 3, 1) := by decide +kernel
theorem dX10_deals_12 : decode cX10_deals 12 = .ok (.iconst 0, 1) := by decide +kernel
theorem dX10_deals_13 : decode cX10_deals 13 = .ok (.iastore, 1) := by decide +kernel
theorem dX10_deals_14 : decode cX10_deals 14 = .ok (.aload_n 0, 1) := by decide +kernel
theorem dX10_deals_15 : decode cX10_deals 15 = .ok (.getfield 66, 3) := by decide +kernel
theorem dX10_deals_18 : decode cX10_deals 18 = .ok (.iload_n 3, 1) := by decide +kernel
theorem dX10_deals_19 : decode cX10_deals 19 = .ok (.iconst 0, 1) := by decide +kernel
theorem dX10_deals_20 : decode cX10_deals 20 = .ok (.iastore, 1) := by decide +kernel
theorem dX10_deals_21 : decode cX10_deals 21 = .ok (.iinc 3 1, 3) := by decide +kernel
theorem dX10_deals_24 : decode cX10_deals 24 = .ok (.goto (-22), 3) := by decide +kernel
theorem dX10_deals_27 : decode cX10_deals 27 = .ok (.aload_n 0, 1) := by decide +kernel
theorem dX10_deals_28 : decode cX10_deals 28 = .ok (.getfield 199, 3) := by decide +kernel
theorem dX10_deals_31 : decode cX10_deals 31 = .ok (.istore_n 3, 1) := by decide +kernel
theorem dX10_deals_32 : decode cX10_deals 32 = .ok (.iconst 1, 1) := by decide +kernel
theorem dX10_deals_33 : decode cX10_deals 33 = .ok (.istore 4, 2) := by decide +kernel
theorem dX10_deals_35 : decode cX10_deals 35 = .ok (.iload 4, 2) := by decide +kernel
theorem dX10_deals_37 : decode cX10_deals 37 = .ok (.iconst 3, 1) := by decide +kernel
theorem dX10_deals_38 : decode cX10_deals 38 = .ok (.if_icmp .gt 56, 3) := by decide +kernel
theorem dX10_deals_41 : decode cX10_deals 41 = .ok (.aload_n 0, 1) := by decide +kernel
theorem dX10_deals_42 : decode cX10_deals 42 = .ok (.iload_n 1, 1) := by decide +kernel
theorem dX10_deals_43 : decode cX10_deals 43 = .ok (.iload_n 2, 1) := by decide +kernel
theorem dX10_deals_44 : decode cX10_deals 44 = .ok (.iload 4, 2) := by decide +kernel
theorem dX10_deals_46 : decode cX10_deals 46 = .ok (.invokevirtual 264, 3) := by decide +kernel
theorem dX10_deals_49 : decode cX10_deals 49 = .ok (.istore 5, 2) := by decide +kernel
theorem dX10_deals_51 : decode cX10_deals 51 = .ok (.iload_n 3, 1) := by decide +kernel
theorem dX10_deals_52 : decode cX10_deals 52 = .ok (.ifCond .le 36, 3) := by decide +kernel
theorem dX10_deals_55 : decode cX10_deals 55 = .ok (.iload 5, 2) := by decide +kernel
theorem dX10_deals_57 : decode cX10_deals 57 = .ok (.iconst (-1), 1) := by decide +kernel
theorem dX10_deals_58 : decode cX10_deals 58 = .ok (.if_icmp .eq 30, 3) := by decide +kernel
theorem dX10_deals_61 : decode cX10_deals 61 = .ok (.aload_n 0, 1) := by decide +kernel
theorem dX10_deals_62 : decode cX10_deals 62 = .ok (.getfield 63, 3) := by decide +kernel
theorem dX10_deals_65 : decode cX10_deals 65 = .ok (.iload 5, 2) := by decide +kernel
theorem dX10_deals_67 : decode cX10_deals 67 = .ok (.dup2, 1) := by decide +kernel
theorem dX10_deals_68 : decode cX10_deals 68 = .ok (.iaload, 1) := by decide +kernel
theorem dX10_deals_69 : decode cX10_deals 69 = .ok (.iconst 1, 1) := by decide +kernel
theorem dX10_deals_70 : decode cX10_deals 70 = .ok (.iadd, 1) := by decide +kernel
theorem dX10_deals_71 : decode cX10_deals 71 = .ok (.iastore, 1) := by decide +kernel
theorem dX10_deals_72 : decode cX10_deals 72 = .ok (.iinc 3 (-1), 3) := by decide +kernel
theorem dX10_deals_75 : decode cX10_deals 75 = .ok (.aload_n 0, 1) := by decide +kernel
theorem dX10_deals_76 : decode cX10_deals 76 = .ok (.iload_n 1, 1) := by decide +kernel
theorem dX10_deals_77 : decode cX10_deals 77 = .ok (.iload_n 2, 1) := by decide +kernel
theorem dX10_deals_78 : decode cX10_deals 78 = .ok (.iload 4, 2) := by decide +kernel
theorem dX10_deals_80 : decode cX10_deals 80 = .ok (.invokevirtual 264, 3) := by decide +kernel
theorem dX10_deals_83 : decode cX10_deals 83 = .ok (.istore 5, 2) := by decide +kernel
theorem dX10_deals_85 : decode cX10_deals 85 = .ok (.goto (-34), 3) := by decide +kernel
theorem dX10_deals_88 : decode cX10_deals 88 = .ok (.iinc 4 1, 3) := by decide +kernel
theorem dX10_deals_91 : decode cX10_deals 91 = .ok (.goto (-56), 3) := by decide +kernel
theorem dX10_deals_94 : decode cX10_deals 94 = .ok (.aload_n 0, 1) := by decide +kernel
theorem dX10_deals_95 : decode cX10_deals 95 = .ok (.getfield 202, 3) := by decide +kernel
theorem dX10_deals_98 : decode cX10_deals 98 = .ok (.istore_n 3, 1) := by decide +kernel
theorem dX10_deals_99 : decode cX10_deals 99 = .ok (.iconst 1, 1) := by decide +kernel
theorem dX10_deals_100 : decode cX10_deals 100 = .ok (.istore 4, 2) := by decide +kernel
theorem dX10_deals_102 : decode cX10_deals 102 = .ok (.iload 4, 2) := by decide +kernel
theorem dX10_deals_104 : decode cX10_deals 104 = .ok (.iconst 3, 1) := by decide +kernel
theorem dX10_deals_105 : decode cX10_deals 105 = .ok (.if_icmp .gt 56, 3) := by decide +kernel
theorem dX10_deals_108 : decode cX10_deals 108 = .ok (.aload_n 0, 1) := by decide +kernel
theorem dX10_deals_109 : decode cX10_deals 109 = .ok (.iload_n 1, 1) := by decide +kernel
theorem dX10_deals_110 : decode cX10_deals 110 = .ok (.iload_n 2, 1) := by decide +kernel
theorem dX10_deals_111 : decode cX10_deals 111 = .ok (.iload 4, 2) := by decide +kernel
theorem dX10_deals_113 : decode cX10_deals 113 = .ok (.invokevirtual 268, 3) := by decide +kernel
theorem dX10_deals_116 : decode cX10_deals 116 = .ok (.istore 5, 2) := by decide +kernel
theorem dX10_deals_118 : decode cX10_deals 118 = .ok (.iload_n 3, 1) := by decide +kernel
theorem dX10_deals_119 : decode cX10_deals 119 = .ok (.ifCond .le 36, 3) := by decide +kernel
theorem dX10_deals_122 : decode cX10_deals 122 = .ok (.iload 5, 2) := by decide +kernel
theorem dX10_deals_124 : decode cX10_deals 124 = .ok (.iconst (-1), 1) := by decide +kernel
theorem dX10_deals_125 : decode cX10_deals 125 = .ok (.if_icmp .eq 30, 3) := by decide +kernel
theorem dX10_deals_128 : decode cX10_deals 128 = .ok (.aload_n 0, 1) := by decide +kernel
theorem dX10_deals_129 : decode cX10_deals 129 = .ok (.getfield 66, 3) := by decide +kernel
theorem dX10_deals_132 : decode cX10_deals 132 = .ok (.iload 5, 2) := by decide +kernel
theorem dX10_deals_134 : decode cX10_deals 134 = .ok (.dup2, 1) := by decide +kernel
theorem dX10_deals_135 : decode cX10_deals 135 = .ok (.iaload, 1) := by decide +kernel
theorem dX10_deals_136 : decode cX10_deals 136 = .ok (.iconst 1, 1) := by decide +kernel
theorem dX10_deals_137 : decode cX10_deals 137 = .ok (.iadd, 1) := by decide +kernel
theorem dX10_deals_138 : decode cX10_deals 138 = .ok (.iastore, 1) := by decide +kernel
theorem dX10_deals_139 : decode cX10_deals 139 = .ok (.iinc 3 (-1), 3) := by decide +kernel
theorem dX10_deals_142 : decode cX10_deals 142 = .ok (.aload_n 0, 1) := by decide +kernel
theorem dX10_deals_143 : decode cX10_deals 143 = .ok (.iload_n 1, 1) := by decide +kernel
theorem dX10_deals_144 : decode cX10_deals 144 = .ok (.iload_n 2, 1) := by decide +kernel
theorem dX10_deals_145 : decode cX10_deals 145 = .ok (.iload 4, 2) := by decide +kernel
theorem dX10_deals_147 : decode cX10_deals 147 = .ok (.invokevirtual 268, 3) := by decide +kernel
theorem dX10_deals_150 : decode cX10_deals 150 = .ok (.istore 5, 2) := by decide +kernel
theorem dX10_deals_152 : decode cX10_deals 152 = .ok (.goto (-34), 3) := by decide +kernel
theorem dX10_deals_155 : decode cX10_deals 155 = .ok (.iinc 4 1, 3) := by decide +kernel
theorem dX10_deals_158 : decode cX10_deals 158 = .ok (.goto (-56), 3) := by decide +kernel
theorem dX10_deals_161 : decode cX10_deals 161 = .ok (.return_, 1) := by decide +kernel
theorem ok_X10_deals : okY RX10 yX10_deals 2 := ⟨rfl, by decide, by decide, by decide +kernel⟩
def s_X10_deals_2_2 (p1 : Int32) : (Int32 × OV) → Option ((Int32 × OV) ⊕ (OV)) := un2 (fun v3_3 M_4 => (if p1 < v3_3 then some (.inr M_4) else gd (ix v3_3 40) (bnd (sA M_4 26 v3_3.toNatClampNeg (0 : Int32)) (fun M_5 => gd (ix v3_3 40) (bnd (sA M_5 27 v3_3.toNatClampNeg (0 : Int32)) (fun M_6 => bnd (v3_3 + 1) (fun v3_7 => some (.inl (v3_7, M_6)))))))))
def s_X10_deals_51_18 (p0 : Int32) (p1 : Int32) (v4_13 : Int32) : (Int32 × Int32 × OV) → Option ((Int32 × Int32 × OV) ⊕ (Int32 × OV)) := un3 (fun v3_19 v5_20 M_21 => (if v3_19 ≤ 0 then some (.inr (v3_19, M_21)) else (if v5_20 = (-1 : Int32) then some (.inr (v3_19, M_21)) else gd (ix v5_20 40) (gd (ix v5_20 40) (bnd (sA M_21 26 v5_20.toNatClampNeg ((ar M_21 26 v5_20.toNatClampNeg) + (1 : Int32))) (fun M_22 => bnd (v3_19 + (-1)) (fun v3_23 => (f_X10_leastTaken M_22 p0 p1 v4_13).bind (un1 (fun r_24 => bnd r_24 (fun v5_26 => some (.inl (v3_23, v5_26, M_22))))))))))))
def s_X10_deals_35_11 (p0 : Int32) (p1 : Int32) : (Int32 × Int32 × OV) → Option ((Int32 × Int32 × OV) ⊕ (OV)) := un3 (fun v3_12 v4_13 M_14 => (if (3 : Int32) < v4_13 then some (.inr M_14) else (f_X10_leastTaken M_14 p0 p1 v4_13).bind (un1 (fun r_15 => bnd r_15 (fun v5_17 => ((lp (s_X10_deals_51_18 p0 p1 v4_13) 5000 (v3_12, v5_17, M_14)).bind (un2 (fun v3_27 M_28 => bnd (v4_13 + 1) (fun v4_29 => some (.inl (v3_27, v4_29, M_28)))))))))))
def s_X10_deals_118_40 (p0 : Int32) (p1 : Int32) (v4_35 : Int32) : (Int32 × Int32 × OV) → Option ((Int32 × Int32 × OV) ⊕ (Int32 × OV)) := un3 (fun v3_41 v5_42 M_43 => (if v3_41 ≤ 0 then some (.inr (v3_41, M_43)) else (if v5_42 = (-1 : Int32) then some (.inr (v3_41, M_43)) else gd (ix v5_42 40) (gd (ix v5_42 40) (bnd (sA M_43 27 v5_42.toNatClampNeg ((ar M_43 27 v5_42.toNatClampNeg) + (1 : Int32))) (fun M_44 => bnd (v3_41 + (-1)) (fun v3_45 => (f_X10_leastPut M_44 p0 p1 v4_35).bind (un1 (fun r_46 => bnd r_46 (fun v5_48 => some (.inl (v3_45, v5_48, M_44))))))))))))
def s_X10_deals_102_33 (p0 : Int32) (p1 : Int32) : (Int32 × Int32 × OV) → Option ((Int32 × Int32 × OV) ⊕ (OV)) := un3 (fun v3_34 v4_35 M_36 => (if (3 : Int32) < v4_35 then some (.inr M_36) else (f_X10_leastPut M_36 p0 p1 v4_35).bind (un1 (fun r_37 => bnd r_37 (fun v5_39 => ((lp (s_X10_deals_118_40 p0 p1 v4_35) 5000 (v3_34, v5_39, M_36)).bind (un2 (fun v3_49 M_50 => bnd (v4_35 + 1) (fun v4_51 => some (.inl (v3_49, v4_51, M_50)))))))))))
def f_X10_deals (M : OV) (p0 : Int32) (p1 : Int32) : Option (OV) := bnd p0 (fun v3_1 => ((lp (s_X10_deals_2_2 p1) 5000 (v3_1, M)).bind (un1 (fun M_8 => bnd (iv M_8 15) (fun v3_9 => bnd (1 : Int32) (fun v4_10 => ((lp (s_X10_deals_35_11 p0 p1) 5000 (v3_9, v4_10, M_8)).bind (un1 (fun M_30 => bnd (iv M_30 16) (fun v3_31 => bnd (1 : Int32) (fun v4_32 => ((lp (s_X10_deals_102_33 p0 p1) 5000 (v3_31, v4_32, M_30)).bind (un1 (fun M_52 => some M_52))))))))))))))
def r_X10_deals : Room := { frames := 3, cells := 0, slots := 0, locals := 70 }
set_option maxHeartbeats 4000000 in
set_option maxRecDepth 100000 in
theorem c_X10_deals (l : Launch) (D : va_G) (ev : EvT) (cy : Nat → ClassId) (oM : Nat) (aM : Nat → Nat) (M : OV) (p0 : Int32) (p1 : Int32) (o : OV) (hf : f_X10_deals M p0 p1 = some o) : Fn l yX10_deals cX10_deals 6 none r_X10_deals D ev cy [.ref oM, .int p0, .int p1] [gX10 cy oM aM M] (fun v G => v = none ∧ G = [gX10 cy oM aM o]) := by
  refine Fn_of (by decide) (Nat.le_of_ble_eq_true rfl) (fun X A Q h hQ _ => ?_)
  unfold f_X10_deals at hf
  show ww X D A 6 Q 0 0 0 [(0, .ref oM), (1, .int p0), (2, .int p1)] [] [gX10 cy oM aM M]
  refine ww_iload_n h dX10_deals_0 rfl 1 rfl 1 rfl ?_
  refine ww_ist_n h dX10_deals_1 rfl (by decide) (fun v3_1 => [(3, .int v3_1), (0, .ref oM), (1, .int p0), (2, .int p1)]) (fun _ => rfl) 2 rfl (fun v3_1 e => ?_)
  replace hf := bnd_at e hf
  clear e
  refine ww_lo [1, 2, 3, 0] (lo' := [(0, .ref oM), (1, .int p0), (2, .int p1), (3, .int v3_1)]) rfl ?_
  obtain ⟨M_8, h2, hf⟩ := ob1 hf
  refine lp_walk (un2 (fun v3_3 M_4 => ww X D A 6 Q 0 0 2 [(0, .ref oM), (1, .int p0), (2, .int p1), (3, .int v3_3)] [] [gX10 cy oM aM M_4])) (un1 (fun M_8 => ww X D A 6 Q 0 0 27 [(0, .ref oM), (1, .int p0), (2, .int p1)] [] [gX10 cy oM aM M_8])) ?_ _ _ _ h2 ?_
  · clear h2 hf
    intro s2 o2 hf hI2 hE2
    obtain ⟨v3_3, M_4⟩ := s2
    unfold s_X10_deals_2_2 at hf
    replace hf := un2_e hf
    show ww X D A 6 Q 0 0 2 [(0, .ref oM), (1, .int p0), (2, .int p1), (3, .int v3_3)] [] [gX10 cy oM aM M_4]
    refine ww_iload_n h dX10_deals_2 rfl 3 rfl 3 rfl ?_
    refine ww_iload_n h dX10_deals_3 rfl 2 rfl 4 rfl ?_
    refine ww_icmp_gt h dX10_deals_4 27 (by decide) 7 rfl (fun c => ?_) (fun c => ?_)
    · replace hf := ite_t c hf
      refine ww_lo [0, 1, 2] (lo' := [(0, .ref oM), (1, .int p0), (2, .int p1)]) rfl ?_
      exact hE2 M_4 (Option.some.inj hf).symm
    · replace hf := ite_f c hf
      refine ww_aload_n h dX10_deals_7 rfl 0 rfl 8 rfl ?_
      refine ww_get h inG10 rfl 0 rfl rfl 26 (by decide) w_1183 rfl dX10_deals_8 11 rfl ?_
      refine ww_iload_n h dX10_deals_11 rfl 3 rfl 12 rfl ?_
      refine ww_iconst (v := 0) h dX10_deals_12 (by decide) 13 rfl ?_
      have hi := (gd_some hf).1
      replace hf := (gd_some hf).2
      refine ww_iast h 0 rfl 17 rfl (ix_in hi) dX10_deals_13 14 rfl ?_
      clear hi
      refine ww_nm (fun z => [gX10 cy oM aM z]) (sA M_4 26 v3_3.toNatClampNeg (0 : Int32)) (fun M_5 e => ?_)
      replace hf := bnd_at e hf
      clear e
      refine ww_aload_n h dX10_deals_14 rfl 0 rfl 15 rfl ?_
      refine ww_get h inG10 rfl 0 rfl rfl 27 (by decide) w_1184 rfl dX10_deals_15 18 rfl ?_
      refine ww_iload_n h dX10_deals_18 rfl 3 rfl 19 rfl ?_
      refine ww_iconst (v := 0) h dX10_deals_19 (by decide) 20 rfl ?_
      have hi := (gd_some hf).1
      replace hf := (gd_some hf).2
      refine ww_iast h 0 rfl 18 rfl (ix_in hi) dX10_deals_20 21 rfl ?_
      clear hi
      refine ww_nm (fun z => [gX10 cy oM aM z]) (sA M_5 27 v3_3.toNatClampNeg (0 : Int32)) (fun M_6 e => ?_)
      replace hf := bnd_at e hf
      clear e
      refine ww_inc (c := 1) h dX10_deals_21 3 rfl (by decide) (by decide) (fun v3_7 => [(3, .int v3_7), (0, .ref oM), (1, .int p0), (2, .int p1)]) (fun _ => rfl) 24 rfl (fun v3_7 e => ?_)
      replace hf := bnd_at e hf
      clear e
      refine ww_goto h dX10_deals_24 2 (by decide) ?_
      refine ww_lo [1, 2, 3, 0] (lo' := [(0, .ref oM), (1, .int p0), (2, .int p1), (3, .int v3_7)]) rfl ?_
      exact hI2 (v3_7, M_6) (Option.some.inj hf).symm
  · clear h2
    show ww X D A 6 Q 0 0 27 [(0, .ref oM), (1, .int p0), (2, .int p1)] [] [gX10 cy oM aM M_8]
    refine ww_aload_n h dX10_deals_27 rfl 0 rfl 28 rfl ?_
    refine ww_get h inG10 rfl 0 rfl rfl 15 (by decide) w_1172 rfl dX10_deals_28 31 rfl ?_
    refine ww_ist_n h dX10_deals_31 rfl (by decide) (fun v3_9 => [(3, .int v3_9), (0, .ref oM), (1, .int p0), (2, .int p1)]) (fun _ => rfl) 32 rfl (fun v3_9 e => ?_)
    replace hf := bnd_at e hf
    clear e
    refine ww_iconst (v := 1) h dX10_deals_32 (by decide) 33 rfl ?_
    refine ww_ist h dX10_deals_33 (by decide) (fun v4_10 => [(4, .int v4_10), (3, .int v3_9), (0, .ref oM), (1, .int p0), (2, .int p1)]) (fun _ => rfl) 35 rfl (fun v4_10 e => ?_)
    replace hf := bnd_at e hf
    clear e
    refine ww_lo [2, 3, 4, 1, 0] (lo' := [(0, .ref oM), (1, .int p0), (2, .int p1), (3, .int v3_9), (4, .int v4_10)]) rfl ?_
    obtain ⟨M_30, h11, hf⟩ := ob1 hf
    refine lp_walk (un3 (fun v3_12 v4_13 M_14 => ww X D A 6 Q 0 0 35 [(0, .ref oM), (1, .int p0), (2, .int p1), (3, .int v3_12), (4, .int v4_13)] [] [gX10 cy oM aM M_14])) (un1 (fun M_30 => ww X D A 6 Q 0 0 94 [(0, .ref oM), (1, .int p0), (2, .int p1)] [] [gX10 cy oM aM M_30])) ?_ _ _ _ h11 ?_
    · clear h11 hf
      intro s11 o11 hf hI11 hE11
      obtain ⟨v3_12, v4_13, M_14⟩ := s11
      unfold s_X10_deals_35_11 at hf
      replace hf := un3_e hf
      show ww X D A 6 Q 0 0 35 [(0, .ref oM), (1, .int p0), (2, .int p1), (3, .int v3_12), (4, .int v4_13)] [] [gX10 cy oM aM M_14]
      refine ww_iload h dX10_deals_35 4 rfl 37 rfl ?_
      refine ww_iconst (v := 3) h dX10_deals_37 (by decide) 38 rfl ?_
      refine ww_icmp_gt h dX10_deals_38 94 (by decide) 41 rfl (fun c => ?_) (fun c => ?_)
      · replace hf := ite_t c hf
        refine ww_lo [0, 1, 2] (lo' := [(0, .ref oM), (1, .int p0), (2, .int p1)]) rfl ?_
        exact hE11 M_14 (Option.some.inj hf).symm
      · replace hf := ite_f c hf
        refine ww_aload_n h dX10_deals_41 rfl 0 rfl 42 rfl ?_
        refine ww_iload_n h dX10_deals_42 rfl 1 rfl 43 rfl ?_
        refine ww_iload_n h dX10_deals_43 rfl 2 rfl 44 rfl ?_
        refine ww_iload h dX10_deals_44 4 rfl 46 rfl ?_
        obtain ⟨r_15, hu16, hf⟩ := ob1 hf
        refine ww_cVi h (c_X10_leastTaken l D ev cy oM aM M_14 p0 p1 v4_13 _ hu16) ⟨w_1557, w_1554, w_1556, w_68, w_111, ok_X10_leastTaken⟩ ⟨by decide, by decide⟩ ⟨by decide, by decide⟩ ⟨rfl, rfl⟩ [0] rfl 0 rfl rfl rfl rfl (Nat.le_of_ble_eq_true rfl) dX10_deals_46 49 rfl (Gs' := [gX10 cy oM aM M_14]) rfl ?_
        clear hu16
        refine ww_ist h dX10_deals_49 (by decide) (fun v5_17 => [(5, .int v5_17), (0, .ref oM), (1, .int p0), (2, .int p1), (3, .int v3_12), (4, .int v4_13)]) (fun _ => rfl) 51 rfl (fun v5_17 e => ?_)
        replace hf := bnd_at e hf
        clear e
        refine ww_lo [1, 2, 3, 4, 5, 0] (lo' := [(0, .ref oM), (1, .int p0), (2, .int p1), (3, .int v3_12), (4, .int v4_13), (5, .int v5_17)]) rfl ?_
        obtain ⟨v3_27, M_28, h18, hf⟩ := ob2 hf
        refine lp_walk (un3 (fun v3_19 v5_20 M_21 => ww X D A 6 Q 0 0 51 [(0, .ref oM), (1, .int p0), (2, .int p1), (3, .int v3_19), (4, .int v4_13), (5, .int v5_20)] [] [gX10 cy oM aM M_21])) (un2 (fun v3_27 M_28 => ww X D A 6 Q 0 0 88 [(0, .ref oM), (1, .int p0), (2, .int p1), (3, .int v3_27), (4, .int v4_13)] [] [gX10 cy oM aM M_28])) ?_ _ _ _ h18 ?_
        · clear h18 hf
          intro s18 o18 hf hI18 hE18
          obtain ⟨v3_19, v5_20, M_21⟩ := s18
          unfold s_X10_deals_51_18 at hf
          replace hf := un3_e hf
          show ww X D A 6 Q 0 0 51 [(0, .ref oM), (1, .int p0), (2, .int p1), (3, .int v3_19), (4, .int v4_13), (5, .int v5_20)] [] [gX10 cy oM aM M_21]
          refine ww_iload_n h dX10_deals_51 rfl 3 rfl 52 rfl ?_
          refine ww_if_le h dX10_deals_52 88 (by decide) 55 rfl (fun c => ?_) (fun c => ?_)
          · replace hf := ite_t c hf
            refine ww_lo [0, 1, 2, 3, 4] (lo' := [(0, .ref oM), (1, .int p0), (2, .int p1), (3, .int v3_19), (4, .int v4_13)]) rfl ?_
            exact hE18 (v3_19, M_21) (Option.some.inj hf).symm
          · replace hf := ite_f c hf
            refine ww_iload h dX10_deals_55 5 rfl 57 rfl ?_
            refine ww_iconst (v := (-1)) h dX10_deals_57 (by decide) 58 rfl ?_
            refine ww_icmp_eq h dX10_deals_58 88 (by decide) 61 rfl (fun c => ?_) (fun c => ?_)
            · replace hf := ite_t c hf
              refine ww_lo [0, 1, 2, 3, 4] (lo' := [(0, .ref oM), (1, .int p0), (2, .int p1), (3, .int v3_19), (4, .int v4_13)]) rfl ?_
              exact hE18 (v3_19, M_21) (Option.some.inj hf).symm
            · replace hf := ite_f c hf
              refine ww_aload_n h dX10_deals_61 rfl 0 rfl 62 rfl ?_
              refine ww_get h inG10 rfl 0 rfl rfl 26 (by decide) w_1183 rfl dX10_deals_62 65 rfl ?_
              refine ww_iload h dX10_deals_65 5 rfl 67 rfl ?_
              refine ww_dup2 h dX10_deals_67 rfl rfl 68 rfl ?_
              have hi := (gd_some hf).1
              replace hf := (gd_some hf).2
              refine ww_iald h 0 rfl 17 rfl (ix_in hi) dX10_deals_68 69 rfl ?_
              clear hi
              refine ww_iconst (v := 1) h dX10_deals_69 (by decide) 70 rfl ?_
              refine ww_iadd h dX10_deals_70 71 rfl ?_
              have hi := (gd_some hf).1
              replace hf := (gd_some hf).2
              refine ww_iast h 0 rfl 17 rfl (ix_in hi) dX10_deals_71 72 rfl ?_
              clear hi
              refine ww_nm (fun z => [gX10 cy oM aM z]) (sA M_21 26 v5_20.toNatClampNeg ((ar M_21 26 v5_20.toNatClampNeg) + (1 : Int32))) (fun M_22 e => ?_)
              replace hf := bnd_at e hf
              clear e
              refine ww_inc (c := (-1)) h dX10_deals_72 3 rfl (by decide) (by decide) (fun v3_23 => [(3, .int v3_23), (0, .ref oM), (1, .int p0), (2, .int p1), (4, .int v4_13), (5, .int v5_20)]) (fun _ => rfl) 75 rfl (fun v3_23 e => ?_)
              replace hf := bnd_at e hf
              clear e
              refine ww_aload_n h dX10_deals_75 rfl 1 rfl 76 rfl ?_
              refine ww_iload_n h dX10_deals_76 rfl 2 rfl 77 rfl ?_
              refine ww_iload_n h dX10_deals_77 rfl 3 rfl 78 rfl ?_
              refine ww_iload h dX10_deals_78 4 rfl 80 rfl ?_
              obtain ⟨r_24, hu25, hf⟩ := ob1 hf
              refine ww_cVi h (c_X10_leastTaken l D ev cy oM aM M_22 p0 p1 v4_13 _ hu25) ⟨w_1557, w_1554, w_1556, w_68, w_111, ok_X10_leastTaken⟩ ⟨by decide, by decide⟩ ⟨by decide, by decide⟩ ⟨rfl, rfl⟩ [0] rfl 0 rfl rfl rfl rfl (Nat.le_of_ble_eq_true rfl) dX10_deals_80 83 rfl (Gs' := [gX10 cy oM aM M_22]) rfl ?_
              clear hu25
              refine ww_ist h dX10_deals_83 (by decide) (fun v5_26 => [(5, .int v5_26), (3, .int v3_23), (0, .ref oM), (1, .int p0), (2, .int p1), (4, .int v4_13)]) (fun _ => rfl) 85 rfl (fun v5_26 e => ?_)
              replace hf := bnd_at e hf
              clear e
              refine ww_goto h dX10_deals_85 51 (by decide) ?_
              refine ww_lo [2, 3, 4, 1, 5, 0] (lo' := [(0, .ref oM), (1, .int p0), (2, .int p1), (3, .int v3_23), (4, .int v4_13), (5, .int v5_26)]) rfl ?_
              exact hI18 (v3_23, v5_26, M_22) (Option.some.inj hf).symm
        · clear h18
          show ww X D A 6 Q 0 0 88 [(0, .ref oM), (1, .int p0), (2, .int p1), (3, .int v3_27), (4, .int v4_13)] [] [gX10 cy oM aM M_28]
          refine ww_inc (c := 1) h dX10_deals_88 4 rfl (by decide) (by decide) (fun v4_29 => [(4, .int v4_29), (0, .ref oM), (1, .int p0), (2, .int p1), (3, .int v3_27)]) (fun _ => rfl) 91 rfl (fun v4_29 e => ?_)
          replace hf := bnd_at e hf
          clear e
          refine ww_goto h dX10_deals_91 35 (by decide) ?_
          refine ww_lo [1, 2, 3, 4, 0] (lo' := [(0, .ref oM), (1, .int p0), (2, .int p1), (3, .int v3_27), (4, .int v4_29)]) rfl ?_
          exact hI11 (v3_27, v4_29, M_28) (Option.some.inj hf).symm
    · clear h11
      show ww X D A 6 Q 0 0 94 [(0, .ref oM), (1, .int p0), (2, .int p1)] [] [gX10 cy oM aM M_30]
      refine ww_aload_n h dX10_deals_94 rfl 0 rfl 95 rfl ?_
      refine ww_get h inG10 rfl 0 rfl rfl 16 (by decide) w_1173 rfl dX10_deals_95 98 rfl ?_
      refine ww_ist_n h dX10_deals_98 rfl (by decide) (fun v3_31 => [(3, .int v3_31), (0, .ref oM), (1, .int p0), (2, .int p1)]) (fun _ => rfl) 99 rfl (fun v3_31 e => ?_)
      replace hf := bnd_at e hf
      clear e
      refine ww_iconst (v := 1) h dX10_deals_99 (by decide) 100 rfl ?_
      refine ww_ist h dX10_deals_100 (by decide) (fun v4_32 => [(4, .int v4_32), (3, .int v3_31), (0, .ref oM), (1, .int p0), (2, .int p1)]) (fun _ => rfl) 102 rfl (fun v4_32 e => ?_)
      replace hf := bnd_at e hf
      clear e
      refine ww_lo [2, 3, 4, 1, 0] (lo' := [(0, .ref oM), (1, .int p0), (2, .int p1), (3, .int v3_31), (4, .int v4_32)]) rfl ?_
      obtain ⟨M_52, h33, hf⟩ := ob1 hf
      refine lp_walk (un3 (fun v3_34 v4_35 M_36 => ww X D A 6 Q 0 0 102 [(0, .ref oM), (1, .int p0), (2, .int p1), (3, .int v3_34), (4, .int v4_35)] [] [gX10 cy oM aM M_36])) (un1 (fun M_52 => ww X D A 6 Q 0 0 161 [] [] [gX10 cy oM aM M_52])) ?_ _ _ _ h33 ?_
      · clear h33 hf
        intro s33 o33 hf hI33 hE33
        obtain ⟨v3_34, v4_35, M_36⟩ := s33
        unfold s_X10_deals_102_33 at hf
        replace hf := un3_e hf
        show ww X D A 6 Q 0 0 102 [(0, .ref oM), (1, .int p0), (2, .int p1), (3, .int v3_34), (4, .int v4_35)] [] [gX10 cy oM aM M_36]
        refine ww_iload h dX10_deals_102 4 rfl 104 rfl ?_
        refine ww_iconst (v := 3) h dX10_deals_104 (by decide) 105 rfl ?_
        refine ww_icmp_gt h dX10_deals_105 161 (by decide) 108 rfl (fun c => ?_) (fun c => ?_)
        · replace hf := ite_t c hf
          refine ww_lo [] (lo' := []) rfl ?_
          exact hE33 M_36 (Option.some.inj hf).symm
        · replace hf := ite_f c hf
          refine ww_aload_n h dX10_deals_108 rfl 0 rfl 109 rfl ?_
          refine ww_iload_n h dX10_deals_109 rfl 1 rfl 110 rfl ?_
          refine ww_iload_n h dX10_deals_110 rfl 2 rfl 111 rfl ?_
          refine ww_iload h dX10_deals_111 4 rfl 113 rfl ?_
          obtain ⟨r_37, hu38, hf⟩ := ob1 hf
          refine ww_cVi h (c_X10_leastPut l D ev cy oM aM M_36 p0 p1 v4_35 _ hu38) ⟨w_1561, w_1558, w_1560, w_69, w_111, ok_X10_leastPut⟩ ⟨by decide, by decide⟩ ⟨by decide, by decide⟩ ⟨rfl, rfl⟩ [0] rfl 0 rfl rfl rfl rfl (Nat.le_of_ble_eq_true rfl) dX10_deals_113 116 rfl (Gs' := [gX10 cy oM aM M_36]) rfl ?_
          clear hu38
          refine ww_ist h dX10_deals_116 (by decide) (fun v5_39 => [(5, .int v5_39), (0, .ref oM), (1, .int p0), (2, .int p1), (3, .int v3_34), (4, .int v4_35)]) (fun _ => rfl) 118 rfl (fun v5_39 e => ?_)
          replace hf := bnd_at e hf
          clear e
          refine ww_lo [1, 2, 3, 4, 5, 0] (lo' := [(0, .ref oM), (1, .int p0), (2, .int p1), (3, .int v3_34), (4, .int v4_35), (5, .int v5_39)]) rfl ?_
          obtain ⟨v3_49, M_50, h40, hf⟩ := ob2 hf
          refine lp_walk (un3 (fun v3_41 v5_42 M_43 => ww X D A 6 Q 0 0 118 [(0, .ref oM), (1, .int p0), (2, .int p1), (3, .int v3_41), (4, .int v4_35), (5, .int v5_42)] [] [gX10 cy oM aM M_43])) (un2 (fun v3_49 M_50 => ww X D A 6 Q 0 0 155 [(0, .ref oM), (1, .int p0), (2, .int p1), (3, .int v3_49), (4, .int v4_35)] [] [gX10 cy oM aM M_50])) ?_ _ _ _ h40 ?_
          · clear h40 hf
            intro s40 o40 hf hI40 hE40
            obtain ⟨v3_41, v5_42, M_43⟩ := s40
            unfold s_X10_deals_118_40 at hf
            replace hf := un3_e hf
            show ww X D A 6 Q 0 0 118 [(0, .ref oM), (1, .int p0), (2, .int p1), (3, .int v3_41), (4, .int v4_35), (5, .int v5_42)] [] [gX10 cy oM aM M_43]
            refine ww_iload_n h dX10_deals_118 rfl 3 rfl 119 rfl ?_
            refine ww_if_le h dX10_deals_119 155 (by decide) 122 rfl (fun c => ?_) (fun c => ?_)
            · replace hf := ite_t c hf
              refine ww_lo [0, 1, 2, 3, 4] (lo' := [(0, .ref oM), (1, .int p0), (2, .int p1), (3, .int v3_41), (4, .int v4_35)]) rfl ?_
              exact hE40 (v3_41, M_43) (Option.some.inj hf).symm
            · replace hf := ite_f c hf
              refine ww_iload h dX10_deals_122 5 rfl 124 rfl ?_
              refine ww_iconst (v := (-1)) h dX10_deals_124 (by decide) 125 rfl ?_
              refine ww_icmp_eq h dX10_deals_125 155 (by decide) 128 rfl (fun c => ?_) (fun c => ?_)
              · replace hf := ite_t c hf
                refine ww_lo [0, 1, 2, 3, 4] (lo' := [(0, .ref oM), (1, .int p0), (2, .int p1), (3, .int v3_41), (4, .int v4_35)]) rfl ?_
                exact hE40 (v3_41, M_43) (Option.some.inj hf).symm
              · replace hf := ite_f c hf
                refine ww_aload_n h dX10_deals_128 rfl 0 rfl 129 rfl ?_
                refine ww_get h inG10 rfl 0 rfl rfl 27 (by decide) w_1184 rfl dX10_deals_129 132 rfl ?_
                refine ww_iload h dX10_deals_132 5 rfl 134 rfl ?_
                refine ww_dup2 h dX10_deals_134 rfl rfl 135 rfl ?_
                have hi := (gd_some hf).1
                replace hf := (gd_some hf).2
                refine ww_iald h 0 rfl 18 rfl (ix_in hi) dX10_deals_135 136 rfl ?_
                clear hi
                refine ww_iconst (v := 1) h dX10_deals_136 (by decide) 137 rfl ?_
                refine ww_iadd h dX10_deals_137 138 rfl ?_
                have hi := (gd_some hf).1
                replace hf := (gd_some hf).2
                refine ww_iast h 0 rfl 18 rfl (ix_in hi) dX10_deals_138 139 rfl ?_
                clear hi
                refine ww_nm (fun z => [gX10 cy oM aM z]) (sA M_43 27 v5_42.toNatClampNeg ((ar M_43 27 v5_42.toNatClampNeg) + (1 : Int32))) (fun M_44 e => ?_)
                replace hf := bnd_at e hf
                clear e
                refine ww_inc (c := (-1)) h dX10_deals_139 3 rfl (by decide) (by decide) (fun v3_45 => [(3, .int v3_45), (0, .ref oM), (1, .int p0), (2, .int p1), (4, .int v4_35), (5, .int v5_42)]) (fun _ => rfl) 142 rfl (fun v3_45 e => ?_)
                replace hf := bnd_at e hf
                clear e
                refine ww_aload_n h dX10_deals_142 rfl 1 rfl 143 rfl ?_
                refine ww_iload_n h dX10_deals_143 rfl 2 rfl 144 rfl ?_
                refine ww_iload_n h dX10_deals_144 rfl 3 rfl 145 rfl ?_
                refine ww_iload h dX10_deals_145 4 rfl 147 rfl ?_
                obtain ⟨r_46, hu47, hf⟩ := ob1 hf
                refine ww_cVi h (c_X10_leastPut l D ev cy oM aM M_44 p0 p1 v4_35 _ hu47) ⟨w_1561, w_1558, w_1560, w_69, w_111, ok_X10_leastPut⟩ ⟨by decide, by decide⟩ ⟨by decide, by decide⟩ ⟨rfl, rfl⟩ [0] rfl 0 rfl rfl rfl rfl (Nat.le_of_ble_eq_true rfl) dX10_deals_147 150 rfl (Gs' := [gX10 cy oM aM M_44]) rfl ?_
                clear hu47
                refine ww_ist h dX10_deals_150 (by decide) (fun v5_48 => [(5, .int v5_48), (3, .int v3_45), (0, .ref oM), (1, .int p0), (2, .int p1), (4, .int v4_35)]) (fun _ => rfl) 152 rfl (fun v5_48 e => ?_)
                replace hf := bnd_at e hf
                clear e
                refine ww_goto h dX10_deals_152 118 (by decide) ?_
                refine ww_lo [2, 3, 4, 1, 5, 0] (lo' := [(0, .ref oM), (1, .int p0), (2, .int p1), (3, .int v3_45), (4, .int v4_35), (5, .int v5_48)]) rfl ?_
                exact hI40 (v3_45, v5_48, M_44) (Option.some.inj hf).symm
          · clear h40
            show ww X D A 6 Q 0 0 155 [(0, .ref oM), (1, .int p0), (2, .int p1), (3, .int v3_49), (4, .int v4_35)] [] [gX10 cy oM aM M_50]
            refine ww_inc (c := 1) h dX10_deals_155 4 rfl (by decide) (by decide) (fun v4_51 => [(4, .int v4_51), (0, .ref oM), (1, .int p0), (2, .int p1), (3, .int v3_49)]) (fun _ => rfl) 158 rfl (fun v4_51 e => ?_)
            replace hf := bnd_at e hf
            clear e
            refine ww_goto h dX10_deals_158 102 (by decide) ?_
            refine ww_lo [1, 2, 3, 4, 0] (lo' := [(0, .ref oM), (1, .int p0), (2, .int p1), (3, .int v3_49), (4, .int v4_51)]) rfl ?_
            exact hI33 (v3_49, v4_51, M_50) (Option.some.inj hf).symm
      · clear h33
        show ww X D A 6 Q 0 0 161 [] [] [gX10 cy oM aM M_52]
        obtain rfl := Option.some.inj hf
        exact ww_vret h dX10_deals_161 hQ ⟨rfl, rfl⟩
theorem dX10_natural_0 : decode cX10_natural 0 = .ok (.aload_n 0, 1) := by decide +kernel
theorem dX10_natural_1 : decode cX10_natural 1 = .ok (.iload_n 1, 1) := by decide +kernel
theorem dX10_natural_2 : decode cX10_natural 2 = .ok (.invokevirtual 161, 3) := by decide +kernel
theorem dX10_natural_5 : decode cX10_natural 5 = .ok (.ifCond .eq 16, 3) := by decide +kernel
theorem dX10_natural_8 : decode cX10_natural 8 = .ok (.aload_n 0, 1) := by decide +kernel
theorem dX10_natural_9 : decode cX10_natural 9 = .ok (.iload_n 2, 1) := by decide +kernel
theorem dX10_natural_10 : decode cX10_natural 10 = .ok (.invokevirtual 161, 3) := by decide +kernel
theorem dX10_natural_13 : decode cX10_natural 13 = .ok (.ifCond .eq 8, 3) := by decide +kernel
theorem dX10_natural_16 : decode cX10_natural 16 = .ok (.iload_n 2, 1) := by decide +kernel
theorem dX10_natural_17 : decode cX10_natural 17 = .ok (.iload_n 1, 1) := by decide +kernel
theorem dX10_natural_18 : decode cX10_natural 18 = .ok (.if_icmp .ge 5, 3) := by decide +kernel
theorem dX10_natural_21 : decode cX10_natural 21 = .ok (.iconst (-1), 1) := by decide +kernel
theorem dX10_natural_22 : decode cX10_natural 22 = .ok (.ireturn, 1) := by decide +kernel
theorem dX10_natural_23 : decode cX10_natural 23 = .ok (.aload_n 0, 1) := by decide +kernel
theorem dX10_natural_24 : decode cX10_natural 24 = .ok (.iload_n 1, 1) := by decide +kernel
theorem dX10_natural_25 : decode cX10_natural 25 = .ok (.iload_n 2, 1) := by decide +kernel
theorem dX10_natural_26 : decode cX10_natural 26 = .ok (.invokevirtual 231, 3) := by decide +kernel
theorem dX10_natural_29 : decode cX10_natural 29 = .ok (.aload_n 0, 1) := by decide +kernel
theorem dX10_natural_30 : decode cX10_natural 30 = .ok (.getfield 192, 3) := by decide +kernel
theorem dX10_natural_33 : decode cX10_natural 33 = .ok (.ireturn, 1) := by decide +kernel
theorem ok_X10_natural : okY RX10 yX10_natural 2 := ⟨rfl, by decide, by decide, by decide +kernel⟩
def f_X10_natural (M : OV) (p0 : Int32) (p1 : Int32) : Option (Int32 × OV) := (f_X10_isSign M p0).bind (un1 (fun r_1 => (if r_1 = 0 then some ((-1 : Int32), M) else (f_X10_isSign M p1).bind (un1 (fun r_3 => (if r_3 = 0 then some ((-1 : Int32), M) else (if p0 ≤ p1 then (f_X10_looks M p0 p1).bind (un1 (fun M_5 => some ((iv M_5 12), M_5))) else some ((-1 : Int32), M))))))))
def r_X10_natural : Room := { frames := 4, cells := 0, slots := 0, locals := 97 }
set_option maxHeartbeats 4000000 in
set_option maxRecDepth 100000 in
theorem c_X10_natural (l : Launch) (D : va_G) (ev : EvT) (cy : Nat → ClassId) (oM : Nat) (aM : Nat → Nat) (M : OV) (p0 : Int32) (p1 : Int32) (o : Int32 × OV) (hf : f_X10_natural M p0 p1 = some o) : Fn l yX10_natural cX10_natural 3 (some .int) r_X10_natural D ev cy [.ref oM, .int p0, .int p1] [gX10 cy oM aM M] (fun v G => v = some (.int o.1) ∧ G = [gX10 cy oM aM o.2]) := by
  refine Fn_of (by decide) (Nat.le_of_ble_eq_true rfl) (fun X A Q h hQ _ => ?_)
  unfold f_X10_natural at hf
  show ww X D A 3 Q 0 0 0 [(0, .ref oM), (1, .int p0), (2, .int p1)] [] [gX10 cy oM aM M]
  refine ww_aload_n h dX10_natural_0 rfl 0 rfl 1 rfl ?_
  refine ww_iload_n h dX10_natural_1 rfl 1 rfl 2 rfl ?_
  obtain ⟨r_1, hu2, hf⟩ := ob1 hf
  refine ww_cVi h (c_X10_isSign l D ev cy oM aM M p0 _ hu2) ⟨w_1357, w_1354, w_1356, w_42, w_111, ok_X10_isSign⟩ ⟨by decide, by decide⟩ ⟨by decide, by decide⟩ ⟨rfl, rfl⟩ [0] rfl 0 rfl rfl rfl rfl (Nat.le_of_ble_eq_true rfl) dX10_natural_2 5 rfl (Gs' := [gX10 cy oM aM M]) rfl ?_
  clear hu2
  refine ww_if_eq h dX10_natural_5 21 (by decide) 8 rfl (fun c => ?_) (fun c => ?_)
  · replace hf := ite_t c hf
    refine ww_iconst (v := (-1)) h dX10_natural_21 (by decide) 22 rfl ?_
    obtain rfl := Option.some.inj hf
    exact ww_iret h dX10_natural_22 hQ ⟨rfl, rfl⟩
  · replace hf := ite_f c hf
    refine ww_aload_n h dX10_natural_8 rfl 0 rfl 9 rfl ?_
    refine ww_iload_n h dX10_natural_9 rfl 2 rfl 10 rfl ?_
    obtain ⟨r_3, hu4, hf⟩ := ob1 hf
    refine ww_cVi h (c_X10_isSign l D ev cy oM aM M p1 _ hu4) ⟨w_1357, w_1354, w_1356, w_42, w_111, ok_X10_isSign⟩ ⟨by decide, by decide⟩ ⟨by decide, by decide⟩ ⟨rfl, rfl⟩ [0] rfl 0 rfl rfl rfl rfl (Nat.le_of_ble_eq_true rfl) dX10_natural_10 13 rfl (Gs' := [gX10 cy oM aM M]) rfl ?_
    clear hu4
    refine ww_if_eq h dX10_natural_13 21 (by decide) 16 rfl (fun c => ?_) (fun c => ?_)
    · replace hf := ite_t c hf
      refine ww_iconst (v := (-1)) h dX10_natural_21 (by decide) 22 rfl ?_
      obtain rfl := Option.some.inj hf
      exact ww_iret h dX10_natural_22 hQ ⟨rfl, rfl⟩
    · replace hf := ite_f c hf
      refine ww_iload_n h dX10_natural_16 rfl 2 rfl 17 rfl ?_
      refine ww_iload_n h dX10_natural_17 rfl 1 rfl 18 rfl ?_
      refine ww_icmp_ge h dX10_natural_18 23 (by decide) 21 rfl (fun c => ?_) (fun c => ?_)
      · replace hf := ite_t c hf
        refine ww_aload_n h dX10_natural_23 rfl 0 rfl 24 rfl ?_
        refine ww_iload_n h dX10_natural_24 rfl 1 rfl 25 rfl ?_
        refine ww_iload_n h dX10_natural_25 rfl 2 rfl 26 rfl ?_
        obtain ⟨M_5, hu6, hf⟩ := ob1 hf
        refine ww_cVv h (c_X10_looks l D ev cy oM aM M p0 p1 _ hu6) ⟨w_1469, w_1466, w_1468, w_52, w_111, ok_X10_looks⟩ ⟨by decide, by decide⟩ ⟨by decide, by decide⟩ ⟨rfl, rfl⟩ [0] rfl 0 rfl rfl rfl rfl (Nat.le_of_ble_eq_true rfl) dX10_natural_26 29 rfl (Gs' := [gX10 cy oM aM M_5]) rfl ?_
        clear hu6
        refine ww_aload_n h dX10_natural_29 rfl 0 rfl 30 rfl ?_
        refine ww_get h inG10 rfl 0 rfl rfl 12 (by decide) w_1169 rfl dX10_natural_30 33 rfl ?_
        obtain rfl := Option.some.inj hf
        exact ww_iret h dX10_natural_33 hQ ⟨rfl, rfl⟩
      · replace hf := ite_f c hf
        refine ww_iconst (v := (-1)) h dX10_natural_21 (by decide) 22 rfl ?_
        obtain rfl := Option.some.inj hf
        exact ww_iret h dX10_natural_22 hQ ⟨rfl, rfl⟩
theorem dX10_cost_0 : decode cX10_cost 0 = .ok (.aload_n 0, 1) := by decide +kernel
theorem dX10_cost_1 : decode cX10_cost 1 = .ok (.iload_n 1, 1) := by decide +kernel
theorem dX10_cost_2 : decode cX10_cost 2 = .ok (.invokevirtual 161, 3) := by decide +kernel
theorem dX10_cost_5 : decode cX10_cost 5 = .ok (.ifCond .eq 16, 3) := by decide +kernel
theorem dX10_cost_8 : decode cX10_cost 8 = .ok (.aload_n 0, 1) := by decide +kernel
theorem dX10_cost_9 : decode cX10_cost 9 = .ok (.iload_n 2, 1) := by decide +kernel
theorem dX10_cost_10 : decode cX10_cost 10 = .ok (.invokevirtual 161, 3) := by decide +kernel
theorem dX10_cost_13 : decode cX10_cost 13 = .ok (.ifCond .eq 8, 3) := by decide +kernel
theorem dX10_cost_16 : decode cX10_cost 16 = .ok (.iload_n 2, 1) := by decide +kernel
theorem dX10_cost_17 : decode cX10_cost 17 = .ok (.iload_n 1, 1) := by decide +kernel
theorem dX10_cost_18 : decode cX10_cost 18 = .ok (.if_icmp .ge 5, 3) := by decide +kernel
theorem dX10_cost_21 : decode cX10_cost 21 = .ok (.iconst (-1), 1) := by decide +kernel
theorem dX10_cost_22 : decode cX10_cost 22 = .ok (.ireturn, 1) := by decide +kernel
theorem dX10_cost_23 : decode cX10_cost 23 = .ok (.aload_n 0, 1) := by decide +kernel
theorem dX10_cost_24 : decode cX10_cost 24 = .ok (.iload_n 1, 1) := by decide +kernel
theorem dX10_cost_25 : decode cX10_cost 25 = .ok (.iload_n 2, 1) := by decide +kernel
theorem dX10_cost_26 : decode cX10_cost 26 = .ok (.invokevirtual 231, 3) := by decide +kernel
theorem dX10_cost_29 : decode cX10_cost 29 = .ok (.aload_n 0, 1) := by decide +kernel
theorem dX10_cost_30 : decode cX10_cost 30 = .ok (.getfield 211, 3) := by decide +kernel
theorem dX10_cost_33 : decode cX10_cost 33 = .ok (.ifCond .eq 8, 3) := by decide +kernel
theorem dX10_cost_36 : decode cX10_cost 36 = .ok (.bipush (-2), 2) := by decide +kernel
theorem dX10_cost_38 : decode cX10_cost 38 = .ok (.goto 7, 3) := by decide +kernel
theorem dX10_cost_41 : decode cX10_cost 41 = .ok (.aload_n 0, 1) := by decide +kernel
theorem dX10_cost_42 : decode cX10_cost 42 = .ok (.getfield 208, 3) := by decide +kernel
theorem dX10_cost_45 : decode cX10_cost 45 = .ok (.ireturn, 1) := by decide +kernel
theorem ok_X10_cost : okY RX10 yX10_cost 2 := ⟨rfl, by decide, by decide, by decide +kernel⟩
def f_X10_cost (M : OV) (p0 : Int32) (p1 : Int32) : Option (Int32 × OV) := (f_X10_isSign M p0).bind (un1 (fun r_1 => (if r_1 = 0 then some ((-1 : Int32), M) else (f_X10_isSign M p1).bind (un1 (fun r_3 => (if r_3 = 0 then some ((-1 : Int32), M) else (if p0 ≤ p1 then (f_X10_looks M p0 p1).bind (un1 (fun M_5 => (if (iv M_5 14) = 0 then some ((iv M_5 18), M_5) else some ((-2 : Int32), M_5)))) else some ((-1 : Int32), M))))))))
def r_X10_cost : Room := { frames := 4, cells := 0, slots := 0, locals := 97 }
set_option maxHeartbeats 4000000 in
set_option maxRecDepth 100000 in
theorem c_X10_cost (l : Launch) (D : va_G) (ev : EvT) (cy : Nat → ClassId) (oM : Nat) (aM : Nat → Nat) (M : OV) (p0 : Int32) (p1 : Int32) (o : Int32 × OV) (hf : f_X10_cost M p0 p1 = some o) : Fn l yX10_cost cX10_cost 3 (some .int) r_X10_cost D ev cy [.ref oM, .int p0, .int p1] [gX10 cy oM aM M] (fun v G => v = some (.int o.1) ∧ G = [gX10 cy oM aM o.2]) := by
  refine Fn_of (by decide) (Nat.le_of_ble_eq_true rfl) (fun X A Q h hQ _ => ?_)
  unfold f_X10_cost at hf
  show ww X D A 3 Q 0 0 0 [(0, .ref oM), (1, .int p0), (2, .int p1)] [] [gX10 cy oM aM M]
  refine ww_aload_n h dX10_cost_0 rfl 0 rfl 1 rfl ?_
  refine ww_iload_n h dX10_cost_1 rfl 1 rfl 2 rfl ?_
  obtain ⟨r_1, hu2, hf⟩ := ob1 hf
  refine ww_cVi h (c_X10_isSign l D ev cy oM aM M p0 _ hu2) ⟨w_1357, w_1354, w_1356, w_42, w_111, ok_X10_isSign⟩ ⟨by decide, by decide⟩ ⟨by decide, by decide⟩ ⟨rfl, rfl⟩ [0] rfl 0 rfl rfl rfl rfl (Nat.le_of_ble_eq_true rfl) dX10_cost_2 5 rfl (Gs' := [gX10 cy oM aM M]) rfl ?_
  clear hu2
  refine ww_if_eq h dX10_cost_5 21 (by decide) 8 rfl (fun c => ?_) (fun c => ?_)
  · replace hf := ite_t c hf
    refine ww_iconst (v := (-1)) h dX10_cost_21 (by decide) 22 rfl ?_
    obtain rfl := Option.some.inj hf
    exact ww_iret h dX10_cost_22 hQ ⟨rfl, rfl⟩
  · replace hf := ite_f c hf
    refine ww_aload_n h dX10_cost_8 rfl 0 rfl 9 rfl ?_
    refine ww_iload_n h dX10_cost_9 rfl 2 rfl 10 rfl ?_
    obtain ⟨r_3, hu4, hf⟩ := ob1 hf
    refine ww_cVi h (c_X10_isSign l D ev cy oM aM M p1 _ hu4) ⟨w_1357, w_1354, w_1356, w_42, w_111, ok_X10_isSign⟩ ⟨by decide, by decide⟩ ⟨by decide, by decide⟩ ⟨rfl, rfl⟩ [0] rfl 0 rfl rfl rfl rfl (Nat.le_of_ble_eq_true rfl) dX10_cost_10 13 rfl (Gs' := [gX10 cy oM aM M]) rfl ?_
    clear hu4
    refine ww_if_eq h dX10_cost_13 21 (by decide) 16 rfl (fun c => ?_) (fun c => ?_)
    · replace hf := ite_t c hf
      refine ww_iconst (v := (-1)) h dX10_cost_21 (by decide) 22 rfl ?_
      obtain rfl := Option.some.inj hf
      exact ww_iret h dX10_cost_22 hQ ⟨rfl, rfl⟩
    · replace hf := ite_f c hf
      refine ww_iload_n h dX10_cost_16 rfl 2 rfl 17 rfl ?_
      refine ww_iload_n h dX10_cost_17 rfl 1 rfl 18 rfl ?_
      refine ww_icmp_ge h dX10_cost_18 23 (by decide) 21 rfl (fun c => ?_) (fun c => ?_)
      · replace hf := ite_t c hf
        refine ww_aload_n h dX10_cost_23 rfl 0 rfl 24 rfl ?_
        refine ww_iload_n h dX10_cost_24 rfl 1 rfl 25 rfl ?_
        refine ww_iload_n h dX10_cost_25 rfl 2 rfl 26 rfl ?_
        obtain ⟨M_5, hu6, hf⟩ := ob1 hf
        refine ww_cVv h (c_X10_looks l D ev cy oM aM M p0 p1 _ hu6) ⟨w_1469, w_1466, w_1468, w_52, w_111, ok_X10_looks⟩ ⟨by decide, by decide⟩ ⟨by decide, by decide⟩ ⟨rfl, rfl⟩ [0] rfl 0 rfl rfl rfl rfl (Nat.le_of_ble_eq_true rfl) dX10_cost_26 29 rfl (Gs' := [gX10 cy oM aM M_5]) rfl ?_
        clear hu6
        refine ww_aload_n h dX10_cost_29 rfl 0 rfl 30 rfl ?_
        refine ww_get h inG10 rfl 0 rfl rfl 14 (by decide) w_1171 rfl dX10_cost_30 33 rfl ?_
        refine ww_if_eq h dX10_cost_33 41 (by decide) 36 rfl (fun c => ?_) (fun c => ?_)
        · replace hf := ite_t c hf
          refine ww_aload_n h dX10_cost_41 rfl 0 rfl 42 rfl ?_
          refine ww_get h inG10 rfl 0 rfl rfl 18 (by decide) w_1175 rfl dX10_cost_42 45 rfl ?_
          obtain rfl := Option.some.inj hf
          exact ww_iret h dX10_cost_45 hQ ⟨rfl, rfl⟩
        · replace hf := ite_f c hf
          refine ww_bipush (v := (-2)) h dX10_cost_36 (by decide) 38 rfl ?_
          refine ww_goto h dX10_cost_38 45 (by decide) ?_
          obtain rfl := Option.some.inj hf
          exact ww_iret h dX10_cost_45 hQ ⟨rfl, rfl⟩
      · replace hf := ite_f c hf
        refine ww_iconst (v := (-1)) h dX10_cost_21 (by decide) 22 rfl ?_
        obtain rfl := Option.some.inj hf
        exact ww_iret h dX10_cost_22 hQ ⟨rfl, rfl⟩
theorem dX10_lines_0 : decode cX10_lines 0 = .ok (.iload_n 1, 1) := by decide +kernel
theorem dX10_lines_1 : decode cX10_lines 1 = .ok (.invokestatic 255, 3) := by decide +kernel
theorem dX10_lines_4 : decode cX10_lines 4 = .ok (.ifCond .eq 13, 3) := by decide +kernel
theorem dX10_lines_7 : decode cX10_lines 7 = .ok (.iload_n 2, 1) := by decide +kernel
theorem dX10_lines_8 : decode cX10_lines 8 = .ok (.iconst 0, 1) := by decide +kernel
theorem dX10_lines_9 : decode cX10_lines 9 = .ok (.bipush 8, 2) := by decide +kernel
theorem dX10_lines_11 : decode cX10_lines 11 = .ok (.invokestatic 125, 3) := by decide +kernel
theorem dX10_lines_14 : decode cX10_lines 14 = .ok (.ifCond .ne 5, 3) := by decide +kernel
theorem dX10_lines_17 : decode cX10_lines 17 = .ok (.iconst (-1), 1) := by decide +kernel
theorem dX10_lines_18 : decode cX10_lines 18 = .ok (.ireturn, 1) := by decide +kernel
theorem dX10_lines_19 : decode cX10_lines 19 = .ok (.aload_n 0, 1) := by decide +kernel
theorem dX10_lines_20 : decode cX10_lines 20 = .ok (.iload_n 1, 1) := by decide +kernel
theorem dX10_lines_21 : decode cX10_lines 21 = .ok (.invokevirtual 258, 3) := by decide +kernel
theorem dX10_lines_24 : decode cX10_lines 24 = .ok (.iconst 0, 1) := by decide +kernel
theorem dX10_lines_25 : decode cX10_lines 25 = .ok (.istore_n 3, 1) := by decide +kernel
theorem dX10_lines_26 : decode cX10_lines 26 = .ok (.iconst 0, 1) := by decide +kernel
theorem dX10_lines_27 : decode cX10_lines 27 = .ok (.istore 4, 2) := by decide +kernel
theorem dX10_lines_29 : decode cX10_lines 29 = .ok (.iload 4, 2) := by decide +kernel
theorem dX10_lines_31 : decode cX10_lines 31 = .ok (.aload_n 0, 1) := by decide +kernel
theorem dX10_lines_32 : decode cX10_lines 32 = .ok (.getfield 246, 3) := by decide +kernel
theorem dX10_lines_35 : decode cX10_lines 35 = .ok (.if_icmp .ge 36, 3) := by decide +kernel
theorem dX10_lines_38 : decode cX10_lines 38 = .ok (.aload_n 0, 1) := by decide +kernel
theorem dX10_lines_39 : decode cX10_lines 39 = .ok (.aload_n 0, 1) := by decide +kernel
theorem dX10_lines_40 : decode cX10_lines 40 = .ok (.iload 4, 2) := by decide +kernel
theorem dX10_lines_42 : decode cX10_lines 42 = .ok (.invokevirtual 261, 3) := by decide +kernel
theorem dX10_lines_45 : decode cX10_lines 45 = .ok (.aload_n 0, 1) := by decide +kernel
theorem dX10_lines_46 : decode cX10_lines 46 = .ok (.getfield 60, 3) := by decide +kernel
theorem dX10_lines_49 : decode cX10_lines 49 = .ok (.iload 4, 2) := by decide +kernel
theorem dX10_lines_51 : decode cX10_lines 51 = .ok (.iaload, 1) := by decide +kernel
theorem dX10_lines_52 : decode cX10_lines 52 = .ok (.invokevirtual 231, 3) := by decide +kernel
theorem dX10_lines_55 : decode cX10_lines 55 = .ok (.iload_n 3, 1) := by decide +kernel
theorem dX10_lines_56 : decode cX10_lines 56 = .ok (.aload_n 0, 1) := by decide +kernel
theorem dX10_lines_57 : decode cX10_lines 57 = .ok (.iload 4, 2) := by decide +kernel
theorem dX10_lines_59 : decode cX10_lines 59 = .ok (.iload_n 2, 1) := by decide +kernel
theorem dX10_lines_60 : decode cX10_lines 60 = .ok (.invokevirtual 271, 3) := by decide +kernel
theorem dX10_lines_63 : decode cX10_lines 63 = .ok (.iadd, 1) := by decide +kernel
theorem dX10_lines_64 : decode cX10_lines 64 = .ok (.istore_n 3, 1) := by decide +kernel
theorem dX10_lines_65 : decode cX10_lines 65 = .ok (.iinc 4 1, 3) := by decide +kernel
theorem dX10_lines_68 : decode cX10_lines 68 = .ok (.goto (-39), 3) := by decide +kernel
theorem dX10_lines_71 : decode cX10_lines 71 = .ok (.iload_n 3, 1) := by decide +kernel
theorem dX10_lines_72 : decode cX10_lines 72 = .ok (.ireturn, 1) := by decide +kernel
theorem ok_X10_lines : okY RX10 yX10_lines 2 := ⟨rfl, by decide, by decide, by decide +kernel⟩
def s_X10_lines_29_9 (p1 : Int32) : (Int32 × Int32 × OV) → Option ((Int32 × Int32 × OV) ⊕ (Int32 × OV)) := un3 (fun v3_10 v4_11 M_12 => (if (iv M_12 25) ≤ v4_11 then some (.inr (v3_10, M_12)) else (f_X10_firstOf M_12 v4_11).bind (un1 (fun r_13 => gd (ix v4_11 41) ((f_X10_looks M_12 r_13 (ar M_12 24 v4_11.toNatClampNeg)).bind (un1 (fun M_15 => (f_X10_ofLooked M_15 v4_11 p1).bind (un1 (fun r_17 => bnd (v3_10 + r_17) (fun v3_19 => bnd (v4_11 + 1) (fun v4_20 => some (.inl (v3_19, v4_20, M_15)))))))))))))
def f_X10_lines (M : OV) (p0 : Int32) (p1 : Int32) : Option (Int32 × OV) := (f_X10_isKind p0).bind (un1 (fun r_1 => (if r_1 = 0 then some ((-1 : Int32), M) else (f_X10_in p1 (0 : Int32) (8 : Int32)).bind (un1 (fun r_3 => (if r_3 = 0 then some ((-1 : Int32), M) else (f_X10_laysLines M p0).bind (un1 (fun M_5 => bnd (0 : Int32) (fun v3_7 => bnd (0 : Int32) (fun v4_8 => ((lp (s_X10_lines_29_9 p1) 5000 (v3_7, v4_8, M_5)).bind (un2 (fun v3_21 M_22 => some (v3_21, M_22))))))))))))))
def r_X10_lines : Room := { frames := 7, cells := 0, slots := 0, locals := 169 }
set_option maxHeartbeats 4000000 in
set_option maxRecDepth 100000 in
theorem c_X10_lines (l : Launch) (D : va_G) (ev : EvT) (cy : Nat → ClassId) (oM : Nat) (aM : Nat → Nat) (M : OV) (p0 : Int32) (p1 : Int32) (o : Int32 × OV) (hf : f_X10_lines M p0 p1 = some o) : Fn l yX10_lines cX10_lines 5 (some .int) r_X10_lines D ev cy [.ref oM, .int p0, .int p1] [gX10 cy oM aM M] (fun v G => v = some (.int o.1) ∧ G = [gX10 cy oM aM o.2]) := by
  refine Fn_of (by decide) (Nat.le_of_ble_eq_true rfl) (fun X A Q h hQ _ => ?_)
  unfold f_X10_lines at hf
  show ww X D A 5 Q 0 0 0 [(0, .ref oM), (1, .int p0), (2, .int p1)] [] [gX10 cy oM aM M]
  refine ww_iload_n h dX10_lines_0 rfl 1 rfl 1 rfl ?_
  obtain ⟨r_1, hu2, hf⟩ := ob1 hf
  refine ww_cSi h (c_X10_isKind l D ev cy p0 _ hu2) ⟨w_1492, w_1490, w_1491, w_111, ok_X10_isKind⟩ ⟨by decide, by decide⟩ ⟨by decide, by decide⟩ ⟨rfl, rfl⟩ [] rfl rfl (Nat.le_of_ble_eq_true rfl) dX10_lines_1 4 rfl (Gs' := [gX10 cy oM aM M]) rfl ?_
  clear hu2
  refine ww_if_eq h dX10_lines_4 17 (by decide) 7 rfl (fun c => ?_) (fun c => ?_)
  · replace hf := ite_t c hf
    refine ww_iconst (v := (-1)) h dX10_lines_17 (by decide) 18 rfl ?_
    obtain rfl := Option.some.inj hf
    exact ww_iret h dX10_lines_18 hQ ⟨rfl, rfl⟩
  · replace hf := ite_f c hf
    refine ww_iload_n h dX10_lines_7 rfl 2 rfl 8 rfl ?_
    refine ww_iconst (v := 0) h dX10_lines_8 (by decide) 9 rfl ?_
    refine ww_bipush (v := 8) h dX10_lines_9 (by decide) 11 rfl ?_
    obtain ⟨r_3, hu4, hf⟩ := ob1 hf
    refine ww_cSi h (c_X10_in l D ev cy p1 (0 : Int32) (8 : Int32) _ hu4) ⟨w_1333, w_1331, w_1332, w_111, ok_X10_in⟩ ⟨by decide, by decide⟩ ⟨by decide, by decide⟩ ⟨rfl, rfl⟩ [] rfl rfl (Nat.le_of_ble_eq_true rfl) dX10_lines_11 14 rfl (Gs' := [gX10 cy oM aM M]) rfl ?_
    clear hu4
    refine ww_if_ne h dX10_lines_14 19 (by decide) 17 rfl (fun c => ?_) (fun c => ?_)
    · replace hf := ite_f c hf
      refine ww_aload_n h dX10_lines_19 rfl 0 rfl 20 rfl ?_
      refine ww_iload_n h dX10_lines_20 rfl 1 rfl 21 rfl ?_
      obtain ⟨M_5, hu6, hf⟩ := ob1 hf
      refine ww_cVv h (c_X10_laysLines l D ev cy oM aM M p0 _ hu6) ⟨w_1496, w_1493, w_1495, w_56, w_111, ok_X10_laysLines⟩ ⟨by decide, by decide⟩ ⟨by decide, by decide⟩ ⟨rfl, rfl⟩ [0] rfl 0 rfl rfl rfl rfl (Nat.le_of_ble_eq_true rfl) dX10_lines_21 24 rfl (Gs' := [gX10 cy oM aM M_5]) rfl ?_
      clear hu6
      refine ww_iconst (v := 0) h dX10_lines_24 (by decide) 25 rfl ?_
      refine ww_ist_n h dX10_lines_25 rfl (by decide) (fun v3_7 => [(3, .int v3_7), (0, .ref oM), (1, .int p0), (2, .int p1)]) (fun _ => rfl) 26 rfl (fun v3_7 e => ?_)
      replace hf := bnd_at e hf
      clear e
      refine ww_iconst (v := 0) h dX10_lines_26 (by decide) 27 rfl ?_
      refine ww_ist h dX10_lines_27 (by decide) (fun v4_8 => [(4, .int v4_8), (3, .int v3_7), (0, .ref oM), (1, .int p0), (2, .int p1)]) (fun _ => rfl) 29 rfl (fun v4_8 e => ?_)
      replace hf := bnd_at e hf
      clear e
      refine ww_lo [2, 4, 1, 0] (lo' := [(0, .ref oM), (2, .int p1), (3, .int v3_7), (4, .int v4_8)]) rfl ?_
      obtain ⟨v3_21, M_22, h9, hf⟩ := ob2 hf
      refine lp_walk (un3 (fun v3_10 v4_11 M_12 => ww X D A 5 Q 0 0 29 [(0, .ref oM), (2, .int p1), (3, .int v3_10), (4, .int v4_11)] [] [gX10 cy oM aM M_12])) (un2 (fun v3_21 M_22 => ww X D A 5 Q 0 0 71 [(3, .int v3_21)] [] [gX10 cy oM aM M_22])) ?_ _ _ _ h9 ?_
      · clear h9 hf
        intro s9 o9 hf hI9 hE9
        obtain ⟨v3_10, v4_11, M_12⟩ := s9
        unfold s_X10_lines_29_9 at hf
        replace hf := un3_e hf
        show ww X D A 5 Q 0 0 29 [(0, .ref oM), (2, .int p1), (3, .int v3_10), (4, .int v4_11)] [] [gX10 cy oM aM M_12]
        refine ww_iload h dX10_lines_29 3 rfl 31 rfl ?_
        refine ww_aload_n h dX10_lines_31 rfl 0 rfl 32 rfl ?_
        refine ww_get h inG10 rfl 0 rfl rfl 25 (by decide) w_1182 rfl dX10_lines_32 35 rfl ?_
        refine ww_icmp_ge h dX10_lines_35 71 (by decide) 38 rfl (fun c => ?_) (fun c => ?_)
        · replace hf := ite_t c hf
          refine ww_lo [2] (lo' := [(3, .int v3_10)]) rfl ?_
          exact hE9 (v3_10, M_12) (Option.some.inj hf).symm
        · replace hf := ite_f c hf
          refine ww_aload_n h dX10_lines_38 rfl 0 rfl 39 rfl ?_
          refine ww_aload_n h dX10_lines_39 rfl 0 rfl 40 rfl ?_
          refine ww_iload h dX10_lines_40 3 rfl 42 rfl ?_
          obtain ⟨r_13, hu14, hf⟩ := ob1 hf
          refine ww_cVi h (c_X10_firstOf l D ev cy oM aM M_12 v4_11 _ hu14) ⟨w_1525, w_1522, w_1524, w_63, w_111, ok_X10_firstOf⟩ ⟨by decide, by decide⟩ ⟨by decide, by decide⟩ ⟨rfl, rfl⟩ [0] rfl 0 rfl rfl rfl rfl (Nat.le_of_ble_eq_true rfl) dX10_lines_42 45 rfl (Gs' := [gX10 cy oM aM M_12]) rfl ?_
          clear hu14
          refine ww_aload_n h dX10_lines_45 rfl 0 rfl 46 rfl ?_
          refine ww_get h inG10 rfl 0 rfl rfl 24 (by decide) w_1181 rfl dX10_lines_46 49 rfl ?_
          refine ww_iload h dX10_lines_49 3 rfl 51 rfl ?_
          have hi := (gd_some hf).1
          replace hf := (gd_some hf).2
          refine ww_iald h 0 rfl 16 rfl (ix_in hi) dX10_lines_51 52 rfl ?_
          clear hi
          obtain ⟨M_15, hu16, hf⟩ := ob1 hf
          refine ww_cVv h (c_X10_looks l D ev cy oM aM M_12 r_13 (ar M_12 24 v4_11.toNatClampNeg) _ hu16) ⟨w_1469, w_1466, w_1468, w_52, w_111, ok_X10_looks⟩ ⟨by decide, by decide⟩ ⟨by decide, by decide⟩ ⟨rfl, rfl⟩ [0] rfl 0 rfl rfl rfl rfl (Nat.le_of_ble_eq_true rfl) dX10_lines_52 55 rfl (Gs' := [gX10 cy oM aM M_15]) rfl ?_
          clear hu16
          refine ww_iload_n h dX10_lines_55 rfl 2 rfl 56 rfl ?_
          refine ww_aload_n h dX10_lines_56 rfl 0 rfl 57 rfl ?_
          refine ww_iload h dX10_lines_57 3 rfl 59 rfl ?_
          refine ww_iload_n h dX10_lines_59 rfl 1 rfl 60 rfl ?_
          obtain ⟨r_17, hu18, hf⟩ := ob1 hf
          refine ww_cVi h (c_X10_ofLooked l D ev cy oM aM M_15 v4_11 p1 _ hu18) ⟨w_1529, w_1526, w_1528, w_64, w_111, ok_X10_ofLooked⟩ ⟨by decide, by decide⟩ ⟨by decide, by decide⟩ ⟨rfl, rfl⟩ [0] rfl 0 rfl rfl rfl rfl (Nat.le_of_ble_eq_true rfl) dX10_lines_60 63 rfl (Gs' := [gX10 cy oM aM M_15]) rfl ?_
          clear hu18
          refine ww_iadd h dX10_lines_63 64 rfl ?_
          refine ww_ist_n h dX10_lines_64 rfl (by decide) (fun v3_19 => [(3, .int v3_19), (0, .ref oM), (2, .int p1), (4, .int v4_11)]) (fun _ => rfl) 65 rfl (fun v3_19 e => ?_)
          replace hf := bnd_at e hf
          clear e
          refine ww_inc (c := 1) h dX10_lines_65 3 rfl (by decide) (by decide) (fun v4_20 => [(4, .int v4_20), (3, .int v3_19), (0, .ref oM), (2, .int p1)]) (fun _ => rfl) 68 rfl (fun v4_20 e => ?_)
          replace hf := bnd_at e hf
          clear e
          refine ww_goto h dX10_lines_68 29 (by decide) ?_
          refine ww_lo [2, 3, 1, 0] (lo' := [(0, .ref oM), (2, .int p1), (3, .int v3_19), (4, .int v4_20)]) rfl ?_
          exact hI9 (v3_19, v4_20, M_15) (Option.some.inj hf).symm
      · clear h9
        show ww X D A 5 Q 0 0 71 [(3, .int v3_21)] [] [gX10 cy oM aM M_22]
        refine ww_iload_n h dX10_lines_71 rfl 0 rfl 72 rfl ?_
        obtain rfl := Option.some.inj hf
        exact ww_iret h dX10_lines_72 hQ ⟨rfl, rfl⟩
    · replace hf := ite_t c hf
      refine ww_iconst (v := (-1)) h dX10_lines_17 (by decide) 18 rfl ?_
      obtain rfl := Option.some.inj hf
      exact ww_iret h dX10_lines_18 hQ ⟨rfl, rfl⟩
theorem dX10_line_0 : decode cX10_line 0 = .ok (.aload_n 0, 1) := by decide +kernel
theorem dX10_line_1 : decode cX10_line 1 = .ok (.iload_n 1, 1) := by decide +kernel
theorem dX10_line_2 : decode cX10_line 2 = .ok (.iload_n 2, 1) := by decide +kernel
theorem dX10_line_3 : decode cX10_line 3 = .ok (.invokevirtual 274, 3) := by decide +kernel
theorem dX10_line_6 : decode cX10_line 6 = .ok (.ifCond .ne 15, 3) := by decide +kernel
theorem dX10_line_9 : decode cX10_line 9 = .ok (.iload_n 3, 1) := by decide +kernel
theorem dX10_line_10 : decode cX10_line 10 = .ok (.iconst 4, 1) := by decide +kernel
theorem dX10_line_11 : decode cX10_line 11 = .ok (.if_icmp .ne 8, 3) := by decide +kernel
theorem dX10_line_14 : decode cX10_line 14 = .ok (.bipush (-100), 2) := by decide +kernel
theorem dX10_line_16 : decode cX10_line 16 = .ok (.goto 4, 3) := by decide +kernel
theorem dX10_line_19 : decode cX10_line 19 = .ok (.iconst (-1), 1) := by decide +kernel
theorem dX10_line_20 : decode cX10_line 20 = .ok (.ireturn, 1) := by decide +kernel
theorem dX10_line_21 : decode cX10_line 21 = .ok (.iload_n 3, 1) := by decide +kernel
theorem dX10_line_22 : decode cX10_line 22 = .ok (.tableswitch 154 0 10 #[58, 64, 71, 76, 81, 94, 107, 112, 117, 122, 141], 58) := by decide +kernel
theorem dX10_line_80 : decode cX10_line 80 = .ok (.aload_n 0, 1) := by decide +kernel
theorem dX10_line_81 : decode cX10_line 81 = .ok (.iload_n 2, 1) := by decide +kernel
theorem dX10_line_82 : decode cX10_line 82 = .ok (.invokevirtual 261, 3) := by decide +kernel
theorem dX10_line_85 : decode cX10_line 85 = .ok (.ireturn, 1) := by decide +kernel
theorem dX10_line_86 : decode cX10_line 86 = .ok (.aload_n 0, 1) := by decide +kernel
theorem dX10_line_87 : decode cX10_line 87 = .ok (.getfield 60, 3) := by decide +kernel
theorem dX10_line_90 : decode cX10_line 90 = .ok (.iload_n 2, 1) := by decide +kernel
theorem dX10_line_91 : decode cX10_line 91 = .ok (.iaload, 1) := by decide +kernel
theorem dX10_line_92 : decode cX10_line 92 = .ok (.ireturn, 1) := by decide +kernel
theorem dX10_line_93 : decode cX10_line 93 = .ok (.aload_n 0, 1) := by decide +kernel
theorem dX10_line_94 : decode cX10_line 94 = .ok (.getfield 208, 3) := by decide +kernel
theorem dX10_line_97 : decode cX10_line 97 = .ok (.ireturn, 1) := by decide +kernel
theorem dX10_line_98 : decode cX10_line 98 = .ok (.aload_n 0, 1) := by decide +kernel
theorem dX10_line_99 : decode cX10_line 99 = .ok (.getfield 192, 3) := by decide +kernel
theorem dX10_line_102 : decode cX10_line 102 = .ok (.ireturn, 1) := by decide +kernel
theorem dX10_line_103 : decode cX10_line 103 = .ok (.aload_n 0, 1) := by decide +kernel
theorem dX10_line_104 : decode cX10_line 104 = .ok (.getfield 192, 3) := by decide +kernel
theorem dX10_line_107 : decode cX10_line 107 = .ok (.aload_n 0, 1) := by decide +kernel
theorem dX10_line_108 : decode cX10_line 108 = .ok (.getfield 36, 3) := by decide +kernel
theorem dX10_line_111 : decode cX10_line 111 = .ok (.bipush 81, 2) := by decide +kernel
theorem dX10_line_113 : decode cX10_line 113 = .ok (.iaload, 1) := by decide +kernel
theorem dX10_line_114 : decode cX10_line 114 = .ok (.isub, 1) := by decide +kernel
theorem dX10_line_115 : decode cX10_line 115 = .ok (.ireturn, 1) := by decide +kernel
theorem dX10_line_116 : decode cX10_line 116 = .ok (.aload_n 0, 1) := by decide +kernel
theorem dX10_line_117 : decode cX10_line 117 = .ok (.getfield 195, 3) := by decide +kernel
theorem dX10_line_120 : decode cX10_line 120 = .ok (.ifCond .eq 7, 3) := by decide +kernel
theorem dX10_line_123 : decode cX10_line 123 = .ok (.iconst 1, 1) := by decide +kernel
theorem dX10_line_124 : decode cX10_line 124 = .ok (.goto 4, 3) := by decide +kernel
theorem dX10_line_127 : decode cX10_line 127 = .ok (.iconst 0, 1) := by decide +kernel
theorem dX10_line_128 : decode cX10_line 128 = .ok (.ireturn, 1) := by decide +kernel
theorem dX10_line_129 : decode cX10_line 129 = .ok (.aload_n 0, 1) := by decide +kernel
theorem dX10_line_130 : decode cX10_line 130 = .ok (.getfield 199, 3) := by decide +kernel
theorem dX10_line_133 : decode cX10_line 133 = .ok (.ireturn, 1) := by decide +kernel
theorem dX10_line_134 : decode cX10_line 134 = .ok (.aload_n 0, 1) := by decide +kernel
theorem dX10_line_135 : decode cX10_line 135 = .ok (.getfield 202, 3) := by decide +kernel
theorem dX10_line_138 : decode cX10_line 138 = .ok (.ireturn, 1) := by decide +kernel
theorem dX10_line_139 : decode cX10_line 139 = .ok (.aload_n 0, 1) := by decide +kernel
theorem dX10_line_140 : decode cX10_line 140 = .ok (.getfield 205, 3) := by decide +kernel
theorem dX10_line_143 : decode cX10_line 143 = .ok (.ireturn, 1) := by decide +kernel
theorem dX10_line_144 : decode cX10_line 144 = .ok (.aload_n 0, 1) := by decide +kernel
theorem dX10_line_145 : decode cX10_line 145 = .ok (.aload_n 0, 1) := by decide +kernel
theorem dX10_line_146 : decode cX10_line 146 = .ok (.getfield 60, 3) := by decide +kernel
theorem dX10_line_149 : decode cX10_line 149 = .ok (.iload_n 2, 1) := by decide +kernel
theorem dX10_line_150 : decode cX10_line 150 = .ok (.iaload, 1) := by decide +kernel
theorem dX10_line_151 : decode cX10_line 151 = .ok (.invokevirtual 221, 3) := by decide +kernel
theorem dX10_line_154 : decode cX10_line 154 = .ok (.ifCond .eq 7, 3) := by decide +kernel
theorem dX10_line_157 : decode cX10_line 157 = .ok (.iconst 1, 1) := by decide +kernel
theorem dX10_line_158 : decode cX10_line 158 = .ok (.goto 4, 3) := by decide +kernel
theorem dX10_line_161 : decode cX10_line 161 = .ok (.iconst 0, 1) := by decide +kernel
theorem dX10_line_162 : decode cX10_line 162 = .ok (.ireturn, 1) := by decide +kernel
theorem dX10_line_163 : decode cX10_line 163 = .ok (.aload_n 0, 1) := by decide +kernel
theorem dX10_line_164 : decode cX10_line 164 = .ok (.getfield 211, 3) := by decide +kernel
theorem dX10_line_167 : decode cX10_line 167 = .ok (.ifCond .eq 7, 3) := by decide +kernel
theorem dX10_line_170 : decode cX10_line 170 = .ok (.iconst 1, 1) := by decide +kernel
theorem dX10_line_171 : decode cX10_line 171 = .ok (.goto 4, 3) := by decide +kernel
theorem dX10_line_174 : decode cX10_line 174 = .ok (.iconst 0, 1) := by decide +kernel
theorem dX10_line_175 : decode cX10_line 175 = .ok (.ireturn, 1) := by decide +kernel
theorem dX10_line_176 : decode cX10_line 176 = .ok (.iconst (-1), 1) := by decide +kernel
theorem dX10_line_177 : decode cX10_line 177 = .ok (.ireturn, 1) := by decide +kernel
theorem ok_X10_line : okY RX10 yX10_line 3 := ⟨rfl, by decide, by decide, by decide +kernel⟩
def f_X10_line (M : OV) (p0 : Int32) (p1 : Int32) (p2 : Int32) : Option (Int32 × OV) := (f_X10_looksAt M p0 p1).bind (un2 (fun r_1 M_2 => (if r_1 = 0 then (if p2 = (4 : Int32) then some ((-100 : Int32), M_2) else some ((-1 : Int32), M_2)) else (if p2 = 0 then (f_X10_firstOf M_2 p1).bind (un1 (fun r_4 => some (r_4, M_2))) else (if p2 = 1 then gd (ix p1 41) (some ((ar M_2 24 p1.toNatClampNeg), M_2)) else (if p2 = 2 then some ((iv M_2 18), M_2) else (if p2 = 3 then some ((iv M_2 12), M_2) else (if p2 = 4 then gd (ix (81 : Int32) 113) (some (((iv M_2 12) - (ar M_2 8 (81 : Int32).toNatClampNeg)), M_2)) else (if p2 = 5 then (if (iv M_2 13) = 0 then some ((0 : Int32), M_2) else some ((1 : Int32), M_2)) else (if p2 = 6 then some ((iv M_2 15), M_2) else (if p2 = 7 then some ((iv M_2 16), M_2) else (if p2 = 8 then some ((iv M_2 17), M_2) else (if p2 = 9 then gd (ix p1 41) ((f_X10_isLegal M_2 (ar M_2 24 p1.toNatClampNeg)).bind (un1 (fun r_6 => (if r_6 = 0 then some ((0 : Int32), M_2) else some ((1 : Int32), M_2))))) else (if p2 = 10 then (if (iv M_2 14) = 0 then some ((0 : Int32), M_2) else some ((1 : Int32), M_2)) else some ((-1 : Int32), M_2)))))))))))))))
def r_X10_line : Room := { frames := 8, cells := 0, slots := 0, locals := 191 }
set_option maxHeartbeats 4000000 in
set_option maxRecDepth 100000 in
theorem c_X10_line (l : Launch) (D : va_G) (ev : EvT) (cy : Nat → ClassId) (oM : Nat) (aM : Nat → Nat) (M : OV) (p0 : Int32) (p1 : Int32) (p2 : Int32) (o : Int32 × OV) (hf : f_X10_line M p0 p1 p2 = some o) : Fn l yX10_line cX10_line 4 (some .int) r_X10_line D ev cy [.ref oM, .int p0, .int p1, .int p2] [gX10 cy oM aM M] (fun v G => v = some (.int o.1) ∧ G = [gX10 cy oM aM o.2]) := by
  refine Fn_of (by decide) (Nat.le_of_ble_eq_true rfl) (fun X A Q h hQ _ => ?_)
  unfold f_X10_line at hf
  show ww X D A 4 Q 0 0 0 [(0, .ref oM), (1, .int p0), (2, .int p1), (3, .int p2)] [] [gX10 cy oM aM M]
  refine ww_aload_n h dX10_line_0 rfl 0 rfl 1 rfl ?_
  refine ww_iload_n h dX10_line_1 rfl 1 rfl 2 rfl ?_
  refine ww_iload_n h dX10_line_2 rfl 2 rfl 3 rfl ?_
  obtain ⟨r_1, M_2, hu3, hf⟩ := ob2 hf
  refine ww_cVi h (c_X10_looksAt l D ev cy oM aM M p0 p1 _ hu3) ⟨w_1537, w_1534, w_1536, w_65, w_111, ok_X10_looksAt⟩ ⟨by decide, by decide⟩ ⟨by decide, by decide⟩ ⟨rfl, rfl⟩ [0] rfl 0 rfl rfl rfl rfl (Nat.le_of_ble_eq_true rfl) dX10_line_3 6 rfl (Gs' := [gX10 cy oM aM M_2]) rfl ?_
  clear hu3
  refine ww_if_ne h dX10_line_6 21 (by decide) 9 rfl (fun c => ?_) (fun c => ?_)
  · replace hf := ite_f c hf
    refine ww_iload_n h dX10_line_21 rfl 3 rfl 22 rfl ?_
    by_cases c22_0 : p2 = 0
    · replace hf := ite_t c22_0 hf
      refine ww_tabIn h dX10_line_22 (by rw [c22_0]; decide) (by rw [c22_0]; decide) (by rw [c22_0]; rfl) 80 (by decide) ?_
      refine ww_aload_n h dX10_line_80 rfl 0 rfl 81 rfl ?_
      refine ww_iload_n h dX10_line_81 rfl 2 rfl 82 rfl ?_
      obtain ⟨r_4, hu5, hf⟩ := ob1 hf
      refine ww_cVi h (c_X10_firstOf l D ev cy oM aM M_2 p1 _ hu5) ⟨w_1525, w_1522, w_1524, w_63, w_111, ok_X10_firstOf⟩ ⟨by decide, by decide⟩ ⟨by decide, by decide⟩ ⟨rfl, rfl⟩ [0] rfl 0 rfl rfl rfl rfl (Nat.le_of_ble_eq_true rfl) dX10_line_82 85 rfl (Gs' := [gX10 cy oM aM M_2]) rfl ?_
      clear hu5
      obtain rfl := Option.some.inj hf
      exact ww_iret h dX10_line_85 hQ ⟨rfl, rfl⟩
    · replace hf := ite_f c22_0 hf
      by_cases c22_1 : p2 = 1
      · replace hf := ite_t c22_1 hf
        refine ww_tabIn h dX10_line_22 (by rw [c22_1]; decide) (by rw [c22_1]; decide) (by rw [c22_1]; rfl) 86 (by decide) ?_
        refine ww_aload_n h dX10_line_86 rfl 0 rfl 87 rfl ?_
        refine ww_get h inG10 rfl 0 rfl rfl 24 (by decide) w_1181 rfl dX10_line_87 90 rfl ?_
        refine ww_iload_n h dX10_line_90 rfl 2 rfl 91 rfl ?_
        have hi := (gd_some hf).1
        replace hf := (gd_some hf).2
        refine ww_iald h 0 rfl 16 rfl (ix_in hi) dX10_line_91 92 rfl ?_
        clear hi
        obtain rfl := Option.some.inj hf
        exact ww_iret h dX10_line_92 hQ ⟨rfl, rfl⟩
      · replace hf := ite_f c22_1 hf
        by_cases c22_2 : p2 = 2
        · replace hf := ite_t c22_2 hf
          refine ww_tabIn h dX10_line_22 (by rw [c22_2]; decide) (by rw [c22_2]; decide) (by rw [c22_2]; rfl) 93 (by decide) ?_
          refine ww_aload_n h dX10_line_93 rfl 0 rfl 94 rfl ?_
          refine ww_get h inG10 rfl 0 rfl rfl 18 (by decide) w_1175 rfl dX10_line_94 97 rfl ?_
          obtain rfl := Option.some.inj hf
          exact ww_iret h dX10_line_97 hQ ⟨rfl, rfl⟩
        · replace hf := ite_f c22_2 hf
          by_cases c22_3 : p2 = 3
          · replace hf := ite_t c22_3 hf
            refine ww_tabIn h dX10_line_22 (by rw [c22_3]; decide) (by rw [c22_3]; decide) (by rw [c22_3]; rfl) 98 (by decide) ?_
            refine ww_aload_n h dX10_line_98 rfl 0 rfl 99 rfl ?_
            refine ww_get h inG10 rfl 0 rfl rfl 12 (by decide) w_1169 rfl dX10_line_99 102 rfl ?_
            obtain rfl := Option.some.inj hf
            exact ww_iret h dX10_line_102 hQ ⟨rfl, rfl⟩
          · replace hf := ite_f c22_3 hf
            by_cases c22_4 : p2 = 4
            · replace hf := ite_t c22_4 hf
              refine ww_tabIn h dX10_line_22 (by rw [c22_4]; decide) (by rw [c22_4]; decide) (by rw [c22_4]; rfl) 103 (by decide) ?_
              refine ww_aload_n h dX10_line_103 rfl 0 rfl 104 rfl ?_
              refine ww_get h inG10 rfl 0 rfl rfl 12 (by decide) w_1169 rfl dX10_line_104 107 rfl ?_
              refine ww_aload_n h dX10_line_107 rfl 0 rfl 108 rfl ?_
              refine ww_get h inG10 rfl 0 rfl rfl 8 (by decide) w_1165 rfl dX10_line_108 111 rfl ?_
              refine ww_bipush (v := 81) h dX10_line_111 (by decide) 113 rfl ?_
              have hi := (gd_some hf).1
              replace hf := (gd_some hf).2
              refine ww_iald h 0 rfl 8 rfl (ix_in hi) dX10_line_113 114 rfl ?_
              clear hi
              refine ww_isub h dX10_line_114 115 rfl ?_
              obtain rfl := Option.some.inj hf
              exact ww_iret h dX10_line_115 hQ ⟨rfl, rfl⟩
            · replace hf := ite_f c22_4 hf
              by_cases c22_5 : p2 = 5
              · replace hf := ite_t c22_5 hf
                refine ww_tabIn h dX10_line_22 (by rw [c22_5]; decide) (by rw [c22_5]; decide) (by rw [c22_5]; rfl) 116 (by decide) ?_
                refine ww_aload_n h dX10_line_116 rfl 0 rfl 117 rfl ?_
                refine ww_get h inG10 rfl 0 rfl rfl 13 (by decide) w_1170 rfl dX10_line_117 120 rfl ?_
                refine ww_if_eq h dX10_line_120 127 (by decide) 123 rfl (fun c => ?_) (fun c => ?_)
                · replace hf := ite_t c hf
                  refine ww_iconst (v := 0) h dX10_line_127 (by decide) 128 rfl ?_
                  obtain rfl := Option.some.inj hf
                  exact ww_iret h dX10_line_128 hQ ⟨rfl, rfl⟩
                · replace hf := ite_f c hf
                  refine ww_iconst (v := 1) h dX10_line_123 (by decide) 124 rfl ?_
                  refine ww_goto h dX10_line_124 128 (by decide) ?_
                  obtain rfl := Option.some.inj hf
                  exact ww_iret h dX10_line_128 hQ ⟨rfl, rfl⟩
              · replace hf := ite_f c22_5 hf
                by_cases c22_6 : p2 = 6
                · replace hf := ite_t c22_6 hf
                  refine ww_tabIn h dX10_line_22 (by rw [c22_6]; decide) (by rw [c22_6]; decide) (by rw [c22_6]; rfl) 129 (by decide) ?_
                  refine ww_aload_n h dX10_line_129 rfl 0 rfl 130 rfl ?_
                  refine ww_get h inG10 rfl 0 rfl rfl 15 (by decide) w_1172 rfl dX10_line_130 133 rfl ?_
                  obtain rfl := Option.some.inj hf
                  exact ww_iret h dX10_line_133 hQ ⟨rfl, rfl⟩
                · replace hf := ite_f c22_6 hf
                  by_cases c22_7 : p2 = 7
                  · replace hf := ite_t c22_7 hf
                    refine ww_tabIn h dX10_line_22 (by rw [c22_7]; decide) (by rw [c22_7]; decide) (by rw [c22_7]; rfl) 134 (by decide) ?_
                    refine ww_aload_n h dX10_line_134 rfl 0 rfl 135 rfl ?_
                    refine ww_get h inG10 rfl 0 rfl rfl 16 (by decide) w_1173 rfl dX10_line_135 138 rfl ?_
                    obtain rfl := Option.some.inj hf
                    exact ww_iret h dX10_line_138 hQ ⟨rfl, rfl⟩
                  · replace hf := ite_f c22_7 hf
                    by_cases c22_8 : p2 = 8
                    · replace hf := ite_t c22_8 hf
                      refine ww_tabIn h dX10_line_22 (by rw [c22_8]; decide) (by rw [c22_8]; decide) (by rw [c22_8]; rfl) 139 (by decide) ?_
                      refine ww_aload_n h dX10_line_139 rfl 0 rfl 140 rfl ?_
                      refine ww_get h inG10 rfl 0 rfl rfl 17 (by decide) w_1174 rfl dX10_line_140 143 rfl ?_
                      obtain rfl := Option.some.inj hf
                      exact ww_iret h dX10_line_143 hQ ⟨rfl, rfl⟩
                    · replace hf := ite_f c22_8 hf
                      by_cases c22_9 : p2 = 9
                      · replace hf := ite_t c22_9 hf
                        refine ww_tabIn h dX10_line_22 (by rw [c22_9]; decide) (by rw [c22_9]; decide) (by rw [c22_9]; rfl) 144 (by decide) ?_
                        refine ww_aload_n h dX10_line_144 rfl 0 rfl 145 rfl ?_
                        refine ww_aload_n h dX10_line_145 rfl 0 rfl 146 rfl ?_
                        refine ww_get h inG10 rfl 0 rfl rfl 24 (by decide) w_1181 rfl dX10_line_146 149 rfl ?_
                        refine ww_iload_n h dX10_line_149 rfl 2 rfl 150 rfl ?_
                        have hi := (gd_some hf).1
                        replace hf := (gd_some hf).2
                        refine ww_iald h 0 rfl 16 rfl (ix_in hi) dX10_line_150 151 rfl ?_
                        clear hi
                        obtain ⟨r_6, hu7, hf⟩ := ob1 hf
                        refine ww_cVi h (c_X10_isLegal l D ev cy oM aM M_2 (ar M_2 24 p1.toNatClampNeg) _ hu7) ⟨w_1461, w_1458, w_1460, w_51, w_111, ok_X10_isLegal⟩ ⟨by decide, by decide⟩ ⟨by decide, by decide⟩ ⟨rfl, rfl⟩ [0] rfl 0 rfl rfl rfl rfl (Nat.le_of_ble_eq_true rfl) dX10_line_151 154 rfl (Gs' := [gX10 cy oM aM M_2]) rfl ?_
                        clear hu7
                        refine ww_if_eq h dX10_line_154 161 (by decide) 157 rfl (fun c => ?_) (fun c => ?_)
                        · replace hf := ite_t c hf
                          refine ww_iconst (v := 0) h dX10_line_161 (by decide) 162 rfl ?_
                          obtain rfl := Option.some.inj hf
                          exact ww_iret h dX10_line_162 hQ ⟨rfl, rfl⟩
                        · replace hf := ite_f c hf
                          refine ww_iconst (v := 1) h dX10_line_157 (by decide) 158 rfl ?_
                          refine ww_goto h dX10_line_158 162 (by decide) ?_
                          obtain rfl := Option.some.inj hf
                          exact ww_iret h dX10_line_162 hQ ⟨rfl, rfl⟩
                      · replace hf := ite_f c22_9 hf
                        by_cases c22_10 : p2 = 10
                        · replace hf := ite_t c22_10 hf
                          refine ww_tabIn h dX10_line_22 (by rw [c22_10]; decide) (by rw [c22_10]; decide) (by rw [c22_10]; rfl) 163 (by decide) ?_
                          refine ww_aload_n h dX10_line_163 rfl 0 rfl 164 rfl ?_
                          refine ww_get h inG10 rfl 0 rfl rfl 14 (by decide) w_1171 rfl dX10_line_164 167 rfl ?_
                          refine ww_if_eq h dX10_line_167 174 (by decide) 170 rfl (fun c => ?_) (fun c => ?_)
                          · replace hf := ite_t c hf
                            refine ww_iconst (v := 0) h dX10_line_174 (by decide) 175 rfl ?_
                            obtain rfl := Option.some.inj hf
                            exact ww_iret h dX10_line_175 hQ ⟨rfl, rfl⟩
                          · replace hf := ite_f c hf
                            refine ww_iconst (v := 1) h dX10_line_170 (by decide) 171 rfl ?_
                            refine ww_goto h dX10_line_171 175 (by decide) ?_
                            obtain rfl := Option.some.inj hf
                            exact ww_iret h dX10_line_175 hQ ⟨rfl, rfl⟩
                        · replace hf := ite_f c22_10 hf
                          refine ww_tabOut h dX10_line_22 (by have z0 := ne_int c22_0 0 (by decide); have z1 := ne_int c22_1 1 (by decide); have z2 := ne_int c22_2 2 (by decide); have z3 := ne_int c22_3 3 (by decide); have z4 := ne_int c22_4 4 (by decide); have z5 := ne_int c22_5 5 (by decide); have z6 := ne_int c22_6 6 (by decide); have z7 := ne_int c22_7 7 (by decide); have z8 := ne_int c22_8 8 (by decide); have z9 := ne_int c22_9 9 (by decide); have z10 := ne_int c22_10 10 (by decide); omega) 176 (by decide) ?_
                          refine ww_iconst (v := (-1)) h dX10_line_176 (by decide) 177 rfl ?_
                          obtain rfl := Option.some.inj hf
                          exact ww_iret h dX10_line_177 hQ ⟨rfl, rfl⟩
  · replace hf := ite_t c hf
    refine ww_iload_n h dX10_line_9 rfl 3 rfl 10 rfl ?_
    refine ww_iconst (v := 4) h dX10_line_10 (by decide) 11 rfl ?_
    refine ww_icmp_ne h dX10_line_11 19 (by decide) 14 rfl (fun c => ?_) (fun c => ?_)
    · replace hf := ite_f c hf
      refine ww_iconst (v := (-1)) h dX10_line_19 (by decide) 20 rfl ?_
      obtain rfl := Option.some.inj hf
      exact ww_iret h dX10_line_20 hQ ⟨rfl, rfl⟩
    · replace hf := ite_t c hf
      refine ww_bipush (v := (-100)) h dX10_line_14 (by decide) 16 rfl ?_
      refine ww_goto h dX10_line_16 20 (by decide) ?_
      obtain rfl := Option.some.inj hf
      exact ww_iret h dX10_line_20 hQ ⟨rfl, rfl⟩
theorem dX10_lineOf_0 : decode cX10_lineOf 0 = .ok (.iload_n 1, 1) := by decide +kernel
theorem dX10_lineOf_1 : decode cX10_lineOf 1 = .ok (.invokestatic 255, 3) := by decide +kernel
theorem dX10_lineOf_4 : decode cX10_lineOf 4 = .ok (.ifCond .eq 11, 3) := by decide +kernel
theorem dX10_lineOf_7 : decode cX10_lineOf 7 = .ok (.aload_n 0, 1) := by decide +kernel
theorem dX10_lineOf_8 : decode cX10_lineOf 8 = .ok (.iload_n 2, 1) := by decide +kernel
theorem dX10_lineOf_9 : decode cX10_lineOf 9 = .ok (.invokevirtual 161, 3) := by decide +kernel
theorem dX10_lineOf_12 : decode cX10_lineOf 12 = .ok (.ifCond .ne 5, 3) := by decide +kernel
theorem dX10_lineOf_15 : decode cX10_lineOf 15 = .ok (.iconst (-1), 1) := by decide +kernel
theorem dX10_lineOf_16 : decode cX10_lineOf 16 = .ok (.ireturn, 1) := by decide +kernel
theorem dX10_lineOf_17 : decode cX10_lineOf 17 = .ok (.aload_n 0, 1) := by decide +kernel
theorem dX10_lineOf_18 : decode cX10_lineOf 18 = .ok (.iload_n 1, 1) := by decide +kernel
theorem dX10_lineOf_19 : decode cX10_lineOf 19 = .ok (.invokevirtual 258, 3) := by decide +kernel
theorem dX10_lineOf_22 : decode cX10_lineOf 22 = .ok (.aload_n 0, 1) := by decide +kernel
theorem dX10_lineOf_23 : decode cX10_lineOf 23 = .ok (.iload_n 2, 1) := by decide +kernel
theorem dX10_lineOf_24 : decode cX10_lineOf 24 = .ok (.invokevirtual 277, 3) := by decide +kernel
theorem dX10_lineOf_27 : decode cX10_lineOf 27 = .ok (.ireturn, 1) := by decide +kernel
theorem ok_X10_lineOf : okY RX10 yX10_lineOf 2 := ⟨rfl, by decide, by decide, by decide +kernel⟩
def f_X10_lineOf (M : OV) (p0 : Int32) (p1 : Int32) : Option (Int32 × OV) := (f_X10_isKind p0).bind (un1 (fun r_1 => (if r_1 = 0 then some ((-1 : Int32), M) else (f_X10_isSign M p1).bind (un1 (fun r_3 => (if r_3 = 0 then some ((-1 : Int32), M) else (f_X10_laysLines M p0).bind (un1 (fun M_5 => (f_X10_lineWith M_5 p1).bind (un1 (fun r_7 => some (r_7, M_5)))))))))))
def r_X10_lineOf : Room := { frames := 7, cells := 0, slots := 0, locals := 169 }
set_option maxHeartbeats 4000000 in
set_option maxRecDepth 100000 in
theorem c_X10_lineOf (l : Launch) (D : va_G) (ev : EvT) (cy : Nat → ClassId) (oM : Nat) (aM : Nat → Nat) (M : OV) (p0 : Int32) (p1 : Int32) (o : Int32 × OV) (hf : f_X10_lineOf M p0 p1 = some o) : Fn l yX10_lineOf cX10_lineOf 3 (some .int) r_X10_lineOf D ev cy [.ref oM, .int p0, .int p1] [gX10 cy oM aM M] (fun v G => v = some (.int o.1) ∧ G = [gX10 cy oM aM o.2]) := by
  refine Fn_of (by decide) (Nat.le_of_ble_eq_true rfl) (fun X A Q h hQ _ => ?_)
  unfold f_X10_lineOf at hf
  show ww X D A 3 Q 0 0 0 [(0, .ref oM), (1, .int p0), (2, .int p1)] [] [gX10 cy oM aM M]
  refine ww_iload_n h dX10_lineOf_0 rfl 1 rfl 1 rfl ?_
  obtain ⟨r_1, hu2, hf⟩ := ob1 hf
  refine ww_cSi h (c_X10_isKind l D ev cy p0 _ hu2) ⟨w_1492, w_1490, w_1491, w_111, ok_X10_isKind⟩ ⟨by decide, by decide⟩ ⟨by decide, by decide⟩ ⟨rfl, rfl⟩ [] rfl rfl (Nat.le_of_ble_eq_true rfl) dX10_lineOf_1 4 rfl (Gs' := [gX10 cy oM aM M]) rfl ?_
  clear hu2
  refine ww_if_eq h dX10_lineOf_4 15 (by decide) 7 rfl (fun c => ?_) (fun c => ?_)
  · replace hf := ite_t c hf
    refine ww_iconst (v := (-1)) h dX10_lineOf_15 (by decide) 16 rfl ?_
    obtain rfl := Option.some.inj hf
    exact ww_iret h dX10_lineOf_16 hQ ⟨rfl, rfl⟩
  · replace hf := ite_f c hf
    refine ww_aload_n h dX10_lineOf_7 rfl 0 rfl 8 rfl ?_
    refine ww_iload_n h dX10_lineOf_8 rfl 2 rfl 9 rfl ?_
    obtain ⟨r_3, hu4, hf⟩ := ob1 hf
    refine ww_cVi h (c_X10_isSign l D ev cy oM aM M p1 _ hu4) ⟨w_1357, w_1354, w_1356, w_42, w_111, ok_X10_isSign⟩ ⟨by decide, by decide⟩ ⟨by decide, by decide⟩ ⟨rfl, rfl⟩ [0] rfl 0 rfl rfl rfl rfl (Nat.le_of_ble_eq_true rfl) dX10_lineOf_9 12 rfl (Gs' := [gX10 cy oM aM M]) rfl ?_
    clear hu4
    refine ww_if_ne h dX10_lineOf_12 17 (by decide) 15 rfl (fun c => ?_) (fun c => ?_)
    · replace hf := ite_f c hf
      refine ww_aload_n h dX10_lineOf_17 rfl 0 rfl 18 rfl ?_
      refine ww_iload_n h dX10_lineOf_18 rfl 1 rfl 19 rfl ?_
      obtain ⟨M_5, hu6, hf⟩ := ob1 hf
      refine ww_cVv h (c_X10_laysLines l D ev cy oM aM M p0 _ hu6) ⟨w_1496, w_1493, w_1495, w_56, w_111, ok_X10_laysLines⟩ ⟨by decide, by decide⟩ ⟨by decide, by decide⟩ ⟨rfl, rfl⟩ [0] rfl 0 rfl rfl rfl rfl (Nat.le_of_ble_eq_true rfl) dX10_lineOf_19 22 rfl (Gs' := [gX10 cy oM aM M_5]) rfl ?_
      clear hu6
      refine ww_aload_n h dX10_lineOf_22 rfl 0 rfl 23 rfl ?_
      refine ww_iload_n h dX10_lineOf_23 rfl 2 rfl 24 rfl ?_
      obtain ⟨r_7, hu8, hf⟩ := ob1 hf
      refine ww_cVi h (c_X10_lineWith l D ev cy oM aM M_5 p1 _ hu8) ⟨w_1545, w_1542, w_1544, w_66, w_111, ok_X10_lineWith⟩ ⟨by decide, by decide⟩ ⟨by decide, by decide⟩ ⟨rfl, rfl⟩ [0] rfl 0 rfl rfl rfl rfl (Nat.le_of_ble_eq_true rfl) dX10_lineOf_24 27 rfl (Gs' := [gX10 cy oM aM M_5]) rfl ?_
      clear hu8
      obtain rfl := Option.some.inj hf
      exact ww_iret h dX10_lineOf_27 hQ ⟨rfl, rfl⟩
    · replace hf := ite_t c hf
      refine ww_iconst (v := (-1)) h dX10_lineOf_15 (by decide) 16 rfl ?_
      obtain rfl := Option.some.inj hf
      exact ww_iret h dX10_lineOf_16 hQ ⟨rfl, rfl⟩
theorem dX10_place_0 : decode cX10_place 0 = .ok (.iload_n 1, 1) := by decide +kernel
theorem dX10_place_1 : decode cX10_place 1 = .ok (.invokestatic 255, 3) := by decide +kernel
theorem dX10_place_4 : decode cX10_place 4 = .ok (.ifCond .eq 20, 3) := by decide +kernel
theorem dX10_place_7 : decode cX10_place 7 = .ok (.aload_n 0, 1) := by decide +kernel
theorem dX10_place_8 : decode cX10_place 8 = .ok (.iload_n 2, 1) := by decide +kernel
theorem dX10_place_9 : decode cX10_place 9 = .ok (.invokevirtual 161, 3) := by decide +kernel
theorem dX10_place_12 : decode cX10_place 12 = .ok (.ifCond .eq 12, 3) := by decide +kernel
theorem dX10_place_15 : decode cX10_place 15 = .ok (.iload_n 3, 1) := by decide +kernel
theorem dX10_place_16 : decode cX10_place 16 = .ok (.iconst 0, 1) := by decide +kernel
theorem dX10_place_17 : decode cX10_place 17 = .ok (.iconst 2, 1) := by decide +kernel
theorem dX10_place_18 : decode cX10_place 18 = .ok (.invokestatic 125, 3) := by decide +kernel
theorem dX10_place_21 : decode cX10_place 21 = .ok (.ifCond .ne 5, 3) := by decide +kernel
theorem dX10_place_24 : decode cX10_place 24 = .ok (.iconst (-1), 1) := by decide +kernel
theorem dX10_place_25 : decode cX10_place 25 = .ok (.ireturn, 1) := by decide +kernel
theorem dX10_place_26 : decode cX10_place 26 = .ok (.aload_n 0, 1) := by decide +kernel
theorem dX10_place_27 : decode cX10_place 27 = .ok (.iload_n 1, 1) := by decide +kernel
theorem dX10_place_28 : decode cX10_place 28 = .ok (.invokevirtual 258, 3) := by decide +kernel
theorem dX10_place_31 : decode cX10_place 31 = .ok (.aload_n 0, 1) := by decide +kernel
theorem dX10_place_32 : decode cX10_place 32 = .ok (.iload_n 2, 1) := by decide +kernel
theorem dX10_place_33 : decode cX10_place 33 = .ok (.invokevirtual 277, 3) := by decide +kernel
theorem dX10_place_36 : decode cX10_place 36 = .ok (.istore 4, 2) := by decide +kernel
theorem dX10_place_38 : decode cX10_place 38 = .ok (.aload_n 0, 1) := by decide +kernel
theorem dX10_place_39 : decode cX10_place 39 = .ok (.aload_n 0, 1) := by decide +kernel
theorem dX10_place_40 : decode cX10_place 40 = .ok (.iload 4, 2) := by decide +kernel
theorem dX10_place_42 : decode cX10_place 42 = .ok (.invokevirtual 261, 3) := by decide +kernel
theorem dX10_place_45 : decode cX10_place 45 = .ok (.aload_n 0, 1) := by decide +kernel
theorem dX10_place_46 : decode cX10_place 46 = .ok (.getfield 60, 3) := by decide +kernel
theorem dX10_place_49 : decode cX10_place 49 = .ok (.iload 4, 2) := by decide +kernel
theorem dX10_place_51 : decode cX10_place 51 = .ok (.iaload, 1) := by decide +kernel
theorem dX10_place_52 : decode cX10_place 52 = .ok (.invokevirtual 231, 3) := by decide +kernel
theorem dX10_place_55 : decode cX10_place 55 = .ok (.aload_n 0, 1) := by decide +kernel
theorem dX10_place_56 : decode cX10_place 56 = .ok (.aload_n 0, 1) := by decide +kernel
theorem dX10_place_57 : decode cX10_place 57 = .ok (.iload 4, 2) := by decide +kernel
theorem dX10_place_59 : decode cX10_place 59 = .ok (.invokevirtual 261, 3) := by decide +kernel
theorem dX10_place_62 : decode cX10_place 62 = .ok (.aload_n 0, 1) := by decide +kernel
theorem dX10_place_63 : decode cX10_place 63 = .ok (.getfield 60, 3) := by decide +kernel
theorem dX10_place_66 : decode cX10_place 66 = .ok (.iload 4, 2) := by decide +kernel
theorem dX10_place_68 : decode cX10_place 68 = .ok (.iaload, 1) := by decide +kernel
theorem dX10_place_69 : decode cX10_place 69 = .ok (.invokevirtual 280, 3) := by decide +kernel
theorem dX10_place_72 : decode cX10_place 72 = .ok (.iload_n 3, 1) := by decide +kernel
theorem dX10_place_73 : decode cX10_place 73 = .ok (.ifCond .ne 17, 3) := by decide +kernel
theorem dX10_place_76 : decode cX10_place 76 = .ok (.aload_n 0, 1) := by decide +kernel
theorem dX10_place_77 : decode cX10_place 77 = .ok (.aload_n 0, 1) := by decide +kernel
theorem dX10_place_78 : decode cX10_place 78 = .ok (.iload 4, 2) := by decide +kernel
theorem dX10_place_80 : decode cX10_place 80 = .ok (.invokevirtual 261, 3) := by decide +kernel
theorem dX10_place_83 : decode cX10_place 83 = .ok (.iload_n 2, 1) := by decide +kernel
theorem dX10_place_84 : decode cX10_place 84 = .ok (.invokevirtual 283, 3) := by decide +kernel
theorem dX10_place_87 : decode cX10_place 87 = .ok (.goto 23, 3) := by decide +kernel
theorem dX10_place_90 : decode cX10_place 90 = .ok (.iload_n 3, 1) := by decide +kernel
theorem dX10_place_91 : decode cX10_place 91 = .ok (.iconst 1, 1) := by decide +kernel
theorem dX10_place_92 : decode cX10_place 92 = .ok (.if_icmp .ne 12, 3) := by decide +kernel
theorem dX10_place_95 : decode cX10_place 95 = .ok (.aload_n 0, 1) := by decide +kernel
theorem dX10_place_96 : decode cX10_place 96 = .ok (.getfield 63, 3) := by decide +kernel
theorem dX10_place_99 : decode cX10_place 99 = .ok (.iload_n 2, 1) := by decide +kernel
theorem dX10_place_100 : decode cX10_place 100 = .ok (.iaload, 1) := by decide +kernel
theorem dX10_place_101 : decode cX10_place 101 = .ok (.goto 9, 3) := by decide +kernel
theorem dX10_place_104 : decode cX10_place 104 = .ok (.aload_n 0, 1) := by decide +kernel
theorem dX10_place_105 : decode cX10_place 105 = .ok (.getfield 66, 3) := by decide +kernel
theorem dX10_place_108 : decode cX10_place 108 = .ok (.iload_n 2, 1) := by decide +kernel
theorem dX10_place_109 : decode cX10_place 109 = .ok (.iaload, 1) := by decide +kernel
theorem dX10_place_110 : decode cX10_place 110 = .ok (.ireturn, 1) := by decide +kernel
theorem ok_X10_place : okY RX10 yX10_place 3 := ⟨rfl, by decide, by decide, by decide +kernel⟩
def f_X10_place (M : OV) (p0 : Int32) (p1 : Int32) (p2 : Int32) : Option (Int32 × OV) := (f_X10_isKind p0).bind (un1 (fun r_1 => (if r_1 = 0 then some ((-1 : Int32), M) else (f_X10_isSign M p1).bind (un1 (fun r_3 => (if r_3 = 0 then some ((-1 : Int32), M) else (f_X10_in p2 (0 : Int32) (2 : Int32)).bind (un1 (fun r_5 => (if r_5 = 0 then some ((-1 : Int32), M) else (f_X10_laysLines M p0).bind (un1 (fun M_7 => (f_X10_lineWith M_7 p1).bind (un1 (fun r_9 => bnd r_9 (fun v4_11 => (f_X10_firstOf M_7 v4_11).bind (un1 (fun r_12 => gd (ix v4_11 41) ((f_X10_looks M_7 r_12 (ar M_7 24 v4_11.toNatClampNeg)).bind (un1 (fun M_14 => (f_X10_firstOf M_14 v4_11).bind (un1 (fun r_16 => gd (ix v4_11 41) ((f_X10_deals M_14 r_16 (ar M_14 24 v4_11.toNatClampNeg)).bind (un1 (fun M_18 => (if p2 = 0 then (f_X10_firstOf M_18 v4_11).bind (un1 (fun r_20 => (f_X10_edgeOf M_18 r_20 p1).bind (un1 (fun r_22 => some (r_22, M_18))))) else (if p2 = (1 : Int32) then gd (ix p1 40) (some ((ar M_18 26 p1.toNatClampNeg), M_18)) else gd (ix p1 40) (some ((ar M_18 27 p1.toNatClampNeg), M_18))))))))))))))))))))))))))))
def r_X10_place : Room := { frames := 7, cells := 0, slots := 0, locals := 169 }
set_option maxHeartbeats 4000000 in
set_option maxRecDepth 100000 in
theorem c_X10_place (l : Launch) (D : va_G) (ev : EvT) (cy : Nat → ClassId) (oM : Nat) (aM : Nat → Nat) (M : OV) (p0 : Int32) (p1 : Int32) (p2 : Int32) (o : Int32 × OV) (hf : f_X10_place M p0 p1 p2 = some o) : Fn l yX10_place cX10_place 5 (some .int) r_X10_place D ev cy [.ref oM, .int p0, .int p1, .int p2] [gX10 cy oM aM M] (fun v G => v = some (.int o.1) ∧ G = [gX10 cy oM aM o.2]) := by
  refine Fn_of (by decide) (Nat.le_of_ble_eq_true rfl) (fun X A Q h hQ _ => ?_)
  unfold f_X10_place at hf
  show ww X D A 5 Q 0 0 0 [(0, .ref oM), (1, .int p0), (2, .int p1), (3, .int p2)] [] [gX10 cy oM aM M]
  refine ww_iload_n h dX10_place_0 rfl 1 rfl 1 rfl ?_
  obtain ⟨r_1, hu2, hf⟩ := ob1 hf
  refine ww_cSi h (c_X10_isKind l D ev cy p0 _ hu2) ⟨w_1492, w_1490, w_1491, w_111, ok_X10_isKind⟩ ⟨by decide, by decide⟩ ⟨by decide, by decide⟩ ⟨rfl, rfl⟩ [] rfl rfl (Nat.le_of_ble_eq_true rfl) dX10_place_1 4 rfl (Gs' := [gX10 cy oM aM M]) rfl ?_
  clear hu2
  refine ww_if_eq h dX10_place_4 24 (by decide) 7 rfl (fun c => ?_) (fun c => ?_)
  · replace hf := ite_t c hf
    refine ww_iconst (v := (-1)) h dX10_place_24 (by decide) 25 rfl ?_
    obtain rfl := Option.some.inj hf
    exact ww_iret h dX10_place_25 hQ ⟨rfl, rfl⟩
  · replace hf := ite_f c hf
    refine ww_aload_n h dX10_place_7 rfl 0 rfl 8 rfl ?_
    refine ww_iload_n h dX10_place_8 rfl 2 rfl 9 rfl ?_
    obtain ⟨r_3, hu4, hf⟩ := ob1 hf
    refine ww_cVi h (c_X10_isSign l D ev cy oM aM M p1 _ hu4) ⟨w_1357, w_1354, w_1356, w_42, w_111, ok_X10_isSign⟩ ⟨by decide, by decide⟩ ⟨by decide, by decide⟩ ⟨rfl, rfl⟩ [0] rfl 0 rfl rfl rfl rfl (Nat.le_of_ble_eq_true rfl) dX10_place_9 12 rfl (Gs' := [gX10 cy oM aM M]) rfl ?_
    clear hu4
    refine ww_if_eq h dX10_place_12 24 (by decide) 15 rfl (fun c => ?_) (fun c => ?_)
    · replace hf := ite_t c hf
      refine ww_iconst (v := (-1)) h dX10_place_24 (by decide) 25 rfl ?_
      obtain rfl := Option.some.inj hf
      exact ww_iret h dX10_place_25 hQ ⟨rfl, rfl⟩
    · replace hf := ite_f c hf
      refine ww_iload_n h dX10_place_15 rfl 3 rfl 16 rfl ?_
      refine ww_iconst (v := 0) h dX10_place_16 (by decide) 17 rfl ?_
      refine ww_iconst (v := 2) h dX10_place_17 (by decide) 18 rfl ?_
      obtain ⟨r_5, hu6, hf⟩ := ob1 hf
      refine ww_cSi h (c_X10_in l D ev cy p2 (0 : Int32) (2 : Int32) _ hu6) ⟨w_1333, w_1331, w_1332, w_111, ok_X10_in⟩ ⟨by decide, by decide⟩ ⟨by decide, by decide⟩ ⟨rfl, rfl⟩ [] rfl rfl (Nat.le_of_ble_eq_true rfl) dX10_place_18 21 rfl (Gs' := [gX10 cy oM aM M]) rfl ?_
      clear hu6
      refine ww_if_ne h dX10_place_21 26 (by decide) 24 rfl (fun c => ?_) (fun c => ?_)
      · replace hf := ite_f c hf
        refine ww_aload_n h dX10_place_26 rfl 0 rfl 27 rfl ?_
        refine ww_iload_n h dX10_place_27 rfl 1 rfl 28 rfl ?_
        obtain ⟨M_7, hu8, hf⟩ := ob1 hf
        refine ww_cVv h (c_X10_laysLines l D ev cy oM aM M p0 _ hu8) ⟨w_1496, w_1493, w_1495, w_56, w_111, ok_X10_laysLines⟩ ⟨by decide, by decide⟩ ⟨by decide, by decide⟩ ⟨rfl, rfl⟩ [0] rfl 0 rfl rfl rfl rfl (Nat.le_of_ble_eq_true rfl) dX10_place_28 31 rfl (Gs' := [gX10 cy oM aM M_7]) rfl ?_
        clear hu8
        refine ww_aload_n h dX10_place_31 rfl 0 rfl 32 rfl ?_
        refine ww_iload_n h dX10_place_32 rfl 2 rfl 33 rfl ?_
        obtain ⟨r_9, hu10, hf⟩ := ob1 hf
        refine ww_cVi h (c_X10_lineWith l D ev cy oM aM M_7 p1 _ hu10) ⟨w_1545, w_1542, w_1544, w_66, w_111, ok_X10_lineWith⟩ ⟨by decide, by decide⟩ ⟨by decide, by decide⟩ ⟨rfl, rfl⟩ [0] rfl 0 rfl rfl rfl rfl (Nat.le_of_ble_eq_true rfl) dX10_place_33 36 rfl (Gs' := [gX10 cy oM aM M_7]) rfl ?_
        clear hu10
        refine ww_ist h dX10_place_36 (by decide) (fun v4_11 => [(4, .int v4_11), (0, .ref oM), (1, .int p0), (2, .int p1), (3, .int p2)]) (fun _ => rfl) 38 rfl (fun v4_11 e => ?_)
        replace hf := bnd_at e hf
        clear e
        refine ww_aload_n h dX10_place_38 rfl 1 rfl 39 rfl ?_
        refine ww_aload_n h dX10_place_39 rfl 1 rfl 40 rfl ?_
        refine ww_iload h dX10_place_40 0 rfl 42 rfl ?_
        obtain ⟨r_12, hu13, hf⟩ := ob1 hf
        refine ww_cVi h (c_X10_firstOf l D ev cy oM aM M_7 v4_11 _ hu13) ⟨w_1525, w_1522, w_1524, w_63, w_111, ok_X10_firstOf⟩ ⟨by decide, by decide⟩ ⟨by decide, by decide⟩ ⟨rfl, rfl⟩ [0] rfl 0 rfl rfl rfl rfl (Nat.le_of_ble_eq_true rfl) dX10_place_42 45 rfl (Gs' := [gX10 cy oM aM M_7]) rfl ?_
        clear hu13
        refine ww_aload_n h dX10_place_45 rfl 1 rfl 46 rfl ?_
        refine ww_get h inG10 rfl 0 rfl rfl 24 (by decide) w_1181 rfl dX10_place_46 49 rfl ?_
        refine ww_iload h dX10_place_49 0 rfl 51 rfl ?_
        have hi := (gd_some hf).1
        replace hf := (gd_some hf).2
        refine ww_iald h 0 rfl 16 rfl (ix_in hi) dX10_place_51 52 rfl ?_
        clear hi
        obtain ⟨M_14, hu15, hf⟩ := ob1 hf
        refine ww_cVv h (c_X10_looks l D ev cy oM aM M_7 r_12 (ar M_7 24 v4_11.toNatClampNeg) _ hu15) ⟨w_1469, w_1466, w_1468, w_52, w_111, ok_X10_looks⟩ ⟨by decide, by decide⟩ ⟨by decide, by decide⟩ ⟨rfl, rfl⟩ [0] rfl 0 rfl rfl rfl rfl (Nat.le_of_ble_eq_true rfl) dX10_place_52 55 rfl (Gs' := [gX10 cy oM aM M_14]) rfl ?_
        clear hu15
        refine ww_aload_n h dX10_place_55 rfl 1 rfl 56 rfl ?_
        refine ww_aload_n h dX10_place_56 rfl 1 rfl 57 rfl ?_
        refine ww_iload h dX10_place_57 0 rfl 59 rfl ?_
        obtain ⟨r_16, hu17, hf⟩ := ob1 hf
        refine ww_cVi h (c_X10_firstOf l D ev cy oM aM M_14 v4_11 _ hu17) ⟨w_1525, w_1522, w_1524, w_63, w_111, ok_X10_firstOf⟩ ⟨by decide, by decide⟩ ⟨by decide, by decide⟩ ⟨rfl, rfl⟩ [0] rfl 0 rfl rfl rfl rfl (Nat.le_of_ble_eq_true rfl) dX10_place_59 62 rfl (Gs' := [gX10 cy oM aM M_14]) rfl ?_
        clear hu17
        refine ww_aload_n h dX10_place_62 rfl 1 rfl 63 rfl ?_
        refine ww_get h inG10 rfl 0 rfl rfl 24 (by decide) w_1181 rfl dX10_place_63 66 rfl ?_
        refine ww_iload h dX10_place_66 0 rfl 68 rfl ?_
        have hi := (gd_some hf).1
        replace hf := (gd_some hf).2
        refine ww_iald h 0 rfl 16 rfl (ix_in hi) dX10_place_68 69 rfl ?_
        clear hi
        obtain ⟨M_18, hu19, hf⟩ := ob1 hf
        refine ww_cVv h (c_X10_deals l D ev cy oM aM M_14 r_16 (ar M_14 24 v4_11.toNatClampNeg) _ hu19) ⟨w_1553, w_1550, w_1552, w_67, w_111, ok_X10_deals⟩ ⟨by decide, by decide⟩ ⟨by decide, by decide⟩ ⟨rfl, rfl⟩ [0] rfl 0 rfl rfl rfl rfl (Nat.le_of_ble_eq_true rfl) dX10_place_69 72 rfl (Gs' := [gX10 cy oM aM M_18]) rfl ?_
        clear hu19
        refine ww_iload_n h dX10_place_72 rfl 4 rfl 73 rfl ?_
        refine ww_if_ne h dX10_place_73 90 (by decide) 76 rfl (fun c => ?_) (fun c => ?_)
        · replace hf := ite_f c hf
          refine ww_iload_n h dX10_place_90 rfl 4 rfl 91 rfl ?_
          refine ww_iconst (v := 1) h dX10_place_91 (by decide) 92 rfl ?_
          refine ww_icmp_ne h dX10_place_92 104 (by decide) 95 rfl (fun c => ?_) (fun c => ?_)
          · replace hf := ite_f c hf
            refine ww_aload_n h dX10_place_104 rfl 1 rfl 105 rfl ?_
            refine ww_get h inG10 rfl 0 rfl rfl 27 (by decide) w_1184 rfl dX10_place_105 108 rfl ?_
            refine ww_iload_n h dX10_place_108 rfl 3 rfl 109 rfl ?_
            have hi := (gd_some hf).1
            replace hf := (gd_some hf).2
            refine ww_iald h 0 rfl 18 rfl (ix_in hi) dX10_place_109 110 rfl ?_
            clear hi
            obtain rfl := Option.some.inj hf
            exact ww_iret h dX10_place_110 hQ ⟨rfl, rfl⟩
          · replace hf := ite_t c hf
            refine ww_aload_n h dX10_place_95 rfl 1 rfl 96 rfl ?_
            refine ww_get h inG10 rfl 0 rfl rfl 26 (by decide) w_1183 rfl dX10_place_96 99 rfl ?_
            refine ww_iload_n h dX10_place_99 rfl 3 rfl 100 rfl ?_
            have hi := (gd_some hf).1
            replace hf := (gd_some hf).2
            refine ww_iald h 0 rfl 17 rfl (ix_in hi) dX10_place_100 101 rfl ?_
            clear hi
            refine ww_goto h dX10_place_101 110 (by decide) ?_
            obtain rfl := Option.some.inj hf
            exact ww_iret h dX10_place_110 hQ ⟨rfl, rfl⟩
        · replace hf := ite_t c hf
          refine ww_aload_n h dX10_place_76 rfl 1 rfl 77 rfl ?_
          refine ww_aload_n h dX10_place_77 rfl 1 rfl 78 rfl ?_
          refine ww_iload h dX10_place_78 0 rfl 80 rfl ?_
          obtain ⟨r_20, hu21, hf⟩ := ob1 hf
          refine ww_cVi h (c_X10_firstOf l D ev cy oM aM M_18 v4_11 _ hu21) ⟨w_1525, w_1522, w_1524, w_63, w_111, ok_X10_firstOf⟩ ⟨by decide, by decide⟩ ⟨by decide, by decide⟩ ⟨rfl, rfl⟩ [0] rfl 0 rfl rfl rfl rfl (Nat.le_of_ble_eq_true rfl) dX10_place_80 83 rfl (Gs' := [gX10 cy oM aM M_18]) rfl ?_
          clear hu21
          refine ww_iload_n h dX10_place_83 rfl 3 rfl 84 rfl ?_
          obtain ⟨r_22, hu23, hf⟩ := ob1 hf
          refine ww_cVi h (c_X10_edgeOf l D ev cy oM aM M_18 r_20 p1 _ hu23) ⟨w_1565, w_1562, w_1564, w_70, w_111, ok_X10_edgeOf⟩ ⟨by decide, by decide⟩ ⟨by decide, by decide⟩ ⟨rfl, rfl⟩ [0] rfl 0 rfl rfl rfl rfl (Nat.le_of_ble_eq_true rfl) dX10_place_84 87 rfl (Gs' := [gX10 cy oM aM M_18]) rfl ?_
          clear hu23
          refine ww_goto h dX10_place_87 110 (by decide) ?_
          obtain rfl := Option.some.inj hf
          exact ww_iret h dX10_place_110 hQ ⟨rfl, rfl⟩
      · replace hf := ite_t c hf
        refine ww_iconst (v := (-1)) h dX10_place_24 (by decide) 25 rfl ?_
        obtain rfl := Option.some.inj hf
        exact ww_iret h dX10_place_25 hQ ⟨rfl, rfl⟩
