theorem dX5_fullEnd_0 : decode cX5_fullEnd 0 = .ok (.iconst (-1), 1) := by decide +kernel
theorem dX5_fullEnd_1 : decode cX5_fullEnd 1 = .ok (.istore 4, 2) := by decide +kernel
theorem dX5_fullEnd_3 : decode cX5_fullEnd 3 = .ok (.iconst (-1), 1) := by decide +kernel
theorem dX5_fullEnd_4 : decode cX5_fullEnd 4 = .ok (.istore 5, 2) := by decide +kernel
theorem dX5_fullEnd_6 : decode cX5_fullEnd 6 = .ok (.iload_n 2, 1) := by decide +kernel
theorem dX5_fullEnd_7 : decode cX5_fullEnd 7 = .ok (.istore 6, 2) := by decide +kernel
theorem dX5_fullEnd_9 : decode cX5_fullEnd 9 = .ok (.aload_n 1, 1) := by decide +kernel
theorem dX5_fullEnd_10 : decode cX5_fullEnd 10 = .ok (.iload_n 2, 1) := by decide +kernel
theorem dX5_fullEnd_11 : decode cX5_fullEnd 11 = .ok (.invokevirtual 31, 3) := by decide +kernel
theorem dX5_fullEnd_14 : decode cX5_fullEnd 14 = .ok (.istore 7, 2) := by decide +kernel
theorem dX5_fullEnd_16 : decode cX5_fullEnd 16 = .ok (.iload_n 2, 1) := by decide +kernel
theorem dX5_fullEnd_17 : decode cX5_fullEnd 17 = .ok (.istore 8, 2) := by decide +kernel
theorem dX5_fullEnd_19 : decode cX5_fullEnd 19 = .ok (.iload 8, 2) := by decide +kernel
theorem dX5_fullEnd_21 : decode cX5_fullEnd 21 = .ok (.iload 7, 2) := by decide +kernel
theorem dX5_fullEnd_23 : decode cX5_fullEnd 23 = .ok (.if_icmp .gt 56, 3) := by decide +kernel
theorem dX5_fullEnd_26 : decode cX5_fullEnd 26 = .ok (.aload_n 1, 1) := by decide +kernel
theorem dX5_fullEnd_27 : decode cX5_fullEnd 27 = .ok (.iload_n 2, 1) := by decide +kernel
theorem dX5_fullEnd_28 : decode cX5_fullEnd 28 = .ok (.iload 8, 2) := by decide +kernel
theorem dX5_fullEnd_30 : decode cX5_fullEnd 30 = .ok (.invokevirtual 35, 3) := by decide +kernel
theorem dX5_fullEnd_33 : decode cX5_fullEnd 33 = .ok (.aload_n 1, 1) := by decide +kernel
theorem dX5_fullEnd_34 : decode cX5_fullEnd 34 = .ok (.getfield 39, 3) := by decide +kernel
theorem dX5_fullEnd_37 : decode cX5_fullEnd 37 = .ok (.ifCond .ne 36, 3) := by decide +kernel
theorem dX5_fullEnd_40 : decode cX5_fullEnd 40 = .ok (.iload 8, 2) := by decide +kernel
theorem dX5_fullEnd_42 : decode cX5_fullEnd 42 = .ok (.istore 6, 2) := by decide +kernel
theorem dX5_fullEnd_44 : decode cX5_fullEnd 44 = .ok (.aload_n 1, 1) := by decide +kernel
theorem dX5_fullEnd_45 : decode cX5_fullEnd 45 = .ok (.iload 8, 2) := by decide +kernel
theorem dX5_fullEnd_47 : decode cX5_fullEnd 47 = .ok (.invokevirtual 43, 3) := by decide +kernel
theorem dX5_fullEnd_50 : decode cX5_fullEnd 50 = .ok (.ifCond .eq 23, 3) := by decide +kernel
theorem dX5_fullEnd_53 : decode cX5_fullEnd 53 = .ok (.iload 8, 2) := by decide +kernel
theorem dX5_fullEnd_55 : decode cX5_fullEnd 55 = .ok (.istore 5, 2) := by decide +kernel
theorem dX5_fullEnd_57 : decode cX5_fullEnd 57 = .ok (.aload_n 1, 1) := by decide +kernel
theorem dX5_fullEnd_58 : decode cX5_fullEnd 58 = .ok (.getfield 47, 3) := by decide +kernel
theorem dX5_fullEnd_61 : decode cX5_fullEnd 61 = .ok (.ifCond .ne 8, 3) := by decide +kernel
theorem dX5_fullEnd_64 : decode cX5_fullEnd 64 = .ok (.iload 8, 2) := by decide +kernel
theorem dX5_fullEnd_66 : decode cX5_fullEnd 66 = .ok (.goto 5, 3) := by decide +kernel
theorem dX5_fullEnd_69 : decode cX5_fullEnd 69 = .ok (.iload 4, 2) := by decide +kernel
theorem dX5_fullEnd_71 : decode cX5_fullEnd 71 = .ok (.istore 4, 2) := by decide +kernel
theorem dX5_fullEnd_73 : decode cX5_fullEnd 73 = .ok (.iinc 8 1, 3) := by decide +kernel
theorem dX5_fullEnd_76 : decode cX5_fullEnd 76 = .ok (.goto (-57), 3) := by decide +kernel
theorem dX5_fullEnd_79 : decode cX5_fullEnd 79 = .ok (.iload_n 3, 1) := by decide +kernel
theorem dX5_fullEnd_80 : decode cX5_fullEnd 80 = .ok (.ifCond .eq 12, 3) := by decide +kernel
theorem dX5_fullEnd_83 : decode cX5_fullEnd 83 = .ok (.iload 4, 2) := by decide +kernel
theorem dX5_fullEnd_85 : decode cX5_fullEnd 85 = .ok (.iconst (-1), 1) := by decide +kernel
theorem dX5_fullEnd_86 : decode cX5_fullEnd 86 = .ok (.if_icmp .eq 6, 3) := by decide +kernel
theorem dX5_fullEnd_89 : decode cX5_fullEnd 89 = .ok (.iload 4, 2) := by decide +kernel
theorem dX5_fullEnd_91 : decode cX5_fullEnd 91 = .ok (.ireturn, 1) := by decide +kernel
theorem dX5_fullEnd_92 : decode cX5_fullEnd 92 = .ok (.iload 5, 2) := by decide +kernel
theorem dX5_fullEnd_94 : decode cX5_fullEnd 94 = .ok (.iconst (-1), 1) := by decide +kernel
theorem dX5_fullEnd_95 : decode cX5_fullEnd 95 = .ok (.if_icmp .eq 8, 3) := by decide +kernel
theorem dX5_fullEnd_98 : decode cX5_fullEnd 98 = .ok (.iload 5, 2) := by decide +kernel
theorem dX5_fullEnd_100 : decode cX5_fullEnd 100 = .ok (.goto 5, 3) := by decide +kernel
theorem dX5_fullEnd_103 : decode cX5_fullEnd 103 = .ok (.iload 6, 2) := by decide +kernel
theorem dX5_fullEnd_105 : decode cX5_fullEnd 105 = .ok (.ireturn, 1) := by decide +kernel
theorem ok_X5_fullEnd : okY RX5 yX5_fullEnd 3 := ⟨rfl, by decide, by decide, by decide +kernel⟩
def j_X5_fullEnd_73_19 (R_14 : OV) (v8_12 : Int32) (v4_16 : Int32) (v5_17 : Int32) (v6_18 : Int32) : Option ((Int32 × Int32 × Int32 × Int32 × OV) ⊕ (Int32 × Int32 × Int32 × OV)) := bnd (v8_12 + 1) (fun v8_20 => some (.inl (v4_16, v5_17, v6_18, v8_20, R_14)))
def j_X5_fullEnd_71_26 (R_14 : OV) (v8_12 : Int32) (v6_21 : Int32) (v5_24 : Int32) (t_25 : Int32) : Option ((Int32 × Int32 × Int32 × Int32 × OV) ⊕ (Int32 × Int32 × Int32 × OV)) := bnd t_25 (fun v4_27 => j_X5_fullEnd_73_19 R_14 v8_12 v4_27 v5_24 v6_21)
def s_X5_fullEnd_19_8 (oP : Nat) (P : OV) (p1 : Int32) (v7_6 : Int32) : (Int32 × Int32 × Int32 × Int32 × OV) → Option ((Int32 × Int32 × Int32 × Int32 × OV) ⊕ (Int32 × Int32 × Int32 × OV)) := un5 (fun v4_9 v5_10 v6_11 v8_12 R_13 => (if v7_6 < v8_12 then some (.inr (v4_9, v5_10, v6_11, R_13)) else (f_X7_measure R_13 oP P p1 v8_12).bind (un1 (fun R_14 => (if (iv R_14 12) = 0 then bnd v8_12 (fun v6_21 => (f_X7_isLegal R_14 v8_12).bind (un1 (fun r_22 => (if r_22 = 0 then j_X5_fullEnd_73_19 R_14 v8_12 v4_9 v5_10 v6_21 else bnd v8_12 (fun v5_24 => (if (iv R_14 14) = 0 then j_X5_fullEnd_71_26 R_14 v8_12 v6_21 v5_24 v8_12 else j_X5_fullEnd_71_26 R_14 v8_12 v6_21 v5_24 v4_9)))))) else j_X5_fullEnd_73_19 R_14 v8_12 v4_9 v5_10 v6_11)))))
def j_X5_fullEnd_92_32 (R_31 : OV) (v5_29 : Int32) (v6_30 : Int32) : Option (Int32 × OV) := (if v5_29 = (-1 : Int32) then some (v6_30, R_31) else some (v5_29, R_31))
def f_X5_fullEnd (R : OV) (oP : Nat) (P : OV) (p1 : Int32) (p2 : Int32) : Option (Int32 × OV) := bnd (-1 : Int32) (fun v4_1 => bnd (-1 : Int32) (fun v5_2 => bnd p1 (fun v6_3 => (f_X7_reach R oP P p1).bind (un1 (fun r_4 => bnd r_4 (fun v7_6 => bnd p1 (fun v8_7 => ((lp (s_X5_fullEnd_19_8 oP P p1 v7_6) 5000 (v4_1, v5_2, v6_3, v8_7, R)).bind (un4 (fun v4_28 v5_29 v6_30 R_31 => (if p2 = 0 then j_X5_fullEnd_92_32 R_31 v5_29 v6_30 else (if v4_28 = (-1 : Int32) then j_X5_fullEnd_92_32 R_31 v5_29 v6_30 else some (v4_28, R_31)))))))))))))
def r_X5_fullEnd : Room := { frames := 3, cells := 0, slots := 0, locals := 71 }
set_option maxHeartbeats 4000000 in
set_option maxRecDepth 100000 in
theorem c_X5_fullEnd (l : Launch) (D : va_G) (ev : EvT) (cy : Nat → ClassId) (oN : Nat) (aN : Nat → Nat) (N : OV) (oR : Nat) (aR : Nat → Nat) (R : OV) (oP : Nat) (aP : Nat → Nat) (P : OV) (p1 : Int32) (p2 : Int32) (o : Int32 × OV) (hf : f_X5_fullEnd R oP P p1 p2 = some o) : Fn l yX5_fullEnd cX5_fullEnd 9 (some .int) r_X5_fullEnd D ev cy [.ref oN, .ref oR, .int p1, .int p2] [gX5 cy oN aN N, gX7 cy oR aR R, gX4 cy oP aP P] (fun v G => v = some (.int o.1) ∧ G = [gX5 cy oN aN N, gX7 cy oR aR o.2, gX4 cy oP aP P]) := by
  refine Fn_of (by decide) (Nat.le_of_ble_eq_true rfl) (fun X A Q h hQ _ => ?_)
  unfold f_X5_fullEnd at hf
  show ww X D A 9 Q 0 0 0 [(0, .ref oN), (1, .ref oR), (2, .int p1), (3, .int p2)] [] [gX5 cy oN aN N, gX7 cy oR aR R, gX4 cy oP aP P]
  refine ww_iconst (v := (-1)) h dX5_fullEnd_0 (by decide) 1 rfl ?_
  refine ww_ist h dX5_fullEnd_1 (by decide) (fun v4_1 => [(4, .int v4_1), (0, .ref oN), (1, .ref oR), (2, .int p1), (3, .int p2)]) (fun _ => rfl) 3 rfl (fun v4_1 e => ?_)
  replace hf := bnd_at e hf
  clear e
  refine ww_iconst (v := (-1)) h dX5_fullEnd_3 (by decide) 4 rfl ?_
  refine ww_ist h dX5_fullEnd_4 (by decide) (fun v5_2 => [(5, .int v5_2), (4, .int v4_1), (0, .ref oN), (1, .ref oR), (2, .int p1), (3, .int p2)]) (fun _ => rfl) 6 rfl (fun v5_2 e => ?_)
  replace hf := bnd_at e hf
  clear e
  refine ww_iload_n h dX5_fullEnd_6 rfl 4 rfl 7 rfl ?_
  refine ww_ist h dX5_fullEnd_7 (by decide) (fun v6_3 => [(6, .int v6_3), (5, .int v5_2), (4, .int v4_1), (0, .ref oN), (1, .ref oR), (2, .int p1), (3, .int p2)]) (fun _ => rfl) 9 rfl (fun v6_3 e => ?_)
  replace hf := bnd_at e hf
  clear e
  refine ww_aload_n h dX5_fullEnd_9 rfl 4 rfl 10 rfl ?_
  refine ww_iload_n h dX5_fullEnd_10 rfl 5 rfl 11 rfl ?_
  obtain ⟨r_4, hu5, hf⟩ := ob1 hf
  refine ww_cVi h (c_X7_reach l D ev cy oR aR R oP aP P p1 _ hu5) ⟨w_869, w_866, w_867, w_868, w_107, ok_X7_reach⟩ ⟨by decide, by decide⟩ ⟨by decide, by decide⟩ ⟨rfl, rfl⟩ [1, 1] rfl 0 rfl rfl rfl rfl (Nat.le_of_ble_eq_true rfl) dX5_fullEnd_11 14 rfl (Gs' := [gX7 cy oR aR R, gX4 cy oP aP P, gX5 cy oN aN N]) rfl ?_
  clear hu5
  refine ww_ist h dX5_fullEnd_14 (by decide) (fun v7_6 => [(7, .int v7_6), (6, .int v6_3), (5, .int v5_2), (4, .int v4_1), (0, .ref oN), (1, .ref oR), (2, .int p1), (3, .int p2)]) (fun _ => rfl) 16 rfl (fun v7_6 e => ?_)
  replace hf := bnd_at e hf
  clear e
  refine ww_iload_n h dX5_fullEnd_16 rfl 6 rfl 17 rfl ?_
  refine ww_ist h dX5_fullEnd_17 (by decide) (fun v8_7 => [(8, .int v8_7), (7, .int v7_6), (6, .int v6_3), (5, .int v5_2), (4, .int v4_1), (0, .ref oN), (1, .ref oR), (2, .int p1), (3, .int p2)]) (fun _ => rfl) 19 rfl (fun v8_7 e => ?_)
  replace hf := bnd_at e hf
  clear e
  refine ww_lo [6, 7, 8, 4, 3, 2, 1, 0] (lo' := [(1, .ref oR), (2, .int p1), (3, .int p2), (4, .int v4_1), (5, .int v5_2), (6, .int v6_3), (7, .int v7_6), (8, .int v8_7)]) rfl ?_
  refine ww_perm [2, 0, 0] (Gs' := [gX5 cy oN aN N, gX7 cy oR aR R, gX4 cy oP aP P]) rfl ?_
  obtain ⟨v4_28, v5_29, v6_30, R_31, h8, hf⟩ := ob4 hf
  refine lp_walk (un5 (fun v4_9 v5_10 v6_11 v8_12 R_13 => ww X D A 9 Q 0 0 19 [(1, .ref oR), (2, .int p1), (3, .int p2), (4, .int v4_9), (5, .int v5_10), (6, .int v6_11), (7, .int v7_6), (8, .int v8_12)] [] [gX5 cy oN aN N, gX7 cy oR aR R_13, gX4 cy oP aP P])) (un4 (fun v4_28 v5_29 v6_30 R_31 => ww X D A 9 Q 0 0 79 [(3, .int p2), (4, .int v4_28), (5, .int v5_29), (6, .int v6_30)] [] [gX5 cy oN aN N, gX7 cy oR aR R_31, gX4 cy oP aP P])) ?_ _ _ _ h8 ?_
  · clear h8 hf
    intro s8 o8 hf hI8 hE8
    obtain ⟨v4_9, v5_10, v6_11, v8_12, R_13⟩ := s8
    unfold s_X5_fullEnd_19_8 at hf
    replace hf := un5_e hf
    show ww X D A 9 Q 0 0 19 [(1, .ref oR), (2, .int p1), (3, .int p2), (4, .int v4_9), (5, .int v5_10), (6, .int v6_11), (7, .int v7_6), (8, .int v8_12)] [] [gX5 cy oN aN N, gX7 cy oR aR R_13, gX4 cy oP aP P]
    refine ww_iload h dX5_fullEnd_19 7 rfl 21 rfl ?_
    refine ww_iload h dX5_fullEnd_21 6 rfl 23 rfl ?_
    refine ww_icmp_gt h dX5_fullEnd_23 79 (by decide) 26 rfl (fun c => ?_) (fun c => ?_)
    · replace hf := ite_t c hf
      refine ww_lo [2, 3, 4, 5] (lo' := [(3, .int p2), (4, .int v4_9), (5, .int v5_10), (6, .int v6_11)]) rfl ?_
      exact hE8 (v4_9, v5_10, v6_11, R_13) (Option.some.inj hf).symm
    · replace hf := ite_f c hf
      refine ww_aload_n h dX5_fullEnd_26 rfl 0 rfl 27 rfl ?_
      refine ww_iload_n h dX5_fullEnd_27 rfl 1 rfl 28 rfl ?_
      refine ww_iload h dX5_fullEnd_28 7 rfl 30 rfl ?_
      obtain ⟨R_14, hu15, hf⟩ := ob1 hf
      refine ww_cVv h (c_X7_measure l D ev cy oR aR R_13 oP aP P p1 v8_12 _ hu15) ⟨w_835, w_870, w_833, w_834, w_107, ok_X7_measure⟩ ⟨by decide, by decide⟩ ⟨by decide, by decide⟩ ⟨rfl, rfl⟩ [1, 1] rfl 0 rfl rfl rfl rfl (Nat.le_of_ble_eq_true rfl) dX5_fullEnd_30 33 rfl (Gs' := [gX7 cy oR aR R_14, gX4 cy oP aP P, gX5 cy oN aN N]) rfl ?_
      clear hu15
      refine ww_aload_n h dX5_fullEnd_33 rfl 0 rfl 34 rfl ?_
      refine ww_get h inG7 rfl 0 rfl rfl 12 (by decide) w_279 rfl dX5_fullEnd_34 37 rfl ?_
      have hJ73_19 : ∀ (v4_16 : Int32) (v5_17 : Int32) (v6_18 : Int32), j_X5_fullEnd_73_19 R_14 v8_12 v4_16 v5_17 v6_18 = some o8 → ww X D A 9 Q 0 0 73 [(1, .ref oR), (2, .int p1), (3, .int p2), (4, .int v4_16), (5, .int v5_17), (6, .int v6_18), (7, .int v7_6), (8, .int v8_12)] [] [gX5 cy oN aN N, gX7 cy oR aR R_14, gX4 cy oP aP P] := by
        intro v4_16 v5_17 v6_18 hf
        unfold j_X5_fullEnd_73_19 at hf
        refine ww_inc (c := 1) h dX5_fullEnd_73 7 rfl (by decide) (by decide) (fun v8_20 => [(8, .int v8_20), (1, .ref oR), (2, .int p1), (3, .int p2), (4, .int v4_16), (5, .int v5_17), (6, .int v6_18), (7, .int v7_6)]) (fun _ => rfl) 76 rfl (fun v8_20 e => ?_)
        replace hf := bnd_at e hf
        clear e
        refine ww_goto h dX5_fullEnd_76 19 (by decide) ?_
        refine ww_lo [1, 2, 3, 4, 5, 6, 7, 0] (lo' := [(1, .ref oR), (2, .int p1), (3, .int p2), (4, .int v4_16), (5, .int v5_17), (6, .int v6_18), (7, .int v7_6), (8, .int v8_20)]) rfl ?_
        exact hI8 (v4_16, v5_17, v6_18, v8_20, R_14) (Option.some.inj hf).symm
      refine ww_if_ne h dX5_fullEnd_37 73 (by decide) 40 rfl (fun c => ?_) (fun c => ?_)
      · replace hf := ite_f c hf
        refine ww_perm [2, 0, 0] (Gs' := [gX5 cy oN aN N, gX7 cy oR aR R_14, gX4 cy oP aP P]) rfl ?_
        exact hJ73_19 v4_9 v5_10 v6_11 hf
      · replace hf := ite_t c hf
        refine ww_iload h dX5_fullEnd_40 7 rfl 42 rfl ?_
        refine ww_ist h dX5_fullEnd_42 (by decide) (fun v6_21 => [(6, .int v6_21), (1, .ref oR), (2, .int p1), (3, .int p2), (4, .int v4_9), (5, .int v5_10), (7, .int v7_6), (8, .int v8_12)]) (fun _ => rfl) 44 rfl (fun v6_21 e => ?_)
        replace hf := bnd_at e hf
        clear e
        refine ww_aload_n h dX5_fullEnd_44 rfl 1 rfl 45 rfl ?_
        refine ww_iload h dX5_fullEnd_45 7 rfl 47 rfl ?_
        obtain ⟨r_22, hu23, hf⟩ := ob1 hf
        refine ww_cVi h (c_X7_isLegal l D ev cy oR aR R_14 v8_12 _ hu23) ⟨w_892, w_889, w_890, w_891, w_107, ok_X7_isLegal⟩ ⟨by decide, by decide⟩ ⟨by decide, by decide⟩ ⟨rfl, rfl⟩ [0] rfl 0 rfl rfl rfl rfl (Nat.le_of_ble_eq_true rfl) dX5_fullEnd_47 50 rfl (Gs' := [gX7 cy oR aR R_14, gX4 cy oP aP P, gX5 cy oN aN N]) rfl ?_
        clear hu23
        refine ww_if_eq h dX5_fullEnd_50 73 (by decide) 53 rfl (fun c => ?_) (fun c => ?_)
        · replace hf := ite_t c hf
          refine ww_lo [1, 2, 3, 4, 5, 0, 6, 7] (lo' := [(1, .ref oR), (2, .int p1), (3, .int p2), (4, .int v4_9), (5, .int v5_10), (6, .int v6_21), (7, .int v7_6), (8, .int v8_12)]) rfl ?_
          refine ww_perm [2, 0, 0] (Gs' := [gX5 cy oN aN N, gX7 cy oR aR R_14, gX4 cy oP aP P]) rfl ?_
          exact hJ73_19 v4_9 v5_10 v6_21 hf
        · replace hf := ite_f c hf
          refine ww_iload h dX5_fullEnd_53 7 rfl 55 rfl ?_
          refine ww_ist h dX5_fullEnd_55 (by decide) (fun v5_24 => [(5, .int v5_24), (6, .int v6_21), (1, .ref oR), (2, .int p1), (3, .int p2), (4, .int v4_9), (7, .int v7_6), (8, .int v8_12)]) (fun _ => rfl) 57 rfl (fun v5_24 e => ?_)
          replace hf := bnd_at e hf
          clear e
          refine ww_aload_n h dX5_fullEnd_57 rfl 2 rfl 58 rfl ?_
          refine ww_get h inG7 rfl 0 rfl rfl 14 (by decide) w_285 rfl dX5_fullEnd_58 61 rfl ?_
          have hJ71_26 : ∀ (t_25 : Int32), j_X5_fullEnd_71_26 R_14 v8_12 v6_21 v5_24 t_25 = some o8 → ww X D A 9 Q 0 0 71 [(1, .ref oR), (2, .int p1), (3, .int p2), (5, .int v5_24), (6, .int v6_21), (7, .int v7_6), (8, .int v8_12)] [.int t_25] [gX5 cy oN aN N, gX7 cy oR aR R_14, gX4 cy oP aP P] := by
            intro t_25 hf
            unfold j_X5_fullEnd_71_26 at hf
            refine ww_ist h dX5_fullEnd_71 (by decide) (fun v4_27 => [(4, .int v4_27), (1, .ref oR), (2, .int p1), (3, .int p2), (5, .int v5_24), (6, .int v6_21), (7, .int v7_6), (8, .int v8_12)]) (fun _ => rfl) 73 rfl (fun v4_27 e => ?_)
            replace hf := bnd_at e hf
            clear e
            refine ww_lo [1, 2, 3, 0, 4, 5, 6, 7] (lo' := [(1, .ref oR), (2, .int p1), (3, .int p2), (4, .int v4_27), (5, .int v5_24), (6, .int v6_21), (7, .int v7_6), (8, .int v8_12)]) rfl ?_
            exact hJ73_19 v4_27 v5_24 v6_21 hf
          refine ww_if_ne h dX5_fullEnd_61 69 (by decide) 64 rfl (fun c => ?_) (fun c => ?_)
          · replace hf := ite_f c hf
            refine ww_iload h dX5_fullEnd_69 5 rfl 71 rfl ?_
            refine ww_lo [2, 3, 4, 0, 1, 6, 7] (lo' := [(1, .ref oR), (2, .int p1), (3, .int p2), (5, .int v5_24), (6, .int v6_21), (7, .int v7_6), (8, .int v8_12)]) rfl ?_
            refine ww_perm [2, 0, 0] (Gs' := [gX5 cy oN aN N, gX7 cy oR aR R_14, gX4 cy oP aP P]) rfl ?_
            exact hJ71_26 v4_9 hf
          · replace hf := ite_t c hf
            refine ww_iload h dX5_fullEnd_64 7 rfl 66 rfl ?_
            refine ww_goto h dX5_fullEnd_66 71 (by decide) ?_
            refine ww_lo [2, 3, 4, 0, 1, 6, 7] (lo' := [(1, .ref oR), (2, .int p1), (3, .int p2), (5, .int v5_24), (6, .int v6_21), (7, .int v7_6), (8, .int v8_12)]) rfl ?_
            refine ww_perm [2, 0, 0] (Gs' := [gX5 cy oN aN N, gX7 cy oR aR R_14, gX4 cy oP aP P]) rfl ?_
            exact hJ71_26 v8_12 hf
  · clear h8
    show ww X D A 9 Q 0 0 79 [(3, .int p2), (4, .int v4_28), (5, .int v5_29), (6, .int v6_30)] [] [gX5 cy oN aN N, gX7 cy oR aR R_31, gX4 cy oP aP P]
    refine ww_iload_n h dX5_fullEnd_79 rfl 0 rfl 80 rfl ?_
    have hJ92_32 : ∀ (_ : Unit), j_X5_fullEnd_92_32 R_31 v5_29 v6_30 = some o → ww X D A 9 Q 0 0 92 [(5, .int v5_29), (6, .int v6_30)] [] [gX5 cy oN aN N, gX7 cy oR aR R_31, gX4 cy oP aP P] := by
      intro _ hf
      unfold j_X5_fullEnd_92_32 at hf
      refine ww_iload h dX5_fullEnd_92 0 rfl 94 rfl ?_
      refine ww_iconst (v := (-1)) h dX5_fullEnd_94 (by decide) 95 rfl ?_
      refine ww_icmp_eq h dX5_fullEnd_95 103 (by decide) 98 rfl (fun c => ?_) (fun c => ?_)
      · replace hf := ite_t c hf
        refine ww_iload h dX5_fullEnd_103 1 rfl 105 rfl ?_
        obtain rfl := Option.some.inj hf
        exact ww_iret h dX5_fullEnd_105 hQ ⟨rfl, rfl⟩
      · replace hf := ite_f c hf
        refine ww_iload h dX5_fullEnd_98 0 rfl 100 rfl ?_
        refine ww_goto h dX5_fullEnd_100 105 (by decide) ?_
        obtain rfl := Option.some.inj hf
        exact ww_iret h dX5_fullEnd_105 hQ ⟨rfl, rfl⟩
    refine ww_if_eq h dX5_fullEnd_80 92 (by decide) 83 rfl (fun c => ?_) (fun c => ?_)
    · replace hf := ite_t c hf
      refine ww_lo [2, 3] (lo' := [(5, .int v5_29), (6, .int v6_30)]) rfl ?_
      exact hJ92_32 () hf
    · replace hf := ite_f c hf
      refine ww_iload h dX5_fullEnd_83 1 rfl 85 rfl ?_
      refine ww_iconst (v := (-1)) h dX5_fullEnd_85 (by decide) 86 rfl ?_
      refine ww_icmp_eq h dX5_fullEnd_86 92 (by decide) 89 rfl (fun c => ?_) (fun c => ?_)
      · replace hf := ite_t c hf
        refine ww_lo [2, 3] (lo' := [(5, .int v5_29), (6, .int v6_30)]) rfl ?_
        exact hJ92_32 () hf
      · replace hf := ite_f c hf
        refine ww_iload h dX5_fullEnd_89 1 rfl 91 rfl ?_
        obtain rfl := Option.some.inj hf
        exact ww_iret h dX5_fullEnd_91 hQ ⟨rfl, rfl⟩
theorem dX5_offer_0 : decode cX5_offer 0 = .ok (.iload_n 3, 1) := by decide +kernel
theorem dX5_offer_1 : decode cX5_offer 1 = .ok (.aload_n 0, 1) := by decide +kernel
theorem dX5_offer_2 : decode cX5_offer 2 = .ok (.getfield 9, 3) := by decide +kernel
theorem dX5_offer_5 : decode cX5_offer 5 = .ok (.iload_n 2, 1) := by decide +kernel
theorem dX5_offer_6 : decode cX5_offer 6 = .ok (.iconst 1, 1) := by decide +kernel
theorem dX5_offer_7 : decode cX5_offer 7 = .ok (.iadd, 1) := by decide +kernel
theorem dX5_offer_8 : decode cX5_offer 8 = .ok (.iaload, 1) := by decide +kernel
theorem dX5_offer_9 : decode cX5_offer 9 = .ok (.iadd, 1) := by decide +kernel
theorem dX5_offer_10 : decode cX5_offer 10 = .ok (.istore 4, 2) := by decide +kernel
theorem dX5_offer_12 : decode cX5_offer 12 = .ok (.aload_n 0, 1) := by decide +kernel
theorem dX5_offer_13 : decode cX5_offer 13 = .ok (.getfield 15, 3) := by decide +kernel
theorem dX5_offer_16 : decode cX5_offer 16 = .ok (.iload_n 2, 1) := by decide +kernel
theorem dX5_offer_17 : decode cX5_offer 17 = .ok (.iconst 1, 1) := by decide +kernel
theorem dX5_offer_18 : decode cX5_offer 18 = .ok (.iadd, 1) := by decide +kernel
theorem dX5_offer_19 : decode cX5_offer 19 = .ok (.iaload, 1) := by decide +kernel
theorem dX5_offer_20 : decode cX5_offer 20 = .ok (.iconst 1, 1) := by decide +kernel
theorem dX5_offer_21 : decode cX5_offer 21 = .ok (.iadd, 1) := by decide +kernel
theorem dX5_offer_22 : decode cX5_offer 22 = .ok (.istore 5, 2) := by decide +kernel
theorem dX5_offer_24 : decode cX5_offer 24 = .ok (.iload 4, 2) := by decide +kernel
theorem dX5_offer_26 : decode cX5_offer 26 = .ok (.aload_n 0, 1) := by decide +kernel
theorem dX5_offer_27 : decode cX5_offer 27 = .ok (.getfield 9, 3) := by decide +kernel
theorem dX5_offer_30 : decode cX5_offer 30 = .ok (.iload_n 1, 1) := by decide +kernel
theorem dX5_offer_31 : decode cX5_offer 31 = .ok (.iaload, 1) := by decide +kernel
theorem dX5_offer_32 : decode cX5_offer 32 = .ok (.if_icmp .lt 25, 3) := by decide +kernel
theorem dX5_offer_35 : decode cX5_offer 35 = .ok (.iload 4, 2) := by decide +kernel
theorem dX5_offer_37 : decode cX5_offer 37 = .ok (.aload_n 0, 1) := by decide +kernel
theorem dX5_offer_38 : decode cX5_offer 38 = .ok (.getfield 9, 3) := by decide +kernel
theorem dX5_offer_41 : decode cX5_offer 41 = .ok (.iload_n 1, 1) := by decide +kernel
theorem dX5_offer_42 : decode cX5_offer 42 = .ok (.iaload, 1) := by decide +kernel
theorem dX5_offer_43 : decode cX5_offer 43 = .ok (.if_icmp .ne 37, 3) := by decide +kernel
theorem dX5_offer_46 : decode cX5_offer 46 = .ok (.iload 5, 2) := by decide +kernel
theorem dX5_offer_48 : decode cX5_offer 48 = .ok (.aload_n 0, 1) := by decide +kernel
theorem dX5_offer_49 : decode cX5_offer 49 = .ok (.getfield 15, 3) := by decide +kernel
theorem dX5_offer_52 : decode cX5_offer 52 = .ok (.iload_n 1, 1) := by decide +kernel
theorem dX5_offer_53 : decode cX5_offer 53 = .ok (.iaload, 1) := by decide +kernel
theorem dX5_offer_54 : decode cX5_offer 54 = .ok (.if_icmp .gt 26, 3) := by decide +kernel
theorem dX5_offer_57 : decode cX5_offer 57 = .ok (.aload_n 0, 1) := by decide +kernel
theorem dX5_offer_58 : decode cX5_offer 58 = .ok (.getfield 9, 3) := by decide +kernel
theorem dX5_offer_61 : decode cX5_offer 61 = .ok (.iload_n 1, 1) := by decide +kernel
theorem dX5_offer_62 : decode cX5_offer 62 = .ok (.iload 4, 2) := by decide +kernel
theorem dX5_offer_64 : decode cX5_offer 64 = .ok (.iastore, 1) := by decide +kernel
theorem dX5_offer_65 : decode cX5_offer 65 = .ok (.aload_n 0, 1) := by decide +kernel
theorem dX5_offer_66 : decode cX5_offer 66 = .ok (.getfield 15, 3) := by decide +kernel
theorem dX5_offer_69 : decode cX5_offer 69 = .ok (.iload_n 1, 1) := by decide +kernel
theorem dX5_offer_70 : decode cX5_offer 70 = .ok (.iload 5, 2) := by decide +kernel
theorem dX5_offer_72 : decode cX5_offer 72 = .ok (.iastore, 1) := by decide +kernel
theorem dX5_offer_73 : decode cX5_offer 73 = .ok (.aload_n 0, 1) := by decide +kernel
theorem dX5_offer_74 : decode cX5_offer 74 = .ok (.getfield 18, 3) := by decide +kernel
theorem dX5_offer_77 : decode cX5_offer 77 = .ok (.iload_n 1, 1) := by decide +kernel
theorem dX5_offer_78 : decode cX5_offer 78 = .ok (.iload_n 2, 1) := by decide +kernel
theorem dX5_offer_79 : decode cX5_offer 79 = .ok (.iastore, 1) := by decide +kernel
theorem dX5_offer_80 : decode cX5_offer 80 = .ok (.return_, 1) := by decide +kernel
theorem ok_X5_offer : okY RX5 yX5_offer 3 := ⟨rfl, by decide, by decide, by decide +kernel⟩
def j_X5_offer_57_3 (N : OV) (p0 : Int32) (p1 : Int32) (v4_1 : Int32) (v5_2 : Int32) : Option (OV) := gd (ix p0 41) (bnd (sA N 0 p0.toNatClampNeg v4_1) (fun N_4 => gd (ix p0 41) (bnd (sA N_4 1 p0.toNatClampNeg v5_2) (fun N_5 => gd (ix p0 41) (bnd (sA N_5 2 p0.toNatClampNeg p1) (fun N_6 => some N_6))))))
def f_X5_offer (N : OV) (p0 : Int32) (p1 : Int32) (p2 : Int32) : Option (OV) := gd (ix (p1 + (1 : Int32)) 41) (bnd (p2 + (ar N 0 (p1 + (1 : Int32)).toNatClampNeg)) (fun v4_1 => gd (ix (p1 + (1 : Int32)) 41) (bnd ((ar N 1 (p1 + (1 : Int32)).toNatClampNeg) + (1 : Int32)) (fun v5_2 => gd (ix p0 41) ((if v4_1 < (ar N 0 p0.toNatClampNeg) then j_X5_offer_57_3 N p0 p1 v4_1 v5_2 else gd (ix p0 41) ((if v4_1 = (ar N 0 p0.toNatClampNeg) then gd (ix p0 41) ((if (ar N 1 p0.toNatClampNeg) < v5_2 then some N else j_X5_offer_57_3 N p0 p1 v4_1 v5_2)) else some N))))))))
def r_X5_offer : Room := { frames := 0, cells := 0, slots := 0, locals := 0 }
set_option maxHeartbeats 4000000 in
set_option maxRecDepth 100000 in
theorem c_X5_offer (l : Launch) (D : va_G) (ev : EvT) (cy : Nat → ClassId) (oN : Nat) (aN : Nat → Nat) (N : OV) (p0 : Int32) (p1 : Int32) (p2 : Int32) (o : OV) (hf : f_X5_offer N p0 p1 p2 = some o) : Fn l yX5_offer cX5_offer 6 none r_X5_offer D ev cy [.ref oN, .int p0, .int p1, .int p2] [gX5 cy oN aN N] (fun v G => v = none ∧ G = [gX5 cy oN aN o]) := by
  refine Fn_of (by decide) (Nat.le_of_ble_eq_true rfl) (fun X A Q h hQ _ => ?_)
  unfold f_X5_offer at hf
  show ww X D A 6 Q 0 0 0 [(0, .ref oN), (1, .int p0), (2, .int p1), (3, .int p2)] [] [gX5 cy oN aN N]
  refine ww_iload_n h dX5_offer_0 rfl 3 rfl 1 rfl ?_
  refine ww_aload_n h dX5_offer_1 rfl 0 rfl 2 rfl ?_
  refine ww_get h inG5 rfl 0 rfl rfl 0 (by decide) w_340 rfl dX5_offer_2 5 rfl ?_
  refine ww_iload_n h dX5_offer_5 rfl 2 rfl 6 rfl ?_
  refine ww_iconst (v := 1) h dX5_offer_6 (by decide) 7 rfl ?_
  refine ww_iadd h dX5_offer_7 8 rfl ?_
  have hi := (gd_some hf).1
  replace hf := (gd_some hf).2
  refine ww_iald h 0 rfl 1 rfl (ix_in hi) dX5_offer_8 9 rfl ?_
  clear hi
  refine ww_iadd h dX5_offer_9 10 rfl ?_
  refine ww_ist h dX5_offer_10 (by decide) (fun v4_1 => [(4, .int v4_1), (0, .ref oN), (1, .int p0), (2, .int p1), (3, .int p2)]) (fun _ => rfl) 12 rfl (fun v4_1 e => ?_)
  replace hf := bnd_at e hf
  clear e
  refine ww_aload_n h dX5_offer_12 rfl 1 rfl 13 rfl ?_
  refine ww_get h inG5 rfl 0 rfl rfl 1 (by decide) w_342 rfl dX5_offer_13 16 rfl ?_
  refine ww_iload_n h dX5_offer_16 rfl 3 rfl 17 rfl ?_
  refine ww_iconst (v := 1) h dX5_offer_17 (by decide) 18 rfl ?_
  refine ww_iadd h dX5_offer_18 19 rfl ?_
  have hi := (gd_some hf).1
  replace hf := (gd_some hf).2
  refine ww_iald h 0 rfl 2 rfl (ix_in hi) dX5_offer_19 20 rfl ?_
  clear hi
  refine ww_iconst (v := 1) h dX5_offer_20 (by decide) 21 rfl ?_
  refine ww_iadd h dX5_offer_21 22 rfl ?_
  refine ww_ist h dX5_offer_22 (by decide) (fun v5_2 => [(5, .int v5_2), (4, .int v4_1), (0, .ref oN), (1, .int p0), (2, .int p1), (3, .int p2)]) (fun _ => rfl) 24 rfl (fun v5_2 e => ?_)
  replace hf := bnd_at e hf
  clear e
  refine ww_iload h dX5_offer_24 1 rfl 26 rfl ?_
  refine ww_aload_n h dX5_offer_26 rfl 2 rfl 27 rfl ?_
  refine ww_get h inG5 rfl 0 rfl rfl 0 (by decide) w_340 rfl dX5_offer_27 30 rfl ?_
  refine ww_iload_n h dX5_offer_30 rfl 3 rfl 31 rfl ?_
  have hi := (gd_some hf).1
  replace hf := (gd_some hf).2
  refine ww_iald h 0 rfl 1 rfl (ix_in hi) dX5_offer_31 32 rfl ?_
  clear hi
  have hJ57_3 : ∀ (_ : Unit), j_X5_offer_57_3 N p0 p1 v4_1 v5_2 = some o → ww X D A 6 Q 0 0 57 [(0, .ref oN), (1, .int p0), (2, .int p1), (4, .int v4_1), (5, .int v5_2)] [] [gX5 cy oN aN N] := by
    intro _ hf
    unfold j_X5_offer_57_3 at hf
    refine ww_aload_n h dX5_offer_57 rfl 0 rfl 58 rfl ?_
    refine ww_get h inG5 rfl 0 rfl rfl 0 (by decide) w_340 rfl dX5_offer_58 61 rfl ?_
    refine ww_iload_n h dX5_offer_61 rfl 1 rfl 62 rfl ?_
    refine ww_iload h dX5_offer_62 3 rfl 64 rfl ?_
    have hi := (gd_some hf).1
    replace hf := (gd_some hf).2
    refine ww_iast h 0 rfl 1 rfl (ix_in hi) dX5_offer_64 65 rfl ?_
    clear hi
    refine ww_nm (fun z => [gX5 cy oN aN z]) (sA N 0 p0.toNatClampNeg v4_1) (fun N_4 e => ?_)
    replace hf := bnd_at e hf
    clear e
    refine ww_aload_n h dX5_offer_65 rfl 0 rfl 66 rfl ?_
    refine ww_get h inG5 rfl 0 rfl rfl 1 (by decide) w_342 rfl dX5_offer_66 69 rfl ?_
    refine ww_iload_n h dX5_offer_69 rfl 1 rfl 70 rfl ?_
    refine ww_iload h dX5_offer_70 4 rfl 72 rfl ?_
    have hi := (gd_some hf).1
    replace hf := (gd_some hf).2
    refine ww_iast h 0 rfl 2 rfl (ix_in hi) dX5_offer_72 73 rfl ?_
    clear hi
    refine ww_nm (fun z => [gX5 cy oN aN z]) (sA N_4 1 p0.toNatClampNeg v5_2) (fun N_5 e => ?_)
    replace hf := bnd_at e hf
    clear e
    refine ww_aload_n h dX5_offer_73 rfl 0 rfl 74 rfl ?_
    refine ww_get h inG5 rfl 0 rfl rfl 2 (by decide) w_344 rfl dX5_offer_74 77 rfl ?_
    refine ww_iload_n h dX5_offer_77 rfl 1 rfl 78 rfl ?_
    refine ww_iload_n h dX5_offer_78 rfl 2 rfl 79 rfl ?_
    have hi := (gd_some hf).1
    replace hf := (gd_some hf).2
    refine ww_iast h 0 rfl 3 rfl (ix_in hi) dX5_offer_79 80 rfl ?_
    clear hi
    refine ww_nm (fun z => [gX5 cy oN aN z]) (sA N_5 2 p0.toNatClampNeg p1) (fun N_6 e => ?_)
    replace hf := bnd_at e hf
    clear e
    obtain rfl := Option.some.inj hf
    exact ww_vret h dX5_offer_80 hQ ⟨rfl, rfl⟩
  refine ww_icmp_lt h dX5_offer_32 57 (by decide) 35 rfl (fun c => ?_) (fun c => ?_)
  · replace hf := ite_t c hf
    refine ww_lo [2, 3, 4, 1, 0] (lo' := [(0, .ref oN), (1, .int p0), (2, .int p1), (4, .int v4_1), (5, .int v5_2)]) rfl ?_
    exact hJ57_3 () hf
  · replace hf := ite_f c hf
    refine ww_iload h dX5_offer_35 1 rfl 37 rfl ?_
    refine ww_aload_n h dX5_offer_37 rfl 2 rfl 38 rfl ?_
    refine ww_get h inG5 rfl 0 rfl rfl 0 (by decide) w_340 rfl dX5_offer_38 41 rfl ?_
    refine ww_iload_n h dX5_offer_41 rfl 3 rfl 42 rfl ?_
    have hi := (gd_some hf).1
    replace hf := (gd_some hf).2
    refine ww_iald h 0 rfl 1 rfl (ix_in hi) dX5_offer_42 43 rfl ?_
    clear hi
    refine ww_icmp_ne h dX5_offer_43 80 (by decide) 46 rfl (fun c => ?_) (fun c => ?_)
    · replace hf := ite_f c hf
      obtain rfl := Option.some.inj hf
      exact ww_vret h dX5_offer_80 hQ ⟨rfl, rfl⟩
    · replace hf := ite_t c hf
      refine ww_iload h dX5_offer_46 0 rfl 48 rfl ?_
      refine ww_aload_n h dX5_offer_48 rfl 2 rfl 49 rfl ?_
      refine ww_get h inG5 rfl 0 rfl rfl 1 (by decide) w_342 rfl dX5_offer_49 52 rfl ?_
      refine ww_iload_n h dX5_offer_52 rfl 3 rfl 53 rfl ?_
      have hi := (gd_some hf).1
      replace hf := (gd_some hf).2
      refine ww_iald h 0 rfl 2 rfl (ix_in hi) dX5_offer_53 54 rfl ?_
      clear hi
      refine ww_icmp_gt h dX5_offer_54 80 (by decide) 57 rfl (fun c => ?_) (fun c => ?_)
      · replace hf := ite_t c hf
        obtain rfl := Option.some.inj hf
        exact ww_vret h dX5_offer_80 hQ ⟨rfl, rfl⟩
      · replace hf := ite_f c hf
        refine ww_lo [2, 3, 4, 1, 0] (lo' := [(0, .ref oN), (1, .int p0), (2, .int p1), (4, .int v4_1), (5, .int v5_2)]) rfl ?_
        exact hJ57_3 () hf
theorem dX5_leastPeak_0 : decode cX5_leastPeak 0 = .ok (.aload_n 1, 1) := by decide +kernel
theorem dX5_leastPeak_1 : decode cX5_leastPeak 1 = .ok (.invokevirtual 21, 3) := by decide +kernel
theorem dX5_leastPeak_4 : decode cX5_leastPeak 4 = .ok (.istore_n 2, 1) := by decide +kernel
theorem dX5_leastPeak_5 : decode cX5_leastPeak 5 = .ok (.aload_n 0, 1) := by decide +kernel
theorem dX5_leastPeak_6 : decode cX5_leastPeak 6 = .ok (.getfield 9, 3) := by decide +kernel
theorem dX5_leastPeak_9 : decode cX5_leastPeak 9 = .ok (.iload_n 2, 1) := by decide +kernel
theorem dX5_leastPeak_10 : decode cX5_leastPeak 10 = .ok (.iconst 0, 1) := by decide +kernel
theorem dX5_leastPeak_11 : decode cX5_leastPeak 11 = .ok (.iastore, 1) := by decide +kernel
theorem dX5_leastPeak_12 : decode cX5_leastPeak 12 = .ok (.iload_n 2, 1) := by decide +kernel
theorem dX5_leastPeak_13 : decode cX5_leastPeak 13 = .ok (.iconst 1, 1) := by decide +kernel
theorem dX5_leastPeak_14 : decode cX5_leastPeak 14 = .ok (.isub, 1) := by decide +kernel
theorem dX5_leastPeak_15 : decode cX5_leastPeak 15 = .ok (.istore_n 3, 1) := by decide +kernel
theorem dX5_leastPeak_16 : decode cX5_leastPeak 16 = .ok (.iload_n 3, 1) := by decide +kernel
theorem dX5_leastPeak_17 : decode cX5_leastPeak 17 = .ok (.ifCond .lt 89, 3) := by decide +kernel
theorem dX5_leastPeak_20 : decode cX5_leastPeak 20 = .ok (.aload_n 0, 1) := by decide +kernel
theorem dX5_leastPeak_21 : decode cX5_leastPeak 21 = .ok (.getfield 9, 3) := by decide +kernel
theorem dX5_leastPeak_24 : decode cX5_leastPeak 24 = .ok (.iload_n 3, 1) := by decide +kernel
theorem dX5_leastPeak_25 : decode cX5_leastPeak 25 = .ok (.ldc 51, 2) := by decide +kernel
theorem dX5_leastPeak_27 : decode cX5_leastPeak 27 = .ok (.iastore, 1) := by decide +kernel
theorem dX5_leastPeak_28 : decode cX5_leastPeak 28 = .ok (.aload_n 1, 1) := by decide +kernel
theorem dX5_leastPeak_29 : decode cX5_leastPeak 29 = .ok (.iload_n 3, 1) := by decide +kernel
theorem dX5_leastPeak_30 : decode cX5_leastPeak 30 = .ok (.invokevirtual 31, 3) := by decide +kernel
theorem dX5_leastPeak_33 : decode cX5_leastPeak 33 = .ok (.istore 4, 2) := by decide +kernel
theorem dX5_leastPeak_35 : decode cX5_leastPeak 35 = .ok (.iload_n 3, 1) := by decide +kernel
theorem dX5_leastPeak_36 : decode cX5_leastPeak 36 = .ok (.istore 5, 2) := by decide +kernel
theorem dX5_leastPeak_38 : decode cX5_leastPeak 38 = .ok (.iload 5, 2) := by decide +kernel
theorem dX5_leastPeak_40 : decode cX5_leastPeak 40 = .ok (.iload 4, 2) := by decide +kernel
theorem dX5_leastPeak_42 : decode cX5_leastPeak 42 = .ok (.if_icmp .gt 58, 3) := by decide +kernel
theorem dX5_leastPeak_45 : decode cX5_leastPeak 45 = .ok (.aload_n 1, 1) := by decide +kernel
theorem dX5_leastPeak_46 : decode cX5_leastPeak 46 = .ok (.iload_n 3, 1) := by decide +kernel
theorem dX5_leastPeak_47 : decode cX5_leastPeak 47 = .ok (.iload 5, 2) := by decide +kernel
theorem dX5_leastPeak_49 : decode cX5_leastPeak 49 = .ok (.invokevirtual 35, 3) := by decide +kernel
theorem dX5_leastPeak_52 : decode cX5_leastPeak 52 = .ok (.aload_n 1, 1) := by decide +kernel
theorem dX5_leastPeak_53 : decode cX5_leastPeak 53 = .ok (.getfield 52, 3) := by decide +kernel
theorem dX5_leastPeak_56 : decode cX5_leastPeak 56 = .ok (.ifCond .eq 38, 3) := by decide +kernel
theorem dX5_leastPeak_59 : decode cX5_leastPeak 59 = .ok (.aload_n 1, 1) := by decide +kernel
theorem dX5_leastPeak_60 : decode cX5_leastPeak 60 = .ok (.getfield 55, 3) := by decide +kernel
theorem dX5_leastPeak_63 : decode cX5_leastPeak 63 = .ok (.aload_n 0, 1) := by decide +kernel
theorem dX5_leastPeak_64 : decode cX5_leastPeak 64 = .ok (.getfield 9, 3) := by decide +kernel
theorem dX5_leastPeak_67 : decode cX5_leastPeak 67 = .ok (.iload 5, 2) := by decide +kernel
theorem dX5_leastPeak_69 : decode cX5_leastPeak 69 = .ok (.iconst 1, 1) := by decide +kernel
theorem dX5_leastPeak_70 : decode cX5_leastPeak 70 = .ok (.iadd, 1) := by decide +kernel
theorem dX5_leastPeak_71 : decode cX5_leastPeak 71 = .ok (.iaload, 1) := by decide +kernel
theorem dX5_leastPeak_72 : decode cX5_leastPeak 72 = .ok (.invokestatic 62, 3) := by decide +kernel
theorem dX5_leastPeak_75 : decode cX5_leastPeak 75 = .ok (.istore 6, 2) := by decide +kernel
theorem dX5_leastPeak_77 : decode cX5_leastPeak 77 = .ok (.aload_n 0, 1) := by decide +kernel
theorem dX5_leastPeak_78 : decode cX5_leastPeak 78 = .ok (.getfield 9, 3) := by decide +kernel
theorem dX5_leastPeak_81 : decode cX5_leastPeak 81 = .ok (.iload_n 3, 1) := by decide +kernel
theorem dX5_leastPeak_82 : decode cX5_leastPeak 82 = .ok (.aload_n 0, 1) := by decide +kernel
theorem dX5_leastPeak_83 : decode cX5_leastPeak 83 = .ok (.getfield 9, 3) := by decide +kernel
theorem dX5_leastPeak_86 : decode cX5_leastPeak 86 = .ok (.iload_n 3, 1) := by decide +kernel
theorem dX5_leastPeak_87 : decode cX5_leastPeak 87 = .ok (.iaload, 1) := by decide +kernel
theorem dX5_leastPeak_88 : decode cX5_leastPeak 88 = .ok (.iload 6, 2) := by decide +kernel
theorem dX5_leastPeak_90 : decode cX5_leastPeak 90 = .ok (.invokestatic 68, 3) := by decide +kernel
theorem dX5_leastPeak_93 : decode cX5_leastPeak 93 = .ok (.iastore, 1) := by decide +kernel
theorem dX5_leastPeak_94 : decode cX5_leastPeak 94 = .ok (.iinc 5 1, 3) := by decide +kernel
theorem dX5_leastPeak_97 : decode cX5_leastPeak 97 = .ok (.goto (-59), 3) := by decide +kernel
theorem dX5_leastPeak_100 : decode cX5_leastPeak 100 = .ok (.iinc 3 (-1), 3) := by decide +kernel
theorem dX5_leastPeak_103 : decode cX5_leastPeak 103 = .ok (.goto (-87), 3) := by decide +kernel
theorem dX5_leastPeak_106 : decode cX5_leastPeak 106 = .ok (.aload_n 0, 1) := by decide +kernel
theorem dX5_leastPeak_107 : decode cX5_leastPeak 107 = .ok (.getfield 9, 3) := by decide +kernel
theorem dX5_leastPeak_110 : decode cX5_leastPeak 110 = .ok (.iconst 0, 1) := by decide +kernel
theorem dX5_leastPeak_111 : decode cX5_leastPeak 111 = .ok (.iaload, 1) := by decide +kernel
theorem dX5_leastPeak_112 : decode cX5_leastPeak 112 = .ok (.ireturn, 1) := by decide +kernel
theorem ok_X5_leastPeak : okY RX5 yX5_leastPeak 1 := ⟨rfl, by decide, by decide, by decide +kernel⟩
def j_X5_leastPeak_94_22 (R_19 : OV) (v5_16 : Int32) (N_21 : OV) : Option ((Int32 × OV × OV) ⊕ (OV × OV)) := bnd (v5_16 + 1) (fun v5_23 => some (.inl (v5_23, N_21, R_19)))
def s_X5_leastPeak_38_15 (oP : Nat) (P : OV) (v3_7 : Int32) (v4_13 : Int32) : (Int32 × OV × OV) → Option ((Int32 × OV × OV) ⊕ (OV × OV)) := un3 (fun v5_16 N_17 R_18 => (if v4_13 < v5_16 then some (.inr (N_17, R_18)) else (f_X7_measure R_18 oP P v3_7 v5_16).bind (un1 (fun R_19 => (if (iv R_19 13) = 0 then j_X5_leastPeak_94_22 R_19 v5_16 N_17 else gd (ix (v5_16 + (1 : Int32)) 41) (bnd (if (iv R_19 17) < (ar N_17 0 (v5_16 + (1 : Int32)).toNatClampNeg) then (ar N_17 0 (v5_16 + (1 : Int32)).toNatClampNeg) else (iv R_19 17)) (fun v6_24 => gd (ix v3_7 41) (gd (ix v3_7 41) (bnd (sA N_17 0 v3_7.toNatClampNeg (if v6_24 < (ar N_17 0 v3_7.toNatClampNeg) then v6_24 else (ar N_17 0 v3_7.toNatClampNeg))) (fun N_25 => j_X5_leastPeak_94_22 R_19 v5_16 N_25))))))))))
def s_X5_leastPeak_16_6 (oP : Nat) (P : OV) : (Int32 × OV × OV) → Option ((Int32 × OV × OV) ⊕ (OV × OV)) := un3 (fun v3_7 N_8 R_9 => (if v3_7 < 0 then some (.inr (N_8, R_9)) else gd (ix v3_7 41) (bnd (sA N_8 0 v3_7.toNatClampNeg (1000000000 : Int32)) (fun N_10 => (f_X7_reach R_9 oP P v3_7).bind (un1 (fun r_11 => bnd r_11 (fun v4_13 => bnd v3_7 (fun v5_14 => ((lp (s_X5_leastPeak_38_15 oP P v3_7 v4_13) 5000 (v5_14, N_10, R_9)).bind (un2 (fun N_26 R_27 => bnd (v3_7 + (-1)) (fun v3_28 => some (.inl (v3_28, N_26, R_27))))))))))))))
def f_X5_leastPeak (N : OV) (R : OV) (oP : Nat) (P : OV) : Option (Int32 × OV × OV) := (f_X7_signs R oP P).bind (un1 (fun r_1 => bnd r_1 (fun v2_3 => gd (ix v2_3 41) (bnd (sA N 0 v2_3.toNatClampNeg (0 : Int32)) (fun N_4 => bnd (v2_3 - (1 : Int32)) (fun v3_5 => ((lp (s_X5_leastPeak_16_6 oP P) 5000 (v3_5, N_4, R)).bind (un2 (fun N_29 R_30 => gd (ix (0 : Int32) 41) (some ((ar N_29 0 (0 : Int32).toNatClampNeg), N_29, R_30)))))))))))
def r_X5_leastPeak : Room := { frames := 3, cells := 0, slots := 0, locals := 71 }
set_option maxHeartbeats 4000000 in
set_option maxRecDepth 100000 in
theorem c_X5_leastPeak (l : Launch) (D : va_G) (ev : EvT) (cy : Nat → ClassId) (oN : Nat) (aN : Nat → Nat) (N : OV) (oR : Nat) (aR : Nat → Nat) (R : OV) (oP : Nat) (aP : Nat → Nat) (P : OV) (o : Int32 × OV × OV) (hf : f_X5_leastPeak N R oP P = some o) : Fn l yX5_leastPeak cX5_leastPeak 7 (some .int) r_X5_leastPeak D ev cy [.ref oN, .ref oR] [gX5 cy oN aN N, gX7 cy oR aR R, gX4 cy oP aP P] (fun v G => v = some (.int o.1) ∧ G = [gX5 cy oN aN o.2.1, gX7 cy oR aR o.2.2, gX4 cy oP aP P]) := by
  refine Fn_of (by decide) (Nat.le_of_ble_eq_true rfl) (fun X A Q h hQ _ => ?_)
  unfold f_X5_leastPeak at hf
  show ww X D A 7 Q 0 0 0 [(0, .ref oN), (1, .ref oR)] [] [gX5 cy oN aN N, gX7 cy oR aR R, gX4 cy oP aP P]
  refine ww_aload_n h dX5_leastPeak_0 rfl 1 rfl 1 rfl ?_
  obtain ⟨r_1, hu2, hf⟩ := ob1 hf
  refine ww_cVi h (c_X7_signs l D ev cy oR aR R oP aP P _ hu2) ⟨w_864, w_861, w_862, w_863, w_107, ok_X7_signs⟩ ⟨by decide, by decide⟩ ⟨by decide, by decide⟩ ⟨rfl, rfl⟩ [1, 1] rfl 0 rfl rfl rfl rfl (Nat.le_of_ble_eq_true rfl) dX5_leastPeak_1 4 rfl (Gs' := [gX7 cy oR aR R, gX4 cy oP aP P, gX5 cy oN aN N]) rfl ?_
  clear hu2
  refine ww_ist_n h dX5_leastPeak_4 rfl (by decide) (fun v2_3 => [(2, .int v2_3), (0, .ref oN), (1, .ref oR)]) (fun _ => rfl) 5 rfl (fun v2_3 e => ?_)
  replace hf := bnd_at e hf
  clear e
  refine ww_aload_n h dX5_leastPeak_5 rfl 1 rfl 6 rfl ?_
  refine ww_get h inG5 rfl 2 rfl rfl 0 (by decide) w_340 rfl dX5_leastPeak_6 9 rfl ?_
  refine ww_iload_n h dX5_leastPeak_9 rfl 0 rfl 10 rfl ?_
  refine ww_iconst (v := 0) h dX5_leastPeak_10 (by decide) 11 rfl ?_
  have hi := (gd_some hf).1
  replace hf := (gd_some hf).2
  refine ww_iast h 2 rfl 1 rfl (ix_in hi) dX5_leastPeak_11 12 rfl ?_
  clear hi
  refine ww_nm (fun z => [gX7 cy oR aR R, gX4 cy oP aP P, gX5 cy oN aN z]) (sA N 0 v2_3.toNatClampNeg (0 : Int32)) (fun N_4 e => ?_)
  replace hf := bnd_at e hf
  clear e
  refine ww_iload_n h dX5_leastPeak_12 rfl 0 rfl 13 rfl ?_
  refine ww_iconst (v := 1) h dX5_leastPeak_13 (by decide) 14 rfl ?_
  refine ww_isub h dX5_leastPeak_14 15 rfl ?_
  refine ww_ist_n h dX5_leastPeak_15 rfl (by decide) (fun v3_5 => [(3, .int v3_5), (2, .int v2_3), (0, .ref oN), (1, .ref oR)]) (fun _ => rfl) 16 rfl (fun v3_5 e => ?_)
  replace hf := bnd_at e hf
  clear e
  refine ww_lo [2, 3, 0] (lo' := [(0, .ref oN), (1, .ref oR), (3, .int v3_5)]) rfl ?_
  refine ww_perm [2, 0, 0] (Gs' := [gX5 cy oN aN N_4, gX7 cy oR aR R, gX4 cy oP aP P]) rfl ?_
  obtain ⟨N_29, R_30, h6, hf⟩ := ob2 hf
  refine lp_walk (un3 (fun v3_7 N_8 R_9 => ww X D A 7 Q 0 0 16 [(0, .ref oN), (1, .ref oR), (3, .int v3_7)] [] [gX5 cy oN aN N_8, gX7 cy oR aR R_9, gX4 cy oP aP P])) (un2 (fun N_29 R_30 => ww X D A 7 Q 0 0 106 [(0, .ref oN)] [] [gX5 cy oN aN N_29, gX7 cy oR aR R_30, gX4 cy oP aP P])) ?_ _ _ _ h6 ?_
  · clear h6 hf
    intro s6 o6 hf hI6 hE6
    obtain ⟨v3_7, N_8, R_9⟩ := s6
    unfold s_X5_leastPeak_16_6 at hf
    replace hf := un3_e hf
    show ww X D A 7 Q 0 0 16 [(0, .ref oN), (1, .ref oR), (3, .int v3_7)] [] [gX5 cy oN aN N_8, gX7 cy oR aR R_9, gX4 cy oP aP P]
    refine ww_iload_n h dX5_leastPeak_16 rfl 2 rfl 17 rfl ?_
    refine ww_if_lt h dX5_leastPeak_17 106 (by decide) 20 rfl (fun c => ?_) (fun c => ?_)
    · replace hf := ite_t c hf
      refine ww_lo [0] (lo' := [(0, .ref oN)]) rfl ?_
      exact hE6 (N_8, R_9) (Option.some.inj hf).symm
    · replace hf := ite_f c hf
      refine ww_aload_n h dX5_leastPeak_20 rfl 0 rfl 21 rfl ?_
      refine ww_get h inG5 rfl 0 rfl rfl 0 (by decide) w_340 rfl dX5_leastPeak_21 24 rfl ?_
      refine ww_iload_n h dX5_leastPeak_24 rfl 2 rfl 25 rfl ?_
      refine ww_ldc h w_865 dX5_leastPeak_25 27 rfl ?_
      have hi := (gd_some hf).1
      replace hf := (gd_some hf).2
      refine ww_iast h 0 rfl 1 rfl (ix_in hi) dX5_leastPeak_27 28 rfl ?_
      clear hi
      refine ww_nm (fun z => [gX5 cy oN aN z, gX7 cy oR aR R_9, gX4 cy oP aP P]) (sA N_8 0 v3_7.toNatClampNeg (1000000000 : Int32)) (fun N_10 e => ?_)
      replace hf := bnd_at e hf
      clear e
      refine ww_aload_n h dX5_leastPeak_28 rfl 1 rfl 29 rfl ?_
      refine ww_iload_n h dX5_leastPeak_29 rfl 2 rfl 30 rfl ?_
      obtain ⟨r_11, hu12, hf⟩ := ob1 hf
      refine ww_cVi h (c_X7_reach l D ev cy oR aR R_9 oP aP P v3_7 _ hu12) ⟨w_869, w_866, w_867, w_868, w_107, ok_X7_reach⟩ ⟨by decide, by decide⟩ ⟨by decide, by decide⟩ ⟨rfl, rfl⟩ [1, 1] rfl 0 rfl rfl rfl rfl (Nat.le_of_ble_eq_true rfl) dX5_leastPeak_30 33 rfl (Gs' := [gX7 cy oR aR R_9, gX4 cy oP aP P, gX5 cy oN aN N_10]) rfl ?_
      clear hu12
      refine ww_ist h dX5_leastPeak_33 (by decide) (fun v4_13 => [(4, .int v4_13), (0, .ref oN), (1, .ref oR), (3, .int v3_7)]) (fun _ => rfl) 35 rfl (fun v4_13 e => ?_)
      replace hf := bnd_at e hf
      clear e
      refine ww_iload_n h dX5_leastPeak_35 rfl 3 rfl 36 rfl ?_
      refine ww_ist h dX5_leastPeak_36 (by decide) (fun v5_14 => [(5, .int v5_14), (4, .int v4_13), (0, .ref oN), (1, .ref oR), (3, .int v3_7)]) (fun _ => rfl) 38 rfl (fun v5_14 e => ?_)
      replace hf := bnd_at e hf
      clear e
      refine ww_lo [2, 3, 4, 1, 0] (lo' := [(0, .ref oN), (1, .ref oR), (3, .int v3_7), (4, .int v4_13), (5, .int v5_14)]) rfl ?_
      refine ww_perm [2, 0, 0] (Gs' := [gX5 cy oN aN N_10, gX7 cy oR aR R_9, gX4 cy oP aP P]) rfl ?_
      obtain ⟨N_26, R_27, h15, hf⟩ := ob2 hf
      refine lp_walk (un3 (fun v5_16 N_17 R_18 => ww X D A 7 Q 0 0 38 [(0, .ref oN), (1, .ref oR), (3, .int v3_7), (4, .int v4_13), (5, .int v5_16)] [] [gX5 cy oN aN N_17, gX7 cy oR aR R_18, gX4 cy oP aP P])) (un2 (fun N_26 R_27 => ww X D A 7 Q 0 0 100 [(0, .ref oN), (1, .ref oR), (3, .int v3_7)] [] [gX5 cy oN aN N_26, gX7 cy oR aR R_27, gX4 cy oP aP P])) ?_ _ _ _ h15 ?_
      · clear h15 hf
        intro s15 o15 hf hI15 hE15
        obtain ⟨v5_16, N_17, R_18⟩ := s15
        unfold s_X5_leastPeak_38_15 at hf
        replace hf := un3_e hf
        show ww X D A 7 Q 0 0 38 [(0, .ref oN), (1, .ref oR), (3, .int v3_7), (4, .int v4_13), (5, .int v5_16)] [] [gX5 cy oN aN N_17, gX7 cy oR aR R_18, gX4 cy oP aP P]
        refine ww_iload h dX5_leastPeak_38 4 rfl 40 rfl ?_
        refine ww_iload h dX5_leastPeak_40 3 rfl 42 rfl ?_
        refine ww_icmp_gt h dX5_leastPeak_42 100 (by decide) 45 rfl (fun c => ?_) (fun c => ?_)
        · replace hf := ite_t c hf
          refine ww_lo [0, 1, 2] (lo' := [(0, .ref oN), (1, .ref oR), (3, .int v3_7)]) rfl ?_
          exact hE15 (N_17, R_18) (Option.some.inj hf).symm
        · replace hf := ite_f c hf
          refine ww_aload_n h dX5_leastPeak_45 rfl 1 rfl 46 rfl ?_
          refine ww_iload_n h dX5_leastPeak_46 rfl 2 rfl 47 rfl ?_
          refine ww_iload h dX5_leastPeak_47 4 rfl 49 rfl ?_
          obtain ⟨R_19, hu20, hf⟩ := ob1 hf
          refine ww_cVv h (c_X7_measure l D ev cy oR aR R_18 oP aP P v3_7 v5_16 _ hu20) ⟨w_835, w_870, w_833, w_834, w_107, ok_X7_measure⟩ ⟨by decide, by decide⟩ ⟨by decide, by decide⟩ ⟨rfl, rfl⟩ [1, 1] rfl 0 rfl rfl rfl rfl (Nat.le_of_ble_eq_true rfl) dX5_leastPeak_49 52 rfl (Gs' := [gX7 cy oR aR R_19, gX4 cy oP aP P, gX5 cy oN aN N_17]) rfl ?_
          clear hu20
          refine ww_aload_n h dX5_leastPeak_52 rfl 1 rfl 53 rfl ?_
          refine ww_get h inG7 rfl 0 rfl rfl 13 (by decide) w_283 rfl dX5_leastPeak_53 56 rfl ?_
          have hJ94_22 : ∀ (N_21 : OV), j_X5_leastPeak_94_22 R_19 v5_16 N_21 = some o15 → ww X D A 7 Q 0 0 94 [(0, .ref oN), (1, .ref oR), (3, .int v3_7), (4, .int v4_13), (5, .int v5_16)] [] [gX5 cy oN aN N_21, gX7 cy oR aR R_19, gX4 cy oP aP P] := by
            intro N_21 hf
            unfold j_X5_leastPeak_94_22 at hf
            refine ww_inc (c := 1) h dX5_leastPeak_94 4 rfl (by decide) (by decide) (fun v5_23 => [(5, .int v5_23), (0, .ref oN), (1, .ref oR), (3, .int v3_7), (4, .int v4_13)]) (fun _ => rfl) 97 rfl (fun v5_23 e => ?_)
            replace hf := bnd_at e hf
            clear e
            refine ww_goto h dX5_leastPeak_97 38 (by decide) ?_
            refine ww_lo [1, 2, 3, 4, 0] (lo' := [(0, .ref oN), (1, .ref oR), (3, .int v3_7), (4, .int v4_13), (5, .int v5_23)]) rfl ?_
            exact hI15 (v5_23, N_21, R_19) (Option.some.inj hf).symm
          refine ww_if_eq h dX5_leastPeak_56 94 (by decide) 59 rfl (fun c => ?_) (fun c => ?_)
          · replace hf := ite_t c hf
            refine ww_perm [2, 0, 0] (Gs' := [gX5 cy oN aN N_17, gX7 cy oR aR R_19, gX4 cy oP aP P]) rfl ?_
            exact hJ94_22 N_17 hf
          · replace hf := ite_f c hf
            refine ww_aload_n h dX5_leastPeak_59 rfl 1 rfl 60 rfl ?_
            refine ww_get h inG7 rfl 0 rfl rfl 17 (by decide) w_293 rfl dX5_leastPeak_60 63 rfl ?_
            refine ww_aload_n h dX5_leastPeak_63 rfl 0 rfl 64 rfl ?_
            refine ww_get h inG5 rfl 2 rfl rfl 0 (by decide) w_340 rfl dX5_leastPeak_64 67 rfl ?_
            refine ww_iload h dX5_leastPeak_67 4 rfl 69 rfl ?_
            refine ww_iconst (v := 1) h dX5_leastPeak_69 (by decide) 70 rfl ?_
            refine ww_iadd h dX5_leastPeak_70 71 rfl ?_
            have hi := (gd_some hf).1
            replace hf := (gd_some hf).2
            refine ww_iald h 2 rfl 1 rfl (ix_in hi) dX5_leastPeak_71 72 rfl ?_
            clear hi
            refine ww_max h w_879 w_134 w_103 w_135 ⟨by decide, Nat.le_of_ble_eq_true rfl, by decide, by decide⟩ dX5_leastPeak_72 75 rfl ?_
            refine ww_ist h dX5_leastPeak_75 (by decide) (fun v6_24 => [(6, .int v6_24), (0, .ref oN), (1, .ref oR), (3, .int v3_7), (4, .int v4_13), (5, .int v5_16)]) (fun _ => rfl) 77 rfl (fun v6_24 e => ?_)
            replace hf := bnd_at e hf
            clear e
            refine ww_aload_n h dX5_leastPeak_77 rfl 1 rfl 78 rfl ?_
            refine ww_get h inG5 rfl 2 rfl rfl 0 (by decide) w_340 rfl dX5_leastPeak_78 81 rfl ?_
            refine ww_iload_n h dX5_leastPeak_81 rfl 3 rfl 82 rfl ?_
            refine ww_aload_n h dX5_leastPeak_82 rfl 1 rfl 83 rfl ?_
            refine ww_get h inG5 rfl 2 rfl rfl 0 (by decide) w_340 rfl dX5_leastPeak_83 86 rfl ?_
            refine ww_iload_n h dX5_leastPeak_86 rfl 3 rfl 87 rfl ?_
            have hi := (gd_some hf).1
            replace hf := (gd_some hf).2
            refine ww_iald h 2 rfl 1 rfl (ix_in hi) dX5_leastPeak_87 88 rfl ?_
            clear hi
            refine ww_iload h dX5_leastPeak_88 0 rfl 90 rfl ?_
            refine ww_min h w_880 w_518 w_103 w_519 ⟨by decide, Nat.le_of_ble_eq_true rfl, by decide, by decide⟩ dX5_leastPeak_90 93 rfl ?_
            have hi := (gd_some hf).1
            replace hf := (gd_some hf).2
            refine ww_iast h 2 rfl 1 rfl (ix_in hi) dX5_leastPeak_93 94 rfl ?_
            clear hi
            refine ww_nm (fun z => [gX7 cy oR aR R_19, gX4 cy oP aP P, gX5 cy oN aN z]) (sA N_17 0 v3_7.toNatClampNeg (if v6_24 < (ar N_17 0 v3_7.toNatClampNeg) then v6_24 else (ar N_17 0 v3_7.toNatClampNeg))) (fun N_25 e => ?_)
            replace hf := bnd_at e hf
            clear e
            refine ww_lo [1, 2, 3, 4, 5] (lo' := [(0, .ref oN), (1, .ref oR), (3, .int v3_7), (4, .int v4_13), (5, .int v5_16)]) rfl ?_
            refine ww_perm [2, 0, 0] (Gs' := [gX5 cy oN aN N_25, gX7 cy oR aR R_19, gX4 cy oP aP P]) rfl ?_
            exact hJ94_22 N_25 hf
      · clear h15
        show ww X D A 7 Q 0 0 100 [(0, .ref oN), (1, .ref oR), (3, .int v3_7)] [] [gX5 cy oN aN N_26, gX7 cy oR aR R_27, gX4 cy oP aP P]
        refine ww_inc (c := (-1)) h dX5_leastPeak_100 2 rfl (by decide) (by decide) (fun v3_28 => [(3, .int v3_28), (0, .ref oN), (1, .ref oR)]) (fun _ => rfl) 103 rfl (fun v3_28 e => ?_)
        replace hf := bnd_at e hf
        clear e
        refine ww_goto h dX5_leastPeak_103 16 (by decide) ?_
        refine ww_lo [1, 2, 0] (lo' := [(0, .ref oN), (1, .ref oR), (3, .int v3_28)]) rfl ?_
        exact hI6 (v3_28, N_26, R_27) (Option.some.inj hf).symm
  · clear h6
    show ww X D A 7 Q 0 0 106 [(0, .ref oN)] [] [gX5 cy oN aN N_29, gX7 cy oR aR R_30, gX4 cy oP aP P]
    refine ww_aload_n h dX5_leastPeak_106 rfl 0 rfl 107 rfl ?_
    refine ww_get h inG5 rfl 0 rfl rfl 0 (by decide) w_340 rfl dX5_leastPeak_107 110 rfl ?_
    refine ww_iconst (v := 0) h dX5_leastPeak_110 (by decide) 111 rfl ?_
    have hi := (gd_some hf).1
    replace hf := (gd_some hf).2
    refine ww_iald h 0 rfl 1 rfl (ix_in hi) dX5_leastPeak_111 112 rfl ?_
    clear hi
    obtain rfl := Option.some.inj hf
    exact ww_iret h dX5_leastPeak_112 hQ ⟨rfl, rfl⟩
theorem dX8_isStep_0 : decode cX8_isStep 0 = .ok (.aload_n 0, 1) := by decide +kernel
theorem dX8_isStep_1 : decode cX8_isStep 1 = .ok (.iload_n 2, 1) := by decide +kernel
theorem dX8_isStep_2 : decode cX8_isStep 2 = .ok (.invokevirtual 46, 3) := by decide +kernel
theorem dX8_isStep_5 : decode cX8_isStep 5 = .ok (.ifCond .ne 5, 3) := by decide +kernel
theorem dX8_isStep_8 : decode cX8_isStep 8 = .ok (.iconst 0, 1) := by decide +kernel
theorem dX8_isStep_9 : decode cX8_isStep 9 = .ok (.ireturn, 1) := by decide +kernel
theorem dX8_isStep_10 : decode cX8_isStep 10 = .ok (.aload_n 0, 1) := by decide +kernel
theorem dX8_isStep_11 : decode cX8_isStep 11 = .ok (.iload_n 1, 1) := by decide +kernel
theorem dX8_isStep_12 : decode cX8_isStep 12 = .ok (.iload_n 2, 1) := by decide +kernel
theorem dX8_isStep_13 : decode cX8_isStep 13 = .ok (.invokevirtual 50, 3) := by decide +kernel
theorem dX8_isStep_16 : decode cX8_isStep 16 = .ok (.aload_n 0, 1) := by decide +kernel
theorem dX8_isStep_17 : decode cX8_isStep 17 = .ok (.getfield 54, 3) := by decide +kernel
theorem dX8_isStep_20 : decode cX8_isStep 20 = .ok (.ifCond .ne 7, 3) := by decide +kernel
theorem dX8_isStep_23 : decode cX8_isStep 23 = .ok (.iconst 1, 1) := by decide +kernel
theorem dX8_isStep_24 : decode cX8_isStep 24 = .ok (.goto 4, 3) := by decide +kernel
theorem dX8_isStep_27 : decode cX8_isStep 27 = .ok (.iconst 0, 1) := by decide +kernel
theorem dX8_isStep_28 : decode cX8_isStep 28 = .ok (.ireturn, 1) := by decide +kernel
theorem ok_X8_isStep : okY RX8 yX8_isStep 3 := ⟨rfl, by decide, by decide, by decide +kernel⟩
def f_X8_isStep (R : OV) (oP : Nat) (P : OV) (p1 : Int32) (p2 : Int32) : Option (Int32 × OV) := (f_X7_isLegal R p2).bind (un1 (fun r_1 => (if r_1 = 0 then some ((0 : Int32), R) else (f_X7_measure R oP P p1 p2).bind (un1 (fun R_3 => (if (iv R_3 12) = 0 then some ((1 : Int32), R_3) else some ((0 : Int32), R_3)))))))
def r_X8_isStep : Room := { frames := 3, cells := 0, slots := 0, locals := 71 }
set_option maxHeartbeats 4000000 in
set_option maxRecDepth 100000 in
theorem c_X8_isStep (l : Launch) (D : va_G) (ev : EvT) (cy : Nat → ClassId) (oR : Nat) (aR : Nat → Nat) (R : OV) (oP : Nat) (aP : Nat → Nat) (P : OV) (p1 : Int32) (p2 : Int32) (o : Int32 × OV) (hf : f_X8_isStep R oP P p1 p2 = some o) : Fn l yX8_isStep cX8_isStep 3 (some .boolean) r_X8_isStep D ev cy [.ref oR, .int p1, .int p2] [gX7 cy oR aR R, gX4 cy oP aP P] (fun v G => v = some (.int o.1) ∧ G = [gX7 cy oR aR o.2, gX4 cy oP aP P]) := by
  refine Fn_of (by decide) (Nat.le_of_ble_eq_true rfl) (fun X A Q h hQ _ => ?_)
  unfold f_X8_isStep at hf
  show ww X D A 3 Q 0 0 0 [(0, .ref oR), (1, .int p1), (2, .int p2)] [] [gX7 cy oR aR R, gX4 cy oP aP P]
  refine ww_aload_n h dX8_isStep_0 rfl 0 rfl 1 rfl ?_
  refine ww_iload_n h dX8_isStep_1 rfl 2 rfl 2 rfl ?_
  obtain ⟨r_1, hu2, hf⟩ := ob1 hf
  refine ww_cVi h (c_X7_isLegal l D ev cy oR aR R p2 _ hu2) ⟨w_892, w_1083, w_890, w_891, w_107, ok_X7_isLegal⟩ ⟨by decide, by decide⟩ ⟨by decide, by decide⟩ ⟨rfl, rfl⟩ [0] rfl 0 rfl rfl rfl rfl (Nat.le_of_ble_eq_true rfl) dX8_isStep_2 5 rfl (Gs' := [gX7 cy oR aR R, gX4 cy oP aP P]) rfl ?_
  clear hu2
  refine ww_if_ne h dX8_isStep_5 10 (by decide) 8 rfl (fun c => ?_) (fun c => ?_)
  · replace hf := ite_f c hf
    refine ww_aload_n h dX8_isStep_10 rfl 0 rfl 11 rfl ?_
    refine ww_iload_n h dX8_isStep_11 rfl 1 rfl 12 rfl ?_
    refine ww_iload_n h dX8_isStep_12 rfl 2 rfl 13 rfl ?_
    obtain ⟨R_3, hu4, hf⟩ := ob1 hf
    refine ww_cVv h (c_X7_measure l D ev cy oR aR R oP aP P p1 p2 _ hu4) ⟨w_835, w_1084, w_833, w_834, w_107, ok_X7_measure⟩ ⟨by decide, by decide⟩ ⟨by decide, by decide⟩ ⟨rfl, rfl⟩ [0, 0] rfl 0 rfl rfl rfl rfl (Nat.le_of_ble_eq_true rfl) dX8_isStep_13 16 rfl (Gs' := [gX7 cy oR aR R_3, gX4 cy oP aP P]) rfl ?_
    clear hu4
    refine ww_aload_n h dX8_isStep_16 rfl 0 rfl 17 rfl ?_
    refine ww_get h inG7 rfl 0 rfl rfl 12 (by decide) w_278 rfl dX8_isStep_17 20 rfl ?_
    refine ww_if_ne h dX8_isStep_20 27 (by decide) 23 rfl (fun c => ?_) (fun c => ?_)
    · replace hf := ite_f c hf
      refine ww_iconst (v := 0) h dX8_isStep_27 (by decide) 28 rfl ?_
      obtain rfl := Option.some.inj hf
      exact ww_zret h (Or.inl rfl) dX8_isStep_28 hQ ⟨rfl, rfl⟩
    · replace hf := ite_t c hf
      refine ww_iconst (v := 1) h dX8_isStep_23 (by decide) 24 rfl ?_
      refine ww_goto h dX8_isStep_24 28 (by decide) ?_
      obtain rfl := Option.some.inj hf
      exact ww_zret h (Or.inr rfl) dX8_isStep_28 hQ ⟨rfl, rfl⟩
  · replace hf := ite_t c hf
    refine ww_iconst (v := 0) h dX8_isStep_8 (by decide) 9 rfl ?_
    obtain rfl := Option.some.inj hf
    exact ww_zret h (Or.inl rfl) dX8_isStep_9 hQ ⟨rfl, rfl⟩
theorem dX8_total_0 : decode cX8_total 0 = .ok (.aload_n 0, 1) := by decide +kernel
theorem dX8_total_1 : decode cX8_total 1 = .ok (.getfield 25, 3) := by decide +kernel
theorem dX8_total_4 : decode cX8_total 4 = .ok (.ifCond .eq 7, 3) := by decide +kernel
theorem dX8_total_7 : decode cX8_total 7 = .ok (.lconst 0, 1) := by decide +kernel
theorem dX8_total_8 : decode cX8_total 8 = .ok (.goto 9, 3) := by decide +kernel
theorem dX8_total_11 : decode cX8_total 11 = .ok (.aload_n 0, 1) := by decide +kernel
theorem dX8_total_12 : decode cX8_total 12 = .ok (.getfield 9, 3) := by decide +kernel
theorem dX8_total_15 : decode cX8_total 15 = .ok (.iconst 0, 1) := by decide +kernel
theorem dX8_total_16 : decode cX8_total 16 = .ok (.laload, 1) := by decide +kernel
theorem dX8_total_17 : decode cX8_total 17 = .ok (.lreturn, 1) := by decide +kernel
theorem ok_X8_total : okY RX8 yX8_total 0 := ⟨rfl, by decide, by decide, by decide +kernel⟩
def j_X8_total_17_2 (t_1 : Int64) : Option (Int64) := some t_1
def f_X8_total (W : OV) : Option (Int64) := (if (iv W 2) = 0 then gd (ix (0 : Int32) 41) (j_X8_total_17_2 (al W 0 (0 : Int32).toNatClampNeg)) else j_X8_total_17_2 (0 : Int64))
def r_X8_total : Room := { frames := 0, cells := 0, slots := 0, locals := 0 }
set_option maxHeartbeats 4000000 in
set_option maxRecDepth 100000 in
theorem c_X8_total (l : Launch) (D : va_G) (ev : EvT) (cy : Nat → ClassId) (oW : Nat) (aW : Nat → Nat) (W : OV) (o : Int64) (hf : f_X8_total W = some o) : Fn l yX8_total cX8_total 1 (some .long) r_X8_total D ev cy [.ref oW] [gX8 cy oW aW W] (fun v G => v = some (.long o) ∧ G = [gX8 cy oW aW W]) := by
  refine Fn_of (by decide) (Nat.le_of_ble_eq_true rfl) (fun X A Q h hQ _ => ?_)
  unfold f_X8_total at hf
  show ww X D A 1 Q 0 0 0 [(0, .ref oW)] [] [gX8 cy oW aW W]
  refine ww_aload_n h dX8_total_0 rfl 0 rfl 1 rfl ?_
  refine ww_get h inG8 rfl 0 rfl rfl 2 (by decide) w_400 rfl dX8_total_1 4 rfl ?_
  have hJ17_2 : ∀ (t_1 : Int64), j_X8_total_17_2 t_1 = some o → ww X D A 1 Q 0 0 17 [] [.long t_1] [gX8 cy oW aW W] := by
    intro t_1 hf
    unfold j_X8_total_17_2 at hf
    obtain rfl := Option.some.inj hf
    exact ww_lret h dX8_total_17 hQ ⟨rfl, rfl⟩
  refine ww_if_eq h dX8_total_4 11 (by decide) 7 rfl (fun c => ?_) (fun c => ?_)
  · replace hf := ite_t c hf
    refine ww_aload_n h dX8_total_11 rfl 0 rfl 12 rfl ?_
    refine ww_get h inG8 rfl 0 rfl rfl 0 (by decide) w_397 rfl dX8_total_12 15 rfl ?_
    refine ww_iconst (v := 0) h dX8_total_15 (by decide) 16 rfl ?_
    have hi := (gd_some hf).1
    replace hf := (gd_some hf).2
    refine ww_lald h 0 rfl 1 rfl (ix_in hi) dX8_total_16 17 rfl ?_
    clear hi
    refine ww_lo [] (lo' := []) rfl ?_
    exact hJ17_2 (al W 0 (0 : Int32).toNatClampNeg) hf
  · replace hf := ite_f c hf
    refine ww_lconst (v := 0) h dX8_total_7 (by decide) 8 rfl ?_
    refine ww_goto h dX8_total_8 17 (by decide) ?_
    refine ww_lo [] (lo' := []) rfl ?_
    exact hJ17_2 (0 : Int64) hf
theorem dX8_endOf_0 : decode cX8_endOf 0 = .ok (.aload_n 1, 1) := by decide +kernel
theorem dX8_endOf_1 : decode cX8_endOf 1 = .ok (.invokevirtual 19, 3) := by decide +kernel
theorem dX8_endOf_4 : decode cX8_endOf 4 = .ok (.istore 4, 2) := by decide +kernel
theorem dX8_endOf_6 : decode cX8_endOf 6 = .ok (.iload_n 2, 1) := by decide +kernel
theorem dX8_endOf_7 : decode cX8_endOf 7 = .ok (.i2l, 1) := by decide +kernel
theorem dX8_endOf_8 : decode cX8_endOf 8 = .ok (.lstore 5, 2) := by decide +kernel
theorem dX8_endOf_10 : decode cX8_endOf 10 = .ok (.iconst 0, 1) := by decide +kernel
theorem dX8_endOf_11 : decode cX8_endOf 11 = .ok (.istore 7, 2) := by decide +kernel
theorem dX8_endOf_13 : decode cX8_endOf 13 = .ok (.iconst 0, 1) := by decide +kernel
theorem dX8_endOf_14 : decode cX8_endOf 14 = .ok (.istore 8, 2) := by decide +kernel
theorem dX8_endOf_16 : decode cX8_endOf 16 = .ok (.iload 8, 2) := by decide +kernel
theorem dX8_endOf_18 : decode cX8_endOf 18 = .ok (.iload 4, 2) := by decide +kernel
theorem dX8_endOf_20 : decode cX8_endOf 20 = .ok (.if_icmp .gt 112, 3) := by decide +kernel
theorem dX8_endOf_23 : decode cX8_endOf 23 = .ok (.iload 7, 2) := by decide +kernel
theorem dX8_endOf_25 : decode cX8_endOf 25 = .ok (.iload 4, 2) := by decide +kernel
theorem dX8_endOf_27 : decode cX8_endOf 27 = .ok (.if_icmp .lt 16, 3) := by decide +kernel
theorem dX8_endOf_30 : decode cX8_endOf 30 = .ok (.iload_n 3, 1) := by decide +kernel
theorem dX8_endOf_31 : decode cX8_endOf 31 = .ok (.iconst (-1), 1) := by decide +kernel
theorem dX8_endOf_32 : decode cX8_endOf 32 = .ok (.if_icmp .ne 8, 3) := by decide +kernel
theorem dX8_endOf_35 : decode cX8_endOf 35 = .ok (.iload 8, 2) := by decide +kernel
theorem dX8_endOf_37 : decode cX8_endOf 37 = .ok (.goto 5, 3) := by decide +kernel
theorem dX8_endOf_40 : decode cX8_endOf 40 = .ok (.bipush (-2), 2) := by decide +kernel
theorem dX8_endOf_42 : decode cX8_endOf 42 = .ok (.ireturn, 1) := by decide +kernel
theorem dX8_endOf_43 : decode cX8_endOf 43 = .ok (.aload_n 1, 1) := by decide +kernel
theorem dX8_endOf_44 : decode cX8_endOf 44 = .ok (.iload 7, 2) := by decide +kernel
theorem dX8_endOf_46 : decode cX8_endOf 46 = .ok (.invokevirtual 29, 3) := by decide +kernel
theorem dX8_endOf_49 : decode cX8_endOf 49 = .ok (.istore 9, 2) := by decide +kernel
theorem dX8_endOf_51 : decode cX8_endOf 51 = .ok (.iload 7, 2) := by decide +kernel
theorem dX8_endOf_53 : decode cX8_endOf 53 = .ok (.istore 10, 2) := by decide +kernel
theorem dX8_endOf_55 : decode cX8_endOf 55 = .ok (.iload 10, 2) := by decide +kernel
theorem dX8_endOf_57 : decode cX8_endOf 57 = .ok (.iload 9, 2) := by decide +kernel
theorem dX8_endOf_59 : decode cX8_endOf 59 = .ok (.if_icmp .ge 52, 3) := by decide +kernel
theorem dX8_endOf_62 : decode cX8_endOf 62 = .ok (.aload_n 1, 1) := by decide +kernel
theorem dX8_endOf_63 : decode cX8_endOf 63 = .ok (.iload 7, 2) := by decide +kernel
theorem dX8_endOf_65 : decode cX8_endOf 65 = .ok (.iload 10, 2) := by decide +kernel
theorem dX8_endOf_67 : decode cX8_endOf 67 = .ok (.invokestatic 33, 3) := by decide +kernel
theorem dX8_endOf_70 : decode cX8_endOf 70 = .ok (.ifCond .eq 35, 3) := by decide +kernel
theorem dX8_endOf_73 : decode cX8_endOf 73 = .ok (.lload 5, 2) := by decide +kernel
theorem dX8_endOf_75 : decode cX8_endOf 75 = .ok (.aload_n 0, 1) := by decide +kernel
theorem dX8_endOf_76 : decode cX8_endOf 76 = .ok (.getfield 9, 3) := by decide +kernel
theorem dX8_endOf_79 : decode cX8_endOf 79 = .ok (.iload 10, 2) := by decide +kernel
theorem dX8_endOf_81 : decode cX8_endOf 81 = .ok (.iconst 1, 1) := by decide +kernel
theorem dX8_endOf_82 : decode cX8_endOf 82 = .ok (.iadd, 1) := by decide +kernel
theorem dX8_endOf_83 : decode cX8_endOf 83 = .ok (.laload, 1) := by decide +kernel
theorem dX8_endOf_84 : decode cX8_endOf 84 = .ok (.lcmp, 1) := by decide +kernel
theorem dX8_endOf_85 : decode cX8_endOf 85 = .ok (.ifCond .ge 6, 3) := by decide +kernel
theorem dX8_endOf_88 : decode cX8_endOf 88 = .ok (.goto 23, 3) := by decide +kernel
theorem dX8_endOf_91 : decode cX8_endOf 91 = .ok (.lload 5, 2) := by decide +kernel
theorem dX8_endOf_93 : decode cX8_endOf 93 = .ok (.aload_n 0, 1) := by decide +kernel
theorem dX8_endOf_94 : decode cX8_endOf 94 = .ok (.getfield 9, 3) := by decide +kernel
theorem dX8_endOf_97 : decode cX8_endOf 97 = .ok (.iload 10, 2) := by decide +kernel
theorem dX8_endOf_99 : decode cX8_endOf 99 = .ok (.iconst 1, 1) := by decide +kernel
theorem dX8_endOf_100 : decode cX8_endOf 100 = .ok (.iadd, 1) := by decide +kernel
theorem dX8_endOf_101 : decode cX8_endOf 101 = .ok (.laload, 1) := by decide +kernel
theorem dX8_endOf_102 : decode cX8_endOf 102 = .ok (.lsub, 1) := by decide +kernel
theorem dX8_endOf_103 : decode cX8_endOf 103 = .ok (.lstore 5, 2) := by decide +kernel
theorem dX8_endOf_105 : decode cX8_endOf 105 = .ok (.iinc 10 1, 3) := by decide +kernel
theorem dX8_endOf_108 : decode cX8_endOf 108 = .ok (.goto (-53), 3) := by decide +kernel
theorem dX8_endOf_111 : decode cX8_endOf 111 = .ok (.iload 8, 2) := by decide +kernel
theorem dX8_endOf_113 : decode cX8_endOf 113 = .ok (.iload_n 3, 1) := by decide +kernel
theorem dX8_endOf_114 : decode cX8_endOf 114 = .ok (.if_icmp .ne 6, 3) := by decide +kernel
theorem dX8_endOf_117 : decode cX8_endOf 117 = .ok (.iload 10, 2) := by decide +kernel
theorem dX8_endOf_119 : decode cX8_endOf 119 = .ok (.ireturn, 1) := by decide +kernel
theorem dX8_endOf_120 : decode cX8_endOf 120 = .ok (.iload 10, 2) := by decide +kernel
theorem dX8_endOf_122 : decode cX8_endOf 122 = .ok (.iconst 1, 1) := by decide +kernel
theorem dX8_endOf_123 : decode cX8_endOf 123 = .ok (.iadd, 1) := by decide +kernel
theorem dX8_endOf_124 : decode cX8_endOf 124 = .ok (.istore 7, 2) := by decide +kernel
theorem dX8_endOf_126 : decode cX8_endOf 126 = .ok (.iinc 8 1, 3) := by decide +kernel
theorem dX8_endOf_129 : decode cX8_endOf 129 = .ok (.goto (-113), 3) := by decide +kernel
theorem dX8_endOf_132 : decode cX8_endOf 132 = .ok (.bipush (-2), 2) := by decide +kernel
theorem dX8_endOf_134 : decode cX8_endOf 134 = .ok (.ireturn, 1) := by decide +kernel
theorem ok_X8_endOf : okY RX8 yX8_endOf 3 := ⟨rfl, by decide, by decide, by decide +kernel⟩
def j_X8_endOf_105_24 (R_21 : OV) (v10_18 : Int32) (v5_23 : Int64) : Option ((Int64 × Int32 × OV) ⊕ ((Int64 × Int32 × OV) ⊕ (Int32 × OV))) := bnd (v10_18 + 1) (fun v10_25 => some (.inl (v5_23, v10_25, R_21)))
def s_X8_endOf_55_16 (oP : Nat) (W : OV) (P : OV) (v7_9 : Int32) (v9_14 : Int32) : (Int64 × Int32 × OV) → Option ((Int64 × Int32 × OV) ⊕ ((Int64 × Int32 × OV) ⊕ (Int32 × OV))) := un3 (fun v5_17 v10_18 R_19 => (if v9_14 ≤ v10_18 then some (.inr (.inl (v5_17, v10_18, R_19))) else (f_X8_isStep R_19 oP P v7_9 v10_18).bind (un2 (fun r_20 R_21 => (if r_20 = 0 then j_X8_endOf_105_24 R_21 v10_18 v5_17 else gd (ix (v10_18 + (1 : Int32)) 41) ((if 0 ≤ (lg_cmp v5_17 (al W 0 (v10_18 + (1 : Int32)).toNatClampNeg)) then gd (ix (v10_18 + (1 : Int32)) 41) (bnd (v5_17 - (al W 0 (v10_18 + (1 : Int32)).toNatClampNeg)) (fun v5_26 => j_X8_endOf_105_24 R_21 v10_18 v5_26)) else some (.inr (.inl (v5_17, v10_18, R_21))))))))))
def s_X8_endOf_16_7 (oP : Nat) (W : OV) (P : OV) (p2 : Int32) (v4_3 : Int32) : (Int64 × Int32 × Int32 × OV) → Option ((Int64 × Int32 × Int32 × OV) ⊕ ((OV) ⊕ (Int32 × OV))) := un4 (fun v5_8 v7_9 v8_10 R_11 => (if v4_3 < v8_10 then some (.inr (.inl R_11)) else (if v7_9 < v4_3 then (f_X7_reach R_11 oP P v7_9).bind (un1 (fun r_12 => bnd r_12 (fun v9_14 => bnd v7_9 (fun v10_15 => ((lp (s_X8_endOf_55_16 oP W P v7_9 v9_14) 5000 (v5_8, v10_15, R_11)).bind (Sum.elim (un3 (fun v5_27 v10_28 R_29 => (if v8_10 = p2 then some (.inr (.inr (v10_28, R_29))) else bnd (v10_28 + (1 : Int32)) (fun v7_30 => bnd (v8_10 + 1) (fun v8_31 => some (.inl (v5_27, v7_30, v8_31, R_29))))))) (fun r => some (.inr (.inr r))))))))) else (if p2 = (-1 : Int32) then some (.inr (.inr (v8_10, R_11))) else some (.inr (.inr ((-2 : Int32), R_11)))))))
def f_X8_endOf (W : OV) (R : OV) (oP : Nat) (P : OV) (p1 : Int32) (p2 : Int32) : Option (Int32 × OV) := (f_X7_signs R oP P).bind (un1 (fun r_1 => bnd r_1 (fun v4_3 => bnd (p1.toInt64) (fun v5_4 => bnd (0 : Int32) (fun v7_5 => bnd (0 : Int32) (fun v8_6 => ((lp (s_X8_endOf_16_7 oP W P p2 v4_3) 5000 (v5_4, v7_5, v8_6, R)).bind (Sum.elim (un1 (fun R_32 => some ((-2 : Int32), R_32))) (fun r => some r)))))))))
def r_X8_endOf : Room := { frames := 4, cells := 0, slots := 0, locals := 93 }
set_option maxHeartbeats 4000000 in
set_option maxRecDepth 100000 in
theorem c_X8_endOf (l : Launch) (D : va_G) (ev : EvT) (cy : Nat → ClassId) (oW : Nat) (aW : Nat → Nat) (W : OV) (oR : Nat) (aR : Nat → Nat) (R : OV) (oP : Nat) (aP : Nat → Nat) (P : OV) (p1 : Int32) (p2 : Int32) (o : Int32 × OV) (hf : f_X8_endOf W R oP P p1 p2 = some o) : Fn l yX8_endOf cX8_endOf 11 (some .int) r_X8_endOf D ev cy [.ref oW, .ref oR, .int p1, .int p2] [gX8 cy oW aW W, gX7 cy oR aR R, gX4 cy oP aP P] (fun v G => v = some (.int o.1) ∧ G = [gX8 cy oW aW W, gX7 cy oR aR o.2, gX4 cy oP aP P]) := by
  refine Fn_of (by decide) (Nat.le_of_ble_eq_true rfl) (fun X A Q h hQ _ => ?_)
  unfold f_X8_endOf at hf
  show ww X D A 11 Q 0 0 0 [(0, .ref oW), (1, .ref oR), (2, .int p1), (3, .int p2)] [] [gX8 cy oW aW W, gX7 cy oR aR R, gX4 cy oP aP P]
  refine ww_aload_n h dX8_endOf_0 rfl 1 rfl 1 rfl ?_
  obtain ⟨r_1, hu2, hf⟩ := ob1 hf
  refine ww_cVi h (c_X7_signs l D ev cy oR aR R oP aP P _ hu2) ⟨w_864, w_1078, w_862, w_863, w_107, ok_X7_signs⟩ ⟨by decide, by decide⟩ ⟨by decide, by decide⟩ ⟨rfl, rfl⟩ [1, 1] rfl 0 rfl rfl rfl rfl (Nat.le_of_ble_eq_true rfl) dX8_endOf_1 4 rfl (Gs' := [gX7 cy oR aR R, gX4 cy oP aP P, gX8 cy oW aW W]) rfl ?_
  clear hu2
  refine ww_ist h dX8_endOf_4 (by decide) (fun v4_3 => [(4, .int v4_3), (0, .ref oW), (1, .ref oR), (2, .int p1), (3, .int p2)]) (fun _ => rfl) 6 rfl (fun v4_3 e => ?_)
  replace hf := bnd_at e hf
  clear e
  refine ww_iload_n h dX8_endOf_6 rfl 3 rfl 7 rfl ?_
  refine ww_i2l h dX8_endOf_7 8 rfl ?_
  refine ww_lst h dX8_endOf_8 (by decide) (fun v5_4 => [(5, .long v5_4), (4, .int v4_3), (0, .ref oW), (1, .ref oR), (2, .int p1), (3, .int p2)]) (fun _ => rfl) 10 rfl (fun v5_4 e => ?_)
  replace hf := bnd_at e hf
  clear e
  refine ww_iconst (v := 0) h dX8_endOf_10 (by decide) 11 rfl ?_
  refine ww_ist h dX8_endOf_11 (by decide) (fun v7_5 => [(7, .int v7_5), (5, .long v5_4), (4, .int v4_3), (0, .ref oW), (1, .ref oR), (2, .int p1), (3, .int p2)]) (fun _ => rfl) 13 rfl (fun v7_5 e => ?_)
  replace hf := bnd_at e hf
  clear e
  refine ww_iconst (v := 0) h dX8_endOf_13 (by decide) 14 rfl ?_
  refine ww_ist h dX8_endOf_14 (by decide) (fun v8_6 => [(8, .int v8_6), (7, .int v7_5), (5, .long v5_4), (4, .int v4_3), (0, .ref oW), (1, .ref oR), (2, .int p1), (3, .int p2)]) (fun _ => rfl) 16 rfl (fun v8_6 e => ?_)
  replace hf := bnd_at e hf
  clear e
  refine ww_lo [4, 5, 7, 3, 2, 1, 0] (lo' := [(0, .ref oW), (1, .ref oR), (3, .int p2), (4, .int v4_3), (5, .long v5_4), (7, .int v7_5), (8, .int v8_6)]) rfl ?_
  refine ww_perm [2, 0, 0] (Gs' := [gX8 cy oW aW W, gX7 cy oR aR R, gX4 cy oP aP P]) rfl ?_
  obtain ⟨x7, h7, hf⟩ := ob_some hf
  refine lp_walk (un4 (fun v5_8 v7_9 v8_10 R_11 => ww X D A 11 Q 0 0 16 [(0, .ref oW), (1, .ref oR), (3, .int p2), (4, .int v4_3), (5, .long v5_8), (7, .int v7_9), (8, .int v8_10)] [] [gX8 cy oW aW W, gX7 cy oR aR R_11, gX4 cy oP aP P])) (Sum.elim (un1 (fun R_32 => ww X D A 11 Q 0 0 132 [] [] [gX8 cy oW aW W, gX7 cy oR aR R_32, gX4 cy oP aP P])) (fun r => r = o)) ?_ _ _ _ h7 ?_
  · clear h7 hf
    intro s7 o7 hf hI7 hE7
    obtain ⟨v5_8, v7_9, v8_10, R_11⟩ := s7
    unfold s_X8_endOf_16_7 at hf
    replace hf := un4_e hf
    show ww X D A 11 Q 0 0 16 [(0, .ref oW), (1, .ref oR), (3, .int p2), (4, .int v4_3), (5, .long v5_8), (7, .int v7_9), (8, .int v8_10)] [] [gX8 cy oW aW W, gX7 cy oR aR R_11, gX4 cy oP aP P]
    refine ww_iload h dX8_endOf_16 6 rfl 18 rfl ?_
    refine ww_iload h dX8_endOf_18 3 rfl 20 rfl ?_
    refine ww_icmp_gt h dX8_endOf_20 132 (by decide) 23 rfl (fun c => ?_) (fun c => ?_)
    · replace hf := ite_t c hf
      refine ww_lo [] (lo' := []) rfl ?_
      exact hE7 (.inl R_11) (Option.some.inj hf).symm
    · replace hf := ite_f c hf
      refine ww_iload h dX8_endOf_23 5 rfl 25 rfl ?_
      refine ww_iload h dX8_endOf_25 3 rfl 27 rfl ?_
      refine ww_icmp_lt h dX8_endOf_27 43 (by decide) 30 rfl (fun c => ?_) (fun c => ?_)
      · replace hf := ite_t c hf
        refine ww_aload_n h dX8_endOf_43 rfl 1 rfl 44 rfl ?_
        refine ww_iload h dX8_endOf_44 5 rfl 46 rfl ?_
        obtain ⟨r_12, hu13, hf⟩ := ob1 hf
        refine ww_cVi h (c_X7_reach l D ev cy oR aR R_11 oP aP P v7_9 _ hu13) ⟨w_869, w_1079, w_867, w_868, w_107, ok_X7_reach⟩ ⟨by decide, by decide⟩ ⟨by decide, by decide⟩ ⟨rfl, rfl⟩ [1, 1] rfl 0 rfl rfl rfl rfl (Nat.le_of_ble_eq_true rfl) dX8_endOf_46 49 rfl (Gs' := [gX7 cy oR aR R_11, gX4 cy oP aP P, gX8 cy oW aW W]) rfl ?_
        clear hu13
        refine ww_ist h dX8_endOf_49 (by decide) (fun v9_14 => [(9, .int v9_14), (0, .ref oW), (1, .ref oR), (3, .int p2), (4, .int v4_3), (5, .long v5_8), (7, .int v7_9), (8, .int v8_10)]) (fun _ => rfl) 51 rfl (fun v9_14 e => ?_)
        replace hf := bnd_at e hf
        clear e
        refine ww_iload h dX8_endOf_51 6 rfl 53 rfl ?_
        refine ww_ist h dX8_endOf_53 (by decide) (fun v10_15 => [(10, .int v10_15), (9, .int v9_14), (0, .ref oW), (1, .ref oR), (3, .int p2), (4, .int v4_3), (5, .long v5_8), (7, .int v7_9), (8, .int v8_10)]) (fun _ => rfl) 55 rfl (fun v10_15 e => ?_)
        replace hf := bnd_at e hf
        clear e
        refine ww_lo [2, 3, 4, 5, 6, 7, 8, 1, 0] (lo' := [(0, .ref oW), (1, .ref oR), (3, .int p2), (4, .int v4_3), (5, .long v5_8), (7, .int v7_9), (8, .int v8_10), (9, .int v9_14), (10, .int v10_15)]) rfl ?_
        refine ww_perm [2, 0, 0] (Gs' := [gX8 cy oW aW W, gX7 cy oR aR R_11, gX4 cy oP aP P]) rfl ?_
        obtain ⟨x16, h16, hf⟩ := ob_some hf
        refine lp_walk (un3 (fun v5_17 v10_18 R_19 => ww X D A 11 Q 0 0 55 [(0, .ref oW), (1, .ref oR), (3, .int p2), (4, .int v4_3), (5, .long v5_17), (7, .int v7_9), (8, .int v8_10), (9, .int v9_14), (10, .int v10_18)] [] [gX8 cy oW aW W, gX7 cy oR aR R_19, gX4 cy oP aP P])) (Sum.elim (un3 (fun v5_27 v10_28 R_29 => ww X D A 11 Q 0 0 111 [(0, .ref oW), (1, .ref oR), (3, .int p2), (4, .int v4_3), (5, .long v5_27), (8, .int v8_10), (10, .int v10_28)] [] [gX8 cy oW aW W, gX7 cy oR aR R_29, gX4 cy oP aP P])) (fun r => r = o)) ?_ _ _ _ h16 ?_
        · clear h16 hf
          intro s16 o16 hf hI16 hE16
          obtain ⟨v5_17, v10_18, R_19⟩ := s16
          unfold s_X8_endOf_55_16 at hf
          replace hf := un3_e hf
          show ww X D A 11 Q 0 0 55 [(0, .ref oW), (1, .ref oR), (3, .int p2), (4, .int v4_3), (5, .long v5_17), (7, .int v7_9), (8, .int v8_10), (9, .int v9_14), (10, .int v10_18)] [] [gX8 cy oW aW W, gX7 cy oR aR R_19, gX4 cy oP aP P]
          refine ww_iload h dX8_endOf_55 8 rfl 57 rfl ?_
          refine ww_iload h dX8_endOf_57 7 rfl 59 rfl ?_
          refine ww_icmp_ge h dX8_endOf_59 111 (by decide) 62 rfl (fun c => ?_) (fun c => ?_)
          · replace hf := ite_t c hf
            refine ww_lo [0, 1, 2, 3, 4, 6, 8] (lo' := [(0, .ref oW), (1, .ref oR), (3, .int p2), (4, .int v4_3), (5, .long v5_17), (8, .int v8_10), (10, .int v10_18)]) rfl ?_
            exact hE16 (.inl (v5_17, v10_18, R_19)) (Option.some.inj hf).symm
          · replace hf := ite_f c hf
            refine ww_aload_n h dX8_endOf_62 rfl 1 rfl 63 rfl ?_
            refine ww_iload h dX8_endOf_63 5 rfl 65 rfl ?_
            refine ww_iload h dX8_endOf_65 8 rfl 67 rfl ?_
            obtain ⟨r_20, R_21, hu22, hf⟩ := ob2 hf
            refine ww_cSi h (c_X8_isStep l D ev cy oR aR R_19 oP aP P v7_9 v10_18 _ hu22) ⟨w_1082, w_1080, w_1081, w_110, ok_X8_isStep⟩ ⟨by decide, by decide⟩ ⟨by decide, by decide⟩ ⟨rfl, rfl⟩ [1, 1] rfl rfl (Nat.le_of_ble_eq_true rfl) dX8_endOf_67 70 rfl (Gs' := [gX7 cy oR aR R_21, gX4 cy oP aP P, gX8 cy oW aW W]) rfl ?_
            clear hu22
            have hJ105_24 : ∀ (v5_23 : Int64), j_X8_endOf_105_24 R_21 v10_18 v5_23 = some o16 → ww X D A 11 Q 0 0 105 [(0, .ref oW), (1, .ref oR), (3, .int p2), (4, .int v4_3), (5, .long v5_23), (7, .int v7_9), (8, .int v8_10), (9, .int v9_14), (10, .int v10_18)] [] [gX8 cy oW aW W, gX7 cy oR aR R_21, gX4 cy oP aP P] := by
              intro v5_23 hf
              unfold j_X8_endOf_105_24 at hf
              refine ww_inc (c := 1) h dX8_endOf_105 8 rfl (by decide) (by decide) (fun v10_25 => [(10, .int v10_25), (0, .ref oW), (1, .ref oR), (3, .int p2), (4, .int v4_3), (5, .long v5_23), (7, .int v7_9), (8, .int v8_10), (9, .int v9_14)]) (fun _ => rfl) 108 rfl (fun v10_25 e => ?_)
              replace hf := bnd_at e hf
              clear e
              refine ww_goto h dX8_endOf_108 55 (by decide) ?_
              refine ww_lo [1, 2, 3, 4, 5, 6, 7, 8, 0] (lo' := [(0, .ref oW), (1, .ref oR), (3, .int p2), (4, .int v4_3), (5, .long v5_23), (7, .int v7_9), (8, .int v8_10), (9, .int v9_14), (10, .int v10_25)]) rfl ?_
              exact hI16 (v5_23, v10_25, R_21) (Option.some.inj hf).symm
            refine ww_if_eq h dX8_endOf_70 105 (by decide) 73 rfl (fun c => ?_) (fun c => ?_)
            · replace hf := ite_t c hf
              refine ww_perm [2, 0, 0] (Gs' := [gX8 cy oW aW W, gX7 cy oR aR R_21, gX4 cy oP aP P]) rfl ?_
              exact hJ105_24 v5_17 hf
            · replace hf := ite_f c hf
              refine ww_lload h dX8_endOf_73 4 rfl 75 rfl ?_
              refine ww_aload_n h dX8_endOf_75 rfl 0 rfl 76 rfl ?_
              refine ww_get h inG8 rfl 2 rfl rfl 0 (by decide) w_397 rfl dX8_endOf_76 79 rfl ?_
              refine ww_iload h dX8_endOf_79 8 rfl 81 rfl ?_
              refine ww_iconst (v := 1) h dX8_endOf_81 (by decide) 82 rfl ?_
              refine ww_iadd h dX8_endOf_82 83 rfl ?_
              have hi := (gd_some hf).1
              replace hf := (gd_some hf).2
              refine ww_lald h 2 rfl 1 rfl (ix_in hi) dX8_endOf_83 84 rfl ?_
              clear hi
              refine ww_lcmp h dX8_endOf_84 85 rfl ?_
              refine ww_if_ge h dX8_endOf_85 91 (by decide) 88 rfl (fun c => ?_) (fun c => ?_)
              · replace hf := ite_t c hf
                refine ww_lload h dX8_endOf_91 4 rfl 93 rfl ?_
                refine ww_aload_n h dX8_endOf_93 rfl 0 rfl 94 rfl ?_
                refine ww_get h inG8 rfl 2 rfl rfl 0 (by decide) w_397 rfl dX8_endOf_94 97 rfl ?_
                refine ww_iload h dX8_endOf_97 8 rfl 99 rfl ?_
                refine ww_iconst (v := 1) h dX8_endOf_99 (by decide) 100 rfl ?_
                refine ww_iadd h dX8_endOf_100 101 rfl ?_
                have hi := (gd_some hf).1
                replace hf := (gd_some hf).2
                refine ww_lald h 2 rfl 1 rfl (ix_in hi) dX8_endOf_101 102 rfl ?_
                clear hi
                refine ww_lsub h dX8_endOf_102 103 rfl ?_
                refine ww_lst h dX8_endOf_103 (by decide) (fun v5_26 => [(5, .long v5_26), (0, .ref oW), (1, .ref oR), (3, .int p2), (4, .int v4_3), (7, .int v7_9), (8, .int v8_10), (9, .int v9_14), (10, .int v10_18)]) (fun _ => rfl) 105 rfl (fun v5_26 e => ?_)
                replace hf := bnd_at e hf
                clear e
                refine ww_lo [1, 2, 3, 4, 0, 5, 6, 7, 8] (lo' := [(0, .ref oW), (1, .ref oR), (3, .int p2), (4, .int v4_3), (5, .long v5_26), (7, .int v7_9), (8, .int v8_10), (9, .int v9_14), (10, .int v10_18)]) rfl ?_
                refine ww_perm [2, 0, 0] (Gs' := [gX8 cy oW aW W, gX7 cy oR aR R_21, gX4 cy oP aP P]) rfl ?_
                exact hJ105_24 v5_26 hf
              · replace hf := ite_f c hf
                refine ww_goto h dX8_endOf_88 111 (by decide) ?_
                refine ww_lo [0, 1, 2, 3, 4, 6, 8] (lo' := [(0, .ref oW), (1, .ref oR), (3, .int p2), (4, .int v4_3), (5, .long v5_17), (8, .int v8_10), (10, .int v10_18)]) rfl ?_
                refine ww_perm [2, 0, 0] (Gs' := [gX8 cy oW aW W, gX7 cy oR aR R_21, gX4 cy oP aP P]) rfl ?_
                exact hE16 (.inl (v5_17, v10_18, R_21)) (Option.some.inj hf).symm
        · clear h16
          rcases x16 with x16 | x16
          · replace hf := sel_l hf
            obtain ⟨v5_27, v10_28, R_29⟩ := x16
            replace hf := un3_e hf
            show ww X D A 11 Q 0 0 111 [(0, .ref oW), (1, .ref oR), (3, .int p2), (4, .int v4_3), (5, .long v5_27), (8, .int v8_10), (10, .int v10_28)] [] [gX8 cy oW aW W, gX7 cy oR aR R_29, gX4 cy oP aP P]
            refine ww_iload h dX8_endOf_111 5 rfl 113 rfl ?_
            refine ww_iload_n h dX8_endOf_113 rfl 2 rfl 114 rfl ?_
            refine ww_icmp_ne h dX8_endOf_114 120 (by decide) 117 rfl (fun c => ?_) (fun c => ?_)
            · replace hf := ite_f c hf
              refine ww_iload h dX8_endOf_120 6 rfl 122 rfl ?_
              refine ww_iconst (v := 1) h dX8_endOf_122 (by decide) 123 rfl ?_
              refine ww_iadd h dX8_endOf_123 124 rfl ?_
              refine ww_ist h dX8_endOf_124 (by decide) (fun v7_30 => [(7, .int v7_30), (0, .ref oW), (1, .ref oR), (3, .int p2), (4, .int v4_3), (5, .long v5_27), (8, .int v8_10), (10, .int v10_28)]) (fun _ => rfl) 126 rfl (fun v7_30 e => ?_)
              replace hf := bnd_at e hf
              clear e
              refine ww_inc (c := 1) h dX8_endOf_126 6 rfl (by decide) (by decide) (fun v8_31 => [(8, .int v8_31), (7, .int v7_30), (0, .ref oW), (1, .ref oR), (3, .int p2), (4, .int v4_3), (5, .long v5_27), (10, .int v10_28)]) (fun _ => rfl) 129 rfl (fun v8_31 e => ?_)
              replace hf := bnd_at e hf
              clear e
              refine ww_goto h dX8_endOf_129 16 (by decide) ?_
              refine ww_lo [2, 3, 4, 5, 6, 1, 0] (lo' := [(0, .ref oW), (1, .ref oR), (3, .int p2), (4, .int v4_3), (5, .long v5_27), (7, .int v7_30), (8, .int v8_31)]) rfl ?_
              exact hI7 (v5_27, v7_30, v8_31, R_29) (Option.some.inj hf).symm
            · replace hf := ite_t c hf
              refine ww_iload h dX8_endOf_117 6 rfl 119 rfl ?_
              obtain rfl := hE7 (.inr (v10_28, R_29)) (Option.some.inj hf).symm
              exact ww_iret h dX8_endOf_119 hQ ⟨rfl, rfl⟩
          · replace hf := sel_r hf
            exact hE7 (.inr _) (Option.some.inj hf).symm
      · replace hf := ite_f c hf
        refine ww_iload_n h dX8_endOf_30 rfl 2 rfl 31 rfl ?_
        refine ww_iconst (v := (-1)) h dX8_endOf_31 (by decide) 32 rfl ?_
        refine ww_icmp_ne h dX8_endOf_32 40 (by decide) 35 rfl (fun c => ?_) (fun c => ?_)
        · replace hf := ite_f c hf
          refine ww_bipush (v := (-2)) h dX8_endOf_40 (by decide) 42 rfl ?_
          obtain rfl := hE7 (.inr ((-2 : Int32), R_11)) (Option.some.inj hf).symm
          exact ww_iret h dX8_endOf_42 hQ ⟨rfl, rfl⟩
        · replace hf := ite_t c hf
          refine ww_iload h dX8_endOf_35 6 rfl 37 rfl ?_
          refine ww_goto h dX8_endOf_37 42 (by decide) ?_
          obtain rfl := hE7 (.inr (v8_10, R_11)) (Option.some.inj hf).symm
          exact ww_iret h dX8_endOf_42 hQ ⟨rfl, rfl⟩
  · clear h7
    rcases x7 with x7 | x7
    · replace hf := sel_l hf
      obtain ⟨R_32, rfl⟩ : ∃ z, z = x7 := ⟨_, rfl⟩
      replace hf := un1_e hf
      show ww X D A 11 Q 0 0 132 [] [] [gX8 cy oW aW W, gX7 cy oR aR R_32, gX4 cy oP aP P]
      refine ww_bipush (v := (-2)) h dX8_endOf_132 (by decide) 134 rfl ?_
      obtain rfl := Option.some.inj hf
      exact ww_iret h dX8_endOf_134 hQ ⟨rfl, rfl⟩
    · replace hf := sel_r hf
      exact Option.some.inj hf
theorem dX5_planFull_0 : decode cX5_planFull 0 = .ok (.aload_n 1, 1) := by decide +kernel
theorem dX5_planFull_1 : decode cX5_planFull 1 = .ok (.invokevirtual 21, 3) := by decide +kernel
theorem dX5_planFull_4 : decode cX5_planFull 4 = .ok (.istore_n 3, 1) := by decide +kernel
theorem dX5_planFull_5 : decode cX5_planFull 5 = .ok (.iconst 0, 1) := by decide +kernel
theorem dX5_planFull_6 : decode cX5_planFull 6 = .ok (.istore 4, 2) := by decide +kernel
theorem dX5_planFull_8 : decode cX5_planFull 8 = .ok (.iconst 0, 1) := by decide +kernel
theorem dX5_planFull_9 : decode cX5_planFull 9 = .ok (.istore 5, 2) := by decide +kernel
theorem dX5_planFull_11 : decode cX5_planFull 11 = .ok (.iload 5, 2) := by decide +kernel
theorem dX5_planFull_13 : decode cX5_planFull 13 = .ok (.iload_n 3, 1) := by decide +kernel
theorem dX5_planFull_14 : decode cX5_planFull 14 = .ok (.if_icmp .ge 41, 3) := by decide +kernel
theorem dX5_planFull_17 : decode cX5_planFull 17 = .ok (.iload 4, 2) := by decide +kernel
theorem dX5_planFull_19 : decode cX5_planFull 19 = .ok (.iload_n 3, 1) := by decide +kernel
theorem dX5_planFull_20 : decode cX5_planFull 20 = .ok (.if_icmp .ge 35, 3) := by decide +kernel
theorem dX5_planFull_23 : decode cX5_planFull 23 = .ok (.aload_n 0, 1) := by decide +kernel
theorem dX5_planFull_24 : decode cX5_planFull 24 = .ok (.getfield 18, 3) := by decide +kernel
theorem dX5_planFull_27 : decode cX5_planFull 27 = .ok (.iload 4, 2) := by decide +kernel
theorem dX5_planFull_29 : decode cX5_planFull 29 = .ok (.aload_n 0, 1) := by decide +kernel
theorem dX5_planFull_30 : decode cX5_planFull 30 = .ok (.aload_n 1, 1) := by decide +kernel
theorem dX5_planFull_31 : decode cX5_planFull 31 = .ok (.iload 4, 2) := by decide +kernel
theorem dX5_planFull_33 : decode cX5_planFull 33 = .ok (.iload_n 2, 1) := by decide +kernel
theorem dX5_planFull_34 : decode cX5_planFull 34 = .ok (.invokevirtual 27, 3) := by decide +kernel
theorem dX5_planFull_37 : decode cX5_planFull 37 = .ok (.iastore, 1) := by decide +kernel
theorem dX5_planFull_38 : decode cX5_planFull 38 = .ok (.aload_n 0, 1) := by decide +kernel
theorem dX5_planFull_39 : decode cX5_planFull 39 = .ok (.getfield 18, 3) := by decide +kernel
theorem dX5_planFull_42 : decode cX5_planFull 42 = .ok (.iload 4, 2) := by decide +kernel
theorem dX5_planFull_44 : decode cX5_planFull 44 = .ok (.iaload, 1) := by decide +kernel
theorem dX5_planFull_45 : decode cX5_planFull 45 = .ok (.iconst 1, 1) := by decide +kernel
theorem dX5_planFull_46 : decode cX5_planFull 46 = .ok (.iadd, 1) := by decide +kernel
theorem dX5_planFull_47 : decode cX5_planFull 47 = .ok (.istore 4, 2) := by decide +kernel
theorem dX5_planFull_49 : decode cX5_planFull 49 = .ok (.iinc 5 1, 3) := by decide +kernel
theorem dX5_planFull_52 : decode cX5_planFull 52 = .ok (.goto (-41), 3) := by decide +kernel
theorem dX5_planFull_55 : decode cX5_planFull 55 = .ok (.return_, 1) := by decide +kernel
theorem ok_X5_planFull : okY RX5 yX5_planFull 2 := ⟨rfl, by decide, by decide, by decide +kernel⟩
def s_X5_planFull_11_6 (oP : Nat) (P : OV) (p1 : Int32) (v3_3 : Int32) : (Int32 × Int32 × OV × OV) → Option ((Int32 × Int32 × OV × OV) ⊕ (OV × OV)) := un4 (fun v4_7 v5_8 N_9 R_10 => (if v3_3 ≤ v5_8 then some (.inr (N_9, R_10)) else (if v3_3 ≤ v4_7 then some (.inr (N_9, R_10)) else (f_X5_fullEnd R_10 oP P v4_7 p1).bind (un2 (fun r_11 R_12 => gd (ix v4_7 41) (bnd (sA N_9 2 v4_7.toNatClampNeg r_11) (fun N_14 => gd (ix v4_7 41) (bnd ((ar N_14 2 v4_7.toNatClampNeg) + (1 : Int32)) (fun v4_15 => bnd (v5_8 + 1) (fun v5_16 => some (.inl (v4_15, v5_16, N_14, R_12))))))))))))
def f_X5_planFull (N : OV) (R : OV) (oP : Nat) (P : OV) (p1 : Int32) : Option (OV × OV) := (f_X7_signs R oP P).bind (un1 (fun r_1 => bnd r_1 (fun v3_3 => bnd (0 : Int32) (fun v4_4 => bnd (0 : Int32) (fun v5_5 => ((lp (s_X5_planFull_11_6 oP P p1 v3_3) 5000 (v4_4, v5_5, N, R)).bind (un2 (fun N_17 R_18 => some (N_17, R_18)))))))))
def r_X5_planFull : Room := { frames := 4, cells := 0, slots := 0, locals := 99 }
set_option maxHeartbeats 4000000 in
set_option maxRecDepth 100000 in
theorem c_X5_planFull (l : Launch) (D : va_G) (ev : EvT) (cy : Nat → ClassId) (oN : Nat) (aN : Nat → Nat) (N : OV) (oR : Nat) (aR : Nat → Nat) (R : OV) (oP : Nat) (aP : Nat → Nat) (P : OV) (p1 : Int32) (o : OV × OV) (hf : f_X5_planFull N R oP P p1 = some o) : Fn l yX5_planFull cX5_planFull 6 none r_X5_planFull D ev cy [.ref oN, .ref oR, .int p1] [gX5 cy oN aN N, gX7 cy oR aR R, gX4 cy oP aP P] (fun v G => v = none ∧ G = [gX5 cy oN aN o.1, gX7 cy oR aR o.2, gX4 cy oP aP P]) := by
  refine Fn_of (by decide) (Nat.le_of_ble_eq_true rfl) (fun X A Q h hQ _ => ?_)
  unfold f_X5_planFull at hf
  show ww X D A 6 Q 0 0 0 [(0, .ref oN), (1, .ref oR), (2, .int p1)] [] [gX5 cy oN aN N, gX7 cy oR aR R, gX4 cy oP aP P]
  refine ww_aload_n h dX5_planFull_0 rfl 1 rfl 1 rfl ?_
  obtain ⟨r_1, hu2, hf⟩ := ob1 hf
  refine ww_cVi h (c_X7_signs l D ev cy oR aR R oP aP P _ hu2) ⟨w_864, w_861, w_862, w_863, w_107, ok_X7_signs⟩ ⟨by decide, by decide⟩ ⟨by decide, by decide⟩ ⟨rfl, rfl⟩ [1, 1] rfl 0 rfl rfl rfl rfl (Nat.le_of_ble_eq_true rfl) dX5_planFull_1 4 rfl (Gs' := [gX7 cy oR aR R, gX4 cy oP aP P, gX5 cy oN aN N]) rfl ?_
  clear hu2
  refine ww_ist_n h dX5_planFull_4 rfl (by decide) (fun v3_3 => [(3, .int v3_3), (0, .ref oN), (1, .ref oR), (2, .int p1)]) (fun _ => rfl) 5 rfl (fun v3_3 e => ?_)
  replace hf := bnd_at e hf
  clear e
  refine ww_iconst (v := 0) h dX5_planFull_5 (by decide) 6 rfl ?_
  refine ww_ist h dX5_planFull_6 (by decide) (fun v4_4 => [(4, .int v4_4), (3, .int v3_3), (0, .ref oN), (1, .ref oR), (2, .int p1)]) (fun _ => rfl) 8 rfl (fun v4_4 e => ?_)
  replace hf := bnd_at e hf
  clear e
  refine ww_iconst (v := 0) h dX5_planFull_8 (by decide) 9 rfl ?_
  refine ww_ist h dX5_planFull_9 (by decide) (fun v5_5 => [(5, .int v5_5), (4, .int v4_4), (3, .int v3_3), (0, .ref oN), (1, .ref oR), (2, .int p1)]) (fun _ => rfl) 11 rfl (fun v5_5 e => ?_)
  replace hf := bnd_at e hf
  clear e
  refine ww_lo [3, 4, 5, 2, 1, 0] (lo' := [(0, .ref oN), (1, .ref oR), (2, .int p1), (3, .int v3_3), (4, .int v4_4), (5, .int v5_5)]) rfl ?_
  refine ww_perm [2, 0, 0] (Gs' := [gX5 cy oN aN N, gX7 cy oR aR R, gX4 cy oP aP P]) rfl ?_
  obtain ⟨N_17, R_18, h6, hf⟩ := ob2 hf
  refine lp_walk (un4 (fun v4_7 v5_8 N_9 R_10 => ww X D A 6 Q 0 0 11 [(0, .ref oN), (1, .ref oR), (2, .int p1), (3, .int v3_3), (4, .int v4_7), (5, .int v5_8)] [] [gX5 cy oN aN N_9, gX7 cy oR aR R_10, gX4 cy oP aP P])) (un2 (fun N_17 R_18 => ww X D A 6 Q 0 0 55 [] [] [gX5 cy oN aN N_17, gX7 cy oR aR R_18, gX4 cy oP aP P])) ?_ _ _ _ h6 ?_
  · clear h6 hf
    intro s6 o6 hf hI6 hE6
    obtain ⟨v4_7, v5_8, N_9, R_10⟩ := s6
    unfold s_X5_planFull_11_6 at hf
    replace hf := un4_e hf
    show ww X D A 6 Q 0 0 11 [(0, .ref oN), (1, .ref oR), (2, .int p1), (3, .int v3_3), (4, .int v4_7), (5, .int v5_8)] [] [gX5 cy oN aN N_9, gX7 cy oR aR R_10, gX4 cy oP aP P]
    refine ww_iload h dX5_planFull_11 5 rfl 13 rfl ?_
    refine ww_iload_n h dX5_planFull_13 rfl 3 rfl 14 rfl ?_
    refine ww_icmp_ge h dX5_planFull_14 55 (by decide) 17 rfl (fun c => ?_) (fun c => ?_)
    · replace hf := ite_t c hf
      refine ww_lo [] (lo' := []) rfl ?_
      exact hE6 (N_9, R_10) (Option.some.inj hf).symm
    · replace hf := ite_f c hf
      refine ww_iload h dX5_planFull_17 4 rfl 19 rfl ?_
      refine ww_iload_n h dX5_planFull_19 rfl 3 rfl 20 rfl ?_
      refine ww_icmp_ge h dX5_planFull_20 55 (by decide) 23 rfl (fun c => ?_) (fun c => ?_)
      · replace hf := ite_t c hf
        refine ww_lo [] (lo' := []) rfl ?_
        exact hE6 (N_9, R_10) (Option.some.inj hf).symm
      · replace hf := ite_f c hf
        refine ww_aload_n h dX5_planFull_23 rfl 0 rfl 24 rfl ?_
        refine ww_get h inG5 rfl 0 rfl rfl 2 (by decide) w_344 rfl dX5_planFull_24 27 rfl ?_
        refine ww_iload h dX5_planFull_27 4 rfl 29 rfl ?_
        refine ww_aload_n h dX5_planFull_29 rfl 0 rfl 30 rfl ?_
        refine ww_aload_n h dX5_planFull_30 rfl 1 rfl 31 rfl ?_
        refine ww_iload h dX5_planFull_31 4 rfl 33 rfl ?_
        refine ww_iload_n h dX5_planFull_33 rfl 2 rfl 34 rfl ?_
        obtain ⟨r_11, R_12, hu13, hf⟩ := ob2 hf
        refine ww_cVi h (c_X5_fullEnd l D ev cy oN aN N_9 oR aR R_10 oP aP P v4_7 p1 _ hu13) ⟨w_888, w_885, w_887, w_23, w_108, ok_X5_fullEnd⟩ ⟨by decide, by decide⟩ ⟨by decide, by decide⟩ ⟨rfl, rfl⟩ [0, 0, 0] rfl 0 rfl rfl rfl rfl (Nat.le_of_ble_eq_true rfl) dX5_planFull_34 37 rfl (Gs' := [gX5 cy oN aN N_9, gX7 cy oR aR R_12, gX4 cy oP aP P]) rfl ?_
        clear hu13
        have hi := (gd_some hf).1
        replace hf := (gd_some hf).2
        refine ww_iast h 0 rfl 3 rfl (ix_in hi) dX5_planFull_37 38 rfl ?_
        clear hi
        refine ww_nm (fun z => [gX5 cy oN aN z, gX7 cy oR aR R_12, gX4 cy oP aP P]) (sA N_9 2 v4_7.toNatClampNeg r_11) (fun N_14 e => ?_)
        replace hf := bnd_at e hf
        clear e
        refine ww_aload_n h dX5_planFull_38 rfl 0 rfl 39 rfl ?_
        refine ww_get h inG5 rfl 0 rfl rfl 2 (by decide) w_344 rfl dX5_planFull_39 42 rfl ?_
        refine ww_iload h dX5_planFull_42 4 rfl 44 rfl ?_
        have hi := (gd_some hf).1
        replace hf := (gd_some hf).2
        refine ww_iald h 0 rfl 3 rfl (ix_in hi) dX5_planFull_44 45 rfl ?_
        clear hi
        refine ww_iconst (v := 1) h dX5_planFull_45 (by decide) 46 rfl ?_
        refine ww_iadd h dX5_planFull_46 47 rfl ?_
        refine ww_ist h dX5_planFull_47 (by decide) (fun v4_15 => [(4, .int v4_15), (0, .ref oN), (1, .ref oR), (2, .int p1), (3, .int v3_3), (5, .int v5_8)]) (fun _ => rfl) 49 rfl (fun v4_15 e => ?_)
        replace hf := bnd_at e hf
        clear e
        refine ww_inc (c := 1) h dX5_planFull_49 5 rfl (by decide) (by decide) (fun v5_16 => [(5, .int v5_16), (4, .int v4_15), (0, .ref oN), (1, .ref oR), (2, .int p1), (3, .int v3_3)]) (fun _ => rfl) 52 rfl (fun v5_16 e => ?_)
        replace hf := bnd_at e hf
        clear e
        refine ww_goto h dX5_planFull_52 11 (by decide) ?_
        refine ww_lo [2, 3, 4, 5, 1, 0] (lo' := [(0, .ref oN), (1, .ref oR), (2, .int p1), (3, .int v3_3), (4, .int v4_15), (5, .int v5_16)]) rfl ?_
        exact hI6 (v4_15, v5_16, N_14, R_12) (Option.some.inj hf).symm
  · clear h6
    show ww X D A 6 Q 0 0 55 [] [] [gX5 cy oN aN N_17, gX7 cy oR aR R_18, gX4 cy oP aP P]
    obtain rfl := Option.some.inj hf
    exact ww_vret h dX5_planFull_55 hQ ⟨rfl, rfl⟩
theorem dX5_planBest_0 : decode cX5_planBest 0 = .ok (.aload_n 1, 1) := by decide +kernel
theorem dX5_planBest_1 : decode cX5_planBest 1 = .ok (.invokevirtual 21, 3) := by decide +kernel
theorem dX5_planBest_4 : decode cX5_planBest 4 = .ok (.istore_n 3, 1) := by decide +kernel
theorem dX5_planBest_5 : decode cX5_planBest 5 = .ok (.aload_n 0, 1) := by decide +kernel
theorem dX5_planBest_6 : decode cX5_planBest 6 = .ok (.getfield 9, 3) := by decide +kernel
theorem dX5_planBest_9 : decode cX5_planBest 9 = .ok (.iload_n 3, 1) := by decide +kernel
theorem dX5_planBest_10 : decode cX5_planBest 10 = .ok (.iconst 0, 1) := by decide +kernel
theorem dX5_planBest_11 : decode cX5_planBest 11 = .ok (.iastore, 1) := by decide +kernel
theorem dX5_planBest_12 : decode cX5_planBest 12 = .ok (.aload_n 0, 1) := by decide +kernel
theorem dX5_planBest_13 : decode cX5_planBest 13 = .ok (.getfield 15, 3) := by decide +kernel
theorem dX5_planBest_16 : decode cX5_planBest 16 = .ok (.iload_n 3, 1) := by decide +kernel
theorem dX5_planBest_17 : decode cX5_planBest 17 = .ok (.iconst 0, 1) := by decide +kernel
theorem dX5_planBest_18 : decode cX5_planBest 18 = .ok (.iastore, 1) := by decide +kernel
theorem dX5_planBest_19 : decode cX5_planBest 19 = .ok (.iload_n 3, 1) := by decide +kernel
theorem dX5_planBest_20 : decode cX5_planBest 20 = .ok (.iconst 1, 1) := by decide +kernel
theorem dX5_planBest_21 : decode cX5_planBest 21 = .ok (.isub, 1) := by decide +kernel
theorem dX5_planBest_22 : decode cX5_planBest 22 = .ok (.istore 4, 2) := by decide +kernel
theorem dX5_planBest_24 : decode cX5_planBest 24 = .ok (.iload 4, 2) := by decide +kernel
theorem dX5_planBest_26 : decode cX5_planBest 26 = .ok (.ifCond .lt 109, 3) := by decide +kernel
theorem dX5_planBest_29 : decode cX5_planBest 29 = .ok (.aload_n 0, 1) := by decide +kernel
theorem dX5_planBest_30 : decode cX5_planBest 30 = .ok (.getfield 9, 3) := by decide +kernel
theorem dX5_planBest_33 : decode cX5_planBest 33 = .ok (.iload 4, 2) := by decide +kernel
theorem dX5_planBest_35 : decode cX5_planBest 35 = .ok (.ldc 51, 2) := by decide +kernel
theorem dX5_planBest_37 : decode cX5_planBest 37 = .ok (.iastore, 1) := by decide +kernel
theorem dX5_planBest_38 : decode cX5_planBest 38 = .ok (.aload_n 0, 1) := by decide +kernel
theorem dX5_planBest_39 : decode cX5_planBest 39 = .ok (.getfield 15, 3) := by decide +kernel
theorem dX5_planBest_42 : decode cX5_planBest 42 = .ok (.iload 4, 2) := by decide +kernel
theorem dX5_planBest_44 : decode cX5_planBest 44 = .ok (.iconst 0, 1) := by decide +kernel
theorem dX5_planBest_45 : decode cX5_planBest 45 = .ok (.iastore, 1) := by decide +kernel
theorem dX5_planBest_46 : decode cX5_planBest 46 = .ok (.aload_n 0, 1) := by decide +kernel
theorem dX5_planBest_47 : decode cX5_planBest 47 = .ok (.getfield 18, 3) := by decide +kernel
theorem dX5_planBest_50 : decode cX5_planBest 50 = .ok (.iload 4, 2) := by decide +kernel
theorem dX5_planBest_52 : decode cX5_planBest 52 = .ok (.iload 4, 2) := by decide +kernel
theorem dX5_planBest_54 : decode cX5_planBest 54 = .ok (.iastore, 1) := by decide +kernel
theorem dX5_planBest_55 : decode cX5_planBest 55 = .ok (.aload_n 1, 1) := by decide +kernel
theorem dX5_planBest_56 : decode cX5_planBest 56 = .ok (.iload 4, 2) := by decide +kernel
theorem dX5_planBest_58 : decode cX5_planBest 58 = .ok (.invokevirtual 31, 3) := by decide +kernel
theorem dX5_planBest_61 : decode cX5_planBest 61 = .ok (.istore 5, 2) := by decide +kernel
theorem dX5_planBest_63 : decode cX5_planBest 63 = .ok (.iload 4, 2) := by decide +kernel
theorem dX5_planBest_65 : decode cX5_planBest 65 = .ok (.istore 6, 2) := by decide +kernel
theorem dX5_planBest_67 : decode cX5_planBest 67 = .ok (.iload 6, 2) := by decide +kernel
theorem dX5_planBest_69 : decode cX5_planBest 69 = .ok (.iload 5, 2) := by decide +kernel
theorem dX5_planBest_71 : decode cX5_planBest 71 = .ok (.if_icmp .gt 58, 3) := by decide +kernel
theorem dX5_planBest_74 : decode cX5_planBest 74 = .ok (.aload_n 1, 1) := by decide +kernel
theorem dX5_planBest_75 : decode cX5_planBest 75 = .ok (.iload 4, 2) := by decide +kernel
theorem dX5_planBest_77 : decode cX5_planBest 77 = .ok (.iload 6, 2) := by decide +kernel
theorem dX5_planBest_79 : decode cX5_planBest 79 = .ok (.invokevirtual 35, 3) := by decide +kernel
theorem dX5_planBest_82 : decode cX5_planBest 82 = .ok (.aload_n 1, 1) := by decide +kernel
theorem dX5_planBest_83 : decode cX5_planBest 83 = .ok (.getfield 52, 3) := by decide +kernel
theorem dX5_planBest_86 : decode cX5_planBest 86 = .ok (.ifCond .eq 37, 3) := by decide +kernel
theorem dX5_planBest_89 : decode cX5_planBest 89 = .ok (.aload_n 1, 1) := by decide +kernel
theorem dX5_planBest_90 : decode cX5_planBest 90 = .ok (.getfield 55, 3) := by decide +kernel
theorem dX5_planBest_93 : decode cX5_planBest 93 = .ok (.iload_n 2, 1) := by decide +kernel
theorem dX5_planBest_94 : decode cX5_planBest 94 = .ok (.if_icmp .gt 29, 3) := by decide +kernel
theorem dX5_planBest_97 : decode cX5_planBest 97 = .ok (.aload_n 0, 1) := by decide +kernel
theorem dX5_planBest_98 : decode cX5_planBest 98 = .ok (.getfield 9, 3) := by decide +kernel
theorem dX5_planBest_101 : decode cX5_planBest 101 = .ok (.iload 6, 2) := by decide +kernel
theorem dX5_planBest_103 : decode cX5_planBest 103 = .ok (.iconst 1, 1) := by decide +kernel
theorem dX5_planBest_104 : decode cX5_planBest 104 = .ok (.iadd, 1) := by decide +kernel
theorem dX5_planBest_105 : decode cX5_planBest 105 = .ok (.iaload, 1) := by decide +kernel
theorem dX5_planBest_106 : decode cX5_planBest 106 = .ok (.ldc 51, 2) := by decide +kernel
theorem dX5_planBest_108 : decode cX5_planBest 108 = .ok (.if_icmp .ge 15, 3) := by decide +kernel
theorem dX5_planBest_111 : decode cX5_planBest 111 = .ok (.aload_n 0, 1) := by decide +kernel
theorem dX5_planBest_112 : decode cX5_planBest 112 = .ok (.iload 4, 2) := by decide +kernel
theorem dX5_planBest_114 : decode cX5_planBest 114 = .ok (.iload 6, 2) := by decide +kernel
theorem dX5_planBest_116 : decode cX5_planBest 116 = .ok (.aload_n 1, 1) := by decide +kernel
theorem dX5_planBest_117 : decode cX5_planBest 117 = .ok (.getfield 55, 3) := by decide +kernel
theorem dX5_planBest_120 : decode cX5_planBest 120 = .ok (.invokevirtual 58, 3) := by decide +kernel
theorem dX5_planBest_123 : decode cX5_planBest 123 = .ok (.iinc 6 1, 3) := by decide +kernel
theorem dX5_planBest_126 : decode cX5_planBest 126 = .ok (.goto (-59), 3) := by decide +kernel
theorem dX5_planBest_129 : decode cX5_planBest 129 = .ok (.iinc 4 (-1), 3) := by decide +kernel
theorem dX5_planBest_132 : decode cX5_planBest 132 = .ok (.goto (-108), 3) := by decide +kernel
theorem dX5_planBest_135 : decode cX5_planBest 135 = .ok (.return_, 1) := by decide +kernel
theorem ok_X5_planBest : okY RX5 yX5_planBest 2 := ⟨rfl, by decide, by decide, by decide +kernel⟩
def j_X5_planBest_123_25 (R_22 : OV) (v6_19 : Int32) (N_24 : OV) : Option ((Int32 × OV × OV) ⊕ (OV × OV)) := bnd (v6_19 + 1) (fun v6_26 => some (.inl (v6_26, N_24, R_22)))
def s_X5_planBest_67_18 (oP : Nat) (P : OV) (p1 : Int32) (v4_8 : Int32) (v5_16 : Int32) : (Int32 × OV × OV) → Option ((Int32 × OV × OV) ⊕ (OV × OV)) := un3 (fun v6_19 N_20 R_21 => (if v5_16 < v6_19 then some (.inr (N_20, R_21)) else (f_X7_measure R_21 oP P v4_8 v6_19).bind (un1 (fun R_22 => (if (iv R_22 13) = 0 then j_X5_planBest_123_25 R_22 v6_19 N_20 else (if p1 < (iv R_22 17) then j_X5_planBest_123_25 R_22 v6_19 N_20 else gd (ix (v6_19 + (1 : Int32)) 41) ((if (1000000000 : Int32) ≤ (ar N_20 0 (v6_19 + (1 : Int32)).toNatClampNeg) then j_X5_planBest_123_25 R_22 v6_19 N_20 else (f_X5_offer N_20 v4_8 v6_19 (iv R_22 17)).bind (un1 (fun N_27 => j_X5_planBest_123_25 R_22 v6_19 N_27))))))))))
def s_X5_planBest_24_7 (oP : Nat) (P : OV) (p1 : Int32) : (Int32 × OV × OV) → Option ((Int32 × OV × OV) ⊕ (OV × OV)) := un3 (fun v4_8 N_9 R_10 => (if v4_8 < 0 then some (.inr (N_9, R_10)) else gd (ix v4_8 41) (bnd (sA N_9 0 v4_8.toNatClampNeg (1000000000 : Int32)) (fun N_11 => gd (ix v4_8 41) (bnd (sA N_11 1 v4_8.toNatClampNeg (0 : Int32)) (fun N_12 => gd (ix v4_8 41) (bnd (sA N_12 2 v4_8.toNatClampNeg v4_8) (fun N_13 => (f_X7_reach R_10 oP P v4_8).bind (un1 (fun r_14 => bnd r_14 (fun v5_16 => bnd v4_8 (fun v6_17 => ((lp (s_X5_planBest_67_18 oP P p1 v4_8 v5_16) 5000 (v6_17, N_13, R_10)).bind (un2 (fun N_29 R_30 => bnd (v4_8 + (-1)) (fun v4_31 => some (.inl (v4_31, N_29, R_30))))))))))))))))))
def f_X5_planBest (N : OV) (R : OV) (oP : Nat) (P : OV) (p1 : Int32) : Option (OV × OV) := (f_X7_signs R oP P).bind (un1 (fun r_1 => bnd r_1 (fun v3_3 => gd (ix v3_3 41) (bnd (sA N 0 v3_3.toNatClampNeg (0 : Int32)) (fun N_4 => gd (ix v3_3 41) (bnd (sA N_4 1 v3_3.toNatClampNeg (0 : Int32)) (fun N_5 => bnd (v3_3 - (1 : Int32)) (fun v4_6 => ((lp (s_X5_planBest_24_7 oP P p1) 5000 (v4_6, N_5, R)).bind (un2 (fun N_32 R_33 => some (N_32, R_33))))))))))))
def r_X5_planBest : Room := { frames := 3, cells := 0, slots := 0, locals := 71 }
set_option maxHeartbeats 4000000 in
set_option maxRecDepth 100000 in
theorem c_X5_planBest (l : Launch) (D : va_G) (ev : EvT) (cy : Nat → ClassId) (oN : Nat) (aN : Nat → Nat) (N : OV) (oR : Nat) (aR : Nat → Nat) (R : OV) (oP : Nat) (aP : Nat → Nat) (P : OV) (p1 : Int32) (o : OV × OV) (hf : f_X5_planBest N R oP P p1 = some o) : Fn l yX5_planBest cX5_planBest 7 none r_X5_planBest D ev cy [.ref oN, .ref oR, .int p1] [gX5 cy oN aN N, gX7 cy oR aR R, gX4 cy oP aP P] (fun v G => v = none ∧ G = [gX5 cy oN aN o.1, gX7 cy oR aR o.2, gX4 cy oP aP P]) := by
  refine Fn_of (by decide) (Nat.le_of_ble_eq_true rfl) (fun X A Q h hQ _ => ?_)
  unfold f_X5_planBest at hf
  show ww X D A 7 Q 0 0 0 [(0, .ref oN), (1, .ref oR), (2, .int p1)] [] [gX5 cy oN aN N, gX7 cy oR aR R, gX4 cy oP aP P]
  refine ww_aload_n h dX5_planBest_0 rfl 1 rfl 1 rfl ?_
  obtain ⟨r_1, hu2, hf⟩ := ob1 hf
  refine ww_cVi h (c_X7_signs l D ev cy oR aR R oP aP P _ hu2) ⟨w_864, w_861, w_862, w_863, w_107, ok_X7_signs⟩ ⟨by decide, by decide⟩ ⟨by decide, by decide⟩ ⟨rfl, rfl⟩ [1, 1] rfl 0 rfl rfl rfl rfl (Nat.le_of_ble_eq_true rfl) dX5_planBest_1 4 rfl (Gs' := [gX7 cy oR aR R, gX4 cy oP aP P, gX5 cy oN aN N]) rfl ?_
  clear hu2
  refine ww_ist_n h dX5_planBest_4 rfl (by decide) (fun v3_3 => [(3, .int v3_3), (0, .ref oN), (1, .ref oR), (2, .int p1)]) (fun _ => rfl) 5 rfl (fun v3_3 e => ?_)
  replace hf := bnd_at e hf
  clear e
  refine ww_aload_n h dX5_planBest_5 rfl 1 rfl 6 rfl ?_
  refine ww_get h inG5 rfl 2 rfl rfl 0 (by decide) w_340 rfl dX5_planBest_6 9 rfl ?_
  refine ww_iload_n h dX5_planBest_9 rfl 0 rfl 10 rfl ?_
  refine ww_iconst (v := 0) h dX5_planBest_10 (by decide) 11 rfl ?_
  have hi := (gd_some hf).1
  replace hf := (gd_some hf).2
  refine ww_iast h 2 rfl 1 rfl (ix_in hi) dX5_planBest_11 12 rfl ?_
  clear hi
  refine ww_nm (fun z => [gX7 cy oR aR R, gX4 cy oP aP P, gX5 cy oN aN z]) (sA N 0 v3_3.toNatClampNeg (0 : Int32)) (fun N_4 e => ?_)
  replace hf := bnd_at e hf
  clear e
  refine ww_aload_n h dX5_planBest_12 rfl 1 rfl 13 rfl ?_
  refine ww_get h inG5 rfl 2 rfl rfl 1 (by decide) w_342 rfl dX5_planBest_13 16 rfl ?_
  refine ww_iload_n h dX5_planBest_16 rfl 0 rfl 17 rfl ?_
  refine ww_iconst (v := 0) h dX5_planBest_17 (by decide) 18 rfl ?_
  have hi := (gd_some hf).1
  replace hf := (gd_some hf).2
  refine ww_iast h 2 rfl 2 rfl (ix_in hi) dX5_planBest_18 19 rfl ?_
  clear hi
  refine ww_nm (fun z => [gX7 cy oR aR R, gX4 cy oP aP P, gX5 cy oN aN z]) (sA N_4 1 v3_3.toNatClampNeg (0 : Int32)) (fun N_5 e => ?_)
  replace hf := bnd_at e hf
  clear e
  refine ww_iload_n h dX5_planBest_19 rfl 0 rfl 20 rfl ?_
  refine ww_iconst (v := 1) h dX5_planBest_20 (by decide) 21 rfl ?_
  refine ww_isub h dX5_planBest_21 22 rfl ?_
  refine ww_ist h dX5_planBest_22 (by decide) (fun v4_6 => [(4, .int v4_6), (3, .int v3_3), (0, .ref oN), (1, .ref oR), (2, .int p1)]) (fun _ => rfl) 24 rfl (fun v4_6 e => ?_)
  replace hf := bnd_at e hf
  clear e
  refine ww_lo [2, 3, 4, 0] (lo' := [(0, .ref oN), (1, .ref oR), (2, .int p1), (4, .int v4_6)]) rfl ?_
  refine ww_perm [2, 0, 0] (Gs' := [gX5 cy oN aN N_5, gX7 cy oR aR R, gX4 cy oP aP P]) rfl ?_
  obtain ⟨N_32, R_33, h7, hf⟩ := ob2 hf
  refine lp_walk (un3 (fun v4_8 N_9 R_10 => ww X D A 7 Q 0 0 24 [(0, .ref oN), (1, .ref oR), (2, .int p1), (4, .int v4_8)] [] [gX5 cy oN aN N_9, gX7 cy oR aR R_10, gX4 cy oP aP P])) (un2 (fun N_32 R_33 => ww X D A 7 Q 0 0 135 [] [] [gX5 cy oN aN N_32, gX7 cy oR aR R_33, gX4 cy oP aP P])) ?_ _ _ _ h7 ?_
  · clear h7 hf
    intro s7 o7 hf hI7 hE7
    obtain ⟨v4_8, N_9, R_10⟩ := s7
    unfold s_X5_planBest_24_7 at hf
    replace hf := un3_e hf
    show ww X D A 7 Q 0 0 24 [(0, .ref oN), (1, .ref oR), (2, .int p1), (4, .int v4_8)] [] [gX5 cy oN aN N_9, gX7 cy oR aR R_10, gX4 cy oP aP P]
    refine ww_iload h dX5_planBest_24 3 rfl 26 rfl ?_
    refine ww_if_lt h dX5_planBest_26 135 (by decide) 29 rfl (fun c => ?_) (fun c => ?_)
    · replace hf := ite_t c hf
      refine ww_lo [] (lo' := []) rfl ?_
      exact hE7 (N_9, R_10) (Option.some.inj hf).symm
    · replace hf := ite_f c hf
      refine ww_aload_n h dX5_planBest_29 rfl 0 rfl 30 rfl ?_
      refine ww_get h inG5 rfl 0 rfl rfl 0 (by decide) w_340 rfl dX5_planBest_30 33 rfl ?_
      refine ww_iload h dX5_planBest_33 3 rfl 35 rfl ?_
      refine ww_ldc h w_865 dX5_planBest_35 37 rfl ?_
      have hi := (gd_some hf).1
      replace hf := (gd_some hf).2
      refine ww_iast h 0 rfl 1 rfl (ix_in hi) dX5_planBest_37 38 rfl ?_
      clear hi
      refine ww_nm (fun z => [gX5 cy oN aN z, gX7 cy oR aR R_10, gX4 cy oP aP P]) (sA N_9 0 v4_8.toNatClampNeg (1000000000 : Int32)) (fun N_11 e => ?_)
      replace hf := bnd_at e hf
      clear e
      refine ww_aload_n h dX5_planBest_38 rfl 0 rfl 39 rfl ?_
      refine ww_get h inG5 rfl 0 rfl rfl 1 (by decide) w_342 rfl dX5_planBest_39 42 rfl ?_
      refine ww_iload h dX5_planBest_42 3 rfl 44 rfl ?_
      refine ww_iconst (v := 0) h dX5_planBest_44 (by decide) 45 rfl ?_
      have hi := (gd_some hf).1
      replace hf := (gd_some hf).2
      refine ww_iast h 0 rfl 2 rfl (ix_in hi) dX5_planBest_45 46 rfl ?_
      clear hi
      refine ww_nm (fun z => [gX5 cy oN aN z, gX7 cy oR aR R_10, gX4 cy oP aP P]) (sA N_11 1 v4_8.toNatClampNeg (0 : Int32)) (fun N_12 e => ?_)
      replace hf := bnd_at e hf
      clear e
      refine ww_aload_n h dX5_planBest_46 rfl 0 rfl 47 rfl ?_
      refine ww_get h inG5 rfl 0 rfl rfl 2 (by decide) w_344 rfl dX5_planBest_47 50 rfl ?_
      refine ww_iload h dX5_planBest_50 3 rfl 52 rfl ?_
      refine ww_iload h dX5_planBest_52 3 rfl 54 rfl ?_
      have hi := (gd_some hf).1
      replace hf := (gd_some hf).2
      refine ww_iast h 0 rfl 3 rfl (ix_in hi) dX5_planBest_54 55 rfl ?_
      clear hi
      refine ww_nm (fun z => [gX5 cy oN aN z, gX7 cy oR aR R_10, gX4 cy oP aP P]) (sA N_12 2 v4_8.toNatClampNeg v4_8) (fun N_13 e => ?_)
      replace hf := bnd_at e hf
      clear e
      refine ww_aload_n h dX5_planBest_55 rfl 1 rfl 56 rfl ?_
      refine ww_iload h dX5_planBest_56 3 rfl 58 rfl ?_
      obtain ⟨r_14, hu15, hf⟩ := ob1 hf
      refine ww_cVi h (c_X7_reach l D ev cy oR aR R_10 oP aP P v4_8 _ hu15) ⟨w_869, w_866, w_867, w_868, w_107, ok_X7_reach⟩ ⟨by decide, by decide⟩ ⟨by decide, by decide⟩ ⟨rfl, rfl⟩ [1, 1] rfl 0 rfl rfl rfl rfl (Nat.le_of_ble_eq_true rfl) dX5_planBest_58 61 rfl (Gs' := [gX7 cy oR aR R_10, gX4 cy oP aP P, gX5 cy oN aN N_13]) rfl ?_
      clear hu15
      refine ww_ist h dX5_planBest_61 (by decide) (fun v5_16 => [(5, .int v5_16), (0, .ref oN), (1, .ref oR), (2, .int p1), (4, .int v4_8)]) (fun _ => rfl) 63 rfl (fun v5_16 e => ?_)
      replace hf := bnd_at e hf
      clear e
      refine ww_iload h dX5_planBest_63 4 rfl 65 rfl ?_
      refine ww_ist h dX5_planBest_65 (by decide) (fun v6_17 => [(6, .int v6_17), (5, .int v5_16), (0, .ref oN), (1, .ref oR), (2, .int p1), (4, .int v4_8)]) (fun _ => rfl) 67 rfl (fun v6_17 e => ?_)
      replace hf := bnd_at e hf
      clear e
      refine ww_lo [2, 3, 4, 5, 1, 0] (lo' := [(0, .ref oN), (1, .ref oR), (2, .int p1), (4, .int v4_8), (5, .int v5_16), (6, .int v6_17)]) rfl ?_
      refine ww_perm [2, 0, 0] (Gs' := [gX5 cy oN aN N_13, gX7 cy oR aR R_10, gX4 cy oP aP P]) rfl ?_
      obtain ⟨N_29, R_30, h18, hf⟩ := ob2 hf
      refine lp_walk (un3 (fun v6_19 N_20 R_21 => ww X D A 7 Q 0 0 67 [(0, .ref oN), (1, .ref oR), (2, .int p1), (4, .int v4_8), (5, .int v5_16), (6, .int v6_19)] [] [gX5 cy oN aN N_20, gX7 cy oR aR R_21, gX4 cy oP aP P])) (un2 (fun N_29 R_30 => ww X D A 7 Q 0 0 129 [(0, .ref oN), (1, .ref oR), (2, .int p1), (4, .int v4_8)] [] [gX5 cy oN aN N_29, gX7 cy oR aR R_30, gX4 cy oP aP P])) ?_ _ _ _ h18 ?_
      · clear h18 hf
        intro s18 o18 hf hI18 hE18
        obtain ⟨v6_19, N_20, R_21⟩ := s18
        unfold s_X5_planBest_67_18 at hf
        replace hf := un3_e hf
        show ww X D A 7 Q 0 0 67 [(0, .ref oN), (1, .ref oR), (2, .int p1), (4, .int v4_8), (5, .int v5_16), (6, .int v6_19)] [] [gX5 cy oN aN N_20, gX7 cy oR aR R_21, gX4 cy oP aP P]
        refine ww_iload h dX5_planBest_67 5 rfl 69 rfl ?_
        refine ww_iload h dX5_planBest_69 4 rfl 71 rfl ?_
        refine ww_icmp_gt h dX5_planBest_71 129 (by decide) 74 rfl (fun c => ?_) (fun c => ?_)
        · replace hf := ite_t c hf
          refine ww_lo [0, 1, 2, 3] (lo' := [(0, .ref oN), (1, .ref oR), (2, .int p1), (4, .int v4_8)]) rfl ?_
          exact hE18 (N_20, R_21) (Option.some.inj hf).symm
        · replace hf := ite_f c hf
          refine ww_aload_n h dX5_planBest_74 rfl 1 rfl 75 rfl ?_
          refine ww_iload h dX5_planBest_75 3 rfl 77 rfl ?_
          refine ww_iload h dX5_planBest_77 5 rfl 79 rfl ?_
          obtain ⟨R_22, hu23, hf⟩ := ob1 hf
          refine ww_cVv h (c_X7_measure l D ev cy oR aR R_21 oP aP P v4_8 v6_19 _ hu23) ⟨w_835, w_870, w_833, w_834, w_107, ok_X7_measure⟩ ⟨by decide, by decide⟩ ⟨by decide, by decide⟩ ⟨rfl, rfl⟩ [1, 1] rfl 0 rfl rfl rfl rfl (Nat.le_of_ble_eq_true rfl) dX5_planBest_79 82 rfl (Gs' := [gX7 cy oR aR R_22, gX4 cy oP aP P, gX5 cy oN aN N_20]) rfl ?_
          clear hu23
          refine ww_aload_n h dX5_planBest_82 rfl 1 rfl 83 rfl ?_
          refine ww_get h inG7 rfl 0 rfl rfl 13 (by decide) w_283 rfl dX5_planBest_83 86 rfl ?_
          have hJ123_25 : ∀ (N_24 : OV), j_X5_planBest_123_25 R_22 v6_19 N_24 = some o18 → ww X D A 7 Q 0 0 123 [(0, .ref oN), (1, .ref oR), (2, .int p1), (4, .int v4_8), (5, .int v5_16), (6, .int v6_19)] [] [gX5 cy oN aN N_24, gX7 cy oR aR R_22, gX4 cy oP aP P] := by
            intro N_24 hf
            unfold j_X5_planBest_123_25 at hf
            refine ww_inc (c := 1) h dX5_planBest_123 5 rfl (by decide) (by decide) (fun v6_26 => [(6, .int v6_26), (0, .ref oN), (1, .ref oR), (2, .int p1), (4, .int v4_8), (5, .int v5_16)]) (fun _ => rfl) 126 rfl (fun v6_26 e => ?_)
            replace hf := bnd_at e hf
            clear e
            refine ww_goto h dX5_planBest_126 67 (by decide) ?_
            refine ww_lo [1, 2, 3, 4, 5, 0] (lo' := [(0, .ref oN), (1, .ref oR), (2, .int p1), (4, .int v4_8), (5, .int v5_16), (6, .int v6_26)]) rfl ?_
            exact hI18 (v6_26, N_24, R_22) (Option.some.inj hf).symm
          refine ww_if_eq h dX5_planBest_86 123 (by decide) 89 rfl (fun c => ?_) (fun c => ?_)
          · replace hf := ite_t c hf
            refine ww_perm [2, 0, 0] (Gs' := [gX5 cy oN aN N_20, gX7 cy oR aR R_22, gX4 cy oP aP P]) rfl ?_
            exact hJ123_25 N_20 hf
          · replace hf := ite_f c hf
            refine ww_aload_n h dX5_planBest_89 rfl 1 rfl 90 rfl ?_
            refine ww_get h inG7 rfl 0 rfl rfl 17 (by decide) w_293 rfl dX5_planBest_90 93 rfl ?_
            refine ww_iload_n h dX5_planBest_93 rfl 2 rfl 94 rfl ?_
            refine ww_icmp_gt h dX5_planBest_94 123 (by decide) 97 rfl (fun c => ?_) (fun c => ?_)
            · replace hf := ite_t c hf
              refine ww_perm [2, 0, 0] (Gs' := [gX5 cy oN aN N_20, gX7 cy oR aR R_22, gX4 cy oP aP P]) rfl ?_
              exact hJ123_25 N_20 hf
            · replace hf := ite_f c hf
              refine ww_aload_n h dX5_planBest_97 rfl 0 rfl 98 rfl ?_
              refine ww_get h inG5 rfl 2 rfl rfl 0 (by decide) w_340 rfl dX5_planBest_98 101 rfl ?_
              refine ww_iload h dX5_planBest_101 5 rfl 103 rfl ?_
              refine ww_iconst (v := 1) h dX5_planBest_103 (by decide) 104 rfl ?_
              refine ww_iadd h dX5_planBest_104 105 rfl ?_
              have hi := (gd_some hf).1
              replace hf := (gd_some hf).2
              refine ww_iald h 2 rfl 1 rfl (ix_in hi) dX5_planBest_105 106 rfl ?_
              clear hi
              refine ww_ldc h w_865 dX5_planBest_106 108 rfl ?_
              refine ww_icmp_ge h dX5_planBest_108 123 (by decide) 111 rfl (fun c => ?_) (fun c => ?_)
              · replace hf := ite_t c hf
                refine ww_perm [2, 0, 0] (Gs' := [gX5 cy oN aN N_20, gX7 cy oR aR R_22, gX4 cy oP aP P]) rfl ?_
                exact hJ123_25 N_20 hf
              · replace hf := ite_f c hf
                refine ww_aload_n h dX5_planBest_111 rfl 0 rfl 112 rfl ?_
                refine ww_iload h dX5_planBest_112 3 rfl 114 rfl ?_
                refine ww_iload h dX5_planBest_114 5 rfl 116 rfl ?_
                refine ww_aload_n h dX5_planBest_116 rfl 1 rfl 117 rfl ?_
                refine ww_get h inG7 rfl 0 rfl rfl 17 (by decide) w_293 rfl dX5_planBest_117 120 rfl ?_
                obtain ⟨N_27, hu28, hf⟩ := ob1 hf
                refine ww_cVv h (c_X5_offer l D ev cy oN aN N_20 v4_8 v6_19 (iv R_22 17) _ hu28) ⟨w_874, w_871, w_873, w_22, w_108, ok_X5_offer⟩ ⟨by decide, by decide⟩ ⟨by decide, by decide⟩ ⟨rfl, rfl⟩ [2] rfl 0 rfl rfl rfl rfl (Nat.le_of_ble_eq_true rfl) dX5_planBest_120 123 rfl (Gs' := [gX5 cy oN aN N_27, gX7 cy oR aR R_22, gX4 cy oP aP P]) rfl ?_
                clear hu28
                exact hJ123_25 N_27 hf
      · clear h18
        show ww X D A 7 Q 0 0 129 [(0, .ref oN), (1, .ref oR), (2, .int p1), (4, .int v4_8)] [] [gX5 cy oN aN N_29, gX7 cy oR aR R_30, gX4 cy oP aP P]
        refine ww_inc (c := (-1)) h dX5_planBest_129 3 rfl (by decide) (by decide) (fun v4_31 => [(4, .int v4_31), (0, .ref oN), (1, .ref oR), (2, .int p1)]) (fun _ => rfl) 132 rfl (fun v4_31 e => ?_)
        replace hf := bnd_at e hf
        clear e
        refine ww_goto h dX5_planBest_132 24 (by decide) ?_
        refine ww_lo [1, 2, 3, 0] (lo' := [(0, .ref oN), (1, .ref oR), (2, .int p1), (4, .int v4_31)]) rfl ?_
        exact hI7 (v4_31, N_29, R_30) (Option.some.inj hf).symm
  · clear h7
    show ww X D A 7 Q 0 0 135 [] [] [gX5 cy oN aN N_32, gX7 cy oR aR R_33, gX4 cy oP aP P]
    obtain rfl := Option.some.inj hf
    exact ww_vret h dX5_planBest_135 hQ ⟨rfl, rfl⟩
theorem dX8_reckon_0 : decode cX8_reckon 0 = .ok (.aload_n 1, 1) := by decide +kernel
theorem dX8_reckon_1 : decode cX8_reckon 1 = .ok (.invokevirtual 19, 3) := by decide +kernel
theorem dX8_reckon_4 : decode cX8_reckon 4 = .ok (.istore_n 2, 1) := by decide +kernel
theorem dX8_reckon_5 : decode cX8_reckon 5 = .ok (.aload_n 0, 1) := by decide +kernel
theorem dX8_reckon_6 : decode cX8_reckon 6 = .ok (.iload_n 2, 1) := by decide +kernel
theorem dX8_reckon_7 : decode cX8_reckon 7 = .ok (.ifCond .ne 7, 3) := by decide +kernel
theorem dX8_reckon_10 : decode cX8_reckon 10 = .ok (.iconst 1, 1) := by decide +kernel
theorem dX8_reckon_11 : decode cX8_reckon 11 = .ok (.goto 4, 3) := by decide +kernel
theorem dX8_reckon_14 : decode cX8_reckon 14 = .ok (.iconst 0, 1) := by decide +kernel
theorem dX8_reckon_15 : decode cX8_reckon 15 = .ok (.putfield 25, 3) := by decide +kernel
theorem dX8_reckon_18 : decode cX8_reckon 18 = .ok (.aload_n 0, 1) := by decide +kernel
theorem dX8_reckon_19 : decode cX8_reckon 19 = .ok (.getfield 9, 3) := by decide +kernel
theorem dX8_reckon_22 : decode cX8_reckon 22 = .ok (.iload_n 2, 1) := by decide +kernel
theorem dX8_reckon_23 : decode cX8_reckon 23 = .ok (.lconst 1, 1) := by decide +kernel
theorem dX8_reckon_24 : decode cX8_reckon 24 = .ok (.lastore, 1) := by decide +kernel
theorem dX8_reckon_25 : decode cX8_reckon 25 = .ok (.aload_n 0, 1) := by decide +kernel
theorem dX8_reckon_26 : decode cX8_reckon 26 = .ok (.getfield 15, 3) := by decide +kernel
theorem dX8_reckon_29 : decode cX8_reckon 29 = .ok (.iload_n 2, 1) := by decide +kernel
theorem dX8_reckon_30 : decode cX8_reckon 30 = .ok (.iconst 0, 1) := by decide +kernel
theorem dX8_reckon_31 : decode cX8_reckon 31 = .ok (.iastore, 1) := by decide +kernel
theorem dX8_reckon_32 : decode cX8_reckon 32 = .ok (.iload_n 2, 1) := by decide +kernel
theorem dX8_reckon_33 : decode cX8_reckon 33 = .ok (.iconst 1, 1) := by decide +kernel
theorem dX8_reckon_34 : decode cX8_reckon 34 = .ok (.isub, 1) := by decide +kernel
theorem dX8_reckon_35 : decode cX8_reckon 35 = .ok (.istore_n 3, 1) := by decide +kernel
theorem dX8_reckon_36 : decode cX8_reckon 36 = .ok (.iload_n 3, 1) := by decide +kernel
theorem dX8_reckon_37 : decode cX8_reckon 37 = .ok (.ifCond .lt 115, 3) := by decide +kernel
theorem dX8_reckon_40 : decode cX8_reckon 40 = .ok (.aload_n 0, 1) := by decide +kernel
theorem dX8_reckon_41 : decode cX8_reckon 41 = .ok (.getfield 9, 3) := by decide +kernel
theorem dX8_reckon_44 : decode cX8_reckon 44 = .ok (.iload_n 3, 1) := by decide +kernel
theorem dX8_reckon_45 : decode cX8_reckon 45 = .ok (.lconst 0, 1) := by decide +kernel
theorem dX8_reckon_46 : decode cX8_reckon 46 = .ok (.lastore, 1) := by decide +kernel
theorem dX8_reckon_47 : decode cX8_reckon 47 = .ok (.aload_n 0, 1) := by decide +kernel
theorem dX8_reckon_48 : decode cX8_reckon 48 = .ok (.getfield 15, 3) := by decide +kernel
theorem dX8_reckon_51 : decode cX8_reckon 51 = .ok (.iload_n 3, 1) := by decide +kernel
theorem dX8_reckon_52 : decode cX8_reckon 52 = .ok (.bipush 40, 2) := by decide +kernel
theorem dX8_reckon_54 : decode cX8_reckon 54 = .ok (.iastore, 1) := by decide +kernel
theorem dX8_reckon_55 : decode cX8_reckon 55 = .ok (.aload_n 1, 1) := by decide +kernel
theorem dX8_reckon_56 : decode cX8_reckon 56 = .ok (.iload_n 3, 1) := by decide +kernel
theorem dX8_reckon_57 : decode cX8_reckon 57 = .ok (.invokevirtual 29, 3) := by decide +kernel
theorem dX8_reckon_60 : decode cX8_reckon 60 = .ok (.istore 4, 2) := by decide +kernel
theorem dX8_reckon_62 : decode cX8_reckon 62 = .ok (.iload_n 3, 1) := by decide +kernel
theorem dX8_reckon_63 : decode cX8_reckon 63 = .ok (.istore 5, 2) := by decide +kernel
theorem dX8_reckon_65 : decode cX8_reckon 65 = .ok (.iload 5, 2) := by decide +kernel
theorem dX8_reckon_67 : decode cX8_reckon 67 = .ok (.iload 4, 2) := by decide +kernel
theorem dX8_reckon_69 : decode cX8_reckon 69 = .ok (.if_icmp .gt 77, 3) := by decide +kernel
theorem dX8_reckon_72 : decode cX8_reckon 72 = .ok (.aload_n 0, 1) := by decide +kernel
theorem dX8_reckon_73 : decode cX8_reckon 73 = .ok (.getfield 9, 3) := by decide +kernel
theorem dX8_reckon_76 : decode cX8_reckon 76 = .ok (.iload 5, 2) := by decide +kernel
theorem dX8_reckon_78 : decode cX8_reckon 78 = .ok (.iconst 1, 1) := by decide +kernel
theorem dX8_reckon_79 : decode cX8_reckon 79 = .ok (.iadd, 1) := by decide +kernel
theorem dX8_reckon_80 : decode cX8_reckon 80 = .ok (.laload, 1) := by decide +kernel
theorem dX8_reckon_81 : decode cX8_reckon 81 = .ok (.lconst 0, 1) := by decide +kernel
theorem dX8_reckon_82 : decode cX8_reckon 82 = .ok (.lcmp, 1) := by decide +kernel
theorem dX8_reckon_83 : decode cX8_reckon 83 = .ok (.ifCond .le 57, 3) := by decide +kernel
theorem dX8_reckon_86 : decode cX8_reckon 86 = .ok (.aload_n 1, 1) := by decide +kernel
theorem dX8_reckon_87 : decode cX8_reckon 87 = .ok (.iload_n 3, 1) := by decide +kernel
theorem dX8_reckon_88 : decode cX8_reckon 88 = .ok (.iload 5, 2) := by decide +kernel
theorem dX8_reckon_90 : decode cX8_reckon 90 = .ok (.invokestatic 33, 3) := by decide +kernel
theorem dX8_reckon_93 : decode cX8_reckon 93 = .ok (.ifCond .eq 47, 3) := by decide +kernel
theorem dX8_reckon_96 : decode cX8_reckon 96 = .ok (.aload_n 0, 1) := by decide +kernel
theorem dX8_reckon_97 : decode cX8_reckon 97 = .ok (.getfield 9, 3) := by decide +kernel
theorem dX8_reckon_100 : decode cX8_reckon 100 = .ok (.iload_n 3, 1) := by decide +kernel
theorem dX8_reckon_101 : decode cX8_reckon 101 = .ok (.dup2, 1) := by decide +kernel
theorem dX8_reckon_102 : decode cX8_reckon 102 = .ok (.laload, 1) := by decide +kernel
theorem dX8_reckon_103 : decode cX8_reckon 103 = .ok (.aload_n 0, 1) := by decide +kernel
theorem dX8_reckon_104 : decode cX8_reckon 104 = .ok (.getfield 9, 3) := by decide +kernel
theorem dX8_reckon_107 : decode cX8_reckon 107 = .ok (.iload 5, 2) := by decide +kernel
theorem dX8_reckon_109 : decode cX8_reckon 109 = .ok (.iconst 1, 1) := by decide +kernel
theorem dX8_reckon_110 : decode cX8_reckon 110 = .ok (.iadd, 1) := by decide +kernel
theorem dX8_reckon_111 : decode cX8_reckon 111 = .ok (.laload, 1) := by decide +kernel
theorem dX8_reckon_112 : decode cX8_reckon 112 = .ok (.ladd, 1) := by decide +kernel
theorem dX8_reckon_113 : decode cX8_reckon 113 = .ok (.lastore, 1) := by decide +kernel
theorem dX8_reckon_114 : decode cX8_reckon 114 = .ok (.aload_n 0, 1) := by decide +kernel
theorem dX8_reckon_115 : decode cX8_reckon 115 = .ok (.getfield 15, 3) := by decide +kernel
theorem dX8_reckon_118 : decode cX8_reckon 118 = .ok (.iload_n 3, 1) := by decide +kernel
theorem dX8_reckon_119 : decode cX8_reckon 119 = .ok (.aload_n 0, 1) := by decide +kernel
theorem dX8_reckon_120 : decode cX8_reckon 120 = .ok (.getfield 15, 3) := by decide +kernel
theorem dX8_reckon_123 : decode cX8_reckon 123 = .ok (.iload_n 3, 1) := by decide +kernel
theorem dX8_reckon_124 : decode cX8_reckon 124 = .ok (.iaload, 1) := by decide +kernel
theorem dX8_reckon_125 : decode cX8_reckon 125 = .ok (.aload_n 0, 1) := by decide +kernel
theorem dX8_reckon_126 : decode cX8_reckon 126 = .ok (.getfield 15, 3) := by decide +kernel
theorem dX8_reckon_129 : decode cX8_reckon 129 = .ok (.iload 5, 2) := by decide +kernel
theorem dX8_reckon_131 : decode cX8_reckon 131 = .ok (.iconst 1, 1) := by decide +kernel
theorem dX8_reckon_132 : decode cX8_reckon 132 = .ok (.iadd, 1) := by decide +kernel
theorem dX8_reckon_133 : decode cX8_reckon 133 = .ok (.iaload, 1) := by decide +kernel
theorem dX8_reckon_134 : decode cX8_reckon 134 = .ok (.iconst 1, 1) := by decide +kernel
theorem dX8_reckon_135 : decode cX8_reckon 135 = .ok (.iadd, 1) := by decide +kernel
theorem dX8_reckon_136 : decode cX8_reckon 136 = .ok (.invokestatic 37, 3) := by decide +kernel
theorem dX8_reckon_139 : decode cX8_reckon 139 = .ok (.iastore, 1) := by decide +kernel
theorem dX8_reckon_140 : decode cX8_reckon 140 = .ok (.iinc 5 1, 3) := by decide +kernel
theorem dX8_reckon_143 : decode cX8_reckon 143 = .ok (.goto (-78), 3) := by decide +kernel
theorem dX8_reckon_146 : decode cX8_reckon 146 = .ok (.iinc 3 (-1), 3) := by decide +kernel
theorem dX8_reckon_149 : decode cX8_reckon 149 = .ok (.goto (-113), 3) := by decide +kernel
theorem dX8_reckon_152 : decode cX8_reckon 152 = .ok (.aload_n 0, 1) := by decide +kernel
theorem dX8_reckon_153 : decode cX8_reckon 153 = .ok (.iconst 1, 1) := by decide +kernel
theorem dX8_reckon_154 : decode cX8_reckon 154 = .ok (.putfield 43, 3) := by decide +kernel
theorem dX8_reckon_157 : decode cX8_reckon 157 = .ok (.return_, 1) := by decide +kernel
theorem ok_X8_reckon : okY RX8 yX8_reckon 1 := ⟨rfl, by decide, by decide, by decide +kernel⟩
def j_X8_reckon_140_26 (v5_21 : Int32) (W_24 : OV) (R_25 : OV) : Option ((Int32 × OV × OV) ⊕ (OV × OV)) := bnd (v5_21 + 1) (fun v5_27 => some (.inl (v5_27, W_24, R_25)))
def s_X8_reckon_65_20 (oP : Nat) (P : OV) (v3_11 : Int32) (v4_18 : Int32) : (Int32 × OV × OV) → Option ((Int32 × OV × OV) ⊕ (OV × OV)) := un3 (fun v5_21 W_22 R_23 => (if v4_18 < v5_21 then some (.inr (W_22, R_23)) else gd (ix (v5_21 + (1 : Int32)) 41) ((if (lg_cmp (al W_22 0 (v5_21 + (1 : Int32)).toNatClampNeg) (0 : Int64)) ≤ 0 then j_X8_reckon_140_26 v5_21 W_22 R_23 else (f_X8_isStep R_23 oP P v3_11 v5_21).bind (un2 (fun r_28 R_29 => (if r_28 = 0 then j_X8_reckon_140_26 v5_21 W_22 R_29 else gd (ix v3_11 41) (gd (ix (v5_21 + (1 : Int32)) 41) (gd (ix v3_11 41) (bnd (sL W_22 0 v3_11.toNatClampNeg ((al W_22 0 v3_11.toNatClampNeg) + (al W_22 0 (v5_21 + (1 : Int32)).toNatClampNeg))) (fun W_31 => gd (ix v3_11 41) (gd (ix (v5_21 + (1 : Int32)) 41) (gd (ix v3_11 41) (bnd (sA W_31 1 v3_11.toNatClampNeg (if ((ar W_31 1 (v5_21 + (1 : Int32)).toNatClampNeg) + (1 : Int32)) < (ar W_31 1 v3_11.toNatClampNeg) then ((ar W_31 1 (v5_21 + (1 : Int32)).toNatClampNeg) + (1 : Int32)) else (ar W_31 1 v3_11.toNatClampNeg))) (fun W_32 => j_X8_reckon_140_26 v5_21 W_32 R_29)))))))))))))))
def s_X8_reckon_36_10 (oP : Nat) (P : OV) : (Int32 × OV × OV) → Option ((Int32 × OV × OV) ⊕ (OV × OV)) := un3 (fun v3_11 W_12 R_13 => (if v3_11 < 0 then some (.inr (W_12, R_13)) else gd (ix v3_11 41) (bnd (sL W_12 0 v3_11.toNatClampNeg (0 : Int64)) (fun W_14 => gd (ix v3_11 41) (bnd (sA W_14 1 v3_11.toNatClampNeg (40 : Int32)) (fun W_15 => (f_X7_reach R_13 oP P v3_11).bind (un1 (fun r_16 => bnd r_16 (fun v4_18 => bnd v3_11 (fun v5_19 => ((lp (s_X8_reckon_65_20 oP P v3_11 v4_18) 5000 (v5_19, W_15, R_13)).bind (un2 (fun W_33 R_34 => bnd (v3_11 + (-1)) (fun v3_35 => some (.inl (v3_35, W_33, R_34))))))))))))))))
def j_X8_reckon_15_5 (oP : Nat) (W : OV) (R : OV) (P : OV) (v2_3 : Int32) (t_4 : Int32) : Option (OV × OV) := gd (b01 t_4) (bnd (sI W 2 t_4) (fun W_6 => gd (ix v2_3 41) (bnd (sL W_6 0 v2_3.toNatClampNeg (1 : Int64)) (fun W_7 => gd (ix v2_3 41) (bnd (sA W_7 1 v2_3.toNatClampNeg (0 : Int32)) (fun W_8 => bnd (v2_3 - (1 : Int32)) (fun v3_9 => ((lp (s_X8_reckon_36_10 oP P) 5000 (v3_9, W_8, R)).bind (un2 (fun W_36 R_37 => bnd (sI W_36 3 (1 : Int32)) (fun W_38 => some (W_38, R_37))))))))))))
def f_X8_reckon (W : OV) (R : OV) (oP : Nat) (P : OV) : Option (OV × OV) := (f_X7_signs R oP P).bind (un1 (fun r_1 => bnd r_1 (fun v2_3 => (if v2_3 = 0 then j_X8_reckon_15_5 oP W R P v2_3 (1 : Int32) else j_X8_reckon_15_5 oP W R P v2_3 (0 : Int32)))))
def r_X8_reckon : Room := { frames := 4, cells := 0, slots := 0, locals := 93 }
set_option maxHeartbeats 4000000 in
set_option maxRecDepth 100000 in
theorem c_X8_reckon (l : Launch) (D : va_G) (ev : EvT) (cy : Nat → ClassId) (oW : Nat) (aW : Nat → Nat) (W : OV) (oR : Nat) (aR : Nat → Nat) (R : OV) (oP : Nat) (aP : Nat → Nat) (P : OV) (o : OV × OV) (hf : f_X8_reckon W R oP P = some o) : Fn l yX8_reckon cX8_reckon 6 none r_X8_reckon D ev cy [.ref oW, .ref oR] [gX8 cy oW aW W, gX7 cy oR aR R, gX4 cy oP aP P] (fun v G => v = none ∧ G = [gX8 cy oW aW o.1, gX7 cy oR aR o.2, gX4 cy oP aP P]) := by
  refine Fn_of (by decide) (Nat.le_of_ble_eq_true rfl) (fun X A Q h hQ _ => ?_)
  unfold f_X8_reckon at hf
  show ww X D A 6 Q 0 0 0 [(0, .ref oW), (1, .ref oR)] [] [gX8 cy oW aW W, gX7 cy oR aR R, gX4 cy oP aP P]
  refine ww_aload_n h dX8_reckon_0 rfl 1 rfl 1 rfl ?_
  obtain ⟨r_1, hu2, hf⟩ := ob1 hf
  refine ww_cVi h (c_X7_signs l D ev cy oR aR R oP aP P _ hu2) ⟨w_864, w_1078, w_862, w_863, w_107, ok_X7_signs⟩ ⟨by decide, by decide⟩ ⟨by decide, by decide⟩ ⟨rfl, rfl⟩ [1, 1] rfl 0 rfl rfl rfl rfl (Nat.le_of_ble_eq_true rfl) dX8_reckon_1 4 rfl (Gs' := [gX7 cy oR aR R, gX4 cy oP aP P, gX8 cy oW aW W]) rfl ?_
  clear hu2
  refine ww_ist_n h dX8_reckon_4 rfl (by decide) (fun v2_3 => [(2, .int v2_3), (0, .ref oW), (1, .ref oR)]) (fun _ => rfl) 5 rfl (fun v2_3 e => ?_)
  replace hf := bnd_at e hf
  clear e
  refine ww_aload_n h dX8_reckon_5 rfl 1 rfl 6 rfl ?_
  refine ww_iload_n h dX8_reckon_6 rfl 0 rfl 7 rfl ?_
  have hJ15_5 : ∀ (t_4 : Int32), j_X8_reckon_15_5 oP W R P v2_3 t_4 = some o → ww X D A 6 Q 0 0 15 [(0, .ref oW), (1, .ref oR), (2, .int v2_3)] [.int t_4, .ref oW] [gX8 cy oW aW W, gX7 cy oR aR R, gX4 cy oP aP P] := by
    intro t_4 hf
    unfold j_X8_reckon_15_5 at hf
    have hi := (gd_some hf).1
    replace hf := (gd_some hf).2
    refine ww_put (ty := .boolean) h inG8 tyX8_ok nmX8 rfl 0 rfl rfl 2 (by decide) w_400 rfl (by decide +kernel) (b01_nar hi) (b01_fit hi) (Nat.le_of_ble_eq_true rfl) (Nat.le_of_ble_eq_true rfl) dX8_reckon_15 18 rfl ?_
    clear hi
    refine ww_nm (fun z => [gX8 cy oW aW z, gX7 cy oR aR R, gX4 cy oP aP P]) (sI W 2 t_4) (fun W_6 e => ?_)
    replace hf := bnd_at e hf
    clear e
    refine ww_aload_n h dX8_reckon_18 rfl 0 rfl 19 rfl ?_
    refine ww_get h inG8 rfl 0 rfl rfl 0 (by decide) w_397 rfl dX8_reckon_19 22 rfl ?_
    refine ww_iload_n h dX8_reckon_22 rfl 2 rfl 23 rfl ?_
    refine ww_lconst (v := 1) h dX8_reckon_23 (by decide) 24 rfl ?_
    have hi := (gd_some hf).1
    replace hf := (gd_some hf).2
    refine ww_last h 0 rfl 1 rfl (ix_in hi) dX8_reckon_24 25 rfl ?_
    clear hi
    refine ww_nm (fun z => [gX8 cy oW aW z, gX7 cy oR aR R, gX4 cy oP aP P]) (sL W_6 0 v2_3.toNatClampNeg (1 : Int64)) (fun W_7 e => ?_)
    replace hf := bnd_at e hf
    clear e
    refine ww_aload_n h dX8_reckon_25 rfl 0 rfl 26 rfl ?_
    refine ww_get h inG8 rfl 0 rfl rfl 1 (by decide) w_398 rfl dX8_reckon_26 29 rfl ?_
    refine ww_iload_n h dX8_reckon_29 rfl 2 rfl 30 rfl ?_
    refine ww_iconst (v := 0) h dX8_reckon_30 (by decide) 31 rfl ?_
    have hi := (gd_some hf).1
    replace hf := (gd_some hf).2
    refine ww_iast h 0 rfl 2 rfl (ix_in hi) dX8_reckon_31 32 rfl ?_
    clear hi
    refine ww_nm (fun z => [gX8 cy oW aW z, gX7 cy oR aR R, gX4 cy oP aP P]) (sA W_7 1 v2_3.toNatClampNeg (0 : Int32)) (fun W_8 e => ?_)
    replace hf := bnd_at e hf
    clear e
    refine ww_iload_n h dX8_reckon_32 rfl 2 rfl 33 rfl ?_
    refine ww_iconst (v := 1) h dX8_reckon_33 (by decide) 34 rfl ?_
    refine ww_isub h dX8_reckon_34 35 rfl ?_
    refine ww_ist_n h dX8_reckon_35 rfl (by decide) (fun v3_9 => [(3, .int v3_9), (0, .ref oW), (1, .ref oR), (2, .int v2_3)]) (fun _ => rfl) 36 rfl (fun v3_9 e => ?_)
    replace hf := bnd_at e hf
    clear e
    refine ww_lo [1, 2, 0] (lo' := [(0, .ref oW), (1, .ref oR), (3, .int v3_9)]) rfl ?_
    obtain ⟨W_36, R_37, h10, hf⟩ := ob2 hf
    refine lp_walk (un3 (fun v3_11 W_12 R_13 => ww X D A 6 Q 0 0 36 [(0, .ref oW), (1, .ref oR), (3, .int v3_11)] [] [gX8 cy oW aW W_12, gX7 cy oR aR R_13, gX4 cy oP aP P])) (un2 (fun W_36 R_37 => ww X D A 6 Q 0 0 152 [(0, .ref oW)] [] [gX8 cy oW aW W_36, gX7 cy oR aR R_37, gX4 cy oP aP P])) ?_ _ _ _ h10 ?_
    · clear h10 hf
      intro s10 o10 hf hI10 hE10
      obtain ⟨v3_11, W_12, R_13⟩ := s10
      unfold s_X8_reckon_36_10 at hf
      replace hf := un3_e hf
      show ww X D A 6 Q 0 0 36 [(0, .ref oW), (1, .ref oR), (3, .int v3_11)] [] [gX8 cy oW aW W_12, gX7 cy oR aR R_13, gX4 cy oP aP P]
      refine ww_iload_n h dX8_reckon_36 rfl 2 rfl 37 rfl ?_
      refine ww_if_lt h dX8_reckon_37 152 (by decide) 40 rfl (fun c => ?_) (fun c => ?_)
      · replace hf := ite_t c hf
        refine ww_lo [0] (lo' := [(0, .ref oW)]) rfl ?_
        exact hE10 (W_12, R_13) (Option.some.inj hf).symm
      · replace hf := ite_f c hf
        refine ww_aload_n h dX8_reckon_40 rfl 0 rfl 41 rfl ?_
        refine ww_get h inG8 rfl 0 rfl rfl 0 (by decide) w_397 rfl dX8_reckon_41 44 rfl ?_
        refine ww_iload_n h dX8_reckon_44 rfl 2 rfl 45 rfl ?_
        refine ww_lconst (v := 0) h dX8_reckon_45 (by decide) 46 rfl ?_
        have hi := (gd_some hf).1
        replace hf := (gd_some hf).2
        refine ww_last h 0 rfl 1 rfl (ix_in hi) dX8_reckon_46 47 rfl ?_
        clear hi
        refine ww_nm (fun z => [gX8 cy oW aW z, gX7 cy oR aR R_13, gX4 cy oP aP P]) (sL W_12 0 v3_11.toNatClampNeg (0 : Int64)) (fun W_14 e => ?_)
        replace hf := bnd_at e hf
        clear e
        refine ww_aload_n h dX8_reckon_47 rfl 0 rfl 48 rfl ?_
        refine ww_get h inG8 rfl 0 rfl rfl 1 (by decide) w_398 rfl dX8_reckon_48 51 rfl ?_
        refine ww_iload_n h dX8_reckon_51 rfl 2 rfl 52 rfl ?_
        refine ww_bipush (v := 40) h dX8_reckon_52 (by decide) 54 rfl ?_
        have hi := (gd_some hf).1
        replace hf := (gd_some hf).2
        refine ww_iast h 0 rfl 2 rfl (ix_in hi) dX8_reckon_54 55 rfl ?_
        clear hi
        refine ww_nm (fun z => [gX8 cy oW aW z, gX7 cy oR aR R_13, gX4 cy oP aP P]) (sA W_14 1 v3_11.toNatClampNeg (40 : Int32)) (fun W_15 e => ?_)
        replace hf := bnd_at e hf
        clear e
        refine ww_aload_n h dX8_reckon_55 rfl 1 rfl 56 rfl ?_
        refine ww_iload_n h dX8_reckon_56 rfl 2 rfl 57 rfl ?_
        obtain ⟨r_16, hu17, hf⟩ := ob1 hf
        refine ww_cVi h (c_X7_reach l D ev cy oR aR R_13 oP aP P v3_11 _ hu17) ⟨w_869, w_1079, w_867, w_868, w_107, ok_X7_reach⟩ ⟨by decide, by decide⟩ ⟨by decide, by decide⟩ ⟨rfl, rfl⟩ [1, 1] rfl 0 rfl rfl rfl rfl (Nat.le_of_ble_eq_true rfl) dX8_reckon_57 60 rfl (Gs' := [gX7 cy oR aR R_13, gX4 cy oP aP P, gX8 cy oW aW W_15]) rfl ?_
        clear hu17
        refine ww_ist h dX8_reckon_60 (by decide) (fun v4_18 => [(4, .int v4_18), (0, .ref oW), (1, .ref oR), (3, .int v3_11)]) (fun _ => rfl) 62 rfl (fun v4_18 e => ?_)
        replace hf := bnd_at e hf
        clear e
        refine ww_iload_n h dX8_reckon_62 rfl 3 rfl 63 rfl ?_
        refine ww_ist h dX8_reckon_63 (by decide) (fun v5_19 => [(5, .int v5_19), (4, .int v4_18), (0, .ref oW), (1, .ref oR), (3, .int v3_11)]) (fun _ => rfl) 65 rfl (fun v5_19 e => ?_)
        replace hf := bnd_at e hf
        clear e
        refine ww_lo [2, 3, 4, 1, 0] (lo' := [(0, .ref oW), (1, .ref oR), (3, .int v3_11), (4, .int v4_18), (5, .int v5_19)]) rfl ?_
        refine ww_perm [2, 0, 0] (Gs' := [gX8 cy oW aW W_15, gX7 cy oR aR R_13, gX4 cy oP aP P]) rfl ?_
        obtain ⟨W_33, R_34, h20, hf⟩ := ob2 hf
        refine lp_walk (un3 (fun v5_21 W_22 R_23 => ww X D A 6 Q 0 0 65 [(0, .ref oW), (1, .ref oR), (3, .int v3_11), (4, .int v4_18), (5, .int v5_21)] [] [gX8 cy oW aW W_22, gX7 cy oR aR R_23, gX4 cy oP aP P])) (un2 (fun W_33 R_34 => ww X D A 6 Q 0 0 146 [(0, .ref oW), (1, .ref oR), (3, .int v3_11)] [] [gX8 cy oW aW W_33, gX7 cy oR aR R_34, gX4 cy oP aP P])) ?_ _ _ _ h20 ?_
        · clear h20 hf
          intro s20 o20 hf hI20 hE20
          obtain ⟨v5_21, W_22, R_23⟩ := s20
          unfold s_X8_reckon_65_20 at hf
          replace hf := un3_e hf
          show ww X D A 6 Q 0 0 65 [(0, .ref oW), (1, .ref oR), (3, .int v3_11), (4, .int v4_18), (5, .int v5_21)] [] [gX8 cy oW aW W_22, gX7 cy oR aR R_23, gX4 cy oP aP P]
          refine ww_iload h dX8_reckon_65 4 rfl 67 rfl ?_
          refine ww_iload h dX8_reckon_67 3 rfl 69 rfl ?_
          refine ww_icmp_gt h dX8_reckon_69 146 (by decide) 72 rfl (fun c => ?_) (fun c => ?_)
          · replace hf := ite_t c hf
            refine ww_lo [0, 1, 2] (lo' := [(0, .ref oW), (1, .ref oR), (3, .int v3_11)]) rfl ?_
            exact hE20 (W_22, R_23) (Option.some.inj hf).symm
          · replace hf := ite_f c hf
            refine ww_aload_n h dX8_reckon_72 rfl 0 rfl 73 rfl ?_
            refine ww_get h inG8 rfl 0 rfl rfl 0 (by decide) w_397 rfl dX8_reckon_73 76 rfl ?_
            refine ww_iload h dX8_reckon_76 4 rfl 78 rfl ?_
            refine ww_iconst (v := 1) h dX8_reckon_78 (by decide) 79 rfl ?_
            refine ww_iadd h dX8_reckon_79 80 rfl ?_
            have hi := (gd_some hf).1
            replace hf := (gd_some hf).2
            refine ww_lald h 0 rfl 1 rfl (ix_in hi) dX8_reckon_80 81 rfl ?_
            clear hi
            refine ww_lconst (v := 0) h dX8_reckon_81 (by decide) 82 rfl ?_
            refine ww_lcmp h dX8_reckon_82 83 rfl ?_
            have hJ140_26 : ∀ (W_24 : OV) (R_25 : OV), j_X8_reckon_140_26 v5_21 W_24 R_25 = some o20 → ww X D A 6 Q 0 0 140 [(0, .ref oW), (1, .ref oR), (3, .int v3_11), (4, .int v4_18), (5, .int v5_21)] [] [gX8 cy oW aW W_24, gX7 cy oR aR R_25, gX4 cy oP aP P] := by
              intro W_24 R_25 hf
              unfold j_X8_reckon_140_26 at hf
              refine ww_inc (c := 1) h dX8_reckon_140 4 rfl (by decide) (by decide) (fun v5_27 => [(5, .int v5_27), (0, .ref oW), (1, .ref oR), (3, .int v3_11), (4, .int v4_18)]) (fun _ => rfl) 143 rfl (fun v5_27 e => ?_)
              replace hf := bnd_at e hf
              clear e
              refine ww_goto h dX8_reckon_143 65 (by decide) ?_
              refine ww_lo [1, 2, 3, 4, 0] (lo' := [(0, .ref oW), (1, .ref oR), (3, .int v3_11), (4, .int v4_18), (5, .int v5_27)]) rfl ?_
              exact hI20 (v5_27, W_24, R_25) (Option.some.inj hf).symm
            refine ww_if_le h dX8_reckon_83 140 (by decide) 86 rfl (fun c => ?_) (fun c => ?_)
            · replace hf := ite_t c hf
              exact hJ140_26 W_22 R_23 hf
            · replace hf := ite_f c hf
              refine ww_aload_n h dX8_reckon_86 rfl 1 rfl 87 rfl ?_
              refine ww_iload_n h dX8_reckon_87 rfl 2 rfl 88 rfl ?_
              refine ww_iload h dX8_reckon_88 4 rfl 90 rfl ?_
              obtain ⟨r_28, R_29, hu30, hf⟩ := ob2 hf
              refine ww_cSi h (c_X8_isStep l D ev cy oR aR R_23 oP aP P v3_11 v5_21 _ hu30) ⟨w_1082, w_1080, w_1081, w_110, ok_X8_isStep⟩ ⟨by decide, by decide⟩ ⟨by decide, by decide⟩ ⟨rfl, rfl⟩ [1, 1] rfl rfl (Nat.le_of_ble_eq_true rfl) dX8_reckon_90 93 rfl (Gs' := [gX7 cy oR aR R_29, gX4 cy oP aP P, gX8 cy oW aW W_22]) rfl ?_
              clear hu30
              refine ww_if_eq h dX8_reckon_93 140 (by decide) 96 rfl (fun c => ?_) (fun c => ?_)
              · replace hf := ite_t c hf
                refine ww_perm [2, 0, 0] (Gs' := [gX8 cy oW aW W_22, gX7 cy oR aR R_29, gX4 cy oP aP P]) rfl ?_
                exact hJ140_26 W_22 R_29 hf
              · replace hf := ite_f c hf
                refine ww_aload_n h dX8_reckon_96 rfl 0 rfl 97 rfl ?_
                refine ww_get h inG8 rfl 2 rfl rfl 0 (by decide) w_397 rfl dX8_reckon_97 100 rfl ?_
                refine ww_iload_n h dX8_reckon_100 rfl 2 rfl 101 rfl ?_
                refine ww_dup2 h dX8_reckon_101 rfl rfl 102 rfl ?_
                have hi := (gd_some hf).1
                replace hf := (gd_some hf).2
                refine ww_lald h 2 rfl 1 rfl (ix_in hi) dX8_reckon_102 103 rfl ?_
                clear hi
                refine ww_aload_n h dX8_reckon_103 rfl 0 rfl 104 rfl ?_
                refine ww_get h inG8 rfl 2 rfl rfl 0 (by decide) w_397 rfl dX8_reckon_104 107 rfl ?_
                refine ww_iload h dX8_reckon_107 4 rfl 109 rfl ?_
                refine ww_iconst (v := 1) h dX8_reckon_109 (by decide) 110 rfl ?_
                refine ww_iadd h dX8_reckon_110 111 rfl ?_
                have hi := (gd_some hf).1
                replace hf := (gd_some hf).2
                refine ww_lald h 2 rfl 1 rfl (ix_in hi) dX8_reckon_111 112 rfl ?_
                clear hi
                refine ww_ladd h dX8_reckon_112 113 rfl ?_
                have hi := (gd_some hf).1
                replace hf := (gd_some hf).2
                refine ww_last h 2 rfl 1 rfl (ix_in hi) dX8_reckon_113 114 rfl ?_
                clear hi
                refine ww_nm (fun z => [gX7 cy oR aR R_29, gX4 cy oP aP P, gX8 cy oW aW z]) (sL W_22 0 v3_11.toNatClampNeg ((al W_22 0 v3_11.toNatClampNeg) + (al W_22 0 (v5_21 + (1 : Int32)).toNatClampNeg))) (fun W_31 e => ?_)
                replace hf := bnd_at e hf
                clear e
                refine ww_aload_n h dX8_reckon_114 rfl 0 rfl 115 rfl ?_
                refine ww_get h inG8 rfl 2 rfl rfl 1 (by decide) w_398 rfl dX8_reckon_115 118 rfl ?_
                refine ww_iload_n h dX8_reckon_118 rfl 2 rfl 119 rfl ?_
                refine ww_aload_n h dX8_reckon_119 rfl 0 rfl 120 rfl ?_
                refine ww_get h inG8 rfl 2 rfl rfl 1 (by decide) w_398 rfl dX8_reckon_120 123 rfl ?_
                refine ww_iload_n h dX8_reckon_123 rfl 2 rfl 124 rfl ?_
                have hi := (gd_some hf).1
                replace hf := (gd_some hf).2
                refine ww_iald h 2 rfl 2 rfl (ix_in hi) dX8_reckon_124 125 rfl ?_
                clear hi
                refine ww_aload_n h dX8_reckon_125 rfl 0 rfl 126 rfl ?_
                refine ww_get h inG8 rfl 2 rfl rfl 1 (by decide) w_398 rfl dX8_reckon_126 129 rfl ?_
                refine ww_iload h dX8_reckon_129 4 rfl 131 rfl ?_
                refine ww_iconst (v := 1) h dX8_reckon_131 (by decide) 132 rfl ?_
                refine ww_iadd h dX8_reckon_132 133 rfl ?_
                have hi := (gd_some hf).1
                replace hf := (gd_some hf).2
                refine ww_iald h 2 rfl 2 rfl (ix_in hi) dX8_reckon_133 134 rfl ?_
                clear hi
                refine ww_iconst (v := 1) h dX8_reckon_134 (by decide) 135 rfl ?_
                refine ww_iadd h dX8_reckon_135 136 rfl ?_
                refine ww_min h w_1085 w_518 w_103 w_519 ⟨by decide, Nat.le_of_ble_eq_true rfl, by decide, by decide⟩ dX8_reckon_136 139 rfl ?_
                have hi := (gd_some hf).1
                replace hf := (gd_some hf).2
                refine ww_iast h 2 rfl 2 rfl (ix_in hi) dX8_reckon_139 140 rfl ?_
                clear hi
                refine ww_nm (fun z => [gX7 cy oR aR R_29, gX4 cy oP aP P, gX8 cy oW aW z]) (sA W_31 1 v3_11.toNatClampNeg (if ((ar W_31 1 (v5_21 + (1 : Int32)).toNatClampNeg) + (1 : Int32)) < (ar W_31 1 v3_11.toNatClampNeg) then ((ar W_31 1 (v5_21 + (1 : Int32)).toNatClampNeg) + (1 : Int32)) else (ar W_31 1 v3_11.toNatClampNeg))) (fun W_32 e => ?_)
                replace hf := bnd_at e hf
                clear e
                refine ww_perm [2, 0, 0] (Gs' := [gX8 cy oW aW W_32, gX7 cy oR aR R_29, gX4 cy oP aP P]) rfl ?_
                exact hJ140_26 W_32 R_29 hf
        · clear h20
          show ww X D A 6 Q 0 0 146 [(0, .ref oW), (1, .ref oR), (3, .int v3_11)] [] [gX8 cy oW aW W_33, gX7 cy oR aR R_34, gX4 cy oP aP P]
          refine ww_inc (c := (-1)) h dX8_reckon_146 2 rfl (by decide) (by decide) (fun v3_35 => [(3, .int v3_35), (0, .ref oW), (1, .ref oR)]) (fun _ => rfl) 149 rfl (fun v3_35 e => ?_)
          replace hf := bnd_at e hf
          clear e
          refine ww_goto h dX8_reckon_149 36 (by decide) ?_
          refine ww_lo [1, 2, 0] (lo' := [(0, .ref oW), (1, .ref oR), (3, .int v3_35)]) rfl ?_
          exact hI10 (v3_35, W_33, R_34) (Option.some.inj hf).symm
    · clear h10
      show ww X D A 6 Q 0 0 152 [(0, .ref oW)] [] [gX8 cy oW aW W_36, gX7 cy oR aR R_37, gX4 cy oP aP P]
      refine ww_aload_n h dX8_reckon_152 rfl 0 rfl 153 rfl ?_
      refine ww_iconst (v := 1) h dX8_reckon_153 (by decide) 154 rfl ?_
      refine ww_put (ty := .boolean) h inG8 tyX8_ok nmX8 rfl 0 rfl rfl 3 (by decide) w_401 rfl (by decide +kernel) (by decide) (by decide) (Nat.le_of_ble_eq_true rfl) (Nat.le_of_ble_eq_true rfl) dX8_reckon_154 157 rfl ?_
      refine ww_nm (fun z => [gX8 cy oW aW z, gX7 cy oR aR R_37, gX4 cy oP aP P]) (sI W_36 3 (1 : Int32)) (fun W_38 e => ?_)
      replace hf := bnd_at e hf
      clear e
      obtain rfl := Option.some.inj hf
      exact ww_vret h dX8_reckon_157 hQ ⟨rfl, rfl⟩
  refine ww_if_ne h dX8_reckon_7 14 (by decide) 10 rfl (fun c => ?_) (fun c => ?_)
  · replace hf := ite_f c hf
    refine ww_iconst (v := 0) h dX8_reckon_14 (by decide) 15 rfl ?_
    refine ww_lo [1, 2, 0] (lo' := [(0, .ref oW), (1, .ref oR), (2, .int v2_3)]) rfl ?_
    refine ww_perm [2, 0, 0] (Gs' := [gX8 cy oW aW W, gX7 cy oR aR R, gX4 cy oP aP P]) rfl ?_
    exact hJ15_5 (0 : Int32) hf
  · replace hf := ite_t c hf
    refine ww_iconst (v := 1) h dX8_reckon_10 (by decide) 11 rfl ?_
    refine ww_goto h dX8_reckon_11 15 (by decide) ?_
    refine ww_lo [1, 2, 0] (lo' := [(0, .ref oW), (1, .ref oR), (2, .int v2_3)]) rfl ?_
    refine ww_perm [2, 0, 0] (Gs' := [gX8 cy oW aW W, gX7 cy oR aR R, gX4 cy oP aP P]) rfl ?_
    exact hJ15_5 (1 : Int32) hf
