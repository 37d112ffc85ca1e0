theorem dX10_at_0 : decode cX10_at 0 = .ok (.iload_n 3, 1) := by decide +kernel
theorem dX10_at_1 : decode cX10_at 1 = .ok (.ifCond .lt 12, 3) := by decide +kernel
theorem dX10_at_4 : decode cX10_at 4 = .ok (.aload_n 0, 1) := by decide +kernel
theorem dX10_at_5 : decode cX10_at 5 = .ok (.iload_n 1, 1) := by decide +kernel
theorem dX10_at_6 : decode cX10_at 6 = .ok (.iload_n 2, 1) := by decide +kernel
theorem dX10_at_7 : decode cX10_at 7 = .ok (.invokevirtual 274, 3) := by decide +kernel
theorem dX10_at_10 : decode cX10_at 10 = .ok (.ifCond .ne 5, 3) := by decide +kernel
theorem dX10_at_13 : decode cX10_at 13 = .ok (.iconst (-1), 1) := by decide +kernel
theorem dX10_at_14 : decode cX10_at 14 = .ok (.ireturn, 1) := by decide +kernel
theorem dX10_at_15 : decode cX10_at 15 = .ok (.aload_n 0, 1) := by decide +kernel
theorem dX10_at_16 : decode cX10_at 16 = .ok (.iload_n 2, 1) := by decide +kernel
theorem dX10_at_17 : decode cX10_at 17 = .ok (.invokevirtual 261, 3) := by decide +kernel
theorem dX10_at_20 : decode cX10_at 20 = .ok (.istore 4, 2) := by decide +kernel
theorem dX10_at_22 : decode cX10_at 22 = .ok (.aload_n 0, 1) := by decide +kernel
theorem dX10_at_23 : decode cX10_at 23 = .ok (.getfield 60, 3) := by decide +kernel
theorem dX10_at_26 : decode cX10_at 26 = .ok (.iload_n 2, 1) := by decide +kernel
theorem dX10_at_27 : decode cX10_at 27 = .ok (.iaload, 1) := by decide +kernel
theorem dX10_at_28 : decode cX10_at 28 = .ok (.istore 5, 2) := by decide +kernel
theorem dX10_at_30 : decode cX10_at 30 = .ok (.aload_n 0, 1) := by decide +kernel
theorem dX10_at_31 : decode cX10_at 31 = .ok (.iload 4, 2) := by decide +kernel
theorem dX10_at_33 : decode cX10_at 33 = .ok (.iload 5, 2) := by decide +kernel
theorem dX10_at_35 : decode cX10_at 35 = .ok (.invokevirtual 280, 3) := by decide +kernel
theorem dX10_at_38 : decode cX10_at 38 = .ok (.iconst 0, 1) := by decide +kernel
theorem dX10_at_39 : decode cX10_at 39 = .ok (.istore 6, 2) := by decide +kernel
theorem dX10_at_41 : decode cX10_at 41 = .ok (.iload 4, 2) := by decide +kernel
theorem dX10_at_43 : decode cX10_at 43 = .ok (.istore 7, 2) := by decide +kernel
theorem dX10_at_45 : decode cX10_at 45 = .ok (.iload 7, 2) := by decide +kernel
theorem dX10_at_47 : decode cX10_at 47 = .ok (.iload 5, 2) := by decide +kernel
theorem dX10_at_49 : decode cX10_at 49 = .ok (.if_icmp .gt 72, 3) := by decide +kernel
theorem dX10_at_52 : decode cX10_at 52 = .ok (.aload_n 0, 1) := by decide +kernel
theorem dX10_at_53 : decode cX10_at 53 = .ok (.iload 7, 2) := by decide +kernel
theorem dX10_at_55 : decode cX10_at 55 = .ok (.invokevirtual 144, 3) := by decide +kernel
theorem dX10_at_58 : decode cX10_at 58 = .ok (.istore 8, 2) := by decide +kernel
theorem dX10_at_60 : decode cX10_at 60 = .ok (.iload 6, 2) := by decide +kernel
theorem dX10_at_62 : decode cX10_at 62 = .ok (.aload_n 0, 1) := by decide +kernel
theorem dX10_at_63 : decode cX10_at 63 = .ok (.getfield 13, 3) := by decide +kernel
theorem dX10_at_66 : decode cX10_at 66 = .ok (.iload 8, 2) := by decide +kernel
theorem dX10_at_68 : decode cX10_at 68 = .ok (.iaload, 1) := by decide +kernel
theorem dX10_at_69 : decode cX10_at 69 = .ok (.aload_n 0, 1) := by decide +kernel
theorem dX10_at_70 : decode cX10_at 70 = .ok (.getfield 63, 3) := by decide +kernel
theorem dX10_at_73 : decode cX10_at 73 = .ok (.iload 7, 2) := by decide +kernel
theorem dX10_at_75 : decode cX10_at 75 = .ok (.iaload, 1) := by decide +kernel
theorem dX10_at_76 : decode cX10_at 76 = .ok (.isub, 1) := by decide +kernel
theorem dX10_at_77 : decode cX10_at 77 = .ok (.iload 7, 2) := by decide +kernel
theorem dX10_at_79 : decode cX10_at 79 = .ok (.iload 5, 2) := by decide +kernel
theorem dX10_at_81 : decode cX10_at 81 = .ok (.if_icmp .ge 13, 3) := by decide +kernel
theorem dX10_at_84 : decode cX10_at 84 = .ok (.aload_n 0, 1) := by decide +kernel
theorem dX10_at_85 : decode cX10_at 85 = .ok (.getfield 66, 3) := by decide +kernel
theorem dX10_at_88 : decode cX10_at 88 = .ok (.iload 7, 2) := by decide +kernel
theorem dX10_at_90 : decode cX10_at 90 = .ok (.iaload, 1) := by decide +kernel
theorem dX10_at_91 : decode cX10_at 91 = .ok (.goto 11, 3) := by decide +kernel
theorem dX10_at_94 : decode cX10_at 94 = .ok (.aload_n 0, 1) := by decide +kernel
theorem dX10_at_95 : decode cX10_at 95 = .ok (.getfield 21, 3) := by decide +kernel
theorem dX10_at_98 : decode cX10_at 98 = .ok (.iload 8, 2) := by decide +kernel
theorem dX10_at_100 : decode cX10_at 100 = .ok (.iaload, 1) := by decide +kernel
theorem dX10_at_101 : decode cX10_at 101 = .ok (.ineg, 1) := by decide +kernel
theorem dX10_at_102 : decode cX10_at 102 = .ok (.iadd, 1) := by decide +kernel
theorem dX10_at_103 : decode cX10_at 103 = .ok (.iadd, 1) := by decide +kernel
theorem dX10_at_104 : decode cX10_at 104 = .ok (.istore 6, 2) := by decide +kernel
theorem dX10_at_106 : decode cX10_at 106 = .ok (.iload_n 3, 1) := by decide +kernel
theorem dX10_at_107 : decode cX10_at 107 = .ok (.iload 6, 2) := by decide +kernel
theorem dX10_at_109 : decode cX10_at 109 = .ok (.if_icmp .ge 6, 3) := by decide +kernel
theorem dX10_at_112 : decode cX10_at 112 = .ok (.iload 7, 2) := by decide +kernel
theorem dX10_at_114 : decode cX10_at 114 = .ok (.ireturn, 1) := by decide +kernel
theorem dX10_at_115 : decode cX10_at 115 = .ok (.iinc 7 1, 3) := by decide +kernel
theorem dX10_at_118 : decode cX10_at 118 = .ok (.goto (-73), 3) := by decide +kernel
theorem dX10_at_121 : decode cX10_at 121 = .ok (.bipush (-2), 2) := by decide +kernel
theorem dX10_at_123 : decode cX10_at 123 = .ok (.ireturn, 1) := by decide +kernel
theorem ok_X10_at : okY RX10 yX10_at 3 := ⟨rfl, by decide, by decide, by decide +kernel⟩
def j_X10_at_102_19 (M_8 : OV) (p2 : Int32) (v6_13 : Int32) (v7_14 : Int32) (v8_17 : Int32) (t_18 : Int32) : Option ((Int32 × Int32) ⊕ ((Unit) ⊕ (Int32 × OV))) := bnd (v6_13 + (((ar M_8 1 v8_17.toNatClampNeg) - (ar M_8 26 v7_14.toNatClampNeg)) + t_18)) (fun v6_20 => (if v6_20 ≤ p2 then bnd (v7_14 + 1) (fun v7_21 => some (.inl (v6_20, v7_21))) else some (.inr (.inr (v7_14, M_8)))))
def s_X10_at_45_12 (M_8 : OV) (p2 : Int32) (v5_7 : Int32) : (Int32 × Int32) → Option ((Int32 × Int32) ⊕ ((Unit) ⊕ (Int32 × OV))) := un2 (fun v6_13 v7_14 => (if v5_7 < v7_14 then some (.inr (.inl ())) else (f_X10_classOf M_8 v7_14).bind (un1 (fun r_15 => bnd r_15 (fun v8_17 => gd (ix v8_17 26) (gd (ix v7_14 40) ((if v5_7 ≤ v7_14 then gd (ix v8_17 26) (j_X10_at_102_19 M_8 p2 v6_13 v7_14 v8_17 (-(ar M_8 3 v8_17.toNatClampNeg))) else gd (ix v7_14 40) (j_X10_at_102_19 M_8 p2 v6_13 v7_14 v8_17 (ar M_8 27 v7_14.toNatClampNeg))))))))))
def f_X10_at (M : OV) (p0 : Int32) (p1 : Int32) (p2 : Int32) : Option (Int32 × OV) := (if p2 < 0 then some ((-1 : Int32), M) else (f_X10_looksAt M p0 p1).bind (un2 (fun r_1 M_2 => (if r_1 = 0 then some ((-1 : Int32), M_2) else (f_X10_firstOf M_2 p1).bind (un1 (fun r_4 => bnd r_4 (fun v4_6 => gd (ix p1 41) (bnd (ar M_2 24 p1.toNatClampNeg) (fun v5_7 => (f_X10_deals M_2 v4_6 v5_7).bind (un1 (fun M_8 => bnd (0 : Int32) (fun v6_10 => bnd v4_6 (fun v7_11 => ((lp (s_X10_at_45_12 M_8 p2 v5_7) 5000 (v6_10, v7_11)).bind (Sum.elim (un1 (fun (_u : Unit) => some ((-2 : Int32), M_8))) (fun r => some r))))))))))))))))
def r_X10_at : Room := { frames := 8, cells := 0, slots := 0, locals := 191 }
set_option maxHeartbeats 4000000 in
set_option maxRecDepth 100000 in
theorem c_X10_at (l : Launch) (D : va_G) (ev : EvT) (cy : Nat → ClassId) (oM : Nat) (aM : Nat → Nat) (M : OV) (p0 : Int32) (p1 : Int32) (p2 : Int32) (o : Int32 × OV) (hf : f_X10_at M p0 p1 p2 = some o) : Fn l yX10_at cX10_at 9 (some .int) r_X10_at D ev cy [.ref oM, .int p0, .int p1, .int p2] [gX10 cy oM aM M] (fun v G => v = some (.int o.1) ∧ G = [gX10 cy oM aM o.2]) := by
  refine Fn_of (by decide) (Nat.le_of_ble_eq_true rfl) (fun X A Q h hQ _ => ?_)
  unfold f_X10_at at hf
  show ww X D A 9 Q 0 0 0 [(0, .ref oM), (1, .int p0), (2, .int p1), (3, .int p2)] [] [gX10 cy oM aM M]
  refine ww_iload_n h dX10_at_0 rfl 3 rfl 1 rfl ?_
  refine ww_if_lt h dX10_at_1 13 (by decide) 4 rfl (fun c => ?_) (fun c => ?_)
  · replace hf := ite_t c hf
    refine ww_iconst (v := (-1)) h dX10_at_13 (by decide) 14 rfl ?_
    obtain rfl := Option.some.inj hf
    exact ww_iret h dX10_at_14 hQ ⟨rfl, rfl⟩
  · replace hf := ite_f c hf
    refine ww_aload_n h dX10_at_4 rfl 0 rfl 5 rfl ?_
    refine ww_iload_n h dX10_at_5 rfl 1 rfl 6 rfl ?_
    refine ww_iload_n h dX10_at_6 rfl 2 rfl 7 rfl ?_
    obtain ⟨r_1, M_2, hu3, hf⟩ := ob2 hf
    refine ww_cVi h (c_X10_looksAt l D ev cy oM aM M p0 p1 _ hu3) ⟨w_1537, w_1534, w_1536, w_65, w_111, ok_X10_looksAt⟩ ⟨by decide, by decide⟩ ⟨by decide, by decide⟩ ⟨rfl, rfl⟩ [0] rfl 0 rfl rfl rfl rfl (Nat.le_of_ble_eq_true rfl) dX10_at_7 10 rfl (Gs' := [gX10 cy oM aM M_2]) rfl ?_
    clear hu3
    refine ww_if_ne h dX10_at_10 15 (by decide) 13 rfl (fun c => ?_) (fun c => ?_)
    · replace hf := ite_f c hf
      refine ww_aload_n h dX10_at_15 rfl 0 rfl 16 rfl ?_
      refine ww_iload_n h dX10_at_16 rfl 2 rfl 17 rfl ?_
      obtain ⟨r_4, hu5, hf⟩ := ob1 hf
      refine ww_cVi h (c_X10_firstOf l D ev cy oM aM M_2 p1 _ hu5) ⟨w_1525, w_1522, w_1524, w_63, w_111, ok_X10_firstOf⟩ ⟨by decide, by decide⟩ ⟨by decide, by decide⟩ ⟨rfl, rfl⟩ [0] rfl 0 rfl rfl rfl rfl (Nat.le_of_ble_eq_true rfl) dX10_at_17 20 rfl (Gs' := [gX10 cy oM aM M_2]) rfl ?_
      clear hu5
      refine ww_ist h dX10_at_20 (by decide) (fun v4_6 => [(4, .int v4_6), (0, .ref oM), (1, .int p0), (2, .int p1), (3, .int p2)]) (fun _ => rfl) 22 rfl (fun v4_6 e => ?_)
      replace hf := bnd_at e hf
      clear e
      refine ww_aload_n h dX10_at_22 rfl 1 rfl 23 rfl ?_
      refine ww_get h inG10 rfl 0 rfl rfl 24 (by decide) w_1181 rfl dX10_at_23 26 rfl ?_
      refine ww_iload_n h dX10_at_26 rfl 3 rfl 27 rfl ?_
      have hi := (gd_some hf).1
      replace hf := (gd_some hf).2
      refine ww_iald h 0 rfl 16 rfl (ix_in hi) dX10_at_27 28 rfl ?_
      clear hi
      refine ww_ist h dX10_at_28 (by decide) (fun v5_7 => [(5, .int v5_7), (4, .int v4_6), (0, .ref oM), (1, .int p0), (2, .int p1), (3, .int p2)]) (fun _ => rfl) 30 rfl (fun v5_7 e => ?_)
      replace hf := bnd_at e hf
      clear e
      refine ww_aload_n h dX10_at_30 rfl 2 rfl 31 rfl ?_
      refine ww_iload h dX10_at_31 1 rfl 33 rfl ?_
      refine ww_iload h dX10_at_33 0 rfl 35 rfl ?_
      obtain ⟨M_8, hu9, hf⟩ := ob1 hf
      refine ww_cVv h (c_X10_deals l D ev cy oM aM M_2 v4_6 v5_7 _ hu9) ⟨w_1553, w_1550, w_1552, w_67, w_111, ok_X10_deals⟩ ⟨by decide, by decide⟩ ⟨by decide, by decide⟩ ⟨rfl, rfl⟩ [0] rfl 0 rfl rfl rfl rfl (Nat.le_of_ble_eq_true rfl) dX10_at_35 38 rfl (Gs' := [gX10 cy oM aM M_8]) rfl ?_
      clear hu9
      refine ww_iconst (v := 0) h dX10_at_38 (by decide) 39 rfl ?_
      refine ww_ist h dX10_at_39 (by decide) (fun v6_10 => [(6, .int v6_10), (5, .int v5_7), (4, .int v4_6), (0, .ref oM), (1, .int p0), (2, .int p1), (3, .int p2)]) (fun _ => rfl) 41 rfl (fun v6_10 e => ?_)
      replace hf := bnd_at e hf
      clear e
      refine ww_iload h dX10_at_41 2 rfl 43 rfl ?_
      refine ww_ist h dX10_at_43 (by decide) (fun v7_11 => [(7, .int v7_11), (6, .int v6_10), (5, .int v5_7), (4, .int v4_6), (0, .ref oM), (1, .int p0), (2, .int p1), (3, .int p2)]) (fun _ => rfl) 45 rfl (fun v7_11 e => ?_)
      replace hf := bnd_at e hf
      clear e
      refine ww_lo [4, 7, 2, 1, 0] (lo' := [(0, .ref oM), (3, .int p2), (5, .int v5_7), (6, .int v6_10), (7, .int v7_11)]) rfl ?_
      obtain ⟨x12, h12, hf⟩ := ob_some hf
      refine lp_walk (un2 (fun v6_13 v7_14 => ww X D A 9 Q 0 0 45 [(0, .ref oM), (3, .int p2), (5, .int v5_7), (6, .int v6_13), (7, .int v7_14)] [] [gX10 cy oM aM M_8])) (Sum.elim (un1 (fun (_u : Unit) => ww X D A 9 Q 0 0 121 [] [] [gX10 cy oM aM M_8])) (fun r => r = o)) ?_ _ _ _ h12 ?_
      · clear h12 hf
        intro s12 o12 hf hI12 hE12
        obtain ⟨v6_13, v7_14⟩ := s12
        unfold s_X10_at_45_12 at hf
        replace hf := un2_e hf
        show ww X D A 9 Q 0 0 45 [(0, .ref oM), (3, .int p2), (5, .int v5_7), (6, .int v6_13), (7, .int v7_14)] [] [gX10 cy oM aM M_8]
        refine ww_iload h dX10_at_45 4 rfl 47 rfl ?_
        refine ww_iload h dX10_at_47 2 rfl 49 rfl ?_
        refine ww_icmp_gt h dX10_at_49 121 (by decide) 52 rfl (fun c => ?_) (fun c => ?_)
        · replace hf := ite_t c hf
          refine ww_lo [] (lo' := []) rfl ?_
          exact hE12 (.inl ()) (Option.some.inj hf).symm
        · replace hf := ite_f c hf
          refine ww_aload_n h dX10_at_52 rfl 0 rfl 53 rfl ?_
          refine ww_iload h dX10_at_53 4 rfl 55 rfl ?_
          obtain ⟨r_15, hu16, hf⟩ := ob1 hf
          refine ww_cVi h (c_X10_classOf l D ev cy oM aM M_8 v7_14 _ hu16) ⟨w_1369, w_1366, w_1368, w_44, w_111, ok_X10_classOf⟩ ⟨by decide, by decide⟩ ⟨by decide, by decide⟩ ⟨rfl, rfl⟩ [0] rfl 0 rfl rfl rfl rfl (Nat.le_of_ble_eq_true rfl) dX10_at_55 58 rfl (Gs' := [gX10 cy oM aM M_8]) rfl ?_
          clear hu16
          refine ww_ist h dX10_at_58 (by decide) (fun v8_17 => [(8, .int v8_17), (0, .ref oM), (3, .int p2), (5, .int v5_7), (6, .int v6_13), (7, .int v7_14)]) (fun _ => rfl) 60 rfl (fun v8_17 e => ?_)
          replace hf := bnd_at e hf
          clear e
          refine ww_iload h dX10_at_60 4 rfl 62 rfl ?_
          refine ww_aload_n h dX10_at_62 rfl 1 rfl 63 rfl ?_
          refine ww_get h inG10 rfl 0 rfl rfl 1 (by decide) w_1158 rfl dX10_at_63 66 rfl ?_
          refine ww_iload h dX10_at_66 0 rfl 68 rfl ?_
          have hi := (gd_some hf).1
          replace hf := (gd_some hf).2
          refine ww_iald h 0 rfl 1 rfl (ix_in hi) dX10_at_68 69 rfl ?_
          clear hi
          refine ww_aload_n h dX10_at_69 rfl 1 rfl 70 rfl ?_
          refine ww_get h inG10 rfl 0 rfl rfl 26 (by decide) w_1183 rfl dX10_at_70 73 rfl ?_
          refine ww_iload h dX10_at_73 5 rfl 75 rfl ?_
          have hi := (gd_some hf).1
          replace hf := (gd_some hf).2
          refine ww_iald h 0 rfl 17 rfl (ix_in hi) dX10_at_75 76 rfl ?_
          clear hi
          refine ww_isub h dX10_at_76 77 rfl ?_
          refine ww_iload h dX10_at_77 5 rfl 79 rfl ?_
          refine ww_iload h dX10_at_79 3 rfl 81 rfl ?_
          have hJ102_19 : ∀ (t_18 : Int32), j_X10_at_102_19 M_8 p2 v6_13 v7_14 v8_17 t_18 = some o12 → ww X D A 9 Q 0 0 102 [(0, .ref oM), (3, .int p2), (5, .int v5_7), (7, .int v7_14)] [.int t_18, .int ((ar M_8 1 v8_17.toNatClampNeg) - (ar M_8 26 v7_14.toNatClampNeg)), .int v6_13] [gX10 cy oM aM M_8] := by
            intro t_18 hf
            unfold j_X10_at_102_19 at hf
            refine ww_iadd h dX10_at_102 103 rfl ?_
            refine ww_iadd h dX10_at_103 104 rfl ?_
            refine ww_ist h dX10_at_104 (by decide) (fun v6_20 => [(6, .int v6_20), (0, .ref oM), (3, .int p2), (5, .int v5_7), (7, .int v7_14)]) (fun _ => rfl) 106 rfl (fun v6_20 e => ?_)
            replace hf := bnd_at e hf
            clear e
            refine ww_iload_n h dX10_at_106 rfl 2 rfl 107 rfl ?_
            refine ww_iload h dX10_at_107 0 rfl 109 rfl ?_
            refine ww_icmp_ge h dX10_at_109 115 (by decide) 112 rfl (fun c => ?_) (fun c => ?_)
            · replace hf := ite_t c hf
              refine ww_inc (c := 1) h dX10_at_115 4 rfl (by decide) (by decide) (fun v7_21 => [(7, .int v7_21), (6, .int v6_20), (0, .ref oM), (3, .int p2), (5, .int v5_7)]) (fun _ => rfl) 118 rfl (fun v7_21 e => ?_)
              replace hf := bnd_at e hf
              clear e
              refine ww_goto h dX10_at_118 45 (by decide) ?_
              refine ww_lo [2, 3, 4, 1, 0] (lo' := [(0, .ref oM), (3, .int p2), (5, .int v5_7), (6, .int v6_20), (7, .int v7_21)]) rfl ?_
              exact hI12 (v6_20, v7_21) (Option.some.inj hf).symm
            · replace hf := ite_f c hf
              refine ww_iload h dX10_at_112 4 rfl 114 rfl ?_
              obtain rfl := hE12 (.inr (v7_14, M_8)) (Option.some.inj hf).symm
              exact ww_iret h dX10_at_114 hQ ⟨rfl, rfl⟩
          refine ww_icmp_ge h dX10_at_81 94 (by decide) 84 rfl (fun c => ?_) (fun c => ?_)
          · replace hf := ite_t c hf
            refine ww_aload_n h dX10_at_94 rfl 1 rfl 95 rfl ?_
            refine ww_get h inG10 rfl 0 rfl rfl 3 (by decide) w_1160 rfl dX10_at_95 98 rfl ?_
            refine ww_iload h dX10_at_98 0 rfl 100 rfl ?_
            have hi := (gd_some hf).1
            replace hf := (gd_some hf).2
            refine ww_iald h 0 rfl 3 rfl (ix_in hi) dX10_at_100 101 rfl ?_
            clear hi
            refine ww_ineg h dX10_at_101 102 rfl ?_
            refine ww_lo [1, 2, 3, 5] (lo' := [(0, .ref oM), (3, .int p2), (5, .int v5_7), (7, .int v7_14)]) rfl ?_
            exact hJ102_19 (-(ar M_8 3 v8_17.toNatClampNeg)) hf
          · replace hf := ite_f c hf
            refine ww_aload_n h dX10_at_84 rfl 1 rfl 85 rfl ?_
            refine ww_get h inG10 rfl 0 rfl rfl 27 (by decide) w_1184 rfl dX10_at_85 88 rfl ?_
            refine ww_iload h dX10_at_88 5 rfl 90 rfl ?_
            have hi := (gd_some hf).1
            replace hf := (gd_some hf).2
            refine ww_iald h 0 rfl 18 rfl (ix_in hi) dX10_at_90 91 rfl ?_
            clear hi
            refine ww_goto h dX10_at_91 102 (by decide) ?_
            refine ww_lo [1, 2, 3, 5] (lo' := [(0, .ref oM), (3, .int p2), (5, .int v5_7), (7, .int v7_14)]) rfl ?_
            exact hJ102_19 (ar M_8 27 v7_14.toNatClampNeg) hf
      · clear h12
        rcases x12 with x12 | x12
        · replace hf := sel_l hf
          obtain ⟨_u, rfl⟩ : ∃ z, z = x12 := ⟨_, rfl⟩
          replace hf := un1_e hf
          show ww X D A 9 Q 0 0 121 [] [] [gX10 cy oM aM M_8]
          refine ww_bipush (v := (-2)) h dX10_at_121 (by decide) 123 rfl ?_
          obtain rfl := Option.some.inj hf
          exact ww_iret h dX10_at_123 hQ ⟨rfl, rfl⟩
        · replace hf := sel_r hf
          exact Option.some.inj hf
    · replace hf := ite_t c hf
      refine ww_iconst (v := (-1)) h dX10_at_13 (by decide) 14 rfl ?_
      obtain rfl := Option.some.inj hf
      exact ww_iret h dX10_at_14 hQ ⟨rfl, rfl⟩
theorem dX10_common_0 : decode cX10_common 0 = .ok (.iload_n 1, 1) := by decide +kernel
theorem dX10_common_1 : decode cX10_common 1 = .ok (.iconst (-1), 1) := by decide +kernel
theorem dX10_common_2 : decode cX10_common 2 = .ok (.if_icmp .ge 5, 3) := by decide +kernel
theorem dX10_common_5 : decode cX10_common 5 = .ok (.iconst (-1), 1) := by decide +kernel
theorem dX10_common_6 : decode cX10_common 6 = .ok (.ireturn, 1) := by decide +kernel
theorem dX10_common_7 : decode cX10_common 7 = .ok (.aload_n 0, 1) := by decide +kernel
theorem dX10_common_8 : decode cX10_common 8 = .ok (.iconst 1, 1) := by decide +kernel
theorem dX10_common_9 : decode cX10_common 9 = .ok (.invokevirtual 258, 3) := by decide +kernel
theorem dX10_common_12 : decode cX10_common 12 = .ok (.aload_n 0, 1) := by decide +kernel
theorem dX10_common_13 : decode cX10_common 13 = .ok (.getfield 246, 3) := by decide +kernel
theorem dX10_common_16 : decode cX10_common 16 = .ok (.istore_n 2, 1) := by decide +kernel
theorem dX10_common_17 : decode cX10_common 17 = .ok (.iconst 0, 1) := by decide +kernel
theorem dX10_common_18 : decode cX10_common 18 = .ok (.istore_n 3, 1) := by decide +kernel
theorem dX10_common_19 : decode cX10_common 19 = .ok (.iload_n 3, 1) := by decide +kernel
theorem dX10_common_20 : decode cX10_common 20 = .ok (.iload_n 2, 1) := by decide +kernel
theorem dX10_common_21 : decode cX10_common 21 = .ok (.if_icmp .ge 21, 3) := by decide +kernel
theorem dX10_common_24 : decode cX10_common 24 = .ok (.aload_n 0, 1) := by decide +kernel
theorem dX10_common_25 : decode cX10_common 25 = .ok (.getfield 69, 3) := by decide +kernel
theorem dX10_common_28 : decode cX10_common 28 = .ok (.iload_n 3, 1) := by decide +kernel
theorem dX10_common_29 : decode cX10_common 29 = .ok (.aload_n 0, 1) := by decide +kernel
theorem dX10_common_30 : decode cX10_common 30 = .ok (.getfield 60, 3) := by decide +kernel
theorem dX10_common_33 : decode cX10_common 33 = .ok (.iload_n 3, 1) := by decide +kernel
theorem dX10_common_34 : decode cX10_common 34 = .ok (.iaload, 1) := by decide +kernel
theorem dX10_common_35 : decode cX10_common 35 = .ok (.iastore, 1) := by decide +kernel
theorem dX10_common_36 : decode cX10_common 36 = .ok (.iinc 3 1, 3) := by decide +kernel
theorem dX10_common_39 : decode cX10_common 39 = .ok (.goto (-20), 3) := by decide +kernel
theorem dX10_common_42 : decode cX10_common 42 = .ok (.aload_n 0, 1) := by decide +kernel
theorem dX10_common_43 : decode cX10_common 43 = .ok (.iconst 0, 1) := by decide +kernel
theorem dX10_common_44 : decode cX10_common 44 = .ok (.invokevirtual 258, 3) := by decide +kernel
theorem dX10_common_47 : decode cX10_common 47 = .ok (.iconst 0, 1) := by decide +kernel
theorem dX10_common_48 : decode cX10_common 48 = .ok (.istore_n 3, 1) := by decide +kernel
theorem dX10_common_49 : decode cX10_common 49 = .ok (.iconst 0, 1) := by decide +kernel
theorem dX10_common_50 : decode cX10_common 50 = .ok (.istore 4, 2) := by decide +kernel
theorem dX10_common_52 : decode cX10_common 52 = .ok (.iload 4, 2) := by decide +kernel
theorem dX10_common_54 : decode cX10_common 54 = .ok (.aload_n 0, 1) := by decide +kernel
theorem dX10_common_55 : decode cX10_common 55 = .ok (.getfield 246, 3) := by decide +kernel
theorem dX10_common_58 : decode cX10_common 58 = .ok (.if_icmp .ge 80, 3) := by decide +kernel
theorem dX10_common_61 : decode cX10_common 61 = .ok (.iconst 0, 1) := by decide +kernel
theorem dX10_common_62 : decode cX10_common 62 = .ok (.istore 5, 2) := by decide +kernel
theorem dX10_common_64 : decode cX10_common 64 = .ok (.iconst 0, 1) := by decide +kernel
theorem dX10_common_65 : decode cX10_common 65 = .ok (.istore 6, 2) := by decide +kernel
theorem dX10_common_67 : decode cX10_common 67 = .ok (.iload 6, 2) := by decide +kernel
theorem dX10_common_69 : decode cX10_common 69 = .ok (.iload_n 2, 1) := by decide +kernel
theorem dX10_common_70 : decode cX10_common 70 = .ok (.if_icmp .ge 38, 3) := by decide +kernel
theorem dX10_common_73 : decode cX10_common 73 = .ok (.iload 5, 2) := by decide +kernel
theorem dX10_common_75 : decode cX10_common 75 = .ok (.ifCond .ne 33, 3) := by decide +kernel
theorem dX10_common_78 : decode cX10_common 78 = .ok (.aload_n 0, 1) := by decide +kernel
theorem dX10_common_79 : decode cX10_common 79 = .ok (.getfield 69, 3) := by decide +kernel
theorem dX10_common_82 : decode cX10_common 82 = .ok (.iload 6, 2) := by decide +kernel
theorem dX10_common_84 : decode cX10_common 84 = .ok (.iaload, 1) := by decide +kernel
theorem dX10_common_85 : decode cX10_common 85 = .ok (.aload_n 0, 1) := by decide +kernel
theorem dX10_common_86 : decode cX10_common 86 = .ok (.getfield 60, 3) := by decide +kernel
theorem dX10_common_89 : decode cX10_common 89 = .ok (.iload 4, 2) := by decide +kernel
theorem dX10_common_91 : decode cX10_common 91 = .ok (.iaload, 1) := by decide +kernel
theorem dX10_common_92 : decode cX10_common 92 = .ok (.if_icmp .ne 7, 3) := by decide +kernel
theorem dX10_common_95 : decode cX10_common 95 = .ok (.iconst 1, 1) := by decide +kernel
theorem dX10_common_96 : decode cX10_common 96 = .ok (.goto 4, 3) := by decide +kernel
theorem dX10_common_99 : decode cX10_common 99 = .ok (.iconst 0, 1) := by decide +kernel
theorem dX10_common_100 : decode cX10_common 100 = .ok (.istore 5, 2) := by decide +kernel
theorem dX10_common_102 : decode cX10_common 102 = .ok (.iinc 6 1, 3) := by decide +kernel
theorem dX10_common_105 : decode cX10_common 105 = .ok (.goto (-38), 3) := by decide +kernel
theorem dX10_common_108 : decode cX10_common 108 = .ok (.iload 5, 2) := by decide +kernel
theorem dX10_common_110 : decode cX10_common 110 = .ok (.ifCond .ne 6, 3) := by decide +kernel
theorem dX10_common_113 : decode cX10_common 113 = .ok (.goto 19, 3) := by decide +kernel
theorem dX10_common_116 : decode cX10_common 116 = .ok (.iload_n 3, 1) := by decide +kernel
theorem dX10_common_117 : decode cX10_common 117 = .ok (.iload_n 1, 1) := by decide +kernel
theorem dX10_common_118 : decode cX10_common 118 = .ok (.if_icmp .ne 11, 3) := by decide +kernel
theorem dX10_common_121 : decode cX10_common 121 = .ok (.aload_n 0, 1) := by decide +kernel
theorem dX10_common_122 : decode cX10_common 122 = .ok (.getfield 60, 3) := by decide +kernel
theorem dX10_common_125 : decode cX10_common 125 = .ok (.iload 4, 2) := by decide +kernel
theorem dX10_common_127 : decode cX10_common 127 = .ok (.iaload, 1) := by decide +kernel
theorem dX10_common_128 : decode cX10_common 128 = .ok (.ireturn, 1) := by decide +kernel
theorem dX10_common_129 : decode cX10_common 129 = .ok (.iinc 3 1, 3) := by decide +kernel
theorem dX10_common_132 : decode cX10_common 132 = .ok (.iinc 4 1, 3) := by decide +kernel
theorem dX10_common_135 : decode cX10_common 135 = .ok (.goto (-83), 3) := by decide +kernel
theorem dX10_common_138 : decode cX10_common 138 = .ok (.iload_n 1, 1) := by decide +kernel
theorem dX10_common_139 : decode cX10_common 139 = .ok (.iconst (-1), 1) := by decide +kernel
theorem dX10_common_140 : decode cX10_common 140 = .ok (.if_icmp .ne 7, 3) := by decide +kernel
theorem dX10_common_143 : decode cX10_common 143 = .ok (.iload_n 3, 1) := by decide +kernel
theorem dX10_common_144 : decode cX10_common 144 = .ok (.goto 5, 3) := by decide +kernel
theorem dX10_common_147 : decode cX10_common 147 = .ok (.bipush (-2), 2) := by decide +kernel
theorem dX10_common_149 : decode cX10_common 149 = .ok (.ireturn, 1) := by decide +kernel
theorem ok_X10_common : okY RX10 yX10_common 1 := ⟨rfl, by decide, by decide, by decide +kernel⟩
def s_X10_common_19_5 (v2_3 : Int32) : (Int32 × OV) → Option ((Int32 × OV) ⊕ (OV)) := un2 (fun v3_6 M_7 => (if v2_3 ≤ v3_6 then some (.inr M_7) else gd (ix v3_6 41) (gd (ix v3_6 41) (bnd (sA M_7 28 v3_6.toNatClampNeg (ar M_7 24 v3_6.toNatClampNeg)) (fun M_8 => bnd (v3_6 + 1) (fun v3_9 => some (.inl (v3_9, M_8))))))))
def j_X10_common_100_24 (v6_22 : Int32) (t_23 : Int32) : Option ((Int32 × Int32) ⊕ (Int32)) := bnd t_23 (fun v5_25 => bnd (v6_22 + 1) (fun v6_26 => some (.inl (v5_25, v6_26))))
def s_X10_common_67_20 (M_11 : OV) (v2_3 : Int32) (v4_17 : Int32) : (Int32 × Int32) → Option ((Int32 × Int32) ⊕ (Int32)) := un2 (fun v5_21 v6_22 => (if v2_3 ≤ v6_22 then some (.inr v5_21) else (if v5_21 = 0 then gd (ix v6_22 41) (gd (ix v4_17 41) ((if (ar M_11 28 v6_22.toNatClampNeg) = (ar M_11 24 v4_17.toNatClampNeg) then j_X10_common_100_24 v6_22 (1 : Int32) else j_X10_common_100_24 v6_22 (0 : Int32)))) else some (.inr v5_21))))
def j_X10_common_132_29 (v4_17 : Int32) (v3_28 : Int32) : Option ((Int32 × Int32) ⊕ ((Int32) ⊕ (Int32 × OV))) := bnd (v4_17 + 1) (fun v4_30 => some (.inl (v3_28, v4_30)))
def s_X10_common_52_15 (M_11 : OV) (p0 : Int32) (v2_3 : Int32) : (Int32 × Int32) → Option ((Int32 × Int32) ⊕ ((Int32) ⊕ (Int32 × OV))) := un2 (fun v3_16 v4_17 => (if (iv M_11 25) ≤ v4_17 then some (.inr (.inl v3_16)) else bnd (0 : Int32) (fun v5_18 => bnd (0 : Int32) (fun v6_19 => ((lp (s_X10_common_67_20 M_11 v2_3 v4_17) 5000 (v5_18, v6_19)).bind (un1 (fun v5_27 => (if v5_27 = 0 then j_X10_common_132_29 v4_17 v3_16 else (if v3_16 = p0 then gd (ix v4_17 41) (some (.inr (.inr ((ar M_11 24 v4_17.toNatClampNeg), M_11)))) else bnd (v3_16 + 1) (fun v3_31 => j_X10_common_132_29 v4_17 v3_31))))))))))
def f_X10_common (M : OV) (p0 : Int32) : Option (Int32 × OV) := (if (-1 : Int32) ≤ p0 then (f_X10_laysLines M (1 : Int32)).bind (un1 (fun M_1 => bnd (iv M_1 25) (fun v2_3 => bnd (0 : Int32) (fun v3_4 => ((lp (s_X10_common_19_5 v2_3) 5000 (v3_4, M_1)).bind (un1 (fun M_10 => (f_X10_laysLines M_10 (0 : Int32)).bind (un1 (fun M_11 => bnd (0 : Int32) (fun v3_13 => bnd (0 : Int32) (fun v4_14 => ((lp (s_X10_common_52_15 M_11 p0 v2_3) 5000 (v3_13, v4_14)).bind (Sum.elim (un1 (fun v3_32 => (if p0 = (-1 : Int32) then some (v3_32, M_11) else some ((-2 : Int32), M_11)))) (fun r => some r)))))))))))))) else some ((-1 : Int32), M))
def r_X10_common : Room := { frames := 7, cells := 0, slots := 0, locals := 169 }
set_option maxHeartbeats 4000000 in
set_option maxRecDepth 100000 in
theorem c_X10_common (l : Launch) (D : va_G) (ev : EvT) (cy : Nat → ClassId) (oM : Nat) (aM : Nat → Nat) (M : OV) (p0 : Int32) (o : Int32 × OV) (hf : f_X10_common M p0 = some o) : Fn l yX10_common cX10_common 7 (some .int) r_X10_common D ev cy [.ref oM, .int p0] [gX10 cy oM aM M] (fun v G => v = some (.int o.1) ∧ G = [gX10 cy oM aM o.2]) := by
  refine Fn_of (by decide) (Nat.le_of_ble_eq_true rfl) (fun X A Q h hQ _ => ?_)
  unfold f_X10_common at hf
  show ww X D A 7 Q 0 0 0 [(0, .ref oM), (1, .int p0)] [] [gX10 cy oM aM M]
  refine ww_iload_n h dX10_common_0 rfl 1 rfl 1 rfl ?_
  refine ww_iconst (v := (-1)) h dX10_common_1 (by decide) 2 rfl ?_
  refine ww_icmp_ge h dX10_common_2 7 (by decide) 5 rfl (fun c => ?_) (fun c => ?_)
  · replace hf := ite_t c hf
    refine ww_aload_n h dX10_common_7 rfl 0 rfl 8 rfl ?_
    refine ww_iconst (v := 1) h dX10_common_8 (by decide) 9 rfl ?_
    obtain ⟨M_1, hu2, hf⟩ := ob1 hf
    refine ww_cVv h (c_X10_laysLines l D ev cy oM aM M (1 : Int32) _ hu2) ⟨w_1496, w_1493, w_1495, w_56, w_111, ok_X10_laysLines⟩ ⟨by decide, by decide⟩ ⟨by decide, by decide⟩ ⟨rfl, rfl⟩ [0] rfl 0 rfl rfl rfl rfl (Nat.le_of_ble_eq_true rfl) dX10_common_9 12 rfl (Gs' := [gX10 cy oM aM M_1]) rfl ?_
    clear hu2
    refine ww_aload_n h dX10_common_12 rfl 0 rfl 13 rfl ?_
    refine ww_get h inG10 rfl 0 rfl rfl 25 (by decide) w_1182 rfl dX10_common_13 16 rfl ?_
    refine ww_ist_n h dX10_common_16 rfl (by decide) (fun v2_3 => [(2, .int v2_3), (0, .ref oM), (1, .int p0)]) (fun _ => rfl) 17 rfl (fun v2_3 e => ?_)
    replace hf := bnd_at e hf
    clear e
    refine ww_iconst (v := 0) h dX10_common_17 (by decide) 18 rfl ?_
    refine ww_ist_n h dX10_common_18 rfl (by decide) (fun v3_4 => [(3, .int v3_4), (2, .int v2_3), (0, .ref oM), (1, .int p0)]) (fun _ => rfl) 19 rfl (fun v3_4 e => ?_)
    replace hf := bnd_at e hf
    clear e
    refine ww_lo [2, 3, 1, 0] (lo' := [(0, .ref oM), (1, .int p0), (2, .int v2_3), (3, .int v3_4)]) rfl ?_
    obtain ⟨M_10, h5, hf⟩ := ob1 hf
    refine lp_walk (un2 (fun v3_6 M_7 => ww X D A 7 Q 0 0 19 [(0, .ref oM), (1, .int p0), (2, .int v2_3), (3, .int v3_6)] [] [gX10 cy oM aM M_7])) (un1 (fun M_10 => ww X D A 7 Q 0 0 42 [(0, .ref oM), (1, .int p0), (2, .int v2_3)] [] [gX10 cy oM aM M_10])) ?_ _ _ _ h5 ?_
    · clear h5 hf
      intro s5 o5 hf hI5 hE5
      obtain ⟨v3_6, M_7⟩ := s5
      unfold s_X10_common_19_5 at hf
      replace hf := un2_e hf
      show ww X D A 7 Q 0 0 19 [(0, .ref oM), (1, .int p0), (2, .int v2_3), (3, .int v3_6)] [] [gX10 cy oM aM M_7]
      refine ww_iload_n h dX10_common_19 rfl 3 rfl 20 rfl ?_
      refine ww_iload_n h dX10_common_20 rfl 2 rfl 21 rfl ?_
      refine ww_icmp_ge h dX10_common_21 42 (by decide) 24 rfl (fun c => ?_) (fun c => ?_)
      · replace hf := ite_t c hf
        refine ww_lo [0, 1, 2] (lo' := [(0, .ref oM), (1, .int p0), (2, .int v2_3)]) rfl ?_
        exact hE5 M_7 (Option.some.inj hf).symm
      · replace hf := ite_f c hf
        refine ww_aload_n h dX10_common_24 rfl 0 rfl 25 rfl ?_
        refine ww_get h inG10 rfl 0 rfl rfl 28 (by decide) w_1185 rfl dX10_common_25 28 rfl ?_
        refine ww_iload_n h dX10_common_28 rfl 3 rfl 29 rfl ?_
        refine ww_aload_n h dX10_common_29 rfl 0 rfl 30 rfl ?_
        refine ww_get h inG10 rfl 0 rfl rfl 24 (by decide) w_1181 rfl dX10_common_30 33 rfl ?_
        refine ww_iload_n h dX10_common_33 rfl 3 rfl 34 rfl ?_
        have hi := (gd_some hf).1
        replace hf := (gd_some hf).2
        refine ww_iald h 0 rfl 16 rfl (ix_in hi) dX10_common_34 35 rfl ?_
        clear hi
        have hi := (gd_some hf).1
        replace hf := (gd_some hf).2
        refine ww_iast h 0 rfl 19 rfl (ix_in hi) dX10_common_35 36 rfl ?_
        clear hi
        refine ww_nm (fun z => [gX10 cy oM aM z]) (sA M_7 28 v3_6.toNatClampNeg (ar M_7 24 v3_6.toNatClampNeg)) (fun M_8 e => ?_)
        replace hf := bnd_at e hf
        clear e
        refine ww_inc (c := 1) h dX10_common_36 3 rfl (by decide) (by decide) (fun v3_9 => [(3, .int v3_9), (0, .ref oM), (1, .int p0), (2, .int v2_3)]) (fun _ => rfl) 39 rfl (fun v3_9 e => ?_)
        replace hf := bnd_at e hf
        clear e
        refine ww_goto h dX10_common_39 19 (by decide) ?_
        refine ww_lo [1, 2, 3, 0] (lo' := [(0, .ref oM), (1, .int p0), (2, .int v2_3), (3, .int v3_9)]) rfl ?_
        exact hI5 (v3_9, M_8) (Option.some.inj hf).symm
    · clear h5
      show ww X D A 7 Q 0 0 42 [(0, .ref oM), (1, .int p0), (2, .int v2_3)] [] [gX10 cy oM aM M_10]
      refine ww_aload_n h dX10_common_42 rfl 0 rfl 43 rfl ?_
      refine ww_iconst (v := 0) h dX10_common_43 (by decide) 44 rfl ?_
      obtain ⟨M_11, hu12, hf⟩ := ob1 hf
      refine ww_cVv h (c_X10_laysLines l D ev cy oM aM M_10 (0 : Int32) _ hu12) ⟨w_1496, w_1493, w_1495, w_56, w_111, ok_X10_laysLines⟩ ⟨by decide, by decide⟩ ⟨by decide, by decide⟩ ⟨rfl, rfl⟩ [0] rfl 0 rfl rfl rfl rfl (Nat.le_of_ble_eq_true rfl) dX10_common_44 47 rfl (Gs' := [gX10 cy oM aM M_11]) rfl ?_
      clear hu12
      refine ww_iconst (v := 0) h dX10_common_47 (by decide) 48 rfl ?_
      refine ww_ist_n h dX10_common_48 rfl (by decide) (fun v3_13 => [(3, .int v3_13), (0, .ref oM), (1, .int p0), (2, .int v2_3)]) (fun _ => rfl) 49 rfl (fun v3_13 e => ?_)
      replace hf := bnd_at e hf
      clear e
      refine ww_iconst (v := 0) h dX10_common_49 (by decide) 50 rfl ?_
      refine ww_ist h dX10_common_50 (by decide) (fun v4_14 => [(4, .int v4_14), (3, .int v3_13), (0, .ref oM), (1, .int p0), (2, .int v2_3)]) (fun _ => rfl) 52 rfl (fun v4_14 e => ?_)
      replace hf := bnd_at e hf
      clear e
      refine ww_lo [2, 3, 4, 1, 0] (lo' := [(0, .ref oM), (1, .int p0), (2, .int v2_3), (3, .int v3_13), (4, .int v4_14)]) rfl ?_
      obtain ⟨x15, h15, hf⟩ := ob_some hf
      refine lp_walk (un2 (fun v3_16 v4_17 => ww X D A 7 Q 0 0 52 [(0, .ref oM), (1, .int p0), (2, .int v2_3), (3, .int v3_16), (4, .int v4_17)] [] [gX10 cy oM aM M_11])) (Sum.elim (un1 (fun v3_32 => ww X D A 7 Q 0 0 138 [(1, .int p0), (3, .int v3_32)] [] [gX10 cy oM aM M_11])) (fun r => r = o)) ?_ _ _ _ h15 ?_
      · clear h15 hf
        intro s15 o15 hf hI15 hE15
        obtain ⟨v3_16, v4_17⟩ := s15
        unfold s_X10_common_52_15 at hf
        replace hf := un2_e hf
        show ww X D A 7 Q 0 0 52 [(0, .ref oM), (1, .int p0), (2, .int v2_3), (3, .int v3_16), (4, .int v4_17)] [] [gX10 cy oM aM M_11]
        refine ww_iload h dX10_common_52 4 rfl 54 rfl ?_
        refine ww_aload_n h dX10_common_54 rfl 0 rfl 55 rfl ?_
        refine ww_get h inG10 rfl 0 rfl rfl 25 (by decide) w_1182 rfl dX10_common_55 58 rfl ?_
        refine ww_icmp_ge h dX10_common_58 138 (by decide) 61 rfl (fun c => ?_) (fun c => ?_)
        · replace hf := ite_t c hf
          refine ww_lo [1, 3] (lo' := [(1, .int p0), (3, .int v3_16)]) rfl ?_
          exact hE15 (.inl v3_16) (Option.some.inj hf).symm
        · replace hf := ite_f c hf
          refine ww_iconst (v := 0) h dX10_common_61 (by decide) 62 rfl ?_
          refine ww_ist h dX10_common_62 (by decide) (fun v5_18 => [(5, .int v5_18), (0, .ref oM), (1, .int p0), (2, .int v2_3), (3, .int v3_16), (4, .int v4_17)]) (fun _ => rfl) 64 rfl (fun v5_18 e => ?_)
          replace hf := bnd_at e hf
          clear e
          refine ww_iconst (v := 0) h dX10_common_64 (by decide) 65 rfl ?_
          refine ww_ist h dX10_common_65 (by decide) (fun v6_19 => [(6, .int v6_19), (5, .int v5_18), (0, .ref oM), (1, .int p0), (2, .int v2_3), (3, .int v3_16), (4, .int v4_17)]) (fun _ => rfl) 67 rfl (fun v6_19 e => ?_)
          replace hf := bnd_at e hf
          clear e
          refine ww_lo [2, 3, 4, 5, 6, 1, 0] (lo' := [(0, .ref oM), (1, .int p0), (2, .int v2_3), (3, .int v3_16), (4, .int v4_17), (5, .int v5_18), (6, .int v6_19)]) rfl ?_
          obtain ⟨v5_27, h20, hf⟩ := ob1 hf
          refine lp_walk (un2 (fun v5_21 v6_22 => ww X D A 7 Q 0 0 67 [(0, .ref oM), (1, .int p0), (2, .int v2_3), (3, .int v3_16), (4, .int v4_17), (5, .int v5_21), (6, .int v6_22)] [] [gX10 cy oM aM M_11])) (un1 (fun v5_27 => ww X D A 7 Q 0 0 108 [(0, .ref oM), (1, .int p0), (2, .int v2_3), (3, .int v3_16), (4, .int v4_17), (5, .int v5_27)] [] [gX10 cy oM aM M_11])) ?_ _ _ _ h20 ?_
          · clear h20 hf
            intro s20 o20 hf hI20 hE20
            obtain ⟨v5_21, v6_22⟩ := s20
            unfold s_X10_common_67_20 at hf
            replace hf := un2_e hf
            show ww X D A 7 Q 0 0 67 [(0, .ref oM), (1, .int p0), (2, .int v2_3), (3, .int v3_16), (4, .int v4_17), (5, .int v5_21), (6, .int v6_22)] [] [gX10 cy oM aM M_11]
            refine ww_iload h dX10_common_67 6 rfl 69 rfl ?_
            refine ww_iload_n h dX10_common_69 rfl 2 rfl 70 rfl ?_
            refine ww_icmp_ge h dX10_common_70 108 (by decide) 73 rfl (fun c => ?_) (fun c => ?_)
            · replace hf := ite_t c hf
              refine ww_lo [0, 1, 2, 3, 4, 5] (lo' := [(0, .ref oM), (1, .int p0), (2, .int v2_3), (3, .int v3_16), (4, .int v4_17), (5, .int v5_21)]) rfl ?_
              exact hE20 v5_21 (Option.some.inj hf).symm
            · replace hf := ite_f c hf
              refine ww_iload h dX10_common_73 5 rfl 75 rfl ?_
              refine ww_if_ne h dX10_common_75 108 (by decide) 78 rfl (fun c => ?_) (fun c => ?_)
              · replace hf := ite_f c hf
                refine ww_lo [0, 1, 2, 3, 4, 5] (lo' := [(0, .ref oM), (1, .int p0), (2, .int v2_3), (3, .int v3_16), (4, .int v4_17), (5, .int v5_21)]) rfl ?_
                exact hE20 v5_21 (Option.some.inj hf).symm
              · replace hf := ite_t c hf
                refine ww_aload_n h dX10_common_78 rfl 0 rfl 79 rfl ?_
                refine ww_get h inG10 rfl 0 rfl rfl 28 (by decide) w_1185 rfl dX10_common_79 82 rfl ?_
                refine ww_iload h dX10_common_82 6 rfl 84 rfl ?_
                have hi := (gd_some hf).1
                replace hf := (gd_some hf).2
                refine ww_iald h 0 rfl 19 rfl (ix_in hi) dX10_common_84 85 rfl ?_
                clear hi
                refine ww_aload_n h dX10_common_85 rfl 0 rfl 86 rfl ?_
                refine ww_get h inG10 rfl 0 rfl rfl 24 (by decide) w_1181 rfl dX10_common_86 89 rfl ?_
                refine ww_iload h dX10_common_89 4 rfl 91 rfl ?_
                have hi := (gd_some hf).1
                replace hf := (gd_some hf).2
                refine ww_iald h 0 rfl 16 rfl (ix_in hi) dX10_common_91 92 rfl ?_
                clear hi
                have hJ100_24 : ∀ (t_23 : Int32), j_X10_common_100_24 v6_22 t_23 = some o20 → ww X D A 7 Q 0 0 100 [(0, .ref oM), (1, .int p0), (2, .int v2_3), (3, .int v3_16), (4, .int v4_17), (6, .int v6_22)] [.int t_23] [gX10 cy oM aM M_11] := by
                  intro t_23 hf
                  unfold j_X10_common_100_24 at hf
                  refine ww_ist h dX10_common_100 (by decide) (fun v5_25 => [(5, .int v5_25), (0, .ref oM), (1, .int p0), (2, .int v2_3), (3, .int v3_16), (4, .int v4_17), (6, .int v6_22)]) (fun _ => rfl) 102 rfl (fun v5_25 e => ?_)
                  replace hf := bnd_at e hf
                  clear e
                  refine ww_inc (c := 1) h dX10_common_102 6 rfl (by decide) (by decide) (fun v6_26 => [(6, .int v6_26), (5, .int v5_25), (0, .ref oM), (1, .int p0), (2, .int v2_3), (3, .int v3_16), (4, .int v4_17)]) (fun _ => rfl) 105 rfl (fun v6_26 e => ?_)
                  replace hf := bnd_at e hf
                  clear e
                  refine ww_goto h dX10_common_105 67 (by decide) ?_
                  refine ww_lo [2, 3, 4, 5, 6, 1, 0] (lo' := [(0, .ref oM), (1, .int p0), (2, .int v2_3), (3, .int v3_16), (4, .int v4_17), (5, .int v5_25), (6, .int v6_26)]) rfl ?_
                  exact hI20 (v5_25, v6_26) (Option.some.inj hf).symm
                refine ww_icmp_ne h dX10_common_92 99 (by decide) 95 rfl (fun c => ?_) (fun c => ?_)
                · replace hf := ite_f c hf
                  refine ww_iconst (v := 0) h dX10_common_99 (by decide) 100 rfl ?_
                  refine ww_lo [0, 1, 2, 3, 4, 6] (lo' := [(0, .ref oM), (1, .int p0), (2, .int v2_3), (3, .int v3_16), (4, .int v4_17), (6, .int v6_22)]) rfl ?_
                  exact hJ100_24 (0 : Int32) hf
                · replace hf := ite_t c hf
                  refine ww_iconst (v := 1) h dX10_common_95 (by decide) 96 rfl ?_
                  refine ww_goto h dX10_common_96 100 (by decide) ?_
                  refine ww_lo [0, 1, 2, 3, 4, 6] (lo' := [(0, .ref oM), (1, .int p0), (2, .int v2_3), (3, .int v3_16), (4, .int v4_17), (6, .int v6_22)]) rfl ?_
                  exact hJ100_24 (1 : Int32) hf
          · clear h20
            show ww X D A 7 Q 0 0 108 [(0, .ref oM), (1, .int p0), (2, .int v2_3), (3, .int v3_16), (4, .int v4_17), (5, .int v5_27)] [] [gX10 cy oM aM M_11]
            refine ww_iload h dX10_common_108 5 rfl 110 rfl ?_
            have hJ132_29 : ∀ (v3_28 : Int32), j_X10_common_132_29 v4_17 v3_28 = some o15 → ww X D A 7 Q 0 0 132 [(0, .ref oM), (1, .int p0), (2, .int v2_3), (3, .int v3_28), (4, .int v4_17)] [] [gX10 cy oM aM M_11] := by
              intro v3_28 hf
              unfold j_X10_common_132_29 at hf
              refine ww_inc (c := 1) h dX10_common_132 4 rfl (by decide) (by decide) (fun v4_30 => [(4, .int v4_30), (0, .ref oM), (1, .int p0), (2, .int v2_3), (3, .int v3_28)]) (fun _ => rfl) 135 rfl (fun v4_30 e => ?_)
              replace hf := bnd_at e hf
              clear e
              refine ww_goto h dX10_common_135 52 (by decide) ?_
              refine ww_lo [1, 2, 3, 4, 0] (lo' := [(0, .ref oM), (1, .int p0), (2, .int v2_3), (3, .int v3_28), (4, .int v4_30)]) rfl ?_
              exact hI15 (v3_28, v4_30) (Option.some.inj hf).symm
            refine ww_if_ne h dX10_common_110 116 (by decide) 113 rfl (fun c => ?_) (fun c => ?_)
            · replace hf := ite_f c hf
              refine ww_iload_n h dX10_common_116 rfl 3 rfl 117 rfl ?_
              refine ww_iload_n h dX10_common_117 rfl 1 rfl 118 rfl ?_
              refine ww_icmp_ne h dX10_common_118 129 (by decide) 121 rfl (fun c => ?_) (fun c => ?_)
              · replace hf := ite_f c hf
                refine ww_inc (c := 1) h dX10_common_129 3 rfl (by decide) (by decide) (fun v3_31 => [(3, .int v3_31), (0, .ref oM), (1, .int p0), (2, .int v2_3), (4, .int v4_17), (5, .int v5_27)]) (fun _ => rfl) 132 rfl (fun v3_31 e => ?_)
                replace hf := bnd_at e hf
                clear e
                refine ww_lo [1, 2, 3, 0, 4] (lo' := [(0, .ref oM), (1, .int p0), (2, .int v2_3), (3, .int v3_31), (4, .int v4_17)]) rfl ?_
                exact hJ132_29 v3_31 hf
              · replace hf := ite_t c hf
                refine ww_aload_n h dX10_common_121 rfl 0 rfl 122 rfl ?_
                refine ww_get h inG10 rfl 0 rfl rfl 24 (by decide) w_1181 rfl dX10_common_122 125 rfl ?_
                refine ww_iload h dX10_common_125 4 rfl 127 rfl ?_
                have hi := (gd_some hf).1
                replace hf := (gd_some hf).2
                refine ww_iald h 0 rfl 16 rfl (ix_in hi) dX10_common_127 128 rfl ?_
                clear hi
                obtain rfl := hE15 (.inr ((ar M_11 24 v4_17.toNatClampNeg), M_11)) (Option.some.inj hf).symm
                exact ww_iret h dX10_common_128 hQ ⟨rfl, rfl⟩
            · replace hf := ite_t c hf
              refine ww_goto h dX10_common_113 132 (by decide) ?_
              refine ww_lo [0, 1, 2, 3, 4] (lo' := [(0, .ref oM), (1, .int p0), (2, .int v2_3), (3, .int v3_16), (4, .int v4_17)]) rfl ?_
              exact hJ132_29 v3_16 hf
      · clear h15
        rcases x15 with x15 | x15
        · replace hf := sel_l hf
          obtain ⟨v3_32, rfl⟩ : ∃ z, z = x15 := ⟨_, rfl⟩
          replace hf := un1_e hf
          show ww X D A 7 Q 0 0 138 [(1, .int p0), (3, .int v3_32)] [] [gX10 cy oM aM M_11]
          refine ww_iload_n h dX10_common_138 rfl 0 rfl 139 rfl ?_
          refine ww_iconst (v := (-1)) h dX10_common_139 (by decide) 140 rfl ?_
          refine ww_icmp_ne h dX10_common_140 147 (by decide) 143 rfl (fun c => ?_) (fun c => ?_)
          · replace hf := ite_f c hf
            refine ww_bipush (v := (-2)) h dX10_common_147 (by decide) 149 rfl ?_
            obtain rfl := Option.some.inj hf
            exact ww_iret h dX10_common_149 hQ ⟨rfl, rfl⟩
          · replace hf := ite_t c hf
            refine ww_iload_n h dX10_common_143 rfl 1 rfl 144 rfl ?_
            refine ww_goto h dX10_common_144 149 (by decide) ?_
            obtain rfl := Option.some.inj hf
            exact ww_iret h dX10_common_149 hQ ⟨rfl, rfl⟩
        · replace hf := sel_r hf
          exact Option.some.inj hf
  · replace hf := ite_f c hf
    refine ww_iconst (v := (-1)) h dX10_common_5 (by decide) 6 rfl ?_
    obtain rfl := Option.some.inj hf
    exact ww_iret h dX10_common_6 hQ ⟨rfl, rfl⟩
theorem dX10_same_0 : decode cX10_same 0 = .ok (.iload_n 1, 1) := by decide +kernel
theorem dX10_same_1 : decode cX10_same 1 = .ok (.invokestatic 255, 3) := by decide +kernel
theorem dX10_same_4 : decode cX10_same 4 = .ok (.ifCond .eq 10, 3) := by decide +kernel
theorem dX10_same_7 : decode cX10_same 7 = .ok (.iload_n 2, 1) := by decide +kernel
theorem dX10_same_8 : decode cX10_same 8 = .ok (.invokestatic 255, 3) := by decide +kernel
theorem dX10_same_11 : decode cX10_same 11 = .ok (.ifCond .ne 5, 3) := by decide +kernel
theorem dX10_same_14 : decode cX10_same 14 = .ok (.iconst (-1), 1) := by decide +kernel
theorem dX10_same_15 : decode cX10_same 15 = .ok (.ireturn, 1) := by decide +kernel
theorem dX10_same_16 : decode cX10_same 16 = .ok (.aload_n 0, 1) := by decide +kernel
theorem dX10_same_17 : decode cX10_same 17 = .ok (.iload_n 2, 1) := by decide +kernel
theorem dX10_same_18 : decode cX10_same 18 = .ok (.invokevirtual 258, 3) := by decide +kernel
theorem dX10_same_21 : decode cX10_same 21 = .ok (.aload_n 0, 1) := by decide +kernel
theorem dX10_same_22 : decode cX10_same 22 = .ok (.getfield 246, 3) := by decide +kernel
theorem dX10_same_25 : decode cX10_same 25 = .ok (.istore_n 3, 1) := by decide +kernel
theorem dX10_same_26 : decode cX10_same 26 = .ok (.iconst 0, 1) := by decide +kernel
theorem dX10_same_27 : decode cX10_same 27 = .ok (.istore 4, 2) := by decide +kernel
theorem dX10_same_29 : decode cX10_same 29 = .ok (.iload 4, 2) := by decide +kernel
theorem dX10_same_31 : decode cX10_same 31 = .ok (.iload_n 3, 1) := by decide +kernel
theorem dX10_same_32 : decode cX10_same 32 = .ok (.if_icmp .ge 23, 3) := by decide +kernel
theorem dX10_same_35 : decode cX10_same 35 = .ok (.aload_n 0, 1) := by decide +kernel
theorem dX10_same_36 : decode cX10_same 36 = .ok (.getfield 69, 3) := by decide +kernel
theorem dX10_same_39 : decode cX10_same 39 = .ok (.iload 4, 2) := by decide +kernel
theorem dX10_same_41 : decode cX10_same 41 = .ok (.aload_n 0, 1) := by decide +kernel
theorem dX10_same_42 : decode cX10_same 42 = .ok (.getfield 60, 3) := by decide +kernel
theorem dX10_same_45 : decode cX10_same 45 = .ok (.iload 4, 2) := by decide +kernel
theorem dX10_same_47 : decode cX10_same 47 = .ok (.iaload, 1) := by decide +kernel
theorem dX10_same_48 : decode cX10_same 48 = .ok (.iastore, 1) := by decide +kernel
theorem dX10_same_49 : decode cX10_same 49 = .ok (.iinc 4 1, 3) := by decide +kernel
theorem dX10_same_52 : decode cX10_same 52 = .ok (.goto (-23), 3) := by decide +kernel
theorem dX10_same_55 : decode cX10_same 55 = .ok (.aload_n 0, 1) := by decide +kernel
theorem dX10_same_56 : decode cX10_same 56 = .ok (.iload_n 1, 1) := by decide +kernel
theorem dX10_same_57 : decode cX10_same 57 = .ok (.invokevirtual 258, 3) := by decide +kernel
theorem dX10_same_60 : decode cX10_same 60 = .ok (.iconst 0, 1) := by decide +kernel
theorem dX10_same_61 : decode cX10_same 61 = .ok (.istore 4, 2) := by decide +kernel
theorem dX10_same_63 : decode cX10_same 63 = .ok (.iconst 0, 1) := by decide +kernel
theorem dX10_same_64 : decode cX10_same 64 = .ok (.istore 5, 2) := by decide +kernel
theorem dX10_same_66 : decode cX10_same 66 = .ok (.iload 5, 2) := by decide +kernel
theorem dX10_same_68 : decode cX10_same 68 = .ok (.aload_n 0, 1) := by decide +kernel
theorem dX10_same_69 : decode cX10_same 69 = .ok (.getfield 246, 3) := by decide +kernel
theorem dX10_same_72 : decode cX10_same 72 = .ok (.if_icmp .ge 77, 3) := by decide +kernel
theorem dX10_same_75 : decode cX10_same 75 = .ok (.iconst 0, 1) := by decide +kernel
theorem dX10_same_76 : decode cX10_same 76 = .ok (.istore 6, 2) := by decide +kernel
theorem dX10_same_78 : decode cX10_same 78 = .ok (.iload 6, 2) := by decide +kernel
theorem dX10_same_80 : decode cX10_same 80 = .ok (.iload_n 3, 1) := by decide +kernel
theorem dX10_same_81 : decode cX10_same 81 = .ok (.if_icmp .ge 62, 3) := by decide +kernel
theorem dX10_same_84 : decode cX10_same 84 = .ok (.iload 6, 2) := by decide +kernel
theorem dX10_same_86 : decode cX10_same 86 = .ok (.ifCond .ne 7, 3) := by decide +kernel
theorem dX10_same_89 : decode cX10_same 89 = .ok (.iconst 0, 1) := by decide +kernel
theorem dX10_same_90 : decode cX10_same 90 = .ok (.goto 14, 3) := by decide +kernel
theorem dX10_same_93 : decode cX10_same 93 = .ok (.aload_n 0, 1) := by decide +kernel
theorem dX10_same_94 : decode cX10_same 94 = .ok (.getfield 69, 3) := by decide +kernel
theorem dX10_same_97 : decode cX10_same 97 = .ok (.iload 6, 2) := by decide +kernel
theorem dX10_same_99 : decode cX10_same 99 = .ok (.iconst 1, 1) := by decide +kernel
theorem dX10_same_100 : decode cX10_same 100 = .ok (.isub, 1) := by decide +kernel
theorem dX10_same_101 : decode cX10_same 101 = .ok (.iaload, 1) := by decide +kernel
theorem dX10_same_102 : decode cX10_same 102 = .ok (.iconst 1, 1) := by decide +kernel
theorem dX10_same_103 : decode cX10_same 103 = .ok (.iadd, 1) := by decide +kernel
theorem dX10_same_104 : decode cX10_same 104 = .ok (.istore 7, 2) := by decide +kernel
theorem dX10_same_106 : decode cX10_same 106 = .ok (.aload_n 0, 1) := by decide +kernel
theorem dX10_same_107 : decode cX10_same 107 = .ok (.getfield 69, 3) := by decide +kernel
theorem dX10_same_110 : decode cX10_same 110 = .ok (.iload 6, 2) := by decide +kernel
theorem dX10_same_112 : decode cX10_same 112 = .ok (.iaload, 1) := by decide +kernel
theorem dX10_same_113 : decode cX10_same 113 = .ok (.aload_n 0, 1) := by decide +kernel
theorem dX10_same_114 : decode cX10_same 114 = .ok (.getfield 60, 3) := by decide +kernel
theorem dX10_same_117 : decode cX10_same 117 = .ok (.iload 5, 2) := by decide +kernel
theorem dX10_same_119 : decode cX10_same 119 = .ok (.iaload, 1) := by decide +kernel
theorem dX10_same_120 : decode cX10_same 120 = .ok (.if_icmp .ne 17, 3) := by decide +kernel
theorem dX10_same_123 : decode cX10_same 123 = .ok (.iload 7, 2) := by decide +kernel
theorem dX10_same_125 : decode cX10_same 125 = .ok (.aload_n 0, 1) := by decide +kernel
theorem dX10_same_126 : decode cX10_same 126 = .ok (.iload 5, 2) := by decide +kernel
theorem dX10_same_128 : decode cX10_same 128 = .ok (.invokevirtual 261, 3) := by decide +kernel
theorem dX10_same_131 : decode cX10_same 131 = .ok (.if_icmp .ne 6, 3) := by decide +kernel
theorem dX10_same_134 : decode cX10_same 134 = .ok (.iinc 4 1, 3) := by decide +kernel
theorem dX10_same_137 : decode cX10_same 137 = .ok (.iinc 6 1, 3) := by decide +kernel
theorem dX10_same_140 : decode cX10_same 140 = .ok (.goto (-62), 3) := by decide +kernel
theorem dX10_same_143 : decode cX10_same 143 = .ok (.iinc 5 1, 3) := by decide +kernel
theorem dX10_same_146 : decode cX10_same 146 = .ok (.goto (-80), 3) := by decide +kernel
theorem dX10_same_149 : decode cX10_same 149 = .ok (.iload 4, 2) := by decide +kernel
theorem dX10_same_151 : decode cX10_same 151 = .ok (.ireturn, 1) := by decide +kernel
theorem ok_X10_same : okY RX10 yX10_same 2 := ⟨rfl, by decide, by decide, by decide +kernel⟩
def s_X10_same_29_9 (v3_7 : Int32) : (Int32 × OV) → Option ((Int32 × OV) ⊕ (OV)) := un2 (fun v4_10 M_11 => (if v3_7 ≤ v4_10 then some (.inr M_11) else gd (ix v4_10 41) (gd (ix v4_10 41) (bnd (sA M_11 28 v4_10.toNatClampNeg (ar M_11 24 v4_10.toNatClampNeg)) (fun M_12 => bnd (v4_10 + 1) (fun v4_13 => some (.inl (v4_13, M_12))))))))
def j_X10_same_137_30 (v6_25 : Int32) (v4_29 : Int32) : Option ((Int32 × Int32) ⊕ (Int32)) := bnd (v6_25 + 1) (fun v6_31 => some (.inl (v4_29, v6_31)))
def j_X10_same_104_27 (M_15 : OV) (v5_21 : Int32) (v4_24 : Int32) (v6_25 : Int32) (t_26 : Int32) : Option ((Int32 × Int32) ⊕ (Int32)) := bnd t_26 (fun v7_28 => gd (ix v6_25 41) (gd (ix v5_21 41) ((if (ar M_15 28 v6_25.toNatClampNeg) = (ar M_15 24 v5_21.toNatClampNeg) then (f_X10_firstOf M_15 v5_21).bind (un1 (fun r_32 => (if v7_28 = r_32 then bnd (v4_24 + 1) (fun v4_34 => j_X10_same_137_30 v6_25 v4_34) else j_X10_same_137_30 v6_25 v4_24))) else j_X10_same_137_30 v6_25 v4_24))))
def s_X10_same_78_23 (M_15 : OV) (v3_7 : Int32) (v5_21 : Int32) : (Int32 × Int32) → Option ((Int32 × Int32) ⊕ (Int32)) := un2 (fun v4_24 v6_25 => (if v3_7 ≤ v6_25 then some (.inr v4_24) else (if v6_25 = 0 then j_X10_same_104_27 M_15 v5_21 v4_24 v6_25 (0 : Int32) else gd (ix (v6_25 - (1 : Int32)) 41) (j_X10_same_104_27 M_15 v5_21 v4_24 v6_25 ((ar M_15 28 (v6_25 - (1 : Int32)).toNatClampNeg) + (1 : Int32))))))
def s_X10_same_66_19 (M_15 : OV) (v3_7 : Int32) : (Int32 × Int32) → Option ((Int32 × Int32) ⊕ (Int32)) := un2 (fun v4_20 v5_21 => (if (iv M_15 25) ≤ v5_21 then some (.inr v4_20) else bnd (0 : Int32) (fun v6_22 => ((lp (s_X10_same_78_23 M_15 v3_7 v5_21) 5000 (v4_20, v6_22)).bind (un1 (fun v4_35 => bnd (v5_21 + 1) (fun v5_36 => some (.inl (v4_35, v5_36)))))))))
def f_X10_same (M : OV) (p0 : Int32) (p1 : Int32) : Option (Int32 × OV) := (f_X10_isKind p0).bind (un1 (fun r_1 => (if r_1 = 0 then some ((-1 : Int32), M) else (f_X10_isKind p1).bind (un1 (fun r_3 => (if r_3 = 0 then some ((-1 : Int32), M) else (f_X10_laysLines M p1).bind (un1 (fun M_5 => bnd (iv M_5 25) (fun v3_7 => bnd (0 : Int32) (fun v4_8 => ((lp (s_X10_same_29_9 v3_7) 5000 (v4_8, M_5)).bind (un1 (fun M_14 => (f_X10_laysLines M_14 p0).bind (un1 (fun M_15 => bnd (0 : Int32) (fun v4_17 => bnd (0 : Int32) (fun v5_18 => ((lp (s_X10_same_66_19 M_15 v3_7) 5000 (v4_17, v5_18)).bind (un1 (fun v4_37 => some (v4_37, M_15)))))))))))))))))))))
def r_X10_same : Room := { frames := 7, cells := 0, slots := 0, locals := 169 }
set_option maxHeartbeats 4000000 in
set_option maxRecDepth 100000 in
theorem c_X10_same (l : Launch) (D : va_G) (ev : EvT) (cy : Nat → ClassId) (oM : Nat) (aM : Nat → Nat) (M : OV) (p0 : Int32) (p1 : Int32) (o : Int32 × OV) (hf : f_X10_same M p0 p1 = some o) : Fn l yX10_same cX10_same 8 (some .int) r_X10_same D ev cy [.ref oM, .int p0, .int p1] [gX10 cy oM aM M] (fun v G => v = some (.int o.1) ∧ G = [gX10 cy oM aM o.2]) := by
  refine Fn_of (by decide) (Nat.le_of_ble_eq_true rfl) (fun X A Q h hQ _ => ?_)
  unfold f_X10_same at hf
  show ww X D A 8 Q 0 0 0 [(0, .ref oM), (1, .int p0), (2, .int p1)] [] [gX10 cy oM aM M]
  refine ww_iload_n h dX10_same_0 rfl 1 rfl 1 rfl ?_
  obtain ⟨r_1, hu2, hf⟩ := ob1 hf
  refine ww_cSi h (c_X10_isKind l D ev cy p0 _ hu2) ⟨w_1492, w_1490, w_1491, w_111, ok_X10_isKind⟩ ⟨by decide, by decide⟩ ⟨by decide, by decide⟩ ⟨rfl, rfl⟩ [] rfl rfl (Nat.le_of_ble_eq_true rfl) dX10_same_1 4 rfl (Gs' := [gX10 cy oM aM M]) rfl ?_
  clear hu2
  refine ww_if_eq h dX10_same_4 14 (by decide) 7 rfl (fun c => ?_) (fun c => ?_)
  · replace hf := ite_t c hf
    refine ww_iconst (v := (-1)) h dX10_same_14 (by decide) 15 rfl ?_
    obtain rfl := Option.some.inj hf
    exact ww_iret h dX10_same_15 hQ ⟨rfl, rfl⟩
  · replace hf := ite_f c hf
    refine ww_iload_n h dX10_same_7 rfl 2 rfl 8 rfl ?_
    obtain ⟨r_3, hu4, hf⟩ := ob1 hf
    refine ww_cSi h (c_X10_isKind l D ev cy p1 _ hu4) ⟨w_1492, w_1490, w_1491, w_111, ok_X10_isKind⟩ ⟨by decide, by decide⟩ ⟨by decide, by decide⟩ ⟨rfl, rfl⟩ [] rfl rfl (Nat.le_of_ble_eq_true rfl) dX10_same_8 11 rfl (Gs' := [gX10 cy oM aM M]) rfl ?_
    clear hu4
    refine ww_if_ne h dX10_same_11 16 (by decide) 14 rfl (fun c => ?_) (fun c => ?_)
    · replace hf := ite_f c hf
      refine ww_aload_n h dX10_same_16 rfl 0 rfl 17 rfl ?_
      refine ww_iload_n h dX10_same_17 rfl 2 rfl 18 rfl ?_
      obtain ⟨M_5, hu6, hf⟩ := ob1 hf
      refine ww_cVv h (c_X10_laysLines l D ev cy oM aM M p1 _ hu6) ⟨w_1496, w_1493, w_1495, w_56, w_111, ok_X10_laysLines⟩ ⟨by decide, by decide⟩ ⟨by decide, by decide⟩ ⟨rfl, rfl⟩ [0] rfl 0 rfl rfl rfl rfl (Nat.le_of_ble_eq_true rfl) dX10_same_18 21 rfl (Gs' := [gX10 cy oM aM M_5]) rfl ?_
      clear hu6
      refine ww_aload_n h dX10_same_21 rfl 0 rfl 22 rfl ?_
      refine ww_get h inG10 rfl 0 rfl rfl 25 (by decide) w_1182 rfl dX10_same_22 25 rfl ?_
      refine ww_ist_n h dX10_same_25 rfl (by decide) (fun v3_7 => [(3, .int v3_7), (0, .ref oM), (1, .int p0), (2, .int p1)]) (fun _ => rfl) 26 rfl (fun v3_7 e => ?_)
      replace hf := bnd_at e hf
      clear e
      refine ww_iconst (v := 0) h dX10_same_26 (by decide) 27 rfl ?_
      refine ww_ist h dX10_same_27 (by decide) (fun v4_8 => [(4, .int v4_8), (3, .int v3_7), (0, .ref oM), (1, .int p0), (2, .int p1)]) (fun _ => rfl) 29 rfl (fun v4_8 e => ?_)
      replace hf := bnd_at e hf
      clear e
      refine ww_lo [2, 3, 1, 0] (lo' := [(0, .ref oM), (1, .int p0), (3, .int v3_7), (4, .int v4_8)]) rfl ?_
      obtain ⟨M_14, h9, hf⟩ := ob1 hf
      refine lp_walk (un2 (fun v4_10 M_11 => ww X D A 8 Q 0 0 29 [(0, .ref oM), (1, .int p0), (3, .int v3_7), (4, .int v4_10)] [] [gX10 cy oM aM M_11])) (un1 (fun M_14 => ww X D A 8 Q 0 0 55 [(0, .ref oM), (1, .int p0), (3, .int v3_7)] [] [gX10 cy oM aM M_14])) ?_ _ _ _ h9 ?_
      · clear h9 hf
        intro s9 o9 hf hI9 hE9
        obtain ⟨v4_10, M_11⟩ := s9
        unfold s_X10_same_29_9 at hf
        replace hf := un2_e hf
        show ww X D A 8 Q 0 0 29 [(0, .ref oM), (1, .int p0), (3, .int v3_7), (4, .int v4_10)] [] [gX10 cy oM aM M_11]
        refine ww_iload h dX10_same_29 3 rfl 31 rfl ?_
        refine ww_iload_n h dX10_same_31 rfl 2 rfl 32 rfl ?_
        refine ww_icmp_ge h dX10_same_32 55 (by decide) 35 rfl (fun c => ?_) (fun c => ?_)
        · replace hf := ite_t c hf
          refine ww_lo [0, 1, 2] (lo' := [(0, .ref oM), (1, .int p0), (3, .int v3_7)]) rfl ?_
          exact hE9 M_11 (Option.some.inj hf).symm
        · replace hf := ite_f c hf
          refine ww_aload_n h dX10_same_35 rfl 0 rfl 36 rfl ?_
          refine ww_get h inG10 rfl 0 rfl rfl 28 (by decide) w_1185 rfl dX10_same_36 39 rfl ?_
          refine ww_iload h dX10_same_39 3 rfl 41 rfl ?_
          refine ww_aload_n h dX10_same_41 rfl 0 rfl 42 rfl ?_
          refine ww_get h inG10 rfl 0 rfl rfl 24 (by decide) w_1181 rfl dX10_same_42 45 rfl ?_
          refine ww_iload h dX10_same_45 3 rfl 47 rfl ?_
          have hi := (gd_some hf).1
          replace hf := (gd_some hf).2
          refine ww_iald h 0 rfl 16 rfl (ix_in hi) dX10_same_47 48 rfl ?_
          clear hi
          have hi := (gd_some hf).1
          replace hf := (gd_some hf).2
          refine ww_iast h 0 rfl 19 rfl (ix_in hi) dX10_same_48 49 rfl ?_
          clear hi
          refine ww_nm (fun z => [gX10 cy oM aM z]) (sA M_11 28 v4_10.toNatClampNeg (ar M_11 24 v4_10.toNatClampNeg)) (fun M_12 e => ?_)
          replace hf := bnd_at e hf
          clear e
          refine ww_inc (c := 1) h dX10_same_49 3 rfl (by decide) (by decide) (fun v4_13 => [(4, .int v4_13), (0, .ref oM), (1, .int p0), (3, .int v3_7)]) (fun _ => rfl) 52 rfl (fun v4_13 e => ?_)
          replace hf := bnd_at e hf
          clear e
          refine ww_goto h dX10_same_52 29 (by decide) ?_
          refine ww_lo [1, 2, 3, 0] (lo' := [(0, .ref oM), (1, .int p0), (3, .int v3_7), (4, .int v4_13)]) rfl ?_
          exact hI9 (v4_13, M_12) (Option.some.inj hf).symm
      · clear h9
        show ww X D A 8 Q 0 0 55 [(0, .ref oM), (1, .int p0), (3, .int v3_7)] [] [gX10 cy oM aM M_14]
        refine ww_aload_n h dX10_same_55 rfl 0 rfl 56 rfl ?_
        refine ww_iload_n h dX10_same_56 rfl 1 rfl 57 rfl ?_
        obtain ⟨M_15, hu16, hf⟩ := ob1 hf
        refine ww_cVv h (c_X10_laysLines l D ev cy oM aM M_14 p0 _ hu16) ⟨w_1496, w_1493, w_1495, w_56, w_111, ok_X10_laysLines⟩ ⟨by decide, by decide⟩ ⟨by decide, by decide⟩ ⟨rfl, rfl⟩ [0] rfl 0 rfl rfl rfl rfl (Nat.le_of_ble_eq_true rfl) dX10_same_57 60 rfl (Gs' := [gX10 cy oM aM M_15]) rfl ?_
        clear hu16
        refine ww_iconst (v := 0) h dX10_same_60 (by decide) 61 rfl ?_
        refine ww_ist h dX10_same_61 (by decide) (fun v4_17 => [(4, .int v4_17), (0, .ref oM), (1, .int p0), (3, .int v3_7)]) (fun _ => rfl) 63 rfl (fun v4_17 e => ?_)
        replace hf := bnd_at e hf
        clear e
        refine ww_iconst (v := 0) h dX10_same_63 (by decide) 64 rfl ?_
        refine ww_ist h dX10_same_64 (by decide) (fun v5_18 => [(5, .int v5_18), (4, .int v4_17), (0, .ref oM), (1, .int p0), (3, .int v3_7)]) (fun _ => rfl) 66 rfl (fun v5_18 e => ?_)
        replace hf := bnd_at e hf
        clear e
        refine ww_lo [2, 4, 1, 0] (lo' := [(0, .ref oM), (3, .int v3_7), (4, .int v4_17), (5, .int v5_18)]) rfl ?_
        obtain ⟨v4_37, h19, hf⟩ := ob1 hf
        refine lp_walk (un2 (fun v4_20 v5_21 => ww X D A 8 Q 0 0 66 [(0, .ref oM), (3, .int v3_7), (4, .int v4_20), (5, .int v5_21)] [] [gX10 cy oM aM M_15])) (un1 (fun v4_37 => ww X D A 8 Q 0 0 149 [(4, .int v4_37)] [] [gX10 cy oM aM M_15])) ?_ _ _ _ h19 ?_
        · clear h19 hf
          intro s19 o19 hf hI19 hE19
          obtain ⟨v4_20, v5_21⟩ := s19
          unfold s_X10_same_66_19 at hf
          replace hf := un2_e hf
          show ww X D A 8 Q 0 0 66 [(0, .ref oM), (3, .int v3_7), (4, .int v4_20), (5, .int v5_21)] [] [gX10 cy oM aM M_15]
          refine ww_iload h dX10_same_66 3 rfl 68 rfl ?_
          refine ww_aload_n h dX10_same_68 rfl 0 rfl 69 rfl ?_
          refine ww_get h inG10 rfl 0 rfl rfl 25 (by decide) w_1182 rfl dX10_same_69 72 rfl ?_
          refine ww_icmp_ge h dX10_same_72 149 (by decide) 75 rfl (fun c => ?_) (fun c => ?_)
          · replace hf := ite_t c hf
            refine ww_lo [2] (lo' := [(4, .int v4_20)]) rfl ?_
            exact hE19 v4_20 (Option.some.inj hf).symm
          · replace hf := ite_f c hf
            refine ww_iconst (v := 0) h dX10_same_75 (by decide) 76 rfl ?_
            refine ww_ist h dX10_same_76 (by decide) (fun v6_22 => [(6, .int v6_22), (0, .ref oM), (3, .int v3_7), (4, .int v4_20), (5, .int v5_21)]) (fun _ => rfl) 78 rfl (fun v6_22 e => ?_)
            replace hf := bnd_at e hf
            clear e
            refine ww_lo [1, 2, 3, 4, 0] (lo' := [(0, .ref oM), (3, .int v3_7), (4, .int v4_20), (5, .int v5_21), (6, .int v6_22)]) rfl ?_
            obtain ⟨v4_35, h23, hf⟩ := ob1 hf
            refine lp_walk (un2 (fun v4_24 v6_25 => ww X D A 8 Q 0 0 78 [(0, .ref oM), (3, .int v3_7), (4, .int v4_24), (5, .int v5_21), (6, .int v6_25)] [] [gX10 cy oM aM M_15])) (un1 (fun v4_35 => ww X D A 8 Q 0 0 143 [(0, .ref oM), (3, .int v3_7), (4, .int v4_35), (5, .int v5_21)] [] [gX10 cy oM aM M_15])) ?_ _ _ _ h23 ?_
            · clear h23 hf
              intro s23 o23 hf hI23 hE23
              obtain ⟨v4_24, v6_25⟩ := s23
              unfold s_X10_same_78_23 at hf
              replace hf := un2_e hf
              show ww X D A 8 Q 0 0 78 [(0, .ref oM), (3, .int v3_7), (4, .int v4_24), (5, .int v5_21), (6, .int v6_25)] [] [gX10 cy oM aM M_15]
              refine ww_iload h dX10_same_78 4 rfl 80 rfl ?_
              refine ww_iload_n h dX10_same_80 rfl 1 rfl 81 rfl ?_
              refine ww_icmp_ge h dX10_same_81 143 (by decide) 84 rfl (fun c => ?_) (fun c => ?_)
              · replace hf := ite_t c hf
                refine ww_lo [0, 1, 2, 3] (lo' := [(0, .ref oM), (3, .int v3_7), (4, .int v4_24), (5, .int v5_21)]) rfl ?_
                exact hE23 v4_24 (Option.some.inj hf).symm
              · replace hf := ite_f c hf
                refine ww_iload h dX10_same_84 4 rfl 86 rfl ?_
                have hJ104_27 : ∀ (t_26 : Int32), j_X10_same_104_27 M_15 v5_21 v4_24 v6_25 t_26 = some o23 → ww X D A 8 Q 0 0 104 [(0, .ref oM), (3, .int v3_7), (4, .int v4_24), (5, .int v5_21), (6, .int v6_25)] [.int t_26] [gX10 cy oM aM M_15] := by
                  intro t_26 hf
                  unfold j_X10_same_104_27 at hf
                  refine ww_ist h dX10_same_104 (by decide) (fun v7_28 => [(7, .int v7_28), (0, .ref oM), (3, .int v3_7), (4, .int v4_24), (5, .int v5_21), (6, .int v6_25)]) (fun _ => rfl) 106 rfl (fun v7_28 e => ?_)
                  replace hf := bnd_at e hf
                  clear e
                  refine ww_aload_n h dX10_same_106 rfl 1 rfl 107 rfl ?_
                  refine ww_get h inG10 rfl 0 rfl rfl 28 (by decide) w_1185 rfl dX10_same_107 110 rfl ?_
                  refine ww_iload h dX10_same_110 5 rfl 112 rfl ?_
                  have hi := (gd_some hf).1
                  replace hf := (gd_some hf).2
                  refine ww_iald h 0 rfl 19 rfl (ix_in hi) dX10_same_112 113 rfl ?_
                  clear hi
                  refine ww_aload_n h dX10_same_113 rfl 1 rfl 114 rfl ?_
                  refine ww_get h inG10 rfl 0 rfl rfl 24 (by decide) w_1181 rfl dX10_same_114 117 rfl ?_
                  refine ww_iload h dX10_same_117 4 rfl 119 rfl ?_
                  have hi := (gd_some hf).1
                  replace hf := (gd_some hf).2
                  refine ww_iald h 0 rfl 16 rfl (ix_in hi) dX10_same_119 120 rfl ?_
                  clear hi
                  have hJ137_30 : ∀ (v4_29 : Int32), j_X10_same_137_30 v6_25 v4_29 = some o23 → ww X D A 8 Q 0 0 137 [(0, .ref oM), (3, .int v3_7), (4, .int v4_29), (5, .int v5_21), (6, .int v6_25)] [] [gX10 cy oM aM M_15] := by
                    intro v4_29 hf
                    unfold j_X10_same_137_30 at hf
                    refine ww_inc (c := 1) h dX10_same_137 4 rfl (by decide) (by decide) (fun v6_31 => [(6, .int v6_31), (0, .ref oM), (3, .int v3_7), (4, .int v4_29), (5, .int v5_21)]) (fun _ => rfl) 140 rfl (fun v6_31 e => ?_)
                    replace hf := bnd_at e hf
                    clear e
                    refine ww_goto h dX10_same_140 78 (by decide) ?_
                    refine ww_lo [1, 2, 3, 4, 0] (lo' := [(0, .ref oM), (3, .int v3_7), (4, .int v4_29), (5, .int v5_21), (6, .int v6_31)]) rfl ?_
                    exact hI23 (v4_29, v6_31) (Option.some.inj hf).symm
                  refine ww_icmp_ne h dX10_same_120 137 (by decide) 123 rfl (fun c => ?_) (fun c => ?_)
                  · replace hf := ite_f c hf
                    refine ww_lo [1, 2, 3, 4, 5] (lo' := [(0, .ref oM), (3, .int v3_7), (4, .int v4_24), (5, .int v5_21), (6, .int v6_25)]) rfl ?_
                    exact hJ137_30 v4_24 hf
                  · replace hf := ite_t c hf
                    refine ww_iload h dX10_same_123 0 rfl 125 rfl ?_
                    refine ww_aload_n h dX10_same_125 rfl 1 rfl 126 rfl ?_
                    refine ww_iload h dX10_same_126 4 rfl 128 rfl ?_
                    obtain ⟨r_32, hu33, hf⟩ := ob1 hf
                    refine ww_cVi h (c_X10_firstOf l D ev cy oM aM M_15 v5_21 _ hu33) ⟨w_1525, w_1522, w_1524, w_63, w_111, ok_X10_firstOf⟩ ⟨by decide, by decide⟩ ⟨by decide, by decide⟩ ⟨rfl, rfl⟩ [0] rfl 0 rfl rfl rfl rfl (Nat.le_of_ble_eq_true rfl) dX10_same_128 131 rfl (Gs' := [gX10 cy oM aM M_15]) rfl ?_
                    clear hu33
                    refine ww_icmp_ne h dX10_same_131 137 (by decide) 134 rfl (fun c => ?_) (fun c => ?_)
                    · replace hf := ite_f c hf
                      refine ww_lo [1, 2, 3, 4, 5] (lo' := [(0, .ref oM), (3, .int v3_7), (4, .int v4_24), (5, .int v5_21), (6, .int v6_25)]) rfl ?_
                      exact hJ137_30 v4_24 hf
                    · replace hf := ite_t c hf
                      refine ww_inc (c := 1) h dX10_same_134 3 rfl (by decide) (by decide) (fun v4_34 => [(4, .int v4_34), (7, .int v7_28), (0, .ref oM), (3, .int v3_7), (5, .int v5_21), (6, .int v6_25)]) (fun _ => rfl) 137 rfl (fun v4_34 e => ?_)
                      replace hf := bnd_at e hf
                      clear e
                      refine ww_lo [2, 3, 0, 4, 5] (lo' := [(0, .ref oM), (3, .int v3_7), (4, .int v4_34), (5, .int v5_21), (6, .int v6_25)]) rfl ?_
                      exact hJ137_30 v4_34 hf
                refine ww_if_ne h dX10_same_86 93 (by decide) 89 rfl (fun c => ?_) (fun c => ?_)
                · replace hf := ite_f c hf
                  refine ww_aload_n h dX10_same_93 rfl 0 rfl 94 rfl ?_
                  refine ww_get h inG10 rfl 0 rfl rfl 28 (by decide) w_1185 rfl dX10_same_94 97 rfl ?_
                  refine ww_iload h dX10_same_97 4 rfl 99 rfl ?_
                  refine ww_iconst (v := 1) h dX10_same_99 (by decide) 100 rfl ?_
                  refine ww_isub h dX10_same_100 101 rfl ?_
                  have hi := (gd_some hf).1
                  replace hf := (gd_some hf).2
                  refine ww_iald h 0 rfl 19 rfl (ix_in hi) dX10_same_101 102 rfl ?_
                  clear hi
                  refine ww_iconst (v := 1) h dX10_same_102 (by decide) 103 rfl ?_
                  refine ww_iadd h dX10_same_103 104 rfl ?_
                  exact hJ104_27 ((ar M_15 28 (v6_25 - (1 : Int32)).toNatClampNeg) + (1 : Int32)) hf
                · replace hf := ite_t c hf
                  refine ww_iconst (v := 0) h dX10_same_89 (by decide) 90 rfl ?_
                  refine ww_goto h dX10_same_90 104 (by decide) ?_
                  exact hJ104_27 (0 : Int32) hf
            · clear h23
              show ww X D A 8 Q 0 0 143 [(0, .ref oM), (3, .int v3_7), (4, .int v4_35), (5, .int v5_21)] [] [gX10 cy oM aM M_15]
              refine ww_inc (c := 1) h dX10_same_143 3 rfl (by decide) (by decide) (fun v5_36 => [(5, .int v5_36), (0, .ref oM), (3, .int v3_7), (4, .int v4_35)]) (fun _ => rfl) 146 rfl (fun v5_36 e => ?_)
              replace hf := bnd_at e hf
              clear e
              refine ww_goto h dX10_same_146 66 (by decide) ?_
              refine ww_lo [1, 2, 3, 0] (lo' := [(0, .ref oM), (3, .int v3_7), (4, .int v4_35), (5, .int v5_36)]) rfl ?_
              exact hI19 (v4_35, v5_36) (Option.some.inj hf).symm
        · clear h19
          show ww X D A 8 Q 0 0 149 [(4, .int v4_37)] [] [gX10 cy oM aM M_15]
          refine ww_iload h dX10_same_149 0 rfl 151 rfl ?_
          obtain rfl := Option.some.inj hf
          exact ww_iret h dX10_same_151 hQ ⟨rfl, rfl⟩
    · replace hf := ite_t c hf
      refine ww_iconst (v := (-1)) h dX10_same_14 (by decide) 15 rfl ?_
      obtain rfl := Option.some.inj hf
      exact ww_iret h dX10_same_15 hQ ⟨rfl, rfl⟩
theorem dX10_dearest_0 : decode cX10_dearest 0 = .ok (.iload_n 1, 1) := by decide +kernel
theorem dX10_dearest_1 : decode cX10_dearest 1 = .ok (.invokestatic 255, 3) := by decide +kernel
theorem dX10_dearest_4 : decode cX10_dearest 4 = .ok (.ifCond .ne 5, 3) := by decide +kernel
theorem dX10_dearest_7 : decode cX10_dearest 7 = .ok (.iconst (-1), 1) := by decide +kernel
theorem dX10_dearest_8 : decode cX10_dearest 8 = .ok (.ireturn, 1) := by decide +kernel
theorem dX10_dearest_9 : decode cX10_dearest 9 = .ok (.aload_n 0, 1) := by decide +kernel
theorem dX10_dearest_10 : decode cX10_dearest 10 = .ok (.iload_n 1, 1) := by decide +kernel
theorem dX10_dearest_11 : decode cX10_dearest 11 = .ok (.invokevirtual 258, 3) := by decide +kernel
theorem dX10_dearest_14 : decode cX10_dearest 14 = .ok (.bipush (-2), 2) := by decide +kernel
theorem dX10_dearest_16 : decode cX10_dearest 16 = .ok (.istore_n 2, 1) := by decide +kernel
theorem dX10_dearest_17 : decode cX10_dearest 17 = .ok (.iconst (-1), 1) := by decide +kernel
theorem dX10_dearest_18 : decode cX10_dearest 18 = .ok (.istore_n 3, 1) := by decide +kernel
theorem dX10_dearest_19 : decode cX10_dearest 19 = .ok (.iconst 0, 1) := by decide +kernel
theorem dX10_dearest_20 : decode cX10_dearest 20 = .ok (.istore 4, 2) := by decide +kernel
theorem dX10_dearest_22 : decode cX10_dearest 22 = .ok (.iload 4, 2) := by decide +kernel
theorem dX10_dearest_24 : decode cX10_dearest 24 = .ok (.aload_n 0, 1) := by decide +kernel
theorem dX10_dearest_25 : decode cX10_dearest 25 = .ok (.getfield 246, 3) := by decide +kernel
theorem dX10_dearest_28 : decode cX10_dearest 28 = .ok (.if_icmp .ge 45, 3) := by decide +kernel
theorem dX10_dearest_31 : decode cX10_dearest 31 = .ok (.aload_n 0, 1) := by decide +kernel
theorem dX10_dearest_32 : decode cX10_dearest 32 = .ok (.aload_n 0, 1) := by decide +kernel
theorem dX10_dearest_33 : decode cX10_dearest 33 = .ok (.iload 4, 2) := by decide +kernel
theorem dX10_dearest_35 : decode cX10_dearest 35 = .ok (.invokevirtual 261, 3) := by decide +kernel
theorem dX10_dearest_38 : decode cX10_dearest 38 = .ok (.aload_n 0, 1) := by decide +kernel
theorem dX10_dearest_39 : decode cX10_dearest 39 = .ok (.getfield 60, 3) := by decide +kernel
theorem dX10_dearest_42 : decode cX10_dearest 42 = .ok (.iload 4, 2) := by decide +kernel
theorem dX10_dearest_44 : decode cX10_dearest 44 = .ok (.iaload, 1) := by decide +kernel
theorem dX10_dearest_45 : decode cX10_dearest 45 = .ok (.invokevirtual 231, 3) := by decide +kernel
theorem dX10_dearest_48 : decode cX10_dearest 48 = .ok (.aload_n 0, 1) := by decide +kernel
theorem dX10_dearest_49 : decode cX10_dearest 49 = .ok (.getfield 208, 3) := by decide +kernel
theorem dX10_dearest_52 : decode cX10_dearest 52 = .ok (.iload_n 3, 1) := by decide +kernel
theorem dX10_dearest_53 : decode cX10_dearest 53 = .ok (.if_icmp .gt 6, 3) := by decide +kernel
theorem dX10_dearest_56 : decode cX10_dearest 56 = .ok (.goto 11, 3) := by decide +kernel
theorem dX10_dearest_59 : decode cX10_dearest 59 = .ok (.aload_n 0, 1) := by decide +kernel
theorem dX10_dearest_60 : decode cX10_dearest 60 = .ok (.getfield 208, 3) := by decide +kernel
theorem dX10_dearest_63 : decode cX10_dearest 63 = .ok (.istore_n 3, 1) := by decide +kernel
theorem dX10_dearest_64 : decode cX10_dearest 64 = .ok (.iload 4, 2) := by decide +kernel
theorem dX10_dearest_66 : decode cX10_dearest 66 = .ok (.istore_n 2, 1) := by decide +kernel
theorem dX10_dearest_67 : decode cX10_dearest 67 = .ok (.iinc 4 1, 3) := by decide +kernel
theorem dX10_dearest_70 : decode cX10_dearest 70 = .ok (.goto (-48), 3) := by decide +kernel
theorem dX10_dearest_73 : decode cX10_dearest 73 = .ok (.iload_n 2, 1) := by decide +kernel
theorem dX10_dearest_74 : decode cX10_dearest 74 = .ok (.ireturn, 1) := by decide +kernel
theorem ok_X10_dearest : okY RX10 yX10_dearest 1 := ⟨rfl, by decide, by decide, by decide +kernel⟩
def j_X10_dearest_67_19 (M_15 : OV) (v4_11 : Int32) (v2_17 : Int32) (v3_18 : Int32) : Option ((Int32 × Int32 × Int32 × OV) ⊕ (Int32 × OV)) := bnd (v4_11 + 1) (fun v4_20 => some (.inl (v2_17, v3_18, v4_20, M_15)))
def s_X10_dearest_22_8 : (Int32 × Int32 × Int32 × OV) → Option ((Int32 × Int32 × Int32 × OV) ⊕ (Int32 × OV)) := un4 (fun v2_9 v3_10 v4_11 M_12 => (if (iv M_12 25) ≤ v4_11 then some (.inr (v2_9, M_12)) else (f_X10_firstOf M_12 v4_11).bind (un1 (fun r_13 => gd (ix v4_11 41) ((f_X10_looks M_12 r_13 (ar M_12 24 v4_11.toNatClampNeg)).bind (un1 (fun M_15 => (if v3_10 < (iv M_15 18) then bnd (iv M_15 18) (fun v3_21 => bnd v4_11 (fun v2_22 => j_X10_dearest_67_19 M_15 v4_11 v2_22 v3_21)) else j_X10_dearest_67_19 M_15 v4_11 v2_9 v3_10))))))))
def f_X10_dearest (M : OV) (p0 : Int32) : Option (Int32 × OV) := (f_X10_isKind p0).bind (un1 (fun r_1 => (if r_1 = 0 then some ((-1 : Int32), M) else (f_X10_laysLines M p0).bind (un1 (fun M_3 => bnd (-2 : Int32) (fun v2_5 => bnd (-1 : Int32) (fun v3_6 => bnd (0 : Int32) (fun v4_7 => ((lp (s_X10_dearest_22_8) 5000 (v2_5, v3_6, v4_7, M_3)).bind (un2 (fun v2_23 M_24 => some (v2_23, M_24))))))))))))
def r_X10_dearest : Room := { frames := 7, cells := 0, slots := 0, locals := 169 }
set_option maxHeartbeats 4000000 in
set_option maxRecDepth 100000 in
theorem c_X10_dearest (l : Launch) (D : va_G) (ev : EvT) (cy : Nat → ClassId) (oM : Nat) (aM : Nat → Nat) (M : OV) (p0 : Int32) (o : Int32 × OV) (hf : f_X10_dearest M p0 = some o) : Fn l yX10_dearest cX10_dearest 5 (some .int) r_X10_dearest D ev cy [.ref oM, .int p0] [gX10 cy oM aM M] (fun v G => v = some (.int o.1) ∧ G = [gX10 cy oM aM o.2]) := by
  refine Fn_of (by decide) (Nat.le_of_ble_eq_true rfl) (fun X A Q h hQ _ => ?_)
  unfold f_X10_dearest at hf
  show ww X D A 5 Q 0 0 0 [(0, .ref oM), (1, .int p0)] [] [gX10 cy oM aM M]
  refine ww_iload_n h dX10_dearest_0 rfl 1 rfl 1 rfl ?_
  obtain ⟨r_1, hu2, hf⟩ := ob1 hf
  refine ww_cSi h (c_X10_isKind l D ev cy p0 _ hu2) ⟨w_1492, w_1490, w_1491, w_111, ok_X10_isKind⟩ ⟨by decide, by decide⟩ ⟨by decide, by decide⟩ ⟨rfl, rfl⟩ [] rfl rfl (Nat.le_of_ble_eq_true rfl) dX10_dearest_1 4 rfl (Gs' := [gX10 cy oM aM M]) rfl ?_
  clear hu2
  refine ww_if_ne h dX10_dearest_4 9 (by decide) 7 rfl (fun c => ?_) (fun c => ?_)
  · replace hf := ite_f c hf
    refine ww_aload_n h dX10_dearest_9 rfl 0 rfl 10 rfl ?_
    refine ww_iload_n h dX10_dearest_10 rfl 1 rfl 11 rfl ?_
    obtain ⟨M_3, hu4, hf⟩ := ob1 hf
    refine ww_cVv h (c_X10_laysLines l D ev cy oM aM M p0 _ hu4) ⟨w_1496, w_1493, w_1495, w_56, w_111, ok_X10_laysLines⟩ ⟨by decide, by decide⟩ ⟨by decide, by decide⟩ ⟨rfl, rfl⟩ [0] rfl 0 rfl rfl rfl rfl (Nat.le_of_ble_eq_true rfl) dX10_dearest_11 14 rfl (Gs' := [gX10 cy oM aM M_3]) rfl ?_
    clear hu4
    refine ww_bipush (v := (-2)) h dX10_dearest_14 (by decide) 16 rfl ?_
    refine ww_ist_n h dX10_dearest_16 rfl (by decide) (fun v2_5 => [(2, .int v2_5), (0, .ref oM), (1, .int p0)]) (fun _ => rfl) 17 rfl (fun v2_5 e => ?_)
    replace hf := bnd_at e hf
    clear e
    refine ww_iconst (v := (-1)) h dX10_dearest_17 (by decide) 18 rfl ?_
    refine ww_ist_n h dX10_dearest_18 rfl (by decide) (fun v3_6 => [(3, .int v3_6), (2, .int v2_5), (0, .ref oM), (1, .int p0)]) (fun _ => rfl) 19 rfl (fun v3_6 e => ?_)
    replace hf := bnd_at e hf
    clear e
    refine ww_iconst (v := 0) h dX10_dearest_19 (by decide) 20 rfl ?_
    refine ww_ist h dX10_dearest_20 (by decide) (fun v4_7 => [(4, .int v4_7), (3, .int v3_6), (2, .int v2_5), (0, .ref oM), (1, .int p0)]) (fun _ => rfl) 22 rfl (fun v4_7 e => ?_)
    replace hf := bnd_at e hf
    clear e
    refine ww_lo [3, 2, 1, 0] (lo' := [(0, .ref oM), (2, .int v2_5), (3, .int v3_6), (4, .int v4_7)]) rfl ?_
    obtain ⟨v2_23, M_24, h8, hf⟩ := ob2 hf
    refine lp_walk (un4 (fun v2_9 v3_10 v4_11 M_12 => ww X D A 5 Q 0 0 22 [(0, .ref oM), (2, .int v2_9), (3, .int v3_10), (4, .int v4_11)] [] [gX10 cy oM aM M_12])) (un2 (fun v2_23 M_24 => ww X D A 5 Q 0 0 73 [(2, .int v2_23)] [] [gX10 cy oM aM M_24])) ?_ _ _ _ h8 ?_
    · clear h8 hf
      intro s8 o8 hf hI8 hE8
      obtain ⟨v2_9, v3_10, v4_11, M_12⟩ := s8
      unfold s_X10_dearest_22_8 at hf
      replace hf := un4_e hf
      show ww X D A 5 Q 0 0 22 [(0, .ref oM), (2, .int v2_9), (3, .int v3_10), (4, .int v4_11)] [] [gX10 cy oM aM M_12]
      refine ww_iload h dX10_dearest_22 3 rfl 24 rfl ?_
      refine ww_aload_n h dX10_dearest_24 rfl 0 rfl 25 rfl ?_
      refine ww_get h inG10 rfl 0 rfl rfl 25 (by decide) w_1182 rfl dX10_dearest_25 28 rfl ?_
      refine ww_icmp_ge h dX10_dearest_28 73 (by decide) 31 rfl (fun c => ?_) (fun c => ?_)
      · replace hf := ite_t c hf
        refine ww_lo [1] (lo' := [(2, .int v2_9)]) rfl ?_
        exact hE8 (v2_9, M_12) (Option.some.inj hf).symm
      · replace hf := ite_f c hf
        refine ww_aload_n h dX10_dearest_31 rfl 0 rfl 32 rfl ?_
        refine ww_aload_n h dX10_dearest_32 rfl 0 rfl 33 rfl ?_
        refine ww_iload h dX10_dearest_33 3 rfl 35 rfl ?_
        obtain ⟨r_13, hu14, hf⟩ := ob1 hf
        refine ww_cVi h (c_X10_firstOf l D ev cy oM aM M_12 v4_11 _ hu14) ⟨w_1525, w_1522, w_1524, w_63, w_111, ok_X10_firstOf⟩ ⟨by decide, by decide⟩ ⟨by decide, by decide⟩ ⟨rfl, rfl⟩ [0] rfl 0 rfl rfl rfl rfl (Nat.le_of_ble_eq_true rfl) dX10_dearest_35 38 rfl (Gs' := [gX10 cy oM aM M_12]) rfl ?_
        clear hu14
        refine ww_aload_n h dX10_dearest_38 rfl 0 rfl 39 rfl ?_
        refine ww_get h inG10 rfl 0 rfl rfl 24 (by decide) w_1181 rfl dX10_dearest_39 42 rfl ?_
        refine ww_iload h dX10_dearest_42 3 rfl 44 rfl ?_
        have hi := (gd_some hf).1
        replace hf := (gd_some hf).2
        refine ww_iald h 0 rfl 16 rfl (ix_in hi) dX10_dearest_44 45 rfl ?_
        clear hi
        obtain ⟨M_15, hu16, hf⟩ := ob1 hf
        refine ww_cVv h (c_X10_looks l D ev cy oM aM M_12 r_13 (ar M_12 24 v4_11.toNatClampNeg) _ hu16) ⟨w_1469, w_1466, w_1468, w_52, w_111, ok_X10_looks⟩ ⟨by decide, by decide⟩ ⟨by decide, by decide⟩ ⟨rfl, rfl⟩ [0] rfl 0 rfl rfl rfl rfl (Nat.le_of_ble_eq_true rfl) dX10_dearest_45 48 rfl (Gs' := [gX10 cy oM aM M_15]) rfl ?_
        clear hu16
        refine ww_aload_n h dX10_dearest_48 rfl 0 rfl 49 rfl ?_
        refine ww_get h inG10 rfl 0 rfl rfl 18 (by decide) w_1175 rfl dX10_dearest_49 52 rfl ?_
        refine ww_iload_n h dX10_dearest_52 rfl 2 rfl 53 rfl ?_
        have hJ67_19 : ∀ (v2_17 : Int32) (v3_18 : Int32), j_X10_dearest_67_19 M_15 v4_11 v2_17 v3_18 = some o8 → ww X D A 5 Q 0 0 67 [(0, .ref oM), (2, .int v2_17), (3, .int v3_18), (4, .int v4_11)] [] [gX10 cy oM aM M_15] := by
          intro v2_17 v3_18 hf
          unfold j_X10_dearest_67_19 at hf
          refine ww_inc (c := 1) h dX10_dearest_67 3 rfl (by decide) (by decide) (fun v4_20 => [(4, .int v4_20), (0, .ref oM), (2, .int v2_17), (3, .int v3_18)]) (fun _ => rfl) 70 rfl (fun v4_20 e => ?_)
          replace hf := bnd_at e hf
          clear e
          refine ww_goto h dX10_dearest_70 22 (by decide) ?_
          refine ww_lo [1, 2, 3, 0] (lo' := [(0, .ref oM), (2, .int v2_17), (3, .int v3_18), (4, .int v4_20)]) rfl ?_
          exact hI8 (v2_17, v3_18, v4_20, M_15) (Option.some.inj hf).symm
        refine ww_icmp_gt h dX10_dearest_53 59 (by decide) 56 rfl (fun c => ?_) (fun c => ?_)
        · replace hf := ite_t c hf
          refine ww_aload_n h dX10_dearest_59 rfl 0 rfl 60 rfl ?_
          refine ww_get h inG10 rfl 0 rfl rfl 18 (by decide) w_1175 rfl dX10_dearest_60 63 rfl ?_
          refine ww_ist_n h dX10_dearest_63 rfl (by decide) (fun v3_21 => [(3, .int v3_21), (0, .ref oM), (2, .int v2_9), (4, .int v4_11)]) (fun _ => rfl) 64 rfl (fun v3_21 e => ?_)
          replace hf := bnd_at e hf
          clear e
          refine ww_iload h dX10_dearest_64 3 rfl 66 rfl ?_
          refine ww_ist_n h dX10_dearest_66 rfl (by decide) (fun v2_22 => [(2, .int v2_22), (3, .int v3_21), (0, .ref oM), (4, .int v4_11)]) (fun _ => rfl) 67 rfl (fun v2_22 e => ?_)
          replace hf := bnd_at e hf
          clear e
          refine ww_lo [2, 0, 1, 3] (lo' := [(0, .ref oM), (2, .int v2_22), (3, .int v3_21), (4, .int v4_11)]) rfl ?_
          exact hJ67_19 v2_22 v3_21 hf
        · replace hf := ite_f c hf
          refine ww_goto h dX10_dearest_56 67 (by decide) ?_
          exact hJ67_19 v2_9 v3_10 hf
    · clear h8
      show ww X D A 5 Q 0 0 73 [(2, .int v2_23)] [] [gX10 cy oM aM M_24]
      refine ww_iload_n h dX10_dearest_73 rfl 0 rfl 74 rfl ?_
      obtain rfl := Option.some.inj hf
      exact ww_iret h dX10_dearest_74 hQ ⟨rfl, rfl⟩
  · replace hf := ite_t c hf
    refine ww_iconst (v := (-1)) h dX10_dearest_7 (by decide) 8 rfl ?_
    obtain rfl := Option.some.inj hf
    exact ww_iret h dX10_dearest_8 hQ ⟨rfl, rfl⟩
theorem dX10_units_0 : decode cX10_units 0 = .ok (.iload_n 1, 1) := by decide +kernel
theorem dX10_units_1 : decode cX10_units 1 = .ok (.invokestatic 255, 3) := by decide +kernel
theorem dX10_units_4 : decode cX10_units 4 = .ok (.ifCond .eq 12, 3) := by decide +kernel
theorem dX10_units_7 : decode cX10_units 7 = .ok (.iload_n 2, 1) := by decide +kernel
theorem dX10_units_8 : decode cX10_units 8 = .ok (.iconst 1, 1) := by decide +kernel
theorem dX10_units_9 : decode cX10_units 9 = .ok (.iconst 3, 1) := by decide +kernel
theorem dX10_units_10 : decode cX10_units 10 = .ok (.invokestatic 125, 3) := by decide +kernel
theorem dX10_units_13 : decode cX10_units 13 = .ok (.ifCond .ne 5, 3) := by decide +kernel
theorem dX10_units_16 : decode cX10_units 16 = .ok (.iconst (-1), 1) := by decide +kernel
theorem dX10_units_17 : decode cX10_units 17 = .ok (.ireturn, 1) := by decide +kernel
theorem dX10_units_18 : decode cX10_units 18 = .ok (.aload_n 0, 1) := by decide +kernel
theorem dX10_units_19 : decode cX10_units 19 = .ok (.iload_n 1, 1) := by decide +kernel
theorem dX10_units_20 : decode cX10_units 20 = .ok (.invokevirtual 258, 3) := by decide +kernel
theorem dX10_units_23 : decode cX10_units 23 = .ok (.iconst 0, 1) := by decide +kernel
theorem dX10_units_24 : decode cX10_units 24 = .ok (.istore 4, 2) := by decide +kernel
theorem dX10_units_26 : decode cX10_units 26 = .ok (.iconst 0, 1) := by decide +kernel
theorem dX10_units_27 : decode cX10_units 27 = .ok (.istore 5, 2) := by decide +kernel
theorem dX10_units_29 : decode cX10_units 29 = .ok (.iload 5, 2) := by decide +kernel
theorem dX10_units_31 : decode cX10_units 31 = .ok (.aload_n 0, 1) := by decide +kernel
theorem dX10_units_32 : decode cX10_units 32 = .ok (.getfield 246, 3) := by decide +kernel
theorem dX10_units_35 : decode cX10_units 35 = .ok (.if_icmp .ge 131, 3) := by decide +kernel
theorem dX10_units_38 : decode cX10_units 38 = .ok (.aload_n 0, 1) := by decide +kernel
theorem dX10_units_39 : decode cX10_units 39 = .ok (.aload_n 0, 1) := by decide +kernel
theorem dX10_units_40 : decode cX10_units 40 = .ok (.iload 5, 2) := by decide +kernel
theorem dX10_units_42 : decode cX10_units 42 = .ok (.invokevirtual 261, 3) := by decide +kernel
theorem dX10_units_45 : decode cX10_units 45 = .ok (.aload_n 0, 1) := by decide +kernel
theorem dX10_units_46 : decode cX10_units 46 = .ok (.getfield 60, 3) := by decide +kernel
theorem dX10_units_49 : decode cX10_units 49 = .ok (.iload 5, 2) := by decide +kernel
theorem dX10_units_51 : decode cX10_units 51 = .ok (.iaload, 1) := by decide +kernel
theorem dX10_units_52 : decode cX10_units 52 = .ok (.invokevirtual 231, 3) := by decide +kernel
theorem dX10_units_55 : decode cX10_units 55 = .ok (.aload_n 0, 1) := by decide +kernel
theorem dX10_units_56 : decode cX10_units 56 = .ok (.aload_n 0, 1) := by decide +kernel
theorem dX10_units_57 : decode cX10_units 57 = .ok (.iload 5, 2) := by decide +kernel
theorem dX10_units_59 : decode cX10_units 59 = .ok (.invokevirtual 261, 3) := by decide +kernel
theorem dX10_units_62 : decode cX10_units 62 = .ok (.aload_n 0, 1) := by decide +kernel
theorem dX10_units_63 : decode cX10_units 63 = .ok (.getfield 60, 3) := by decide +kernel
theorem dX10_units_66 : decode cX10_units 66 = .ok (.iload 5, 2) := by decide +kernel
theorem dX10_units_68 : decode cX10_units 68 = .ok (.iaload, 1) := by decide +kernel
theorem dX10_units_69 : decode cX10_units 69 = .ok (.invokevirtual 280, 3) := by decide +kernel
theorem dX10_units_72 : decode cX10_units 72 = .ok (.aload_n 0, 1) := by decide +kernel
theorem dX10_units_73 : decode cX10_units 73 = .ok (.iload 5, 2) := by decide +kernel
theorem dX10_units_75 : decode cX10_units 75 = .ok (.invokevirtual 261, 3) := by decide +kernel
theorem dX10_units_78 : decode cX10_units 78 = .ok (.istore 6, 2) := by decide +kernel
theorem dX10_units_80 : decode cX10_units 80 = .ok (.iload 6, 2) := by decide +kernel
theorem dX10_units_82 : decode cX10_units 82 = .ok (.aload_n 0, 1) := by decide +kernel
theorem dX10_units_83 : decode cX10_units 83 = .ok (.getfield 60, 3) := by decide +kernel
theorem dX10_units_86 : decode cX10_units 86 = .ok (.iload 5, 2) := by decide +kernel
theorem dX10_units_88 : decode cX10_units 88 = .ok (.iaload, 1) := by decide +kernel
theorem dX10_units_89 : decode cX10_units 89 = .ok (.if_icmp .gt 71, 3) := by decide +kernel
theorem dX10_units_92 : decode cX10_units 92 = .ok (.iload_n 3, 1) := by decide +kernel
theorem dX10_units_93 : decode cX10_units 93 = .ok (.ifCond .eq 30, 3) := by decide +kernel
theorem dX10_units_96 : decode cX10_units 96 = .ok (.aload_n 0, 1) := by decide +kernel
theorem dX10_units_97 : decode cX10_units 97 = .ok (.getfield 27, 3) := by decide +kernel
theorem dX10_units_100 : decode cX10_units 100 = .ok (.aload_n 0, 1) := by decide +kernel
theorem dX10_units_101 : decode cX10_units 101 = .ok (.iload 6, 2) := by decide +kernel
theorem dX10_units_103 : decode cX10_units 103 = .ok (.invokevirtual 144, 3) := by decide +kernel
theorem dX10_units_106 : decode cX10_units 106 = .ok (.iaload, 1) := by decide +kernel
theorem dX10_units_107 : decode cX10_units 107 = .ok (.iload_n 2, 1) := by decide +kernel
theorem dX10_units_108 : decode cX10_units 108 = .ok (.if_icmp .ne 15, 3) := by decide +kernel
theorem dX10_units_111 : decode cX10_units 111 = .ok (.iload 4, 2) := by decide +kernel
theorem dX10_units_113 : decode cX10_units 113 = .ok (.aload_n 0, 1) := by decide +kernel
theorem dX10_units_114 : decode cX10_units 114 = .ok (.getfield 63, 3) := by decide +kernel
theorem dX10_units_117 : decode cX10_units 117 = .ok (.iload 6, 2) := by decide +kernel
theorem dX10_units_119 : decode cX10_units 119 = .ok (.iaload, 1) := by decide +kernel
theorem dX10_units_120 : decode cX10_units 120 = .ok (.iadd, 1) := by decide +kernel
theorem dX10_units_121 : decode cX10_units 121 = .ok (.istore 4, 2) := by decide +kernel
theorem dX10_units_123 : decode cX10_units 123 = .ok (.iload_n 3, 1) := by decide +kernel
theorem dX10_units_124 : decode cX10_units 124 = .ok (.ifCond .ne 30, 3) := by decide +kernel
theorem dX10_units_127 : decode cX10_units 127 = .ok (.aload_n 0, 1) := by decide +kernel
theorem dX10_units_128 : decode cX10_units 128 = .ok (.getfield 33, 3) := by decide +kernel
theorem dX10_units_131 : decode cX10_units 131 = .ok (.aload_n 0, 1) := by decide +kernel
theorem dX10_units_132 : decode cX10_units 132 = .ok (.iload 6, 2) := by decide +kernel
theorem dX10_units_134 : decode cX10_units 134 = .ok (.invokevirtual 144, 3) := by decide +kernel
theorem dX10_units_137 : decode cX10_units 137 = .ok (.iaload, 1) := by decide +kernel
theorem dX10_units_138 : decode cX10_units 138 = .ok (.iload_n 2, 1) := by decide +kernel
theorem dX10_units_139 : decode cX10_units 139 = .ok (.if_icmp .ne 15, 3) := by decide +kernel
theorem dX10_units_142 : decode cX10_units 142 = .ok (.iload 4, 2) := by decide +kernel
theorem dX10_units_144 : decode cX10_units 144 = .ok (.aload_n 0, 1) := by decide +kernel
theorem dX10_units_145 : decode cX10_units 145 = .ok (.getfield 66, 3) := by decide +kernel
theorem dX10_units_148 : decode cX10_units 148 = .ok (.iload 6, 2) := by decide +kernel
theorem dX10_units_150 : decode cX10_units 150 = .ok (.iaload, 1) := by decide +kernel
theorem dX10_units_151 : decode cX10_units 151 = .ok (.iadd, 1) := by decide +kernel
theorem dX10_units_152 : decode cX10_units 152 = .ok (.istore 4, 2) := by decide +kernel
theorem dX10_units_154 : decode cX10_units 154 = .ok (.iinc 6 1, 3) := by decide +kernel
theorem dX10_units_157 : decode cX10_units 157 = .ok (.goto (-77), 3) := by decide +kernel
theorem dX10_units_160 : decode cX10_units 160 = .ok (.iinc 5 1, 3) := by decide +kernel
theorem dX10_units_163 : decode cX10_units 163 = .ok (.goto (-134), 3) := by decide +kernel
theorem dX10_units_166 : decode cX10_units 166 = .ok (.iload 4, 2) := by decide +kernel
theorem dX10_units_168 : decode cX10_units 168 = .ok (.ireturn, 1) := by decide +kernel
theorem ok_X10_units : okY RX10 yX10_units 3 := ⟨rfl, by decide, by decide, by decide +kernel⟩
def j_X10_units_154_30 (v6_26 : Int32) (v4_29 : Int32) : Option ((Int32 × Int32) ⊕ (Int32)) := bnd (v6_26 + 1) (fun v6_31 => some (.inl (v4_29, v6_31)))
def j_X10_units_123_28 (M_19 : OV) (p1 : Int32) (p2 : Int32) (v6_26 : Int32) (v4_27 : Int32) : Option ((Int32 × Int32) ⊕ (Int32)) := (if p2 = 0 then (f_X10_classOf M_19 v6_26).bind (un1 (fun r_32 => gd (ix r_32 26) ((if (ar M_19 7 r_32.toNatClampNeg) = p1 then gd (ix v6_26 40) (bnd (v4_27 + (ar M_19 27 v6_26.toNatClampNeg)) (fun v4_34 => j_X10_units_154_30 v6_26 v4_34)) else j_X10_units_154_30 v6_26 v4_27)))) else j_X10_units_154_30 v6_26 v4_27)
def s_X10_units_80_24 (M_19 : OV) (p1 : Int32) (p2 : Int32) (v5_11 : Int32) : (Int32 × Int32) → Option ((Int32 × Int32) ⊕ (Int32)) := un2 (fun v4_25 v6_26 => gd (ix v5_11 41) ((if (ar M_19 24 v5_11.toNatClampNeg) < v6_26 then some (.inr v4_25) else (if p2 = 0 then j_X10_units_123_28 M_19 p1 p2 v6_26 v4_25 else (f_X10_classOf M_19 v6_26).bind (un1 (fun r_35 => gd (ix r_35 26) ((if (ar M_19 5 r_35.toNatClampNeg) = p1 then gd (ix v6_26 40) (bnd (v4_25 + (ar M_19 26 v6_26.toNatClampNeg)) (fun v4_37 => j_X10_units_123_28 M_19 p1 p2 v6_26 v4_37)) else j_X10_units_123_28 M_19 p1 p2 v6_26 v4_25))))))))
def s_X10_units_29_9 (p1 : Int32) (p2 : Int32) : (Int32 × Int32 × OV) → Option ((Int32 × Int32 × OV) ⊕ (Int32 × OV)) := un3 (fun v4_10 v5_11 M_12 => (if (iv M_12 25) ≤ v5_11 then some (.inr (v4_10, M_12)) else (f_X10_firstOf M_12 v5_11).bind (un1 (fun r_13 => gd (ix v5_11 41) ((f_X10_looks M_12 r_13 (ar M_12 24 v5_11.toNatClampNeg)).bind (un1 (fun M_15 => (f_X10_firstOf M_15 v5_11).bind (un1 (fun r_17 => gd (ix v5_11 41) ((f_X10_deals M_15 r_17 (ar M_15 24 v5_11.toNatClampNeg)).bind (un1 (fun M_19 => (f_X10_firstOf M_19 v5_11).bind (un1 (fun r_21 => bnd r_21 (fun v6_23 => ((lp (s_X10_units_80_24 M_19 p1 p2 v5_11) 5000 (v4_10, v6_23)).bind (un1 (fun v4_38 => bnd (v5_11 + 1) (fun v5_39 => some (.inl (v4_38, v5_39, M_19)))))))))))))))))))))
def f_X10_units (M : OV) (p0 : Int32) (p1 : Int32) (p2 : Int32) : Option (Int32 × OV) := (f_X10_isKind p0).bind (un1 (fun r_1 => (if r_1 = 0 then some ((-1 : Int32), M) else (f_X10_in p1 (1 : Int32) (3 : Int32)).bind (un1 (fun r_3 => (if r_3 = 0 then some ((-1 : Int32), M) else (f_X10_laysLines M p0).bind (un1 (fun M_5 => bnd (0 : Int32) (fun v4_7 => bnd (0 : Int32) (fun v5_8 => ((lp (s_X10_units_29_9 p1 p2) 5000 (v4_7, v5_8, M_5)).bind (un2 (fun v4_40 M_41 => some (v4_40, M_41))))))))))))))
def r_X10_units : Room := { frames := 7, cells := 0, slots := 0, locals := 169 }
set_option maxHeartbeats 4000000 in
set_option maxRecDepth 100000 in
theorem c_X10_units (l : Launch) (D : va_G) (ev : EvT) (cy : Nat → ClassId) (oM : Nat) (aM : Nat → Nat) (M : OV) (p0 : Int32) (p1 : Int32) (p2 : Int32) (o : Int32 × OV) (hf : f_X10_units M p0 p1 p2 = some o) : Fn l yX10_units cX10_units 7 (some .int) r_X10_units D ev cy [.ref oM, .int p0, .int p1, .int p2] [gX10 cy oM aM M] (fun v G => v = some (.int o.1) ∧ G = [gX10 cy oM aM o.2]) := by
  refine Fn_of (by decide) (Nat.le_of_ble_eq_true rfl) (fun X A Q h hQ _ => ?_)
  unfold f_X10_units at hf
  show ww X D A 7 Q 0 0 0 [(0, .ref oM), (1, .int p0), (2, .int p1), (3, .int p2)] [] [gX10 cy oM aM M]
  refine ww_iload_n h dX10_units_0 rfl 1 rfl 1 rfl ?_
  obtain ⟨r_1, hu2, hf⟩ := ob1 hf
  refine ww_cSi h (c_X10_isKind l D ev cy p0 _ hu2) ⟨w_1492, w_1490, w_1491, w_111, ok_X10_isKind⟩ ⟨by decide, by decide⟩ ⟨by decide, by decide⟩ ⟨rfl, rfl⟩ [] rfl rfl (Nat.le_of_ble_eq_true rfl) dX10_units_1 4 rfl (Gs' := [gX10 cy oM aM M]) rfl ?_
  clear hu2
  refine ww_if_eq h dX10_units_4 16 (by decide) 7 rfl (fun c => ?_) (fun c => ?_)
  · replace hf := ite_t c hf
    refine ww_iconst (v := (-1)) h dX10_units_16 (by decide) 17 rfl ?_
    obtain rfl := Option.some.inj hf
    exact ww_iret h dX10_units_17 hQ ⟨rfl, rfl⟩
  · replace hf := ite_f c hf
    refine ww_iload_n h dX10_units_7 rfl 2 rfl 8 rfl ?_
    refine ww_iconst (v := 1) h dX10_units_8 (by decide) 9 rfl ?_
    refine ww_iconst (v := 3) h dX10_units_9 (by decide) 10 rfl ?_
    obtain ⟨r_3, hu4, hf⟩ := ob1 hf
    refine ww_cSi h (c_X10_in l D ev cy p1 (1 : Int32) (3 : Int32) _ hu4) ⟨w_1333, w_1331, w_1332, w_111, ok_X10_in⟩ ⟨by decide, by decide⟩ ⟨by decide, by decide⟩ ⟨rfl, rfl⟩ [] rfl rfl (Nat.le_of_ble_eq_true rfl) dX10_units_10 13 rfl (Gs' := [gX10 cy oM aM M]) rfl ?_
    clear hu4
    refine ww_if_ne h dX10_units_13 18 (by decide) 16 rfl (fun c => ?_) (fun c => ?_)
    · replace hf := ite_f c hf
      refine ww_aload_n h dX10_units_18 rfl 0 rfl 19 rfl ?_
      refine ww_iload_n h dX10_units_19 rfl 1 rfl 20 rfl ?_
      obtain ⟨M_5, hu6, hf⟩ := ob1 hf
      refine ww_cVv h (c_X10_laysLines l D ev cy oM aM M p0 _ hu6) ⟨w_1496, w_1493, w_1495, w_56, w_111, ok_X10_laysLines⟩ ⟨by decide, by decide⟩ ⟨by decide, by decide⟩ ⟨rfl, rfl⟩ [0] rfl 0 rfl rfl rfl rfl (Nat.le_of_ble_eq_true rfl) dX10_units_20 23 rfl (Gs' := [gX10 cy oM aM M_5]) rfl ?_
      clear hu6
      refine ww_iconst (v := 0) h dX10_units_23 (by decide) 24 rfl ?_
      refine ww_ist h dX10_units_24 (by decide) (fun v4_7 => [(4, .int v4_7), (0, .ref oM), (1, .int p0), (2, .int p1), (3, .int p2)]) (fun _ => rfl) 26 rfl (fun v4_7 e => ?_)
      replace hf := bnd_at e hf
      clear e
      refine ww_iconst (v := 0) h dX10_units_26 (by decide) 27 rfl ?_
      refine ww_ist h dX10_units_27 (by decide) (fun v5_8 => [(5, .int v5_8), (4, .int v4_7), (0, .ref oM), (1, .int p0), (2, .int p1), (3, .int p2)]) (fun _ => rfl) 29 rfl (fun v5_8 e => ?_)
      replace hf := bnd_at e hf
      clear e
      refine ww_lo [2, 4, 5, 1, 0] (lo' := [(0, .ref oM), (2, .int p1), (3, .int p2), (4, .int v4_7), (5, .int v5_8)]) rfl ?_
      obtain ⟨v4_40, M_41, h9, hf⟩ := ob2 hf
      refine lp_walk (un3 (fun v4_10 v5_11 M_12 => ww X D A 7 Q 0 0 29 [(0, .ref oM), (2, .int p1), (3, .int p2), (4, .int v4_10), (5, .int v5_11)] [] [gX10 cy oM aM M_12])) (un2 (fun v4_40 M_41 => ww X D A 7 Q 0 0 166 [(4, .int v4_40)] [] [gX10 cy oM aM M_41])) ?_ _ _ _ h9 ?_
      · clear h9 hf
        intro s9 o9 hf hI9 hE9
        obtain ⟨v4_10, v5_11, M_12⟩ := s9
        unfold s_X10_units_29_9 at hf
        replace hf := un3_e hf
        show ww X D A 7 Q 0 0 29 [(0, .ref oM), (2, .int p1), (3, .int p2), (4, .int v4_10), (5, .int v5_11)] [] [gX10 cy oM aM M_12]
        refine ww_iload h dX10_units_29 4 rfl 31 rfl ?_
        refine ww_aload_n h dX10_units_31 rfl 0 rfl 32 rfl ?_
        refine ww_get h inG10 rfl 0 rfl rfl 25 (by decide) w_1182 rfl dX10_units_32 35 rfl ?_
        refine ww_icmp_ge h dX10_units_35 166 (by decide) 38 rfl (fun c => ?_) (fun c => ?_)
        · replace hf := ite_t c hf
          refine ww_lo [3] (lo' := [(4, .int v4_10)]) rfl ?_
          exact hE9 (v4_10, M_12) (Option.some.inj hf).symm
        · replace hf := ite_f c hf
          refine ww_aload_n h dX10_units_38 rfl 0 rfl 39 rfl ?_
          refine ww_aload_n h dX10_units_39 rfl 0 rfl 40 rfl ?_
          refine ww_iload h dX10_units_40 4 rfl 42 rfl ?_
          obtain ⟨r_13, hu14, hf⟩ := ob1 hf
          refine ww_cVi h (c_X10_firstOf l D ev cy oM aM M_12 v5_11 _ hu14) ⟨w_1525, w_1522, w_1524, w_63, w_111, ok_X10_firstOf⟩ ⟨by decide, by decide⟩ ⟨by decide, by decide⟩ ⟨rfl, rfl⟩ [0] rfl 0 rfl rfl rfl rfl (Nat.le_of_ble_eq_true rfl) dX10_units_42 45 rfl (Gs' := [gX10 cy oM aM M_12]) rfl ?_
          clear hu14
          refine ww_aload_n h dX10_units_45 rfl 0 rfl 46 rfl ?_
          refine ww_get h inG10 rfl 0 rfl rfl 24 (by decide) w_1181 rfl dX10_units_46 49 rfl ?_
          refine ww_iload h dX10_units_49 4 rfl 51 rfl ?_
          have hi := (gd_some hf).1
          replace hf := (gd_some hf).2
          refine ww_iald h 0 rfl 16 rfl (ix_in hi) dX10_units_51 52 rfl ?_
          clear hi
          obtain ⟨M_15, hu16, hf⟩ := ob1 hf
          refine ww_cVv h (c_X10_looks l D ev cy oM aM M_12 r_13 (ar M_12 24 v5_11.toNatClampNeg) _ hu16) ⟨w_1469, w_1466, w_1468, w_52, w_111, ok_X10_looks⟩ ⟨by decide, by decide⟩ ⟨by decide, by decide⟩ ⟨rfl, rfl⟩ [0] rfl 0 rfl rfl rfl rfl (Nat.le_of_ble_eq_true rfl) dX10_units_52 55 rfl (Gs' := [gX10 cy oM aM M_15]) rfl ?_
          clear hu16
          refine ww_aload_n h dX10_units_55 rfl 0 rfl 56 rfl ?_
          refine ww_aload_n h dX10_units_56 rfl 0 rfl 57 rfl ?_
          refine ww_iload h dX10_units_57 4 rfl 59 rfl ?_
          obtain ⟨r_17, hu18, hf⟩ := ob1 hf
          refine ww_cVi h (c_X10_firstOf l D ev cy oM aM M_15 v5_11 _ hu18) ⟨w_1525, w_1522, w_1524, w_63, w_111, ok_X10_firstOf⟩ ⟨by decide, by decide⟩ ⟨by decide, by decide⟩ ⟨rfl, rfl⟩ [0] rfl 0 rfl rfl rfl rfl (Nat.le_of_ble_eq_true rfl) dX10_units_59 62 rfl (Gs' := [gX10 cy oM aM M_15]) rfl ?_
          clear hu18
          refine ww_aload_n h dX10_units_62 rfl 0 rfl 63 rfl ?_
          refine ww_get h inG10 rfl 0 rfl rfl 24 (by decide) w_1181 rfl dX10_units_63 66 rfl ?_
          refine ww_iload h dX10_units_66 4 rfl 68 rfl ?_
          have hi := (gd_some hf).1
          replace hf := (gd_some hf).2
          refine ww_iald h 0 rfl 16 rfl (ix_in hi) dX10_units_68 69 rfl ?_
          clear hi
          obtain ⟨M_19, hu20, hf⟩ := ob1 hf
          refine ww_cVv h (c_X10_deals l D ev cy oM aM M_15 r_17 (ar M_15 24 v5_11.toNatClampNeg) _ hu20) ⟨w_1553, w_1550, w_1552, w_67, w_111, ok_X10_deals⟩ ⟨by decide, by decide⟩ ⟨by decide, by decide⟩ ⟨rfl, rfl⟩ [0] rfl 0 rfl rfl rfl rfl (Nat.le_of_ble_eq_true rfl) dX10_units_69 72 rfl (Gs' := [gX10 cy oM aM M_19]) rfl ?_
          clear hu20
          refine ww_aload_n h dX10_units_72 rfl 0 rfl 73 rfl ?_
          refine ww_iload h dX10_units_73 4 rfl 75 rfl ?_
          obtain ⟨r_21, hu22, hf⟩ := ob1 hf
          refine ww_cVi h (c_X10_firstOf l D ev cy oM aM M_19 v5_11 _ hu22) ⟨w_1525, w_1522, w_1524, w_63, w_111, ok_X10_firstOf⟩ ⟨by decide, by decide⟩ ⟨by decide, by decide⟩ ⟨rfl, rfl⟩ [0] rfl 0 rfl rfl rfl rfl (Nat.le_of_ble_eq_true rfl) dX10_units_75 78 rfl (Gs' := [gX10 cy oM aM M_19]) rfl ?_
          clear hu22
          refine ww_ist h dX10_units_78 (by decide) (fun v6_23 => [(6, .int v6_23), (0, .ref oM), (2, .int p1), (3, .int p2), (4, .int v4_10), (5, .int v5_11)]) (fun _ => rfl) 80 rfl (fun v6_23 e => ?_)
          replace hf := bnd_at e hf
          clear e
          refine ww_lo [1, 2, 3, 4, 5, 0] (lo' := [(0, .ref oM), (2, .int p1), (3, .int p2), (4, .int v4_10), (5, .int v5_11), (6, .int v6_23)]) rfl ?_
          obtain ⟨v4_38, h24, hf⟩ := ob1 hf
          refine lp_walk (un2 (fun v4_25 v6_26 => ww X D A 7 Q 0 0 80 [(0, .ref oM), (2, .int p1), (3, .int p2), (4, .int v4_25), (5, .int v5_11), (6, .int v6_26)] [] [gX10 cy oM aM M_19])) (un1 (fun v4_38 => ww X D A 7 Q 0 0 160 [(0, .ref oM), (2, .int p1), (3, .int p2), (4, .int v4_38), (5, .int v5_11)] [] [gX10 cy oM aM M_19])) ?_ _ _ _ h24 ?_
          · clear h24 hf
            intro s24 o24 hf hI24 hE24
            obtain ⟨v4_25, v6_26⟩ := s24
            unfold s_X10_units_80_24 at hf
            replace hf := un2_e hf
            show ww X D A 7 Q 0 0 80 [(0, .ref oM), (2, .int p1), (3, .int p2), (4, .int v4_25), (5, .int v5_11), (6, .int v6_26)] [] [gX10 cy oM aM M_19]
            refine ww_iload h dX10_units_80 5 rfl 82 rfl ?_
            refine ww_aload_n h dX10_units_82 rfl 0 rfl 83 rfl ?_
            refine ww_get h inG10 rfl 0 rfl rfl 24 (by decide) w_1181 rfl dX10_units_83 86 rfl ?_
            refine ww_iload h dX10_units_86 4 rfl 88 rfl ?_
            have hi := (gd_some hf).1
            replace hf := (gd_some hf).2
            refine ww_iald h 0 rfl 16 rfl (ix_in hi) dX10_units_88 89 rfl ?_
            clear hi
            refine ww_icmp_gt h dX10_units_89 160 (by decide) 92 rfl (fun c => ?_) (fun c => ?_)
            · replace hf := ite_t c hf
              refine ww_lo [0, 1, 2, 3, 4] (lo' := [(0, .ref oM), (2, .int p1), (3, .int p2), (4, .int v4_25), (5, .int v5_11)]) rfl ?_
              exact hE24 v4_25 (Option.some.inj hf).symm
            · replace hf := ite_f c hf
              refine ww_iload_n h dX10_units_92 rfl 2 rfl 93 rfl ?_
              have hJ123_28 : ∀ (v4_27 : Int32), j_X10_units_123_28 M_19 p1 p2 v6_26 v4_27 = some o24 → ww X D A 7 Q 0 0 123 [(0, .ref oM), (2, .int p1), (3, .int p2), (4, .int v4_27), (5, .int v5_11), (6, .int v6_26)] [] [gX10 cy oM aM M_19] := by
                intro v4_27 hf
                unfold j_X10_units_123_28 at hf
                refine ww_iload_n h dX10_units_123 rfl 2 rfl 124 rfl ?_
                have hJ154_30 : ∀ (v4_29 : Int32), j_X10_units_154_30 v6_26 v4_29 = some o24 → ww X D A 7 Q 0 0 154 [(0, .ref oM), (2, .int p1), (3, .int p2), (4, .int v4_29), (5, .int v5_11), (6, .int v6_26)] [] [gX10 cy oM aM M_19] := by
                  intro v4_29 hf
                  unfold j_X10_units_154_30 at hf
                  refine ww_inc (c := 1) h dX10_units_154 5 rfl (by decide) (by decide) (fun v6_31 => [(6, .int v6_31), (0, .ref oM), (2, .int p1), (3, .int p2), (4, .int v4_29), (5, .int v5_11)]) (fun _ => rfl) 157 rfl (fun v6_31 e => ?_)
                  replace hf := bnd_at e hf
                  clear e
                  refine ww_goto h dX10_units_157 80 (by decide) ?_
                  refine ww_lo [1, 2, 3, 4, 5, 0] (lo' := [(0, .ref oM), (2, .int p1), (3, .int p2), (4, .int v4_29), (5, .int v5_11), (6, .int v6_31)]) rfl ?_
                  exact hI24 (v4_29, v6_31) (Option.some.inj hf).symm
                refine ww_if_ne h dX10_units_124 154 (by decide) 127 rfl (fun c => ?_) (fun c => ?_)
                · replace hf := ite_f c hf
                  exact hJ154_30 v4_27 hf
                · replace hf := ite_t c hf
                  refine ww_aload_n h dX10_units_127 rfl 0 rfl 128 rfl ?_
                  refine ww_get h inG10 rfl 0 rfl rfl 7 (by decide) w_1164 rfl dX10_units_128 131 rfl ?_
                  refine ww_aload_n h dX10_units_131 rfl 0 rfl 132 rfl ?_
                  refine ww_iload h dX10_units_132 5 rfl 134 rfl ?_
                  obtain ⟨r_32, hu33, hf⟩ := ob1 hf
                  refine ww_cVi h (c_X10_classOf l D ev cy oM aM M_19 v6_26 _ hu33) ⟨w_1369, w_1366, w_1368, w_44, w_111, ok_X10_classOf⟩ ⟨by decide, by decide⟩ ⟨by decide, by decide⟩ ⟨rfl, rfl⟩ [0] rfl 0 rfl rfl rfl rfl (Nat.le_of_ble_eq_true rfl) dX10_units_134 137 rfl (Gs' := [gX10 cy oM aM M_19]) rfl ?_
                  clear hu33
                  have hi := (gd_some hf).1
                  replace hf := (gd_some hf).2
                  refine ww_iald h 0 rfl 7 rfl (ix_in hi) dX10_units_137 138 rfl ?_
                  clear hi
                  refine ww_iload_n h dX10_units_138 rfl 1 rfl 139 rfl ?_
                  refine ww_icmp_ne h dX10_units_139 154 (by decide) 142 rfl (fun c => ?_) (fun c => ?_)
                  · replace hf := ite_f c hf
                    exact hJ154_30 v4_27 hf
                  · replace hf := ite_t c hf
                    refine ww_iload h dX10_units_142 3 rfl 144 rfl ?_
                    refine ww_aload_n h dX10_units_144 rfl 0 rfl 145 rfl ?_
                    refine ww_get h inG10 rfl 0 rfl rfl 27 (by decide) w_1184 rfl dX10_units_145 148 rfl ?_
                    refine ww_iload h dX10_units_148 5 rfl 150 rfl ?_
                    have hi := (gd_some hf).1
                    replace hf := (gd_some hf).2
                    refine ww_iald h 0 rfl 18 rfl (ix_in hi) dX10_units_150 151 rfl ?_
                    clear hi
                    refine ww_iadd h dX10_units_151 152 rfl ?_
                    refine ww_ist h dX10_units_152 (by decide) (fun v4_34 => [(4, .int v4_34), (0, .ref oM), (2, .int p1), (3, .int p2), (5, .int v5_11), (6, .int v6_26)]) (fun _ => rfl) 154 rfl (fun v4_34 e => ?_)
                    replace hf := bnd_at e hf
                    clear e
                    refine ww_lo [1, 2, 3, 0, 4, 5] (lo' := [(0, .ref oM), (2, .int p1), (3, .int p2), (4, .int v4_34), (5, .int v5_11), (6, .int v6_26)]) rfl ?_
                    exact hJ154_30 v4_34 hf
              refine ww_if_eq h dX10_units_93 123 (by decide) 96 rfl (fun c => ?_) (fun c => ?_)
              · replace hf := ite_t c hf
                exact hJ123_28 v4_25 hf
              · replace hf := ite_f c hf
                refine ww_aload_n h dX10_units_96 rfl 0 rfl 97 rfl ?_
                refine ww_get h inG10 rfl 0 rfl rfl 5 (by decide) w_1162 rfl dX10_units_97 100 rfl ?_
                refine ww_aload_n h dX10_units_100 rfl 0 rfl 101 rfl ?_
                refine ww_iload h dX10_units_101 5 rfl 103 rfl ?_
                obtain ⟨r_35, hu36, hf⟩ := ob1 hf
                refine ww_cVi h (c_X10_classOf l D ev cy oM aM M_19 v6_26 _ hu36) ⟨w_1369, w_1366, w_1368, w_44, w_111, ok_X10_classOf⟩ ⟨by decide, by decide⟩ ⟨by decide, by decide⟩ ⟨rfl, rfl⟩ [0] rfl 0 rfl rfl rfl rfl (Nat.le_of_ble_eq_true rfl) dX10_units_103 106 rfl (Gs' := [gX10 cy oM aM M_19]) rfl ?_
                clear hu36
                have hi := (gd_some hf).1
                replace hf := (gd_some hf).2
                refine ww_iald h 0 rfl 5 rfl (ix_in hi) dX10_units_106 107 rfl ?_
                clear hi
                refine ww_iload_n h dX10_units_107 rfl 1 rfl 108 rfl ?_
                refine ww_icmp_ne h dX10_units_108 123 (by decide) 111 rfl (fun c => ?_) (fun c => ?_)
                · replace hf := ite_f c hf
                  exact hJ123_28 v4_25 hf
                · replace hf := ite_t c hf
                  refine ww_iload h dX10_units_111 3 rfl 113 rfl ?_
                  refine ww_aload_n h dX10_units_113 rfl 0 rfl 114 rfl ?_
                  refine ww_get h inG10 rfl 0 rfl rfl 26 (by decide) w_1183 rfl dX10_units_114 117 rfl ?_
                  refine ww_iload h dX10_units_117 5 rfl 119 rfl ?_
                  have hi := (gd_some hf).1
                  replace hf := (gd_some hf).2
                  refine ww_iald h 0 rfl 17 rfl (ix_in hi) dX10_units_119 120 rfl ?_
                  clear hi
                  refine ww_iadd h dX10_units_120 121 rfl ?_
                  refine ww_ist h dX10_units_121 (by decide) (fun v4_37 => [(4, .int v4_37), (0, .ref oM), (2, .int p1), (3, .int p2), (5, .int v5_11), (6, .int v6_26)]) (fun _ => rfl) 123 rfl (fun v4_37 e => ?_)
                  replace hf := bnd_at e hf
                  clear e
                  refine ww_lo [1, 2, 3, 0, 4, 5] (lo' := [(0, .ref oM), (2, .int p1), (3, .int p2), (4, .int v4_37), (5, .int v5_11), (6, .int v6_26)]) rfl ?_
                  exact hJ123_28 v4_37 hf
          · clear h24
            show ww X D A 7 Q 0 0 160 [(0, .ref oM), (2, .int p1), (3, .int p2), (4, .int v4_38), (5, .int v5_11)] [] [gX10 cy oM aM M_19]
            refine ww_inc (c := 1) h dX10_units_160 4 rfl (by decide) (by decide) (fun v5_39 => [(5, .int v5_39), (0, .ref oM), (2, .int p1), (3, .int p2), (4, .int v4_38)]) (fun _ => rfl) 163 rfl (fun v5_39 e => ?_)
            replace hf := bnd_at e hf
            clear e
            refine ww_goto h dX10_units_163 29 (by decide) ?_
            refine ww_lo [1, 2, 3, 4, 0] (lo' := [(0, .ref oM), (2, .int p1), (3, .int p2), (4, .int v4_38), (5, .int v5_39)]) rfl ?_
            exact hI9 (v4_38, v5_39, M_19) (Option.some.inj hf).symm
      · clear h9
        show ww X D A 7 Q 0 0 166 [(4, .int v4_40)] [] [gX10 cy oM aM M_41]
        refine ww_iload h dX10_units_166 0 rfl 168 rfl ?_
        obtain rfl := Option.some.inj hf
        exact ww_iret h dX10_units_168 hQ ⟨rfl, rfl⟩
    · replace hf := ite_t c hf
      refine ww_iconst (v := (-1)) h dX10_units_16 (by decide) 17 rfl ?_
      obtain rfl := Option.some.inj hf
      exact ww_iret h dX10_units_17 hQ ⟨rfl, rfl⟩
theorem dX10_river_0 : decode cX10_river 0 = .ok (.iload_n 1, 1) := by decide +kernel
theorem dX10_river_1 : decode cX10_river 1 = .ok (.invokestatic 255, 3) := by decide +kernel
theorem dX10_river_4 : decode cX10_river 4 = .ok (.ifCond .ne 5, 3) := by decide +kernel
theorem dX10_river_7 : decode cX10_river 7 = .ok (.iconst (-1), 1) := by decide +kernel
theorem dX10_river_8 : decode cX10_river 8 = .ok (.ireturn, 1) := by decide +kernel
theorem dX10_river_9 : decode cX10_river 9 = .ok (.aload_n 0, 1) := by decide +kernel
theorem dX10_river_10 : decode cX10_river 10 = .ok (.iload_n 1, 1) := by decide +kernel
theorem dX10_river_11 : decode cX10_river 11 = .ok (.invokevirtual 258, 3) := by decide +kernel
theorem dX10_river_14 : decode cX10_river 14 = .ok (.iconst 0, 1) := by decide +kernel
theorem dX10_river_15 : decode cX10_river 15 = .ok (.istore_n 2, 1) := by decide +kernel
theorem dX10_river_16 : decode cX10_river 16 = .ok (.iload_n 2, 1) := by decide +kernel
theorem dX10_river_17 : decode cX10_river 17 = .ok (.sipush 500, 3) := by decide +kernel
theorem dX10_river_20 : decode cX10_river 20 = .ok (.if_icmp .ge 16, 3) := by decide +kernel
theorem dX10_river_23 : decode cX10_river 23 = .ok (.aload_n 0, 1) := by decide +kernel
theorem dX10_river_24 : decode cX10_river 24 = .ok (.getfield 72, 3) := by decide +kernel
theorem dX10_river_27 : decode cX10_river 27 = .ok (.iload_n 2, 1) := by decide +kernel
theorem dX10_river_28 : decode cX10_river 28 = .ok (.iconst 0, 1) := by decide +kernel
theorem dX10_river_29 : decode cX10_river 29 = .ok (.iastore, 1) := by decide +kernel
theorem dX10_river_30 : decode cX10_river 30 = .ok (.iinc 2 1, 3) := by decide +kernel
theorem dX10_river_33 : decode cX10_river 33 = .ok (.goto (-17), 3) := by decide +kernel
theorem dX10_river_36 : decode cX10_river 36 = .ok (.iconst 0, 1) := by decide +kernel
theorem dX10_river_37 : decode cX10_river 37 = .ok (.istore_n 2, 1) := by decide +kernel
theorem dX10_river_38 : decode cX10_river 38 = .ok (.iconst 0, 1) := by decide +kernel
theorem dX10_river_39 : decode cX10_river 39 = .ok (.istore_n 3, 1) := by decide +kernel
theorem dX10_river_40 : decode cX10_river 40 = .ok (.iload_n 3, 1) := by decide +kernel
theorem dX10_river_41 : decode cX10_river 41 = .ok (.aload_n 0, 1) := by decide +kernel
theorem dX10_river_42 : decode cX10_river 42 = .ok (.getfield 246, 3) := by decide +kernel
theorem dX10_river_45 : decode cX10_river 45 = .ok (.if_icmp .ge 219, 3) := by decide +kernel
theorem dX10_river_48 : decode cX10_river 48 = .ok (.aload_n 0, 1) := by decide +kernel
theorem dX10_river_49 : decode cX10_river 49 = .ok (.aload_n 0, 1) := by decide +kernel
theorem dX10_river_50 : decode cX10_river 50 = .ok (.iload_n 3, 1) := by decide +kernel
theorem dX10_river_51 : decode cX10_river 51 = .ok (.invokevirtual 261, 3) := by decide +kernel
theorem dX10_river_54 : decode cX10_river 54 = .ok (.aload_n 0, 1) := by decide +kernel
theorem dX10_river_55 : decode cX10_river 55 = .ok (.getfield 60, 3) := by decide +kernel
theorem dX10_river_58 : decode cX10_river 58 = .ok (.iload_n 3, 1) := by decide +kernel
theorem dX10_river_59 : decode cX10_river 59 = .ok (.iaload, 1) := by decide +kernel
theorem dX10_river_60 : decode cX10_river 60 = .ok (.invokevirtual 231, 3) := by decide +kernel
theorem dX10_river_63 : decode cX10_river 63 = .ok (.aload_n 0, 1) := by decide +kernel
theorem dX10_river_64 : decode cX10_river 64 = .ok (.aload_n 0, 1) := by decide +kernel
theorem dX10_river_65 : decode cX10_river 65 = .ok (.iload_n 3, 1) := by decide +kernel
theorem dX10_river_66 : decode cX10_river 66 = .ok (.invokevirtual 261, 3) := by decide +kernel
theorem dX10_river_69 : decode cX10_river 69 = .ok (.aload_n 0, 1) := by decide +kernel
theorem dX10_river_70 : decode cX10_river 70 = .ok (.getfield 60, 3) := by decide +kernel
theorem dX10_river_73 : decode cX10_river 73 = .ok (.iload_n 3, 1) := by decide +kernel
theorem dX10_river_74 : decode cX10_river 74 = .ok (.iaload, 1) := by decide +kernel
theorem dX10_river_75 : decode cX10_river 75 = .ok (.invokevirtual 280, 3) := by decide +kernel
theorem dX10_river_78 : decode cX10_river 78 = .ok (.iconst 0, 1) := by decide +kernel
theorem dX10_river_79 : decode cX10_river 79 = .ok (.istore 4, 2) := by decide +kernel
theorem dX10_river_81 : decode cX10_river 81 = .ok (.iload 4, 2) := by decide +kernel
theorem dX10_river_83 : decode cX10_river 83 = .ok (.sipush 500, 3) := by decide +kernel
theorem dX10_river_86 : decode cX10_river 86 = .ok (.if_icmp .ge 17, 3) := by decide +kernel
theorem dX10_river_89 : decode cX10_river 89 = .ok (.aload_n 0, 1) := by decide +kernel
theorem dX10_river_90 : decode cX10_river 90 = .ok (.getfield 75, 3) := by decide +kernel
theorem dX10_river_93 : decode cX10_river 93 = .ok (.iload 4, 2) := by decide +kernel
theorem dX10_river_95 : decode cX10_river 95 = .ok (.iconst 0, 1) := by decide +kernel
theorem dX10_river_96 : decode cX10_river 96 = .ok (.bastore, 1) := by decide +kernel
theorem dX10_river_97 : decode cX10_river 97 = .ok (.iinc 4 1, 3) := by decide +kernel
theorem dX10_river_100 : decode cX10_river 100 = .ok (.goto (-19), 3) := by decide +kernel
theorem dX10_river_103 : decode cX10_river 103 = .ok (.aload_n 0, 1) := by decide +kernel
theorem dX10_river_104 : decode cX10_river 104 = .ok (.iload_n 3, 1) := by decide +kernel
theorem dX10_river_105 : decode cX10_river 105 = .ok (.invokevirtual 261, 3) := by decide +kernel
theorem dX10_river_108 : decode cX10_river 108 = .ok (.istore 4, 2) := by decide +kernel
theorem dX10_river_110 : decode cX10_river 110 = .ok (.iload 4, 2) := by decide +kernel
theorem dX10_river_112 : decode cX10_river 112 = .ok (.aload_n 0, 1) := by decide +kernel
theorem dX10_river_113 : decode cX10_river 113 = .ok (.getfield 60, 3) := by decide +kernel
theorem dX10_river_116 : decode cX10_river 116 = .ok (.iload_n 3, 1) := by decide +kernel
theorem dX10_river_117 : decode cX10_river 117 = .ok (.iaload, 1) := by decide +kernel
theorem dX10_river_118 : decode cX10_river 118 = .ok (.if_icmp .ge 74, 3) := by decide +kernel
theorem dX10_river_121 : decode cX10_river 121 = .ok (.aload_n 0, 1) := by decide +kernel
theorem dX10_river_122 : decode cX10_river 122 = .ok (.aload_n 0, 1) := by decide +kernel
theorem dX10_river_123 : decode cX10_river 123 = .ok (.iload_n 3, 1) := by decide +kernel
theorem dX10_river_124 : decode cX10_river 124 = .ok (.invokevirtual 261, 3) := by decide +kernel
theorem dX10_river_127 : decode cX10_river 127 = .ok (.iload 4, 2) := by decide +kernel
theorem dX10_river_129 : decode cX10_river 129 = .ok (.invokevirtual 283, 3) := by decide +kernel
theorem dX10_river_132 : decode cX10_river 132 = .ok (.aload_n 0, 1) := by decide +kernel
theorem dX10_river_133 : decode cX10_river 133 = .ok (.getfield 13, 3) := by decide +kernel
theorem dX10_river_136 : decode cX10_river 136 = .ok (.aload_n 0, 1) := by decide +kernel
theorem dX10_river_137 : decode cX10_river 137 = .ok (.iload 4, 2) := by decide +kernel
theorem dX10_river_139 : decode cX10_river 139 = .ok (.invokevirtual 144, 3) := by decide +kernel
theorem dX10_river_142 : decode cX10_river 142 = .ok (.iaload, 1) := by decide +kernel
theorem dX10_river_143 : decode cX10_river 143 = .ok (.iadd, 1) := by decide +kernel
theorem dX10_river_144 : decode cX10_river 144 = .ok (.aload_n 0, 1) := by decide +kernel
theorem dX10_river_145 : decode cX10_river 145 = .ok (.getfield 63, 3) := by decide +kernel
theorem dX10_river_148 : decode cX10_river 148 = .ok (.iload 4, 2) := by decide +kernel
theorem dX10_river_150 : decode cX10_river 150 = .ok (.iaload, 1) := by decide +kernel
theorem dX10_river_151 : decode cX10_river 151 = .ok (.isub, 1) := by decide +kernel
theorem dX10_river_152 : decode cX10_river 152 = .ok (.istore 5, 2) := by decide +kernel
theorem dX10_river_154 : decode cX10_river 154 = .ok (.iconst 0, 1) := by decide +kernel
theorem dX10_river_155 : decode cX10_river 155 = .ok (.istore 6, 2) := by decide +kernel
theorem dX10_river_157 : decode cX10_river 157 = .ok (.iload 6, 2) := by decide +kernel
theorem dX10_river_159 : decode cX10_river 159 = .ok (.aload_n 0, 1) := by decide +kernel
theorem dX10_river_160 : decode cX10_river 160 = .ok (.getfield 66, 3) := by decide +kernel
theorem dX10_river_163 : decode cX10_river 163 = .ok (.iload 4, 2) := by decide +kernel
theorem dX10_river_165 : decode cX10_river 165 = .ok (.iaload, 1) := by decide +kernel
theorem dX10_river_166 : decode cX10_river 166 = .ok (.if_icmp .ge 20, 3) := by decide +kernel
theorem dX10_river_169 : decode cX10_river 169 = .ok (.aload_n 0, 1) := by decide +kernel
theorem dX10_river_170 : decode cX10_river 170 = .ok (.getfield 75, 3) := by decide +kernel
theorem dX10_river_173 : decode cX10_river 173 = .ok (.iload 5, 2) := by decide +kernel
theorem dX10_river_175 : decode cX10_river 175 = .ok (.iload 6, 2) := by decide +kernel
theorem dX10_river_177 : decode cX10_river 177 = .ok (.iadd, 1) := by decide +kernel
theorem dX10_river_178 : decode cX10_river 178 = .ok (.iconst 1, 1) := by decide +kernel
theorem dX10_river_179 : decode cX10_river 179 = .ok (.bastore, 1) := by decide +kernel
theorem dX10_river_180 : decode cX10_river 180 = .ok (.iinc 6 1, 3) := by decide +kernel
theorem dX10_river_183 : decode cX10_river 183 = .ok (.goto (-26), 3) := by decide +kernel
theorem dX10_river_186 : decode cX10_river 186 = .ok (.iinc 4 1, 3) := by decide +kernel
theorem dX10_river_189 : decode cX10_river 189 = .ok (.goto (-79), 3) := by decide +kernel
theorem dX10_river_192 : decode cX10_river 192 = .ok (.iconst 0, 1) := by decide +kernel
theorem dX10_river_193 : decode cX10_river 193 = .ok (.istore 4, 2) := by decide +kernel
theorem dX10_river_195 : decode cX10_river 195 = .ok (.iload 4, 2) := by decide +kernel
theorem dX10_river_197 : decode cX10_river 197 = .ok (.sipush 500, 3) := by decide +kernel
theorem dX10_river_200 : decode cX10_river 200 = .ok (.if_icmp .ge 58, 3) := by decide +kernel
theorem dX10_river_203 : decode cX10_river 203 = .ok (.aload_n 0, 1) := by decide +kernel
theorem dX10_river_204 : decode cX10_river 204 = .ok (.getfield 72, 3) := by decide +kernel
theorem dX10_river_207 : decode cX10_river 207 = .ok (.iload 4, 2) := by decide +kernel
theorem dX10_river_209 : decode cX10_river 209 = .ok (.aload_n 0, 1) := by decide +kernel
theorem dX10_river_210 : decode cX10_river 210 = .ok (.getfield 75, 3) := by decide +kernel
theorem dX10_river_213 : decode cX10_river 213 = .ok (.iload 4, 2) := by decide +kernel
theorem dX10_river_215 : decode cX10_river 215 = .ok (.baload, 1) := by decide +kernel
theorem dX10_river_216 : decode cX10_river 216 = .ok (.ifCond .eq 15, 3) := by decide +kernel
theorem dX10_river_219 : decode cX10_river 219 = .ok (.aload_n 0, 1) := by decide +kernel
theorem dX10_river_220 : decode cX10_river 220 = .ok (.getfield 72, 3) := by decide +kernel
theorem dX10_river_223 : decode cX10_river 223 = .ok (.iload 4, 2) := by decide +kernel
theorem dX10_river_225 : decode cX10_river 225 = .ok (.iaload, 1) := by decide +kernel
theorem dX10_river_226 : decode cX10_river 226 = .ok (.iconst 1, 1) := by decide +kernel
theorem dX10_river_227 : decode cX10_river 227 = .ok (.iadd, 1) := by decide +kernel
theorem dX10_river_228 : decode cX10_river 228 = .ok (.goto 4, 3) := by decide +kernel
theorem dX10_river_231 : decode cX10_river 231 = .ok (.iconst 0, 1) := by decide +kernel
theorem dX10_river_232 : decode cX10_river 232 = .ok (.iastore, 1) := by decide +kernel
theorem dX10_river_233 : decode cX10_river 233 = .ok (.aload_n 0, 1) := by decide +kernel
theorem dX10_river_234 : decode cX10_river 234 = .ok (.getfield 72, 3) := by decide +kernel
theorem dX10_river_237 : decode cX10_river 237 = .ok (.iload 4, 2) := by decide +kernel
theorem dX10_river_239 : decode cX10_river 239 = .ok (.iaload, 1) := by decide +kernel
theorem dX10_river_240 : decode cX10_river 240 = .ok (.iload_n 2, 1) := by decide +kernel
theorem dX10_river_241 : decode cX10_river 241 = .ok (.if_icmp .le 11, 3) := by decide +kernel
theorem dX10_river_244 : decode cX10_river 244 = .ok (.aload_n 0, 1) := by decide +kernel
theorem dX10_river_245 : decode cX10_river 245 = .ok (.getfield 72, 3) := by decide +kernel
theorem dX10_river_248 : decode cX10_river 248 = .ok (.iload 4, 2) := by decide +kernel
theorem dX10_river_250 : decode cX10_river 250 = .ok (.iaload, 1) := by decide +kernel
theorem dX10_river_251 : decode cX10_river 251 = .ok (.istore_n 2, 1) := by decide +kernel
theorem dX10_river_252 : decode cX10_river 252 = .ok (.iinc 4 1, 3) := by decide +kernel
theorem dX10_river_255 : decode cX10_river 255 = .ok (.goto (-60), 3) := by decide +kernel
theorem dX10_river_258 : decode cX10_river 258 = .ok (.iinc 3 1, 3) := by decide +kernel
theorem dX10_river_261 : decode cX10_river 261 = .ok (.goto (-221), 3) := by decide +kernel
theorem dX10_river_264 : decode cX10_river 264 = .ok (.iload_n 2, 1) := by decide +kernel
theorem dX10_river_265 : decode cX10_river 265 = .ok (.ireturn, 1) := by decide +kernel
theorem ok_X10_river : okY RX10 yX10_river 1 := ⟨rfl, by decide, by decide, by decide +kernel⟩
def s_X10_river_16_6 : (Int32 × OV) → Option ((Int32 × OV) ⊕ (OV)) := un2 (fun v2_7 M_8 => (if (500 : Int32) ≤ v2_7 then some (.inr M_8) else gd (ix v2_7 500) (bnd (sA M_8 29 v2_7.toNatClampNeg (0 : Int32)) (fun M_9 => bnd (v2_7 + 1) (fun v2_10 => some (.inl (v2_10, M_9)))))))
def s_X10_river_81_27 : (Int32 × OV) → Option ((Int32 × OV) ⊕ (OV)) := un2 (fun v4_28 M_29 => (if (500 : Int32) ≤ v4_28 then some (.inr M_29) else gd (ix v4_28 500) (bnd (sA M_29 30 v4_28.toNatClampNeg (vp_nar .boolean (0 : Int32))) (fun M_30 => bnd (v4_28 + 1) (fun v4_31 => some (.inl (v4_31, M_30)))))))
def s_X10_river_157_47 (v4_37 : Int32) (v5_45 : Int32) : (Int32 × OV) → Option ((Int32 × OV) ⊕ (OV)) := un2 (fun v6_48 M_49 => gd (ix v4_37 40) ((if (ar M_49 27 v4_37.toNatClampNeg) ≤ v6_48 then some (.inr M_49) else gd (ix (v5_45 + v6_48) 500) (bnd (sA M_49 30 (v5_45 + v6_48).toNatClampNeg (vp_nar .boolean (1 : Int32))) (fun M_50 => bnd (v6_48 + 1) (fun v6_51 => some (.inl (v6_51, M_50))))))))
def s_X10_river_110_36 (v3_16 : Int32) : (Int32 × OV) → Option ((Int32 × OV) ⊕ (OV)) := un2 (fun v4_37 M_38 => gd (ix v3_16 41) ((if (ar M_38 24 v3_16.toNatClampNeg) ≤ v4_37 then some (.inr M_38) else (f_X10_firstOf M_38 v3_16).bind (un1 (fun r_39 => (f_X10_edgeOf M_38 r_39 v4_37).bind (un1 (fun r_41 => (f_X10_classOf M_38 v4_37).bind (un1 (fun r_43 => gd (ix r_43 26) (gd (ix v4_37 40) (bnd ((r_41 + (ar M_38 1 r_43.toNatClampNeg)) - (ar M_38 26 v4_37.toNatClampNeg)) (fun v5_45 => bnd (0 : Int32) (fun v6_46 => ((lp (s_X10_river_157_47 v4_37 v5_45) 5000 (v6_46, M_38)).bind (un1 (fun M_52 => bnd (v4_37 + 1) (fun v4_53 => some (.inl (v4_53, M_52)))))))))))))))))))
def j_X10_river_252_64 (M_62 : OV) (v4_58 : Int32) (v2_63 : Int32) : Option ((Int32 × Int32 × OV) ⊕ (Int32 × OV)) := bnd (v4_58 + 1) (fun v4_65 => some (.inl (v2_63, v4_65, M_62)))
def j_X10_river_232_61 (M_59 : OV) (v2_57 : Int32) (v4_58 : Int32) (t_60 : Int32) : Option ((Int32 × Int32 × OV) ⊕ (Int32 × OV)) := gd (ix v4_58 500) (bnd (sA M_59 29 v4_58.toNatClampNeg t_60) (fun M_62 => gd (ix v4_58 500) ((if (ar M_62 29 v4_58.toNatClampNeg) ≤ v2_57 then j_X10_river_252_64 M_62 v4_58 v2_57 else gd (ix v4_58 500) (bnd (ar M_62 29 v4_58.toNatClampNeg) (fun v2_66 => j_X10_river_252_64 M_62 v4_58 v2_66))))))
def s_X10_river_195_56 : (Int32 × Int32 × OV) → Option ((Int32 × Int32 × OV) ⊕ (Int32 × OV)) := un3 (fun v2_57 v4_58 M_59 => (if (500 : Int32) ≤ v4_58 then some (.inr (v2_57, M_59)) else gd (ix v4_58 500) ((if (ar M_59 30 v4_58.toNatClampNeg) = 0 then j_X10_river_232_61 M_59 v2_57 v4_58 (0 : Int32) else gd (ix v4_58 500) (j_X10_river_232_61 M_59 v2_57 v4_58 ((ar M_59 29 v4_58.toNatClampNeg) + (1 : Int32)))))))
def s_X10_river_40_14 : (Int32 × Int32 × OV) → Option ((Int32 × Int32 × OV) ⊕ (Int32 × OV)) := un3 (fun v2_15 v3_16 M_17 => (if (iv M_17 25) ≤ v3_16 then some (.inr (v2_15, M_17)) else (f_X10_firstOf M_17 v3_16).bind (un1 (fun r_18 => gd (ix v3_16 41) ((f_X10_looks M_17 r_18 (ar M_17 24 v3_16.toNatClampNeg)).bind (un1 (fun M_20 => (f_X10_firstOf M_20 v3_16).bind (un1 (fun r_22 => gd (ix v3_16 41) ((f_X10_deals M_20 r_22 (ar M_20 24 v3_16.toNatClampNeg)).bind (un1 (fun M_24 => bnd (0 : Int32) (fun v4_26 => ((lp (s_X10_river_81_27) 5000 (v4_26, M_24)).bind (un1 (fun M_32 => (f_X10_firstOf M_32 v3_16).bind (un1 (fun r_33 => bnd r_33 (fun v4_35 => ((lp (s_X10_river_110_36 v3_16) 5000 (v4_35, M_32)).bind (un1 (fun M_54 => bnd (0 : Int32) (fun v4_55 => ((lp (s_X10_river_195_56) 5000 (v2_15, v4_55, M_54)).bind (un2 (fun v2_67 M_68 => bnd (v3_16 + 1) (fun v3_69 => some (.inl (v2_67, v3_69, M_68)))))))))))))))))))))))))))))
def f_X10_river (M : OV) (p0 : Int32) : Option (Int32 × OV) := (f_X10_isKind p0).bind (un1 (fun r_1 => (if r_1 = 0 then some ((-1 : Int32), M) else (f_X10_laysLines M p0).bind (un1 (fun M_3 => bnd (0 : Int32) (fun v2_5 => ((lp (s_X10_river_16_6) 5000 (v2_5, M_3)).bind (un1 (fun M_11 => bnd (0 : Int32) (fun v2_12 => bnd (0 : Int32) (fun v3_13 => ((lp (s_X10_river_40_14) 5000 (v2_12, v3_13, M_11)).bind (un2 (fun v2_70 M_71 => some (v2_70, M_71)))))))))))))))
def r_X10_river : Room := { frames := 7, cells := 0, slots := 0, locals := 169 }
set_option maxHeartbeats 4000000 in
set_option maxRecDepth 100000 in
theorem c_X10_river (l : Launch) (D : va_G) (ev : EvT) (cy : Nat → ClassId) (oM : Nat) (aM : Nat → Nat) (M : OV) (p0 : Int32) (o : Int32 × OV) (hf : f_X10_river M p0 = some o) : Fn l yX10_river cX10_river 7 (some .int) r_X10_river D ev cy [.ref oM, .int p0] [gX10 cy oM aM M] (fun v G => v = some (.int o.1) ∧ G = [gX10 cy oM aM o.2]) := by
  refine Fn_of (by decide) (Nat.le_of_ble_eq_true rfl) (fun X A Q h hQ _ => ?_)
  unfold f_X10_river at hf
  show ww X D A 7 Q 0 0 0 [(0, .ref oM), (1, .int p0)] [] [gX10 cy oM aM M]
  refine ww_iload_n h dX10_river_0 rfl 1 rfl 1 rfl ?_
  obtain ⟨r_1, hu2, hf⟩ := ob1 hf
  refine ww_cSi h (c_X10_isKind l D ev cy p0 _ hu2) ⟨w_1492, w_1490, w_1491, w_111, ok_X10_isKind⟩ ⟨by decide, by decide⟩ ⟨by decide, by decide⟩ ⟨rfl, rfl⟩ [] rfl rfl (Nat.le_of_ble_eq_true rfl) dX10_river_1 4 rfl (Gs' := [gX10 cy oM aM M]) rfl ?_
  clear hu2
  refine ww_if_ne h dX10_river_4 9 (by decide) 7 rfl (fun c => ?_) (fun c => ?_)
  · replace hf := ite_f c hf
    refine ww_aload_n h dX10_river_9 rfl 0 rfl 10 rfl ?_
    refine ww_iload_n h dX10_river_10 rfl 1 rfl 11 rfl ?_
    obtain ⟨M_3, hu4, hf⟩ := ob1 hf
    refine ww_cVv h (c_X10_laysLines l D ev cy oM aM M p0 _ hu4) ⟨w_1496, w_1493, w_1495, w_56, w_111, ok_X10_laysLines⟩ ⟨by decide, by decide⟩ ⟨by decide, by decide⟩ ⟨rfl, rfl⟩ [0] rfl 0 rfl rfl rfl rfl (Nat.le_of_ble_eq_true rfl) dX10_river_11 14 rfl (Gs' := [gX10 cy oM aM M_3]) rfl ?_
    clear hu4
    refine ww_iconst (v := 0) h dX10_river_14 (by decide) 15 rfl ?_
    refine ww_ist_n h dX10_river_15 rfl (by decide) (fun v2_5 => [(2, .int v2_5), (0, .ref oM), (1, .int p0)]) (fun _ => rfl) 16 rfl (fun v2_5 e => ?_)
    replace hf := bnd_at e hf
    clear e
    refine ww_lo [1, 0] (lo' := [(0, .ref oM), (2, .int v2_5)]) rfl ?_
    obtain ⟨M_11, h6, hf⟩ := ob1 hf
    refine lp_walk (un2 (fun v2_7 M_8 => ww X D A 7 Q 0 0 16 [(0, .ref oM), (2, .int v2_7)] [] [gX10 cy oM aM M_8])) (un1 (fun M_11 => ww X D A 7 Q 0 0 36 [(0, .ref oM)] [] [gX10 cy oM aM M_11])) ?_ _ _ _ h6 ?_
    · clear h6 hf
      intro s6 o6 hf hI6 hE6
      obtain ⟨v2_7, M_8⟩ := s6
      unfold s_X10_river_16_6 at hf
      replace hf := un2_e hf
      show ww X D A 7 Q 0 0 16 [(0, .ref oM), (2, .int v2_7)] [] [gX10 cy oM aM M_8]
      refine ww_iload_n h dX10_river_16 rfl 1 rfl 17 rfl ?_
      refine ww_sipush (v := 500) h dX10_river_17 (by decide) 20 rfl ?_
      refine ww_icmp_ge h dX10_river_20 36 (by decide) 23 rfl (fun c => ?_) (fun c => ?_)
      · replace hf := ite_t c hf
        refine ww_lo [0] (lo' := [(0, .ref oM)]) rfl ?_
        exact hE6 M_8 (Option.some.inj hf).symm
      · replace hf := ite_f c hf
        refine ww_aload_n h dX10_river_23 rfl 0 rfl 24 rfl ?_
        refine ww_get h inG10 rfl 0 rfl rfl 29 (by decide) w_1186 rfl dX10_river_24 27 rfl ?_
        refine ww_iload_n h dX10_river_27 rfl 1 rfl 28 rfl ?_
        refine ww_iconst (v := 0) h dX10_river_28 (by decide) 29 rfl ?_
        have hi := (gd_some hf).1
        replace hf := (gd_some hf).2
        refine ww_iast h 0 rfl 20 rfl (ix_in hi) dX10_river_29 30 rfl ?_
        clear hi
        refine ww_nm (fun z => [gX10 cy oM aM z]) (sA M_8 29 v2_7.toNatClampNeg (0 : Int32)) (fun M_9 e => ?_)
        replace hf := bnd_at e hf
        clear e
        refine ww_inc (c := 1) h dX10_river_30 1 rfl (by decide) (by decide) (fun v2_10 => [(2, .int v2_10), (0, .ref oM)]) (fun _ => rfl) 33 rfl (fun v2_10 e => ?_)
        replace hf := bnd_at e hf
        clear e
        refine ww_goto h dX10_river_33 16 (by decide) ?_
        refine ww_lo [1, 0] (lo' := [(0, .ref oM), (2, .int v2_10)]) rfl ?_
        exact hI6 (v2_10, M_9) (Option.some.inj hf).symm
    · clear h6
      show ww X D A 7 Q 0 0 36 [(0, .ref oM)] [] [gX10 cy oM aM M_11]
      refine ww_iconst (v := 0) h dX10_river_36 (by decide) 37 rfl ?_
      refine ww_ist_n h dX10_river_37 rfl (by decide) (fun v2_12 => [(2, .int v2_12), (0, .ref oM)]) (fun _ => rfl) 38 rfl (fun v2_12 e => ?_)
      replace hf := bnd_at e hf
      clear e
      refine ww_iconst (v := 0) h dX10_river_38 (by decide) 39 rfl ?_
      refine ww_ist_n h dX10_river_39 rfl (by decide) (fun v3_13 => [(3, .int v3_13), (2, .int v2_12), (0, .ref oM)]) (fun _ => rfl) 40 rfl (fun v3_13 e => ?_)
      replace hf := bnd_at e hf
      clear e
      refine ww_lo [2, 1, 0] (lo' := [(0, .ref oM), (2, .int v2_12), (3, .int v3_13)]) rfl ?_
      obtain ⟨v2_70, M_71, h14, hf⟩ := ob2 hf
      refine lp_walk (un3 (fun v2_15 v3_16 M_17 => ww X D A 7 Q 0 0 40 [(0, .ref oM), (2, .int v2_15), (3, .int v3_16)] [] [gX10 cy oM aM M_17])) (un2 (fun v2_70 M_71 => ww X D A 7 Q 0 0 264 [(2, .int v2_70)] [] [gX10 cy oM aM M_71])) ?_ _ _ _ h14 ?_
      · clear h14 hf
        intro s14 o14 hf hI14 hE14
        obtain ⟨v2_15, v3_16, M_17⟩ := s14
        unfold s_X10_river_40_14 at hf
        replace hf := un3_e hf
        show ww X D A 7 Q 0 0 40 [(0, .ref oM), (2, .int v2_15), (3, .int v3_16)] [] [gX10 cy oM aM M_17]
        refine ww_iload_n h dX10_river_40 rfl 2 rfl 41 rfl ?_
        refine ww_aload_n h dX10_river_41 rfl 0 rfl 42 rfl ?_
        refine ww_get h inG10 rfl 0 rfl rfl 25 (by decide) w_1182 rfl dX10_river_42 45 rfl ?_
        refine ww_icmp_ge h dX10_river_45 264 (by decide) 48 rfl (fun c => ?_) (fun c => ?_)
        · replace hf := ite_t c hf
          refine ww_lo [1] (lo' := [(2, .int v2_15)]) rfl ?_
          exact hE14 (v2_15, M_17) (Option.some.inj hf).symm
        · replace hf := ite_f c hf
          refine ww_aload_n h dX10_river_48 rfl 0 rfl 49 rfl ?_
          refine ww_aload_n h dX10_river_49 rfl 0 rfl 50 rfl ?_
          refine ww_iload_n h dX10_river_50 rfl 2 rfl 51 rfl ?_
          obtain ⟨r_18, hu19, hf⟩ := ob1 hf
          refine ww_cVi h (c_X10_firstOf l D ev cy oM aM M_17 v3_16 _ hu19) ⟨w_1525, w_1522, w_1524, w_63, w_111, ok_X10_firstOf⟩ ⟨by decide, by decide⟩ ⟨by decide, by decide⟩ ⟨rfl, rfl⟩ [0] rfl 0 rfl rfl rfl rfl (Nat.le_of_ble_eq_true rfl) dX10_river_51 54 rfl (Gs' := [gX10 cy oM aM M_17]) rfl ?_
          clear hu19
          refine ww_aload_n h dX10_river_54 rfl 0 rfl 55 rfl ?_
          refine ww_get h inG10 rfl 0 rfl rfl 24 (by decide) w_1181 rfl dX10_river_55 58 rfl ?_
          refine ww_iload_n h dX10_river_58 rfl 2 rfl 59 rfl ?_
          have hi := (gd_some hf).1
          replace hf := (gd_some hf).2
          refine ww_iald h 0 rfl 16 rfl (ix_in hi) dX10_river_59 60 rfl ?_
          clear hi
          obtain ⟨M_20, hu21, hf⟩ := ob1 hf
          refine ww_cVv h (c_X10_looks l D ev cy oM aM M_17 r_18 (ar M_17 24 v3_16.toNatClampNeg) _ hu21) ⟨w_1469, w_1466, w_1468, w_52, w_111, ok_X10_looks⟩ ⟨by decide, by decide⟩ ⟨by decide, by decide⟩ ⟨rfl, rfl⟩ [0] rfl 0 rfl rfl rfl rfl (Nat.le_of_ble_eq_true rfl) dX10_river_60 63 rfl (Gs' := [gX10 cy oM aM M_20]) rfl ?_
          clear hu21
          refine ww_aload_n h dX10_river_63 rfl 0 rfl 64 rfl ?_
          refine ww_aload_n h dX10_river_64 rfl 0 rfl 65 rfl ?_
          refine ww_iload_n h dX10_river_65 rfl 2 rfl 66 rfl ?_
          obtain ⟨r_22, hu23, hf⟩ := ob1 hf
          refine ww_cVi h (c_X10_firstOf l D ev cy oM aM M_20 v3_16 _ hu23) ⟨w_1525, w_1522, w_1524, w_63, w_111, ok_X10_firstOf⟩ ⟨by decide, by decide⟩ ⟨by decide, by decide⟩ ⟨rfl, rfl⟩ [0] rfl 0 rfl rfl rfl rfl (Nat.le_of_ble_eq_true rfl) dX10_river_66 69 rfl (Gs' := [gX10 cy oM aM M_20]) rfl ?_
          clear hu23
          refine ww_aload_n h dX10_river_69 rfl 0 rfl 70 rfl ?_
          refine ww_get h inG10 rfl 0 rfl rfl 24 (by decide) w_1181 rfl dX10_river_70 73 rfl ?_
          refine ww_iload_n h dX10_river_73 rfl 2 rfl 74 rfl ?_
          have hi := (gd_some hf).1
          replace hf := (gd_some hf).2
          refine ww_iald h 0 rfl 16 rfl (ix_in hi) dX10_river_74 75 rfl ?_
          clear hi
          obtain ⟨M_24, hu25, hf⟩ := ob1 hf
          refine ww_cVv h (c_X10_deals l D ev cy oM aM M_20 r_22 (ar M_20 24 v3_16.toNatClampNeg) _ hu25) ⟨w_1553, w_1550, w_1552, w_67, w_111, ok_X10_deals⟩ ⟨by decide, by decide⟩ ⟨by decide, by decide⟩ ⟨rfl, rfl⟩ [0] rfl 0 rfl rfl rfl rfl (Nat.le_of_ble_eq_true rfl) dX10_river_75 78 rfl (Gs' := [gX10 cy oM aM M_24]) rfl ?_
          clear hu25
          refine ww_iconst (v := 0) h dX10_river_78 (by decide) 79 rfl ?_
          refine ww_ist h dX10_river_79 (by decide) (fun v4_26 => [(4, .int v4_26), (0, .ref oM), (2, .int v2_15), (3, .int v3_16)]) (fun _ => rfl) 81 rfl (fun v4_26 e => ?_)
          replace hf := bnd_at e hf
          clear e
          refine ww_lo [1, 2, 3, 0] (lo' := [(0, .ref oM), (2, .int v2_15), (3, .int v3_16), (4, .int v4_26)]) rfl ?_
          obtain ⟨M_32, h27, hf⟩ := ob1 hf
          refine lp_walk (un2 (fun v4_28 M_29 => ww X D A 7 Q 0 0 81 [(0, .ref oM), (2, .int v2_15), (3, .int v3_16), (4, .int v4_28)] [] [gX10 cy oM aM M_29])) (un1 (fun M_32 => ww X D A 7 Q 0 0 103 [(0, .ref oM), (2, .int v2_15), (3, .int v3_16)] [] [gX10 cy oM aM M_32])) ?_ _ _ _ h27 ?_
          · clear h27 hf
            intro s27 o27 hf hI27 hE27
            obtain ⟨v4_28, M_29⟩ := s27
            unfold s_X10_river_81_27 at hf
            replace hf := un2_e hf
            show ww X D A 7 Q 0 0 81 [(0, .ref oM), (2, .int v2_15), (3, .int v3_16), (4, .int v4_28)] [] [gX10 cy oM aM M_29]
            refine ww_iload h dX10_river_81 3 rfl 83 rfl ?_
            refine ww_sipush (v := 500) h dX10_river_83 (by decide) 86 rfl ?_
            refine ww_icmp_ge h dX10_river_86 103 (by decide) 89 rfl (fun c => ?_) (fun c => ?_)
            · replace hf := ite_t c hf
              refine ww_lo [0, 1, 2] (lo' := [(0, .ref oM), (2, .int v2_15), (3, .int v3_16)]) rfl ?_
              exact hE27 M_29 (Option.some.inj hf).symm
            · replace hf := ite_f c hf
              refine ww_aload_n h dX10_river_89 rfl 0 rfl 90 rfl ?_
              refine ww_get h inG10 rfl 0 rfl rfl 30 (by decide) w_1187 rfl dX10_river_90 93 rfl ?_
              refine ww_iload h dX10_river_93 3 rfl 95 rfl ?_
              refine ww_iconst (v := 0) h dX10_river_95 (by decide) 96 rfl ?_
              have hi := (gd_some hf).1
              replace hf := (gd_some hf).2
              refine ww_zast h 0 rfl 21 rfl (ix_in hi) dX10_river_96 97 rfl ?_
              clear hi
              refine ww_nm (fun z => [gX10 cy oM aM z]) (sA M_29 30 v4_28.toNatClampNeg (vp_nar .boolean (0 : Int32))) (fun M_30 e => ?_)
              replace hf := bnd_at e hf
              clear e
              refine ww_inc (c := 1) h dX10_river_97 3 rfl (by decide) (by decide) (fun v4_31 => [(4, .int v4_31), (0, .ref oM), (2, .int v2_15), (3, .int v3_16)]) (fun _ => rfl) 100 rfl (fun v4_31 e => ?_)
              replace hf := bnd_at e hf
              clear e
              refine ww_goto h dX10_river_100 81 (by decide) ?_
              refine ww_lo [1, 2, 3, 0] (lo' := [(0, .ref oM), (2, .int v2_15), (3, .int v3_16), (4, .int v4_31)]) rfl ?_
              exact hI27 (v4_31, M_30) (Option.some.inj hf).symm
          · clear h27
            show ww X D A 7 Q 0 0 103 [(0, .ref oM), (2, .int v2_15), (3, .int v3_16)] [] [gX10 cy oM aM M_32]
            refine ww_aload_n h dX10_river_103 rfl 0 rfl 104 rfl ?_
            refine ww_iload_n h dX10_river_104 rfl 2 rfl 105 rfl ?_
            obtain ⟨r_33, hu34, hf⟩ := ob1 hf
            refine ww_cVi h (c_X10_firstOf l D ev cy oM aM M_32 v3_16 _ hu34) ⟨w_1525, w_1522, w_1524, w_63, w_111, ok_X10_firstOf⟩ ⟨by decide, by decide⟩ ⟨by decide, by decide⟩ ⟨rfl, rfl⟩ [0] rfl 0 rfl rfl rfl rfl (Nat.le_of_ble_eq_true rfl) dX10_river_105 108 rfl (Gs' := [gX10 cy oM aM M_32]) rfl ?_
            clear hu34
            refine ww_ist h dX10_river_108 (by decide) (fun v4_35 => [(4, .int v4_35), (0, .ref oM), (2, .int v2_15), (3, .int v3_16)]) (fun _ => rfl) 110 rfl (fun v4_35 e => ?_)
            replace hf := bnd_at e hf
            clear e
            refine ww_lo [1, 2, 3, 0] (lo' := [(0, .ref oM), (2, .int v2_15), (3, .int v3_16), (4, .int v4_35)]) rfl ?_
            obtain ⟨M_54, h36, hf⟩ := ob1 hf
            refine lp_walk (un2 (fun v4_37 M_38 => ww X D A 7 Q 0 0 110 [(0, .ref oM), (2, .int v2_15), (3, .int v3_16), (4, .int v4_37)] [] [gX10 cy oM aM M_38])) (un1 (fun M_54 => ww X D A 7 Q 0 0 192 [(0, .ref oM), (2, .int v2_15), (3, .int v3_16)] [] [gX10 cy oM aM M_54])) ?_ _ _ _ h36 ?_
            · clear h36 hf
              intro s36 o36 hf hI36 hE36
              obtain ⟨v4_37, M_38⟩ := s36
              unfold s_X10_river_110_36 at hf
              replace hf := un2_e hf
              show ww X D A 7 Q 0 0 110 [(0, .ref oM), (2, .int v2_15), (3, .int v3_16), (4, .int v4_37)] [] [gX10 cy oM aM M_38]
              refine ww_iload h dX10_river_110 3 rfl 112 rfl ?_
              refine ww_aload_n h dX10_river_112 rfl 0 rfl 113 rfl ?_
              refine ww_get h inG10 rfl 0 rfl rfl 24 (by decide) w_1181 rfl dX10_river_113 116 rfl ?_
              refine ww_iload_n h dX10_river_116 rfl 2 rfl 117 rfl ?_
              have hi := (gd_some hf).1
              replace hf := (gd_some hf).2
              refine ww_iald h 0 rfl 16 rfl (ix_in hi) dX10_river_117 118 rfl ?_
              clear hi
              refine ww_icmp_ge h dX10_river_118 192 (by decide) 121 rfl (fun c => ?_) (fun c => ?_)
              · replace hf := ite_t c hf
                refine ww_lo [0, 1, 2] (lo' := [(0, .ref oM), (2, .int v2_15), (3, .int v3_16)]) rfl ?_
                exact hE36 M_38 (Option.some.inj hf).symm
              · replace hf := ite_f c hf
                refine ww_aload_n h dX10_river_121 rfl 0 rfl 122 rfl ?_
                refine ww_aload_n h dX10_river_122 rfl 0 rfl 123 rfl ?_
                refine ww_iload_n h dX10_river_123 rfl 2 rfl 124 rfl ?_
                obtain ⟨r_39, hu40, hf⟩ := ob1 hf
                refine ww_cVi h (c_X10_firstOf l D ev cy oM aM M_38 v3_16 _ hu40) ⟨w_1525, w_1522, w_1524, w_63, w_111, ok_X10_firstOf⟩ ⟨by decide, by decide⟩ ⟨by decide, by decide⟩ ⟨rfl, rfl⟩ [0] rfl 0 rfl rfl rfl rfl (Nat.le_of_ble_eq_true rfl) dX10_river_124 127 rfl (Gs' := [gX10 cy oM aM M_38]) rfl ?_
                clear hu40
                refine ww_iload h dX10_river_127 3 rfl 129 rfl ?_
                obtain ⟨r_41, hu42, hf⟩ := ob1 hf
                refine ww_cVi h (c_X10_edgeOf l D ev cy oM aM M_38 r_39 v4_37 _ hu42) ⟨w_1565, w_1562, w_1564, w_70, w_111, ok_X10_edgeOf⟩ ⟨by decide, by decide⟩ ⟨by decide, by decide⟩ ⟨rfl, rfl⟩ [0] rfl 0 rfl rfl rfl rfl (Nat.le_of_ble_eq_true rfl) dX10_river_129 132 rfl (Gs' := [gX10 cy oM aM M_38]) rfl ?_
                clear hu42
                refine ww_aload_n h dX10_river_132 rfl 0 rfl 133 rfl ?_
                refine ww_get h inG10 rfl 0 rfl rfl 1 (by decide) w_1158 rfl dX10_river_133 136 rfl ?_
                refine ww_aload_n h dX10_river_136 rfl 0 rfl 137 rfl ?_
                refine ww_iload h dX10_river_137 3 rfl 139 rfl ?_
                obtain ⟨r_43, hu44, hf⟩ := ob1 hf
                refine ww_cVi h (c_X10_classOf l D ev cy oM aM M_38 v4_37 _ hu44) ⟨w_1369, w_1366, w_1368, w_44, w_111, ok_X10_classOf⟩ ⟨by decide, by decide⟩ ⟨by decide, by decide⟩ ⟨rfl, rfl⟩ [0] rfl 0 rfl rfl rfl rfl (Nat.le_of_ble_eq_true rfl) dX10_river_139 142 rfl (Gs' := [gX10 cy oM aM M_38]) rfl ?_
                clear hu44
                have hi := (gd_some hf).1
                replace hf := (gd_some hf).2
                refine ww_iald h 0 rfl 1 rfl (ix_in hi) dX10_river_142 143 rfl ?_
                clear hi
                refine ww_iadd h dX10_river_143 144 rfl ?_
                refine ww_aload_n h dX10_river_144 rfl 0 rfl 145 rfl ?_
                refine ww_get h inG10 rfl 0 rfl rfl 26 (by decide) w_1183 rfl dX10_river_145 148 rfl ?_
                refine ww_iload h dX10_river_148 3 rfl 150 rfl ?_
                have hi := (gd_some hf).1
                replace hf := (gd_some hf).2
                refine ww_iald h 0 rfl 17 rfl (ix_in hi) dX10_river_150 151 rfl ?_
                clear hi
                refine ww_isub h dX10_river_151 152 rfl ?_
                refine ww_ist h dX10_river_152 (by decide) (fun v5_45 => [(5, .int v5_45), (0, .ref oM), (2, .int v2_15), (3, .int v3_16), (4, .int v4_37)]) (fun _ => rfl) 154 rfl (fun v5_45 e => ?_)
                replace hf := bnd_at e hf
                clear e
                refine ww_iconst (v := 0) h dX10_river_154 (by decide) 155 rfl ?_
                refine ww_ist h dX10_river_155 (by decide) (fun v6_46 => [(6, .int v6_46), (5, .int v5_45), (0, .ref oM), (2, .int v2_15), (3, .int v3_16), (4, .int v4_37)]) (fun _ => rfl) 157 rfl (fun v6_46 e => ?_)
                replace hf := bnd_at e hf
                clear e
                refine ww_lo [2, 3, 4, 5, 1, 0] (lo' := [(0, .ref oM), (2, .int v2_15), (3, .int v3_16), (4, .int v4_37), (5, .int v5_45), (6, .int v6_46)]) rfl ?_
                obtain ⟨M_52, h47, hf⟩ := ob1 hf
                refine lp_walk (un2 (fun v6_48 M_49 => ww X D A 7 Q 0 0 157 [(0, .ref oM), (2, .int v2_15), (3, .int v3_16), (4, .int v4_37), (5, .int v5_45), (6, .int v6_48)] [] [gX10 cy oM aM M_49])) (un1 (fun M_52 => ww X D A 7 Q 0 0 186 [(0, .ref oM), (2, .int v2_15), (3, .int v3_16), (4, .int v4_37)] [] [gX10 cy oM aM M_52])) ?_ _ _ _ h47 ?_
                · clear h47 hf
                  intro s47 o47 hf hI47 hE47
                  obtain ⟨v6_48, M_49⟩ := s47
                  unfold s_X10_river_157_47 at hf
                  replace hf := un2_e hf
                  show ww X D A 7 Q 0 0 157 [(0, .ref oM), (2, .int v2_15), (3, .int v3_16), (4, .int v4_37), (5, .int v5_45), (6, .int v6_48)] [] [gX10 cy oM aM M_49]
                  refine ww_iload h dX10_river_157 5 rfl 159 rfl ?_
                  refine ww_aload_n h dX10_river_159 rfl 0 rfl 160 rfl ?_
                  refine ww_get h inG10 rfl 0 rfl rfl 27 (by decide) w_1184 rfl dX10_river_160 163 rfl ?_
                  refine ww_iload h dX10_river_163 3 rfl 165 rfl ?_
                  have hi := (gd_some hf).1
                  replace hf := (gd_some hf).2
                  refine ww_iald h 0 rfl 18 rfl (ix_in hi) dX10_river_165 166 rfl ?_
                  clear hi
                  refine ww_icmp_ge h dX10_river_166 186 (by decide) 169 rfl (fun c => ?_) (fun c => ?_)
                  · replace hf := ite_t c hf
                    refine ww_lo [0, 1, 2, 3] (lo' := [(0, .ref oM), (2, .int v2_15), (3, .int v3_16), (4, .int v4_37)]) rfl ?_
                    exact hE47 M_49 (Option.some.inj hf).symm
                  · replace hf := ite_f c hf
                    refine ww_aload_n h dX10_river_169 rfl 0 rfl 170 rfl ?_
                    refine ww_get h inG10 rfl 0 rfl rfl 30 (by decide) w_1187 rfl dX10_river_170 173 rfl ?_
                    refine ww_iload h dX10_river_173 4 rfl 175 rfl ?_
                    refine ww_iload h dX10_river_175 5 rfl 177 rfl ?_
                    refine ww_iadd h dX10_river_177 178 rfl ?_
                    refine ww_iconst (v := 1) h dX10_river_178 (by decide) 179 rfl ?_
                    have hi := (gd_some hf).1
                    replace hf := (gd_some hf).2
                    refine ww_zast h 0 rfl 21 rfl (ix_in hi) dX10_river_179 180 rfl ?_
                    clear hi
                    refine ww_nm (fun z => [gX10 cy oM aM z]) (sA M_49 30 (v5_45 + v6_48).toNatClampNeg (vp_nar .boolean (1 : Int32))) (fun M_50 e => ?_)
                    replace hf := bnd_at e hf
                    clear e
                    refine ww_inc (c := 1) h dX10_river_180 5 rfl (by decide) (by decide) (fun v6_51 => [(6, .int v6_51), (0, .ref oM), (2, .int v2_15), (3, .int v3_16), (4, .int v4_37), (5, .int v5_45)]) (fun _ => rfl) 183 rfl (fun v6_51 e => ?_)
                    replace hf := bnd_at e hf
                    clear e
                    refine ww_goto h dX10_river_183 157 (by decide) ?_
                    refine ww_lo [1, 2, 3, 4, 5, 0] (lo' := [(0, .ref oM), (2, .int v2_15), (3, .int v3_16), (4, .int v4_37), (5, .int v5_45), (6, .int v6_51)]) rfl ?_
                    exact hI47 (v6_51, M_50) (Option.some.inj hf).symm
                · clear h47
                  show ww X D A 7 Q 0 0 186 [(0, .ref oM), (2, .int v2_15), (3, .int v3_16), (4, .int v4_37)] [] [gX10 cy oM aM M_52]
                  refine ww_inc (c := 1) h dX10_river_186 3 rfl (by decide) (by decide) (fun v4_53 => [(4, .int v4_53), (0, .ref oM), (2, .int v2_15), (3, .int v3_16)]) (fun _ => rfl) 189 rfl (fun v4_53 e => ?_)
                  replace hf := bnd_at e hf
                  clear e
                  refine ww_goto h dX10_river_189 110 (by decide) ?_
                  refine ww_lo [1, 2, 3, 0] (lo' := [(0, .ref oM), (2, .int v2_15), (3, .int v3_16), (4, .int v4_53)]) rfl ?_
                  exact hI36 (v4_53, M_52) (Option.some.inj hf).symm
            · clear h36
              show ww X D A 7 Q 0 0 192 [(0, .ref oM), (2, .int v2_15), (3, .int v3_16)] [] [gX10 cy oM aM M_54]
              refine ww_iconst (v := 0) h dX10_river_192 (by decide) 193 rfl ?_
              refine ww_ist h dX10_river_193 (by decide) (fun v4_55 => [(4, .int v4_55), (0, .ref oM), (2, .int v2_15), (3, .int v3_16)]) (fun _ => rfl) 195 rfl (fun v4_55 e => ?_)
              replace hf := bnd_at e hf
              clear e
              refine ww_lo [1, 2, 3, 0] (lo' := [(0, .ref oM), (2, .int v2_15), (3, .int v3_16), (4, .int v4_55)]) rfl ?_
              obtain ⟨v2_67, M_68, h56, hf⟩ := ob2 hf
              refine lp_walk (un3 (fun v2_57 v4_58 M_59 => ww X D A 7 Q 0 0 195 [(0, .ref oM), (2, .int v2_57), (3, .int v3_16), (4, .int v4_58)] [] [gX10 cy oM aM M_59])) (un2 (fun v2_67 M_68 => ww X D A 7 Q 0 0 258 [(0, .ref oM), (2, .int v2_67), (3, .int v3_16)] [] [gX10 cy oM aM M_68])) ?_ _ _ _ h56 ?_
              · clear h56 hf
                intro s56 o56 hf hI56 hE56
                obtain ⟨v2_57, v4_58, M_59⟩ := s56
                unfold s_X10_river_195_56 at hf
                replace hf := un3_e hf
                show ww X D A 7 Q 0 0 195 [(0, .ref oM), (2, .int v2_57), (3, .int v3_16), (4, .int v4_58)] [] [gX10 cy oM aM M_59]
                refine ww_iload h dX10_river_195 3 rfl 197 rfl ?_
                refine ww_sipush (v := 500) h dX10_river_197 (by decide) 200 rfl ?_
                refine ww_icmp_ge h dX10_river_200 258 (by decide) 203 rfl (fun c => ?_) (fun c => ?_)
                · replace hf := ite_t c hf
                  refine ww_lo [0, 1, 2] (lo' := [(0, .ref oM), (2, .int v2_57), (3, .int v3_16)]) rfl ?_
                  exact hE56 (v2_57, M_59) (Option.some.inj hf).symm
                · replace hf := ite_f c hf
                  refine ww_aload_n h dX10_river_203 rfl 0 rfl 204 rfl ?_
                  refine ww_get h inG10 rfl 0 rfl rfl 29 (by decide) w_1186 rfl dX10_river_204 207 rfl ?_
                  refine ww_iload h dX10_river_207 3 rfl 209 rfl ?_
                  refine ww_aload_n h dX10_river_209 rfl 0 rfl 210 rfl ?_
                  refine ww_get h inG10 rfl 0 rfl rfl 30 (by decide) w_1187 rfl dX10_river_210 213 rfl ?_
                  refine ww_iload h dX10_river_213 3 rfl 215 rfl ?_
                  have hi := (gd_some hf).1
                  replace hf := (gd_some hf).2
                  refine ww_zald h 0 rfl 21 rfl (ix_in hi) dX10_river_215 216 rfl ?_
                  clear hi
                  have hJ232_61 : ∀ (t_60 : Int32), j_X10_river_232_61 M_59 v2_57 v4_58 t_60 = some o56 → ww X D A 7 Q 0 0 232 [(0, .ref oM), (2, .int v2_57), (3, .int v3_16), (4, .int v4_58)] [.int t_60, .int v4_58, .ref (aM 29)] [gX10 cy oM aM M_59] := by
                    intro t_60 hf
                    unfold j_X10_river_232_61 at hf
                    have hi := (gd_some hf).1
                    replace hf := (gd_some hf).2
                    refine ww_iast h 0 rfl 20 rfl (ix_in hi) dX10_river_232 233 rfl ?_
                    clear hi
                    refine ww_nm (fun z => [gX10 cy oM aM z]) (sA M_59 29 v4_58.toNatClampNeg t_60) (fun M_62 e => ?_)
                    replace hf := bnd_at e hf
                    clear e
                    refine ww_aload_n h dX10_river_233 rfl 0 rfl 234 rfl ?_
                    refine ww_get h inG10 rfl 0 rfl rfl 29 (by decide) w_1186 rfl dX10_river_234 237 rfl ?_
                    refine ww_iload h dX10_river_237 3 rfl 239 rfl ?_
                    have hi := (gd_some hf).1
                    replace hf := (gd_some hf).2
                    refine ww_iald h 0 rfl 20 rfl (ix_in hi) dX10_river_239 240 rfl ?_
                    clear hi
                    refine ww_iload_n h dX10_river_240 rfl 1 rfl 241 rfl ?_
                    have hJ252_64 : ∀ (v2_63 : Int32), j_X10_river_252_64 M_62 v4_58 v2_63 = some o56 → ww X D A 7 Q 0 0 252 [(0, .ref oM), (2, .int v2_63), (3, .int v3_16), (4, .int v4_58)] [] [gX10 cy oM aM M_62] := by
                      intro v2_63 hf
                      unfold j_X10_river_252_64 at hf
                      refine ww_inc (c := 1) h dX10_river_252 3 rfl (by decide) (by decide) (fun v4_65 => [(4, .int v4_65), (0, .ref oM), (2, .int v2_63), (3, .int v3_16)]) (fun _ => rfl) 255 rfl (fun v4_65 e => ?_)
                      replace hf := bnd_at e hf
                      clear e
                      refine ww_goto h dX10_river_255 195 (by decide) ?_
                      refine ww_lo [1, 2, 3, 0] (lo' := [(0, .ref oM), (2, .int v2_63), (3, .int v3_16), (4, .int v4_65)]) rfl ?_
                      exact hI56 (v2_63, v4_65, M_62) (Option.some.inj hf).symm
                    refine ww_icmp_le h dX10_river_241 252 (by decide) 244 rfl (fun c => ?_) (fun c => ?_)
                    · replace hf := ite_t c hf
                      exact hJ252_64 v2_57 hf
                    · replace hf := ite_f c hf
                      refine ww_aload_n h dX10_river_244 rfl 0 rfl 245 rfl ?_
                      refine ww_get h inG10 rfl 0 rfl rfl 29 (by decide) w_1186 rfl dX10_river_245 248 rfl ?_
                      refine ww_iload h dX10_river_248 3 rfl 250 rfl ?_
                      have hi := (gd_some hf).1
                      replace hf := (gd_some hf).2
                      refine ww_iald h 0 rfl 20 rfl (ix_in hi) dX10_river_250 251 rfl ?_
                      clear hi
                      refine ww_ist_n h dX10_river_251 rfl (by decide) (fun v2_66 => [(2, .int v2_66), (0, .ref oM), (3, .int v3_16), (4, .int v4_58)]) (fun _ => rfl) 252 rfl (fun v2_66 e => ?_)
                      replace hf := bnd_at e hf
                      clear e
                      refine ww_lo [1, 0, 2, 3] (lo' := [(0, .ref oM), (2, .int v2_66), (3, .int v3_16), (4, .int v4_58)]) rfl ?_
                      exact hJ252_64 v2_66 hf
                  refine ww_if_eq h dX10_river_216 231 (by decide) 219 rfl (fun c => ?_) (fun c => ?_)
                  · replace hf := ite_t c hf
                    refine ww_iconst (v := 0) h dX10_river_231 (by decide) 232 rfl ?_
                    exact hJ232_61 (0 : Int32) hf
                  · replace hf := ite_f c hf
                    refine ww_aload_n h dX10_river_219 rfl 0 rfl 220 rfl ?_
                    refine ww_get h inG10 rfl 0 rfl rfl 29 (by decide) w_1186 rfl dX10_river_220 223 rfl ?_
                    refine ww_iload h dX10_river_223 3 rfl 225 rfl ?_
                    have hi := (gd_some hf).1
                    replace hf := (gd_some hf).2
                    refine ww_iald h 0 rfl 20 rfl (ix_in hi) dX10_river_225 226 rfl ?_
                    clear hi
                    refine ww_iconst (v := 1) h dX10_river_226 (by decide) 227 rfl ?_
                    refine ww_iadd h dX10_river_227 228 rfl ?_
                    refine ww_goto h dX10_river_228 232 (by decide) ?_
                    exact hJ232_61 ((ar M_59 29 v4_58.toNatClampNeg) + (1 : Int32)) hf
              · clear h56
                show ww X D A 7 Q 0 0 258 [(0, .ref oM), (2, .int v2_67), (3, .int v3_16)] [] [gX10 cy oM aM M_68]
                refine ww_inc (c := 1) h dX10_river_258 2 rfl (by decide) (by decide) (fun v3_69 => [(3, .int v3_69), (0, .ref oM), (2, .int v2_67)]) (fun _ => rfl) 261 rfl (fun v3_69 e => ?_)
                replace hf := bnd_at e hf
                clear e
                refine ww_goto h dX10_river_261 40 (by decide) ?_
                refine ww_lo [1, 2, 0] (lo' := [(0, .ref oM), (2, .int v2_67), (3, .int v3_69)]) rfl ?_
                exact hI14 (v2_67, v3_69, M_68) (Option.some.inj hf).symm
      · clear h14
        show ww X D A 7 Q 0 0 264 [(2, .int v2_70)] [] [gX10 cy oM aM M_71]
        refine ww_iload_n h dX10_river_264 rfl 0 rfl 265 rfl ?_
        obtain rfl := Option.some.inj hf
        exact ww_iret h dX10_river_265 hQ ⟨rfl, rfl⟩
  · replace hf := ite_t c hf
    refine ww_iconst (v := (-1)) h dX10_river_7 (by decide) 8 rfl ?_
    obtain rfl := Option.some.inj hf
    exact ww_iret h dX10_river_8 hQ ⟨rfl, rfl⟩
theorem dX10_spell_0 : decode cX10_spell 0 = .ok (.iload_n 3, 1) := by decide +kernel
theorem dX10_spell_1 : decode cX10_spell 1 = .ok (.iconst (-1), 1) := by decide +kernel
theorem dX10_spell_2 : decode cX10_spell 2 = .ok (.if_icmp .lt 12, 3) := by decide +kernel
theorem dX10_spell_5 : decode cX10_spell 5 = .ok (.aload_n 0, 1) := by decide +kernel
theorem dX10_spell_6 : decode cX10_spell 6 = .ok (.iload_n 1, 1) := by decide +kernel
theorem dX10_spell_7 : decode cX10_spell 7 = .ok (.iload_n 2, 1) := by decide +kernel
theorem dX10_spell_8 : decode cX10_spell 8 = .ok (.invokevirtual 274, 3) := by decide +kernel
theorem dX10_spell_11 : decode cX10_spell 11 = .ok (.ifCond .ne 5, 3) := by decide +kernel
theorem dX10_spell_14 : decode cX10_spell 14 = .ok (.iconst (-1), 1) := by decide +kernel
theorem dX10_spell_15 : decode cX10_spell 15 = .ok (.ireturn, 1) := by decide +kernel
theorem dX10_spell_16 : decode cX10_spell 16 = .ok (.aload_n 0, 1) := by decide +kernel
theorem dX10_spell_17 : decode cX10_spell 17 = .ok (.iload_n 2, 1) := by decide +kernel
theorem dX10_spell_18 : decode cX10_spell 18 = .ok (.invokevirtual 261, 3) := by decide +kernel
theorem dX10_spell_21 : decode cX10_spell 21 = .ok (.istore 4, 2) := by decide +kernel
theorem dX10_spell_23 : decode cX10_spell 23 = .ok (.aload_n 0, 1) := by decide +kernel
theorem dX10_spell_24 : decode cX10_spell 24 = .ok (.getfield 60, 3) := by decide +kernel
theorem dX10_spell_27 : decode cX10_spell 27 = .ok (.iload_n 2, 1) := by decide +kernel
theorem dX10_spell_28 : decode cX10_spell 28 = .ok (.iaload, 1) := by decide +kernel
theorem dX10_spell_29 : decode cX10_spell 29 = .ok (.istore 5, 2) := by decide +kernel
theorem dX10_spell_31 : decode cX10_spell 31 = .ok (.aload_n 0, 1) := by decide +kernel
theorem dX10_spell_32 : decode cX10_spell 32 = .ok (.iload 4, 2) := by decide +kernel
theorem dX10_spell_34 : decode cX10_spell 34 = .ok (.iload 5, 2) := by decide +kernel
theorem dX10_spell_36 : decode cX10_spell 36 = .ok (.invokevirtual 280, 3) := by decide +kernel
theorem dX10_spell_39 : decode cX10_spell 39 = .ok (.aload_n 0, 1) := by decide +kernel
theorem dX10_spell_40 : decode cX10_spell 40 = .ok (.iconst 0, 1) := by decide +kernel
theorem dX10_spell_41 : decode cX10_spell 41 = .ok (.putfield 286, 3) := by decide +kernel
theorem dX10_spell_44 : decode cX10_spell 44 = .ok (.iload 4, 2) := by decide +kernel
theorem dX10_spell_46 : decode cX10_spell 46 = .ok (.istore 6, 2) := by decide +kernel
theorem dX10_spell_48 : decode cX10_spell 48 = .ok (.iload 6, 2) := by decide +kernel
theorem dX10_spell_50 : decode cX10_spell 50 = .ok (.iload 5, 2) := by decide +kernel
theorem dX10_spell_52 : decode cX10_spell 52 = .ok (.if_icmp .gt 95, 3) := by decide +kernel
theorem dX10_spell_55 : decode cX10_spell 55 = .ok (.aload_n 0, 1) := by decide +kernel
theorem dX10_spell_56 : decode cX10_spell 56 = .ok (.aload_n 0, 1) := by decide +kernel
theorem dX10_spell_57 : decode cX10_spell 57 = .ok (.getfield 195, 3) := by decide +kernel
theorem dX10_spell_60 : decode cX10_spell 60 = .ok (.ifCond .eq 15, 3) := by decide +kernel
theorem dX10_spell_63 : decode cX10_spell 63 = .ok (.iload 6, 2) := by decide +kernel
theorem dX10_spell_65 : decode cX10_spell 65 = .ok (.iload 5, 2) := by decide +kernel
theorem dX10_spell_67 : decode cX10_spell 67 = .ok (.if_icmp .ne 8, 3) := by decide +kernel
theorem dX10_spell_70 : decode cX10_spell 70 = .ok (.bipush 65, 2) := by decide +kernel
theorem dX10_spell_72 : decode cX10_spell 72 = .ok (.goto 5, 3) := by decide +kernel
theorem dX10_spell_75 : decode cX10_spell 75 = .ok (.bipush 97, 2) := by decide +kernel
theorem dX10_spell_77 : decode cX10_spell 77 = .ok (.aload_n 0, 1) := by decide +kernel
theorem dX10_spell_78 : decode cX10_spell 78 = .ok (.iload 6, 2) := by decide +kernel
theorem dX10_spell_80 : decode cX10_spell 80 = .ok (.invokevirtual 144, 3) := by decide +kernel
theorem dX10_spell_83 : decode cX10_spell 83 = .ok (.iadd, 1) := by decide +kernel
theorem dX10_spell_84 : decode cX10_spell 84 = .ok (.invokevirtual 289, 3) := by decide +kernel
theorem dX10_spell_87 : decode cX10_spell 87 = .ok (.iconst 0, 1) := by decide +kernel
theorem dX10_spell_88 : decode cX10_spell 88 = .ok (.istore 7, 2) := by decide +kernel
theorem dX10_spell_90 : decode cX10_spell 90 = .ok (.iload 7, 2) := by decide +kernel
theorem dX10_spell_92 : decode cX10_spell 92 = .ok (.aload_n 0, 1) := by decide +kernel
theorem dX10_spell_93 : decode cX10_spell 93 = .ok (.getfield 63, 3) := by decide +kernel
theorem dX10_spell_96 : decode cX10_spell 96 = .ok (.iload 6, 2) := by decide +kernel
theorem dX10_spell_98 : decode cX10_spell 98 = .ok (.iaload, 1) := by decide +kernel
theorem dX10_spell_99 : decode cX10_spell 99 = .ok (.if_icmp .ge 15, 3) := by decide +kernel
theorem dX10_spell_102 : decode cX10_spell 102 = .ok (.aload_n 0, 1) := by decide +kernel
theorem dX10_spell_103 : decode cX10_spell 103 = .ok (.bipush 44, 2) := by decide +kernel
theorem dX10_spell_105 : decode cX10_spell 105 = .ok (.invokevirtual 289, 3) := by decide +kernel
theorem dX10_spell_108 : decode cX10_spell 108 = .ok (.iinc 7 1, 3) := by decide +kernel
theorem dX10_spell_111 : decode cX10_spell 111 = .ok (.goto (-21), 3) := by decide +kernel
theorem dX10_spell_114 : decode cX10_spell 114 = .ok (.iconst 0, 1) := by decide +kernel
theorem dX10_spell_115 : decode cX10_spell 115 = .ok (.istore 7, 2) := by decide +kernel
theorem dX10_spell_117 : decode cX10_spell 117 = .ok (.iload 7, 2) := by decide +kernel
theorem dX10_spell_119 : decode cX10_spell 119 = .ok (.aload_n 0, 1) := by decide +kernel
theorem dX10_spell_120 : decode cX10_spell 120 = .ok (.getfield 66, 3) := by decide +kernel
theorem dX10_spell_123 : decode cX10_spell 123 = .ok (.iload 6, 2) := by decide +kernel
theorem dX10_spell_125 : decode cX10_spell 125 = .ok (.iaload, 1) := by decide +kernel
theorem dX10_spell_126 : decode cX10_spell 126 = .ok (.if_icmp .ge 15, 3) := by decide +kernel
theorem dX10_spell_129 : decode cX10_spell 129 = .ok (.aload_n 0, 1) := by decide +kernel
theorem dX10_spell_130 : decode cX10_spell 130 = .ok (.bipush 46, 2) := by decide +kernel
theorem dX10_spell_132 : decode cX10_spell 132 = .ok (.invokevirtual 289, 3) := by decide +kernel
theorem dX10_spell_135 : decode cX10_spell 135 = .ok (.iinc 7 1, 3) := by decide +kernel
theorem dX10_spell_138 : decode cX10_spell 138 = .ok (.goto (-21), 3) := by decide +kernel
theorem dX10_spell_141 : decode cX10_spell 141 = .ok (.iinc 6 1, 3) := by decide +kernel
theorem dX10_spell_144 : decode cX10_spell 144 = .ok (.goto (-96), 3) := by decide +kernel
theorem dX10_spell_147 : decode cX10_spell 147 = .ok (.aload_n 0, 1) := by decide +kernel
theorem dX10_spell_148 : decode cX10_spell 148 = .ok (.iload 5, 2) := by decide +kernel
theorem dX10_spell_150 : decode cX10_spell 150 = .ok (.invokevirtual 221, 3) := by decide +kernel
theorem dX10_spell_153 : decode cX10_spell 153 = .ok (.ifCond .ne 9, 3) := by decide +kernel
theorem dX10_spell_156 : decode cX10_spell 156 = .ok (.aload_n 0, 1) := by decide +kernel
theorem dX10_spell_157 : decode cX10_spell 157 = .ok (.bipush 33, 2) := by decide +kernel
theorem dX10_spell_159 : decode cX10_spell 159 = .ok (.invokevirtual 289, 3) := by decide +kernel
theorem dX10_spell_162 : decode cX10_spell 162 = .ok (.aload_n 0, 1) := by decide +kernel
theorem dX10_spell_163 : decode cX10_spell 163 = .ok (.iload 5, 2) := by decide +kernel
theorem dX10_spell_165 : decode cX10_spell 165 = .ok (.invokevirtual 173, 3) := by decide +kernel
theorem dX10_spell_168 : decode cX10_spell 168 = .ok (.iconst 1, 1) := by decide +kernel
theorem dX10_spell_169 : decode cX10_spell 169 = .ok (.if_icmp .ne 9, 3) := by decide +kernel
theorem dX10_spell_172 : decode cX10_spell 172 = .ok (.aload_n 0, 1) := by decide +kernel
theorem dX10_spell_173 : decode cX10_spell 173 = .ok (.bipush 47, 2) := by decide +kernel
theorem dX10_spell_175 : decode cX10_spell 175 = .ok (.invokevirtual 289, 3) := by decide +kernel
theorem dX10_spell_178 : decode cX10_spell 178 = .ok (.aload_n 0, 1) := by decide +kernel
theorem dX10_spell_179 : decode cX10_spell 179 = .ok (.iload_n 3, 1) := by decide +kernel
theorem dX10_spell_180 : decode cX10_spell 180 = .ok (.invokevirtual 292, 3) := by decide +kernel
theorem dX10_spell_183 : decode cX10_spell 183 = .ok (.ireturn, 1) := by decide +kernel
theorem ok_X10_spell : okY RX10 yX10_spell 3 := ⟨rfl, by decide, by decide, by decide +kernel⟩
def s_X10_spell_90_22 (v6_13 : Int32) : (Int32 × OV) → Option ((Int32 × OV) ⊕ (OV)) := un2 (fun v7_23 M_24 => gd (ix v6_13 40) ((if (ar M_24 26 v6_13.toNatClampNeg) ≤ v7_23 then some (.inr M_24) else (f_X10_writes M_24 (44 : Int32)).bind (un1 (fun M_25 => bnd (v7_23 + 1) (fun v7_27 => some (.inl (v7_27, M_25))))))))
def s_X10_spell_117_30 (v6_13 : Int32) : (Int32 × OV) → Option ((Int32 × OV) ⊕ (OV)) := un2 (fun v7_31 M_32 => gd (ix v6_13 40) ((if (ar M_32 27 v6_13.toNatClampNeg) ≤ v7_31 then some (.inr M_32) else (f_X10_writes M_32 (46 : Int32)).bind (un1 (fun M_33 => bnd (v7_31 + 1) (fun v7_35 => some (.inl (v7_35, M_33))))))))
def j_X10_spell_77_16 (M_14 : OV) (v6_13 : Int32) (t_15 : Int32) : Option ((Int32 × OV) ⊕ (OV)) := (f_X10_classOf M_14 v6_13).bind (un1 (fun r_17 => (f_X10_writes M_14 (t_15 + r_17)).bind (un1 (fun M_19 => bnd (0 : Int32) (fun v7_21 => ((lp (s_X10_spell_90_22 v6_13) 5000 (v7_21, M_19)).bind (un1 (fun M_28 => bnd (0 : Int32) (fun v7_29 => ((lp (s_X10_spell_117_30 v6_13) 5000 (v7_29, M_28)).bind (un1 (fun M_36 => bnd (v6_13 + 1) (fun v6_37 => some (.inl (v6_37, M_36)))))))))))))))
def j_X10_spell_75_38 (M_14 : OV) (v6_13 : Int32) : Option ((Int32 × OV) ⊕ (OV)) := j_X10_spell_77_16 M_14 v6_13 (97 : Int32)
def s_X10_spell_48_12 (v5_7 : Int32) : (Int32 × OV) → Option ((Int32 × OV) ⊕ (OV)) := un2 (fun v6_13 M_14 => (if v5_7 < v6_13 then some (.inr M_14) else (if (iv M_14 13) = 0 then j_X10_spell_75_38 M_14 v6_13 else (if v6_13 = v5_7 then j_X10_spell_77_16 M_14 v6_13 (65 : Int32) else j_X10_spell_75_38 M_14 v6_13))))
def j_X10_spell_178_47 (p2 : Int32) (M_46 : OV) : Option (Int32 × OV) := (f_X10_told M_46 p2).bind (un1 (fun r_48 => some (r_48, M_46)))
def j_X10_spell_162_43 (p2 : Int32) (v5_7 : Int32) (M_42 : OV) : Option (Int32 × OV) := (f_X10_markOf M_42 v5_7).bind (un1 (fun r_44 => (if r_44 = (1 : Int32) then (f_X10_writes M_42 (47 : Int32)).bind (un1 (fun M_50 => j_X10_spell_178_47 p2 M_50)) else j_X10_spell_178_47 p2 M_42)))
def f_X10_spell (M : OV) (p0 : Int32) (p1 : Int32) (p2 : Int32) : Option (Int32 × OV) := (if p2 < (-1 : Int32) then some ((-1 : Int32), M) else (f_X10_looksAt M p0 p1).bind (un2 (fun r_1 M_2 => (if r_1 = 0 then some ((-1 : Int32), M_2) else (f_X10_firstOf M_2 p1).bind (un1 (fun r_4 => bnd r_4 (fun v4_6 => gd (ix p1 41) (bnd (ar M_2 24 p1.toNatClampNeg) (fun v5_7 => (f_X10_deals M_2 v4_6 v5_7).bind (un1 (fun M_8 => bnd (sI M_8 32 (0 : Int32)) (fun M_10 => bnd v4_6 (fun v6_11 => ((lp (s_X10_spell_48_12 v5_7) 5000 (v6_11, M_10)).bind (un1 (fun M_39 => (f_X10_isLegal M_39 v5_7).bind (un1 (fun r_40 => (if r_40 = 0 then (f_X10_writes M_39 (33 : Int32)).bind (un1 (fun M_52 => j_X10_spell_162_43 p2 v5_7 M_52)) else j_X10_spell_162_43 p2 v5_7 M_39)))))))))))))))))))
def r_X10_spell : Room := { frames := 8, cells := 0, slots := 0, locals := 191 }
set_option maxHeartbeats 4000000 in
set_option maxRecDepth 100000 in
theorem c_X10_spell (l : Launch) (D : va_G) (ev : EvT) (cy : Nat → ClassId) (oM : Nat) (aM : Nat → Nat) (M : OV) (p0 : Int32) (p1 : Int32) (p2 : Int32) (o : Int32 × OV) (hf : f_X10_spell M p0 p1 p2 = some o) : Fn l yX10_spell cX10_spell 8 (some .int) r_X10_spell D ev cy [.ref oM, .int p0, .int p1, .int p2] [gX10 cy oM aM M] (fun v G => v = some (.int o.1) ∧ G = [gX10 cy oM aM o.2]) := by
  refine Fn_of (by decide) (Nat.le_of_ble_eq_true rfl) (fun X A Q h hQ _ => ?_)
  unfold f_X10_spell at hf
  show ww X D A 8 Q 0 0 0 [(0, .ref oM), (1, .int p0), (2, .int p1), (3, .int p2)] [] [gX10 cy oM aM M]
  refine ww_iload_n h dX10_spell_0 rfl 3 rfl 1 rfl ?_
  refine ww_iconst (v := (-1)) h dX10_spell_1 (by decide) 2 rfl ?_
  refine ww_icmp_lt h dX10_spell_2 14 (by decide) 5 rfl (fun c => ?_) (fun c => ?_)
  · replace hf := ite_t c hf
    refine ww_iconst (v := (-1)) h dX10_spell_14 (by decide) 15 rfl ?_
    obtain rfl := Option.some.inj hf
    exact ww_iret h dX10_spell_15 hQ ⟨rfl, rfl⟩
  · replace hf := ite_f c hf
    refine ww_aload_n h dX10_spell_5 rfl 0 rfl 6 rfl ?_
    refine ww_iload_n h dX10_spell_6 rfl 1 rfl 7 rfl ?_
    refine ww_iload_n h dX10_spell_7 rfl 2 rfl 8 rfl ?_
    obtain ⟨r_1, M_2, hu3, hf⟩ := ob2 hf
    refine ww_cVi h (c_X10_looksAt l D ev cy oM aM M p0 p1 _ hu3) ⟨w_1537, w_1534, w_1536, w_65, w_111, ok_X10_looksAt⟩ ⟨by decide, by decide⟩ ⟨by decide, by decide⟩ ⟨rfl, rfl⟩ [0] rfl 0 rfl rfl rfl rfl (Nat.le_of_ble_eq_true rfl) dX10_spell_8 11 rfl (Gs' := [gX10 cy oM aM M_2]) rfl ?_
    clear hu3
    refine ww_if_ne h dX10_spell_11 16 (by decide) 14 rfl (fun c => ?_) (fun c => ?_)
    · replace hf := ite_f c hf
      refine ww_aload_n h dX10_spell_16 rfl 0 rfl 17 rfl ?_
      refine ww_iload_n h dX10_spell_17 rfl 2 rfl 18 rfl ?_
      obtain ⟨r_4, hu5, hf⟩ := ob1 hf
      refine ww_cVi h (c_X10_firstOf l D ev cy oM aM M_2 p1 _ hu5) ⟨w_1525, w_1522, w_1524, w_63, w_111, ok_X10_firstOf⟩ ⟨by decide, by decide⟩ ⟨by decide, by decide⟩ ⟨rfl, rfl⟩ [0] rfl 0 rfl rfl rfl rfl (Nat.le_of_ble_eq_true rfl) dX10_spell_18 21 rfl (Gs' := [gX10 cy oM aM M_2]) rfl ?_
      clear hu5
      refine ww_ist h dX10_spell_21 (by decide) (fun v4_6 => [(4, .int v4_6), (0, .ref oM), (1, .int p0), (2, .int p1), (3, .int p2)]) (fun _ => rfl) 23 rfl (fun v4_6 e => ?_)
      replace hf := bnd_at e hf
      clear e
      refine ww_aload_n h dX10_spell_23 rfl 1 rfl 24 rfl ?_
      refine ww_get h inG10 rfl 0 rfl rfl 24 (by decide) w_1181 rfl dX10_spell_24 27 rfl ?_
      refine ww_iload_n h dX10_spell_27 rfl 3 rfl 28 rfl ?_
      have hi := (gd_some hf).1
      replace hf := (gd_some hf).2
      refine ww_iald h 0 rfl 16 rfl (ix_in hi) dX10_spell_28 29 rfl ?_
      clear hi
      refine ww_ist h dX10_spell_29 (by decide) (fun v5_7 => [(5, .int v5_7), (4, .int v4_6), (0, .ref oM), (1, .int p0), (2, .int p1), (3, .int p2)]) (fun _ => rfl) 31 rfl (fun v5_7 e => ?_)
      replace hf := bnd_at e hf
      clear e
      refine ww_aload_n h dX10_spell_31 rfl 2 rfl 32 rfl ?_
      refine ww_iload h dX10_spell_32 1 rfl 34 rfl ?_
      refine ww_iload h dX10_spell_34 0 rfl 36 rfl ?_
      obtain ⟨M_8, hu9, hf⟩ := ob1 hf
      refine ww_cVv h (c_X10_deals l D ev cy oM aM M_2 v4_6 v5_7 _ hu9) ⟨w_1553, w_1550, w_1552, w_67, w_111, ok_X10_deals⟩ ⟨by decide, by decide⟩ ⟨by decide, by decide⟩ ⟨rfl, rfl⟩ [0] rfl 0 rfl rfl rfl rfl (Nat.le_of_ble_eq_true rfl) dX10_spell_36 39 rfl (Gs' := [gX10 cy oM aM M_8]) rfl ?_
      clear hu9
      refine ww_aload_n h dX10_spell_39 rfl 2 rfl 40 rfl ?_
      refine ww_iconst (v := 0) h dX10_spell_40 (by decide) 41 rfl ?_
      refine ww_put (ty := .int) h inG10 tyX10_ok nmX10 rfl 0 rfl rfl 32 (by decide) w_1189 rfl (by decide +kernel) rfl rfl (Nat.le_of_ble_eq_true rfl) (Nat.le_of_ble_eq_true rfl) dX10_spell_41 44 rfl ?_
      refine ww_nm (fun z => [gX10 cy oM aM z]) (sI M_8 32 (0 : Int32)) (fun M_10 e => ?_)
      replace hf := bnd_at e hf
      clear e
      refine ww_iload h dX10_spell_44 1 rfl 46 rfl ?_
      refine ww_ist h dX10_spell_46 (by decide) (fun v6_11 => [(6, .int v6_11), (5, .int v5_7), (4, .int v4_6), (0, .ref oM), (1, .int p0), (2, .int p1), (3, .int p2)]) (fun _ => rfl) 48 rfl (fun v6_11 e => ?_)
      replace hf := bnd_at e hf
      clear e
      refine ww_lo [3, 6, 1, 0] (lo' := [(0, .ref oM), (3, .int p2), (5, .int v5_7), (6, .int v6_11)]) rfl ?_
      obtain ⟨M_39, h12, hf⟩ := ob1 hf
      refine lp_walk (un2 (fun v6_13 M_14 => ww X D A 8 Q 0 0 48 [(0, .ref oM), (3, .int p2), (5, .int v5_7), (6, .int v6_13)] [] [gX10 cy oM aM M_14])) (un1 (fun M_39 => ww X D A 8 Q 0 0 147 [(0, .ref oM), (3, .int p2), (5, .int v5_7)] [] [gX10 cy oM aM M_39])) ?_ _ _ _ h12 ?_
      · clear h12 hf
        intro s12 o12 hf hI12 hE12
        obtain ⟨v6_13, M_14⟩ := s12
        unfold s_X10_spell_48_12 at hf
        replace hf := un2_e hf
        show ww X D A 8 Q 0 0 48 [(0, .ref oM), (3, .int p2), (5, .int v5_7), (6, .int v6_13)] [] [gX10 cy oM aM M_14]
        refine ww_iload h dX10_spell_48 3 rfl 50 rfl ?_
        refine ww_iload h dX10_spell_50 2 rfl 52 rfl ?_
        refine ww_icmp_gt h dX10_spell_52 147 (by decide) 55 rfl (fun c => ?_) (fun c => ?_)
        · replace hf := ite_t c hf
          refine ww_lo [0, 1, 2] (lo' := [(0, .ref oM), (3, .int p2), (5, .int v5_7)]) rfl ?_
          exact hE12 M_14 (Option.some.inj hf).symm
        · replace hf := ite_f c hf
          refine ww_aload_n h dX10_spell_55 rfl 0 rfl 56 rfl ?_
          refine ww_aload_n h dX10_spell_56 rfl 0 rfl 57 rfl ?_
          refine ww_get h inG10 rfl 0 rfl rfl 13 (by decide) w_1170 rfl dX10_spell_57 60 rfl ?_
          have hJ77_16 : ∀ (t_15 : Int32), j_X10_spell_77_16 M_14 v6_13 t_15 = some o12 → ww X D A 8 Q 0 0 77 [(0, .ref oM), (3, .int p2), (5, .int v5_7), (6, .int v6_13)] [.int t_15, .ref oM] [gX10 cy oM aM M_14] := by
            intro t_15 hf
            unfold j_X10_spell_77_16 at hf
            refine ww_aload_n h dX10_spell_77 rfl 0 rfl 78 rfl ?_
            refine ww_iload h dX10_spell_78 3 rfl 80 rfl ?_
            obtain ⟨r_17, hu18, hf⟩ := ob1 hf
            refine ww_cVi h (c_X10_classOf l D ev cy oM aM M_14 v6_13 _ hu18) ⟨w_1369, w_1366, w_1368, w_44, w_111, ok_X10_classOf⟩ ⟨by decide, by decide⟩ ⟨by decide, by decide⟩ ⟨rfl, rfl⟩ [0] rfl 0 rfl rfl rfl rfl (Nat.le_of_ble_eq_true rfl) dX10_spell_80 83 rfl (Gs' := [gX10 cy oM aM M_14]) rfl ?_
            clear hu18
            refine ww_iadd h dX10_spell_83 84 rfl ?_
            obtain ⟨M_19, hu20, hf⟩ := ob1 hf
            refine ww_cVv h (c_X10_writes l D ev cy oM aM M_14 (t_15 + r_17) _ hu20) ⟨w_1597, w_1594, w_1596, w_71, w_111, ok_X10_writes⟩ ⟨by decide, by decide⟩ ⟨by decide, by decide⟩ ⟨rfl, rfl⟩ [0] rfl 0 rfl rfl rfl rfl (Nat.le_of_ble_eq_true rfl) dX10_spell_84 87 rfl (Gs' := [gX10 cy oM aM M_19]) rfl ?_
            clear hu20
            refine ww_iconst (v := 0) h dX10_spell_87 (by decide) 88 rfl ?_
            refine ww_ist h dX10_spell_88 (by decide) (fun v7_21 => [(7, .int v7_21), (0, .ref oM), (3, .int p2), (5, .int v5_7), (6, .int v6_13)]) (fun _ => rfl) 90 rfl (fun v7_21 e => ?_)
            replace hf := bnd_at e hf
            clear e
            refine ww_lo [1, 2, 3, 4, 0] (lo' := [(0, .ref oM), (3, .int p2), (5, .int v5_7), (6, .int v6_13), (7, .int v7_21)]) rfl ?_
            obtain ⟨M_28, h22, hf⟩ := ob1 hf
            refine lp_walk (un2 (fun v7_23 M_24 => ww X D A 8 Q 0 0 90 [(0, .ref oM), (3, .int p2), (5, .int v5_7), (6, .int v6_13), (7, .int v7_23)] [] [gX10 cy oM aM M_24])) (un1 (fun M_28 => ww X D A 8 Q 0 0 114 [(0, .ref oM), (3, .int p2), (5, .int v5_7), (6, .int v6_13)] [] [gX10 cy oM aM M_28])) ?_ _ _ _ h22 ?_
            · clear h22 hf
              intro s22 o22 hf hI22 hE22
              obtain ⟨v7_23, M_24⟩ := s22
              unfold s_X10_spell_90_22 at hf
              replace hf := un2_e hf
              show ww X D A 8 Q 0 0 90 [(0, .ref oM), (3, .int p2), (5, .int v5_7), (6, .int v6_13), (7, .int v7_23)] [] [gX10 cy oM aM M_24]
              refine ww_iload h dX10_spell_90 4 rfl 92 rfl ?_
              refine ww_aload_n h dX10_spell_92 rfl 0 rfl 93 rfl ?_
              refine ww_get h inG10 rfl 0 rfl rfl 26 (by decide) w_1183 rfl dX10_spell_93 96 rfl ?_
              refine ww_iload h dX10_spell_96 3 rfl 98 rfl ?_
              have hi := (gd_some hf).1
              replace hf := (gd_some hf).2
              refine ww_iald h 0 rfl 17 rfl (ix_in hi) dX10_spell_98 99 rfl ?_
              clear hi
              refine ww_icmp_ge h dX10_spell_99 114 (by decide) 102 rfl (fun c => ?_) (fun c => ?_)
              · replace hf := ite_t c hf
                refine ww_lo [0, 1, 2, 3] (lo' := [(0, .ref oM), (3, .int p2), (5, .int v5_7), (6, .int v6_13)]) rfl ?_
                exact hE22 M_24 (Option.some.inj hf).symm
              · replace hf := ite_f c hf
                refine ww_aload_n h dX10_spell_102 rfl 0 rfl 103 rfl ?_
                refine ww_bipush (v := 44) h dX10_spell_103 (by decide) 105 rfl ?_
                obtain ⟨M_25, hu26, hf⟩ := ob1 hf
                refine ww_cVv h (c_X10_writes l D ev cy oM aM M_24 (44 : Int32) _ hu26) ⟨w_1597, w_1594, w_1596, w_71, w_111, ok_X10_writes⟩ ⟨by decide, by decide⟩ ⟨by decide, by decide⟩ ⟨rfl, rfl⟩ [0] rfl 0 rfl rfl rfl rfl (Nat.le_of_ble_eq_true rfl) dX10_spell_105 108 rfl (Gs' := [gX10 cy oM aM M_25]) rfl ?_
                clear hu26
                refine ww_inc (c := 1) h dX10_spell_108 4 rfl (by decide) (by decide) (fun v7_27 => [(7, .int v7_27), (0, .ref oM), (3, .int p2), (5, .int v5_7), (6, .int v6_13)]) (fun _ => rfl) 111 rfl (fun v7_27 e => ?_)
                replace hf := bnd_at e hf
                clear e
                refine ww_goto h dX10_spell_111 90 (by decide) ?_
                refine ww_lo [1, 2, 3, 4, 0] (lo' := [(0, .ref oM), (3, .int p2), (5, .int v5_7), (6, .int v6_13), (7, .int v7_27)]) rfl ?_
                exact hI22 (v7_27, M_25) (Option.some.inj hf).symm
            · clear h22
              show ww X D A 8 Q 0 0 114 [(0, .ref oM), (3, .int p2), (5, .int v5_7), (6, .int v6_13)] [] [gX10 cy oM aM M_28]
              refine ww_iconst (v := 0) h dX10_spell_114 (by decide) 115 rfl ?_
              refine ww_ist h dX10_spell_115 (by decide) (fun v7_29 => [(7, .int v7_29), (0, .ref oM), (3, .int p2), (5, .int v5_7), (6, .int v6_13)]) (fun _ => rfl) 117 rfl (fun v7_29 e => ?_)
              replace hf := bnd_at e hf
              clear e
              refine ww_lo [1, 2, 3, 4, 0] (lo' := [(0, .ref oM), (3, .int p2), (5, .int v5_7), (6, .int v6_13), (7, .int v7_29)]) rfl ?_
              obtain ⟨M_36, h30, hf⟩ := ob1 hf
              refine lp_walk (un2 (fun v7_31 M_32 => ww X D A 8 Q 0 0 117 [(0, .ref oM), (3, .int p2), (5, .int v5_7), (6, .int v6_13), (7, .int v7_31)] [] [gX10 cy oM aM M_32])) (un1 (fun M_36 => ww X D A 8 Q 0 0 141 [(0, .ref oM), (3, .int p2), (5, .int v5_7), (6, .int v6_13)] [] [gX10 cy oM aM M_36])) ?_ _ _ _ h30 ?_
              · clear h30 hf
                intro s30 o30 hf hI30 hE30
                obtain ⟨v7_31, M_32⟩ := s30
                unfold s_X10_spell_117_30 at hf
                replace hf := un2_e hf
                show ww X D A 8 Q 0 0 117 [(0, .ref oM), (3, .int p2), (5, .int v5_7), (6, .int v6_13), (7, .int v7_31)] [] [gX10 cy oM aM M_32]
                refine ww_iload h dX10_spell_117 4 rfl 119 rfl ?_
                refine ww_aload_n h dX10_spell_119 rfl 0 rfl 120 rfl ?_
                refine ww_get h inG10 rfl 0 rfl rfl 27 (by decide) w_1184 rfl dX10_spell_120 123 rfl ?_
                refine ww_iload h dX10_spell_123 3 rfl 125 rfl ?_
                have hi := (gd_some hf).1
                replace hf := (gd_some hf).2
                refine ww_iald h 0 rfl 18 rfl (ix_in hi) dX10_spell_125 126 rfl ?_
                clear hi
                refine ww_icmp_ge h dX10_spell_126 141 (by decide) 129 rfl (fun c => ?_) (fun c => ?_)
                · replace hf := ite_t c hf
                  refine ww_lo [0, 1, 2, 3] (lo' := [(0, .ref oM), (3, .int p2), (5, .int v5_7), (6, .int v6_13)]) rfl ?_
                  exact hE30 M_32 (Option.some.inj hf).symm
                · replace hf := ite_f c hf
                  refine ww_aload_n h dX10_spell_129 rfl 0 rfl 130 rfl ?_
                  refine ww_bipush (v := 46) h dX10_spell_130 (by decide) 132 rfl ?_
                  obtain ⟨M_33, hu34, hf⟩ := ob1 hf
                  refine ww_cVv h (c_X10_writes l D ev cy oM aM M_32 (46 : Int32) _ hu34) ⟨w_1597, w_1594, w_1596, w_71, w_111, ok_X10_writes⟩ ⟨by decide, by decide⟩ ⟨by decide, by decide⟩ ⟨rfl, rfl⟩ [0] rfl 0 rfl rfl rfl rfl (Nat.le_of_ble_eq_true rfl) dX10_spell_132 135 rfl (Gs' := [gX10 cy oM aM M_33]) rfl ?_
                  clear hu34
                  refine ww_inc (c := 1) h dX10_spell_135 4 rfl (by decide) (by decide) (fun v7_35 => [(7, .int v7_35), (0, .ref oM), (3, .int p2), (5, .int v5_7), (6, .int v6_13)]) (fun _ => rfl) 138 rfl (fun v7_35 e => ?_)
                  replace hf := bnd_at e hf
                  clear e
                  refine ww_goto h dX10_spell_138 117 (by decide) ?_
                  refine ww_lo [1, 2, 3, 4, 0] (lo' := [(0, .ref oM), (3, .int p2), (5, .int v5_7), (6, .int v6_13), (7, .int v7_35)]) rfl ?_
                  exact hI30 (v7_35, M_33) (Option.some.inj hf).symm
              · clear h30
                show ww X D A 8 Q 0 0 141 [(0, .ref oM), (3, .int p2), (5, .int v5_7), (6, .int v6_13)] [] [gX10 cy oM aM M_36]
                refine ww_inc (c := 1) h dX10_spell_141 3 rfl (by decide) (by decide) (fun v6_37 => [(6, .int v6_37), (0, .ref oM), (3, .int p2), (5, .int v5_7)]) (fun _ => rfl) 144 rfl (fun v6_37 e => ?_)
                replace hf := bnd_at e hf
                clear e
                refine ww_goto h dX10_spell_144 48 (by decide) ?_
                refine ww_lo [1, 2, 3, 0] (lo' := [(0, .ref oM), (3, .int p2), (5, .int v5_7), (6, .int v6_37)]) rfl ?_
                exact hI12 (v6_37, M_36) (Option.some.inj hf).symm
          have hJ75_38 : ∀ (_ : Unit), j_X10_spell_75_38 M_14 v6_13 = some o12 → ww X D A 8 Q 0 0 75 [(0, .ref oM), (3, .int p2), (5, .int v5_7), (6, .int v6_13)] [.ref oM] [gX10 cy oM aM M_14] := by
            intro _ hf
            unfold j_X10_spell_75_38 at hf
            refine ww_bipush (v := 97) h dX10_spell_75 (by decide) 77 rfl ?_
            exact hJ77_16 (97 : Int32) hf
          refine ww_if_eq h dX10_spell_60 75 (by decide) 63 rfl (fun c => ?_) (fun c => ?_)
          · replace hf := ite_t c hf
            exact hJ75_38 () hf
          · replace hf := ite_f c hf
            refine ww_iload h dX10_spell_63 3 rfl 65 rfl ?_
            refine ww_iload h dX10_spell_65 2 rfl 67 rfl ?_
            refine ww_icmp_ne h dX10_spell_67 75 (by decide) 70 rfl (fun c => ?_) (fun c => ?_)
            · replace hf := ite_f c hf
              exact hJ75_38 () hf
            · replace hf := ite_t c hf
              refine ww_bipush (v := 65) h dX10_spell_70 (by decide) 72 rfl ?_
              refine ww_goto h dX10_spell_72 77 (by decide) ?_
              exact hJ77_16 (65 : Int32) hf
      · clear h12
        show ww X D A 8 Q 0 0 147 [(0, .ref oM), (3, .int p2), (5, .int v5_7)] [] [gX10 cy oM aM M_39]
        refine ww_aload_n h dX10_spell_147 rfl 0 rfl 148 rfl ?_
        refine ww_iload h dX10_spell_148 2 rfl 150 rfl ?_
        obtain ⟨r_40, hu41, hf⟩ := ob1 hf
        refine ww_cVi h (c_X10_isLegal l D ev cy oM aM M_39 v5_7 _ hu41) ⟨w_1461, w_1458, w_1460, w_51, w_111, ok_X10_isLegal⟩ ⟨by decide, by decide⟩ ⟨by decide, by decide⟩ ⟨rfl, rfl⟩ [0] rfl 0 rfl rfl rfl rfl (Nat.le_of_ble_eq_true rfl) dX10_spell_150 153 rfl (Gs' := [gX10 cy oM aM M_39]) rfl ?_
        clear hu41
        have hJ162_43 : ∀ (M_42 : OV), j_X10_spell_162_43 p2 v5_7 M_42 = some o → ww X D A 8 Q 0 0 162 [(0, .ref oM), (3, .int p2), (5, .int v5_7)] [] [gX10 cy oM aM M_42] := by
          intro M_42 hf
          unfold j_X10_spell_162_43 at hf
          refine ww_aload_n h dX10_spell_162 rfl 0 rfl 163 rfl ?_
          refine ww_iload h dX10_spell_163 2 rfl 165 rfl ?_
          obtain ⟨r_44, hu45, hf⟩ := ob1 hf
          refine ww_cVi h (c_X10_markOf l D ev cy oM aM M_42 v5_7 _ hu45) ⟨w_1393, w_1390, w_1392, w_47, w_111, ok_X10_markOf⟩ ⟨by decide, by decide⟩ ⟨by decide, by decide⟩ ⟨rfl, rfl⟩ [0] rfl 0 rfl rfl rfl rfl (Nat.le_of_ble_eq_true rfl) dX10_spell_165 168 rfl (Gs' := [gX10 cy oM aM M_42]) rfl ?_
          clear hu45
          refine ww_iconst (v := 1) h dX10_spell_168 (by decide) 169 rfl ?_
          have hJ178_47 : ∀ (M_46 : OV), j_X10_spell_178_47 p2 M_46 = some o → ww X D A 8 Q 0 0 178 [(0, .ref oM), (3, .int p2)] [] [gX10 cy oM aM M_46] := by
            intro M_46 hf
            unfold j_X10_spell_178_47 at hf
            refine ww_aload_n h dX10_spell_178 rfl 0 rfl 179 rfl ?_
            refine ww_iload_n h dX10_spell_179 rfl 1 rfl 180 rfl ?_
            obtain ⟨r_48, hu49, hf⟩ := ob1 hf
            refine ww_cVi h (c_X10_told l D ev cy oM aM M_46 p2 _ hu49) ⟨w_1601, w_1598, w_1600, w_72, w_111, ok_X10_told⟩ ⟨by decide, by decide⟩ ⟨by decide, by decide⟩ ⟨rfl, rfl⟩ [0] rfl 0 rfl rfl rfl rfl (Nat.le_of_ble_eq_true rfl) dX10_spell_180 183 rfl (Gs' := [gX10 cy oM aM M_46]) rfl ?_
            clear hu49
            obtain rfl := Option.some.inj hf
            exact ww_iret h dX10_spell_183 hQ ⟨rfl, rfl⟩
          refine ww_icmp_ne h dX10_spell_169 178 (by decide) 172 rfl (fun c => ?_) (fun c => ?_)
          · replace hf := ite_f c hf
            refine ww_lo [0, 1] (lo' := [(0, .ref oM), (3, .int p2)]) rfl ?_
            exact hJ178_47 M_42 hf
          · replace hf := ite_t c hf
            refine ww_aload_n h dX10_spell_172 rfl 0 rfl 173 rfl ?_
            refine ww_bipush (v := 47) h dX10_spell_173 (by decide) 175 rfl ?_
            obtain ⟨M_50, hu51, hf⟩ := ob1 hf
            refine ww_cVv h (c_X10_writes l D ev cy oM aM M_42 (47 : Int32) _ hu51) ⟨w_1597, w_1594, w_1596, w_71, w_111, ok_X10_writes⟩ ⟨by decide, by decide⟩ ⟨by decide, by decide⟩ ⟨rfl, rfl⟩ [0] rfl 0 rfl rfl rfl rfl (Nat.le_of_ble_eq_true rfl) dX10_spell_175 178 rfl (Gs' := [gX10 cy oM aM M_50]) rfl ?_
            clear hu51
            refine ww_lo [0, 1] (lo' := [(0, .ref oM), (3, .int p2)]) rfl ?_
            exact hJ178_47 M_50 hf
        refine ww_if_ne h dX10_spell_153 162 (by decide) 156 rfl (fun c => ?_) (fun c => ?_)
        · replace hf := ite_f c hf
          exact hJ162_43 M_39 hf
        · replace hf := ite_t c hf
          refine ww_aload_n h dX10_spell_156 rfl 0 rfl 157 rfl ?_
          refine ww_bipush (v := 33) h dX10_spell_157 (by decide) 159 rfl ?_
          obtain ⟨M_52, hu53, hf⟩ := ob1 hf
          refine ww_cVv h (c_X10_writes l D ev cy oM aM M_39 (33 : Int32) _ hu53) ⟨w_1597, w_1594, w_1596, w_71, w_111, ok_X10_writes⟩ ⟨by decide, by decide⟩ ⟨by decide, by decide⟩ ⟨rfl, rfl⟩ [0] rfl 0 rfl rfl rfl rfl (Nat.le_of_ble_eq_true rfl) dX10_spell_159 162 rfl (Gs' := [gX10 cy oM aM M_52]) rfl ?_
          clear hu53
          exact hJ162_43 M_52 hf
    · replace hf := ite_t c hf
      refine ww_iconst (v := (-1)) h dX10_spell_14 (by decide) 15 rfl ?_
      obtain rfl := Option.some.inj hf
      exact ww_iret h dX10_spell_15 hQ ⟨rfl, rfl⟩
theorem dX10_writesWord_0 : decode cX10_writesWord 0 = .ok (.aload_n 0, 1) := by decide +kernel
theorem dX10_writesWord_1 : decode cX10_writesWord 1 = .ok (.iload_n 1, 1) := by decide +kernel
theorem dX10_writesWord_2 : decode cX10_writesWord 2 = .ok (.invokevirtual 295, 3) := by decide +kernel
theorem dX10_writesWord_5 : decode cX10_writesWord 5 = .ok (.istore_n 2, 1) := by decide +kernel
theorem dX10_writesWord_6 : decode cX10_writesWord 6 = .ok (.aload_n 0, 1) := by decide +kernel
theorem dX10_writesWord_7 : decode cX10_writesWord 7 = .ok (.getfield 91, 3) := by decide +kernel
theorem dX10_writesWord_10 : decode cX10_writesWord 10 = .ok (.iload_n 2, 1) := by decide +kernel
theorem dX10_writesWord_11 : decode cX10_writesWord 11 = .ok (.baload, 1) := by decide +kernel
theorem dX10_writesWord_12 : decode cX10_writesWord 12 = .ok (.ifCond .eq 19, 3) := by decide +kernel
theorem dX10_writesWord_15 : decode cX10_writesWord 15 = .ok (.aload_n 0, 1) := by decide +kernel
theorem dX10_writesWord_16 : decode cX10_writesWord 16 = .ok (.aload_n 0, 1) := by decide +kernel
theorem dX10_writesWord_17 : decode cX10_writesWord 17 = .ok (.getfield 91, 3) := by decide +kernel
theorem dX10_writesWord_20 : decode cX10_writesWord 20 = .ok (.iload_n 2, 1) := by decide +kernel
theorem dX10_writesWord_21 : decode cX10_writesWord 21 = .ok (.baload, 1) := by decide +kernel
theorem dX10_writesWord_22 : decode cX10_writesWord 22 = .ok (.invokevirtual 289, 3) := by decide +kernel
theorem dX10_writesWord_25 : decode cX10_writesWord 25 = .ok (.iinc 2 1, 3) := by decide +kernel
theorem dX10_writesWord_28 : decode cX10_writesWord 28 = .ok (.goto (-22), 3) := by decide +kernel
theorem dX10_writesWord_31 : decode cX10_writesWord 31 = .ok (.return_, 1) := by decide +kernel
theorem ok_X10_writesWord : okY RX10 yX10_writesWord 1 := ⟨rfl, by decide, by decide, by decide +kernel⟩
def s_X10_writesWord_6_4 : (Int32 × OV) → Option ((Int32 × OV) ⊕ (OV)) := un2 (fun v2_5 M_6 => gd (ix v2_5 58) ((if (ar M_6 37 v2_5.toNatClampNeg) = 0 then some (.inr M_6) else gd (ix v2_5 58) ((f_X10_writes M_6 (ar M_6 37 v2_5.toNatClampNeg)).bind (un1 (fun M_7 => bnd (v2_5 + 1) (fun v2_9 => some (.inl (v2_9, M_7)))))))))
def f_X10_writesWord (M : OV) (p0 : Int32) : Option (OV) := (f_X10_wordFrom M p0).bind (un1 (fun r_1 => bnd r_1 (fun v2_3 => ((lp (s_X10_writesWord_6_4) 5000 (v2_3, M)).bind (un1 (fun M_10 => some M_10))))))
def r_X10_writesWord : Room := { frames := 1, cells := 0, slots := 0, locals := 23 }
set_option maxHeartbeats 4000000 in
set_option maxRecDepth 100000 in
theorem c_X10_writesWord (l : Launch) (D : va_G) (ev : EvT) (cy : Nat → ClassId) (oM : Nat) (aM : Nat → Nat) (M : OV) (p0 : Int32) (o : OV) (hf : f_X10_writesWord M p0 = some o) : Fn l yX10_writesWord cX10_writesWord 3 none r_X10_writesWord D ev cy [.ref oM, .int p0] [gX10 cy oM aM M] (fun v G => v = none ∧ G = [gX10 cy oM aM o]) := by
  refine Fn_of (by decide) (Nat.le_of_ble_eq_true rfl) (fun X A Q h hQ _ => ?_)
  unfold f_X10_writesWord at hf
  show ww X D A 3 Q 0 0 0 [(0, .ref oM), (1, .int p0)] [] [gX10 cy oM aM M]
  refine ww_aload_n h dX10_writesWord_0 rfl 0 rfl 1 rfl ?_
  refine ww_iload_n h dX10_writesWord_1 rfl 1 rfl 2 rfl ?_
  obtain ⟨r_1, hu2, hf⟩ := ob1 hf
  refine ww_cVi h (c_X10_wordFrom l D ev cy oM aM M p0 _ hu2) ⟨w_1617, w_1614, w_1616, w_75, w_111, ok_X10_wordFrom⟩ ⟨by decide, by decide⟩ ⟨by decide, by decide⟩ ⟨rfl, rfl⟩ [0] rfl 0 rfl rfl rfl rfl (Nat.le_of_ble_eq_true rfl) dX10_writesWord_2 5 rfl (Gs' := [gX10 cy oM aM M]) rfl ?_
  clear hu2
  refine ww_ist_n h dX10_writesWord_5 rfl (by decide) (fun v2_3 => [(2, .int v2_3), (0, .ref oM), (1, .int p0)]) (fun _ => rfl) 6 rfl (fun v2_3 e => ?_)
  replace hf := bnd_at e hf
  clear e
  refine ww_lo [1, 0] (lo' := [(0, .ref oM), (2, .int v2_3)]) rfl ?_
  obtain ⟨M_10, h4, hf⟩ := ob1 hf
  refine lp_walk (un2 (fun v2_5 M_6 => ww X D A 3 Q 0 0 6 [(0, .ref oM), (2, .int v2_5)] [] [gX10 cy oM aM M_6])) (un1 (fun M_10 => ww X D A 3 Q 0 0 31 [] [] [gX10 cy oM aM M_10])) ?_ _ _ _ h4 ?_
  · clear h4 hf
    intro s4 o4 hf hI4 hE4
    obtain ⟨v2_5, M_6⟩ := s4
    unfold s_X10_writesWord_6_4 at hf
    replace hf := un2_e hf
    show ww X D A 3 Q 0 0 6 [(0, .ref oM), (2, .int v2_5)] [] [gX10 cy oM aM M_6]
    refine ww_aload_n h dX10_writesWord_6 rfl 0 rfl 7 rfl ?_
    refine ww_get h inG10 rfl 0 rfl rfl 37 (by decide) w_1194 rfl dX10_writesWord_7 10 rfl ?_
    refine ww_iload_n h dX10_writesWord_10 rfl 1 rfl 11 rfl ?_
    have hi := (gd_some hf).1
    replace hf := (gd_some hf).2
    refine ww_bald h 0 rfl 26 rfl (ix_in hi) dX10_writesWord_11 12 rfl ?_
    clear hi
    refine ww_if_eq h dX10_writesWord_12 31 (by decide) 15 rfl (fun c => ?_) (fun c => ?_)
    · replace hf := ite_t c hf
      refine ww_lo [] (lo' := []) rfl ?_
      exact hE4 M_6 (Option.some.inj hf).symm
    · replace hf := ite_f c hf
      refine ww_aload_n h dX10_writesWord_15 rfl 0 rfl 16 rfl ?_
      refine ww_aload_n h dX10_writesWord_16 rfl 0 rfl 17 rfl ?_
      refine ww_get h inG10 rfl 0 rfl rfl 37 (by decide) w_1194 rfl dX10_writesWord_17 20 rfl ?_
      refine ww_iload_n h dX10_writesWord_20 rfl 1 rfl 21 rfl ?_
      have hi := (gd_some hf).1
      replace hf := (gd_some hf).2
      refine ww_bald h 0 rfl 26 rfl (ix_in hi) dX10_writesWord_21 22 rfl ?_
      clear hi
      obtain ⟨M_7, hu8, hf⟩ := ob1 hf
      refine ww_cVv h (c_X10_writes l D ev cy oM aM M_6 (ar M_6 37 v2_5.toNatClampNeg) _ hu8) ⟨w_1597, w_1594, w_1596, w_71, w_111, ok_X10_writes⟩ ⟨by decide, by decide⟩ ⟨by decide, by decide⟩ ⟨rfl, rfl⟩ [0] rfl 0 rfl rfl rfl rfl (Nat.le_of_ble_eq_true rfl) dX10_writesWord_22 25 rfl (Gs' := [gX10 cy oM aM M_7]) rfl ?_
      clear hu8
      refine ww_inc (c := 1) h dX10_writesWord_25 1 rfl (by decide) (by decide) (fun v2_9 => [(2, .int v2_9), (0, .ref oM)]) (fun _ => rfl) 28 rfl (fun v2_9 e => ?_)
      replace hf := bnd_at e hf
      clear e
      refine ww_goto h dX10_writesWord_28 6 (by decide) ?_
      refine ww_lo [1, 0] (lo' := [(0, .ref oM), (2, .int v2_9)]) rfl ?_
      exact hI4 (v2_9, M_7) (Option.some.inj hf).symm
  · clear h4
    show ww X D A 3 Q 0 0 31 [] [] [gX10 cy oM aM M_10]
    obtain rfl := Option.some.inj hf
    exact ww_vret h dX10_writesWord_31 hQ ⟨rfl, rfl⟩
theorem dX10_writesMore_0 : decode cX10_writesMore 0 = .ok (.aload_n 0, 1) := by decide +kernel
theorem dX10_writesMore_1 : decode cX10_writesMore 1 = .ok (.bipush 32, 2) := by decide +kernel
theorem dX10_writesMore_3 : decode cX10_writesMore 3 = .ok (.invokevirtual 289, 3) := by decide +kernel
theorem dX10_writesMore_6 : decode cX10_writesMore 6 = .ok (.aload_n 0, 1) := by decide +kernel
theorem dX10_writesMore_7 : decode cX10_writesMore 7 = .ok (.iload_n 1, 1) := by decide +kernel
theorem dX10_writesMore_8 : decode cX10_writesMore 8 = .ok (.invokevirtual 298, 3) := by decide +kernel
theorem dX10_writesMore_11 : decode cX10_writesMore 11 = .ok (.return_, 1) := by decide +kernel
theorem ok_X10_writesMore : okY RX10 yX10_writesMore 1 := ⟨rfl, by decide, by decide, by decide +kernel⟩
def f_X10_writesMore (M : OV) (p0 : Int32) : Option (OV) := (f_X10_writes M (32 : Int32)).bind (un1 (fun M_1 => (f_X10_writesWord M_1 p0).bind (un1 (fun M_3 => some M_3))))
def r_X10_writesMore : Room := { frames := 2, cells := 0, slots := 0, locals := 45 }
set_option maxHeartbeats 4000000 in
set_option maxRecDepth 100000 in
theorem c_X10_writesMore (l : Launch) (D : va_G) (ev : EvT) (cy : Nat → ClassId) (oM : Nat) (aM : Nat → Nat) (M : OV) (p0 : Int32) (o : OV) (hf : f_X10_writesMore M p0 = some o) : Fn l yX10_writesMore cX10_writesMore 2 none r_X10_writesMore D ev cy [.ref oM, .int p0] [gX10 cy oM aM M] (fun v G => v = none ∧ G = [gX10 cy oM aM o]) := by
  refine Fn_of (by decide) (Nat.le_of_ble_eq_true rfl) (fun X A Q h hQ _ => ?_)
  unfold f_X10_writesMore at hf
  show ww X D A 2 Q 0 0 0 [(0, .ref oM), (1, .int p0)] [] [gX10 cy oM aM M]
  refine ww_aload_n h dX10_writesMore_0 rfl 0 rfl 1 rfl ?_
  refine ww_bipush (v := 32) h dX10_writesMore_1 (by decide) 3 rfl ?_
  obtain ⟨M_1, hu2, hf⟩ := ob1 hf
  refine ww_cVv h (c_X10_writes l D ev cy oM aM M (32 : Int32) _ hu2) ⟨w_1597, w_1594, w_1596, w_71, w_111, ok_X10_writes⟩ ⟨by decide, by decide⟩ ⟨by decide, by decide⟩ ⟨rfl, rfl⟩ [0] rfl 0 rfl rfl rfl rfl (Nat.le_of_ble_eq_true rfl) dX10_writesMore_3 6 rfl (Gs' := [gX10 cy oM aM M_1]) rfl ?_
  clear hu2
  refine ww_aload_n h dX10_writesMore_6 rfl 0 rfl 7 rfl ?_
  refine ww_iload_n h dX10_writesMore_7 rfl 1 rfl 8 rfl ?_
  obtain ⟨M_3, hu4, hf⟩ := ob1 hf
  refine ww_cVv h (c_X10_writesWord l D ev cy oM aM M_1 p0 _ hu4) ⟨w_1613, w_1610, w_1612, w_74, w_111, ok_X10_writesWord⟩ ⟨by decide, by decide⟩ ⟨by decide, by decide⟩ ⟨rfl, rfl⟩ [0] rfl 0 rfl rfl rfl rfl (Nat.le_of_ble_eq_true rfl) dX10_writesMore_8 11 rfl (Gs' := [gX10 cy oM aM M_3]) rfl ?_
  clear hu4
  obtain rfl := Option.some.inj hf
  exact ww_vret h dX10_writesMore_11 hQ ⟨rfl, rfl⟩
theorem dX10_writesNumber_0 : decode cX10_writesNumber 0 = .ok (.aload_n 0, 1) := by decide +kernel
theorem dX10_writesNumber_1 : decode cX10_writesNumber 1 = .ok (.iload_n 1, 1) := by decide +kernel
theorem dX10_writesNumber_2 : decode cX10_writesNumber 2 = .ok (.invokevirtual 301, 3) := by decide +kernel
theorem dX10_writesNumber_5 : decode cX10_writesNumber 5 = .ok (.aload_n 0, 1) := by decide +kernel
theorem dX10_writesNumber_6 : decode cX10_writesNumber 6 = .ok (.bipush 32, 2) := by decide +kernel
theorem dX10_writesNumber_8 : decode cX10_writesNumber 8 = .ok (.invokevirtual 289, 3) := by decide +kernel
theorem dX10_writesNumber_11 : decode cX10_writesNumber 11 = .ok (.aload_n 0, 1) := by decide +kernel
theorem dX10_writesNumber_12 : decode cX10_writesNumber 12 = .ok (.bipush 48, 2) := by decide +kernel
theorem dX10_writesNumber_14 : decode cX10_writesNumber 14 = .ok (.iload_n 2, 1) := by decide +kernel
theorem dX10_writesNumber_15 : decode cX10_writesNumber 15 = .ok (.iadd, 1) := by decide +kernel
theorem dX10_writesNumber_16 : decode cX10_writesNumber 16 = .ok (.invokevirtual 289, 3) := by decide +kernel
theorem dX10_writesNumber_19 : decode cX10_writesNumber 19 = .ok (.return_, 1) := by decide +kernel
theorem ok_X10_writesNumber : okY RX10 yX10_writesNumber 2 := ⟨rfl, by decide, by decide, by decide +kernel⟩
def f_X10_writesNumber (M : OV) (p0 : Int32) (p1 : Int32) : Option (OV) := (f_X10_writesMore M p0).bind (un1 (fun M_1 => (f_X10_writes M_1 (32 : Int32)).bind (un1 (fun M_3 => (f_X10_writes M_3 ((48 : Int32) + p1)).bind (un1 (fun M_5 => some M_5))))))
def r_X10_writesNumber : Room := { frames := 3, cells := 0, slots := 0, locals := 66 }
set_option maxHeartbeats 4000000 in
set_option maxRecDepth 100000 in
theorem c_X10_writesNumber (l : Launch) (D : va_G) (ev : EvT) (cy : Nat → ClassId) (oM : Nat) (aM : Nat → Nat) (M : OV) (p0 : Int32) (p1 : Int32) (o : OV) (hf : f_X10_writesNumber M p0 p1 = some o) : Fn l yX10_writesNumber cX10_writesNumber 3 none r_X10_writesNumber D ev cy [.ref oM, .int p0, .int p1] [gX10 cy oM aM M] (fun v G => v = none ∧ G = [gX10 cy oM aM o]) := by
  refine Fn_of (by decide) (Nat.le_of_ble_eq_true rfl) (fun X A Q h hQ _ => ?_)
  unfold f_X10_writesNumber at hf
  show ww X D A 3 Q 0 0 0 [(0, .ref oM), (1, .int p0), (2, .int p1)] [] [gX10 cy oM aM M]
  refine ww_aload_n h dX10_writesNumber_0 rfl 0 rfl 1 rfl ?_
  refine ww_iload_n h dX10_writesNumber_1 rfl 1 rfl 2 rfl ?_
  obtain ⟨M_1, hu2, hf⟩ := ob1 hf
  refine ww_cVv h (c_X10_writesMore l D ev cy oM aM M p0 _ hu2) ⟨w_1625, w_1622, w_1624, w_77, w_111, ok_X10_writesMore⟩ ⟨by decide, by decide⟩ ⟨by decide, by decide⟩ ⟨rfl, rfl⟩ [0] rfl 0 rfl rfl rfl rfl (Nat.le_of_ble_eq_true rfl) dX10_writesNumber_2 5 rfl (Gs' := [gX10 cy oM aM M_1]) rfl ?_
  clear hu2
  refine ww_aload_n h dX10_writesNumber_5 rfl 0 rfl 6 rfl ?_
  refine ww_bipush (v := 32) h dX10_writesNumber_6 (by decide) 8 rfl ?_
  obtain ⟨M_3, hu4, hf⟩ := ob1 hf
  refine ww_cVv h (c_X10_writes l D ev cy oM aM M_1 (32 : Int32) _ hu4) ⟨w_1597, w_1594, w_1596, w_71, w_111, ok_X10_writes⟩ ⟨by decide, by decide⟩ ⟨by decide, by decide⟩ ⟨rfl, rfl⟩ [0] rfl 0 rfl rfl rfl rfl (Nat.le_of_ble_eq_true rfl) dX10_writesNumber_8 11 rfl (Gs' := [gX10 cy oM aM M_3]) rfl ?_
  clear hu4
  refine ww_aload_n h dX10_writesNumber_11 rfl 0 rfl 12 rfl ?_
  refine ww_bipush (v := 48) h dX10_writesNumber_12 (by decide) 14 rfl ?_
  refine ww_iload_n h dX10_writesNumber_14 rfl 2 rfl 15 rfl ?_
  refine ww_iadd h dX10_writesNumber_15 16 rfl ?_
  obtain ⟨M_5, hu6, hf⟩ := ob1 hf
  refine ww_cVv h (c_X10_writes l D ev cy oM aM M_3 ((48 : Int32) + p1) _ hu6) ⟨w_1597, w_1594, w_1596, w_71, w_111, ok_X10_writes⟩ ⟨by decide, by decide⟩ ⟨by decide, by decide⟩ ⟨rfl, rfl⟩ [0] rfl 0 rfl rfl rfl rfl (Nat.le_of_ble_eq_true rfl) dX10_writesNumber_16 19 rfl (Gs' := [gX10 cy oM aM M_5]) rfl ?_
  clear hu6
  obtain rfl := Option.some.inj hf
  exact ww_vret h dX10_writesNumber_19 hQ ⟨rfl, rfl⟩
theorem dX10_writesClass_0 : decode cX10_writesClass 0 = .ok (.aload_n 0, 1) := by decide +kernel
theorem dX10_writesClass_1 : decode cX10_writesClass 1 = .ok (.iconst 0, 1) := by decide +kernel
theorem dX10_writesClass_2 : decode cX10_writesClass 2 = .ok (.invokevirtual 298, 3) := by decide +kernel
theorem dX10_writesClass_5 : decode cX10_writesClass 5 = .ok (.aload_n 0, 1) := by decide +kernel
theorem dX10_writesClass_6 : decode cX10_writesClass 6 = .ok (.bipush 32, 2) := by decide +kernel
theorem dX10_writesClass_8 : decode cX10_writesClass 8 = .ok (.invokevirtual 289, 3) := by decide +kernel
theorem dX10_writesClass_11 : decode cX10_writesClass 11 = .ok (.aload_n 0, 1) := by decide +kernel
theorem dX10_writesClass_12 : decode cX10_writesClass 12 = .ok (.bipush 97, 2) := by decide +kernel
theorem dX10_writesClass_14 : decode cX10_writesClass 14 = .ok (.iload_n 1, 1) := by decide +kernel
theorem dX10_writesClass_15 : decode cX10_writesClass 15 = .ok (.iadd, 1) := by decide +kernel
theorem dX10_writesClass_16 : decode cX10_writesClass 16 = .ok (.invokevirtual 289, 3) := by decide +kernel
theorem dX10_writesClass_19 : decode cX10_writesClass 19 = .ok (.aload_n 0, 1) := by decide +kernel
theorem dX10_writesClass_20 : decode cX10_writesClass 20 = .ok (.iconst 1, 1) := by decide +kernel
theorem dX10_writesClass_21 : decode cX10_writesClass 21 = .ok (.aload_n 0, 1) := by decide +kernel
theorem dX10_writesClass_22 : decode cX10_writesClass 22 = .ok (.getfield 13, 3) := by decide +kernel
theorem dX10_writesClass_25 : decode cX10_writesClass 25 = .ok (.iload_n 1, 1) := by decide +kernel
theorem dX10_writesClass_26 : decode cX10_writesClass 26 = .ok (.iaload, 1) := by decide +kernel
theorem dX10_writesClass_27 : decode cX10_writesClass 27 = .ok (.invokevirtual 304, 3) := by decide +kernel
theorem dX10_writesClass_30 : decode cX10_writesClass 30 = .ok (.iconst 0, 1) := by decide +kernel
theorem dX10_writesClass_31 : decode cX10_writesClass 31 = .ok (.istore_n 2, 1) := by decide +kernel
theorem dX10_writesClass_32 : decode cX10_writesClass 32 = .ok (.iload_n 2, 1) := by decide +kernel
theorem dX10_writesClass_33 : decode cX10_writesClass 33 = .ok (.iconst 2, 1) := by decide +kernel
theorem dX10_writesClass_34 : decode cX10_writesClass 34 = .ok (.if_icmp .ge 40, 3) := by decide +kernel
theorem dX10_writesClass_37 : decode cX10_writesClass 37 = .ok (.aload_n 0, 1) := by decide +kernel
theorem dX10_writesClass_38 : decode cX10_writesClass 38 = .ok (.getfield 36, 3) := by decide +kernel
theorem dX10_writesClass_41 : decode cX10_writesClass 41 = .ok (.bipush 82, 2) := by decide +kernel
theorem dX10_writesClass_43 : decode cX10_writesClass 43 = .ok (.iload_n 2, 1) := by decide +kernel
theorem dX10_writesClass_44 : decode cX10_writesClass 44 = .ok (.iadd, 1) := by decide +kernel
theorem dX10_writesClass_45 : decode cX10_writesClass 45 = .ok (.iaload, 1) := by decide +kernel
theorem dX10_writesClass_46 : decode cX10_writesClass 46 = .ok (.iload_n 1, 1) := by decide +kernel
theorem dX10_writesClass_47 : decode cX10_writesClass 47 = .ok (.invokestatic 136, 3) := by decide +kernel
theorem dX10_writesClass_50 : decode cX10_writesClass 50 = .ok (.ifCond .ne 6, 3) := by decide +kernel
theorem dX10_writesClass_53 : decode cX10_writesClass 53 = .ok (.goto 15, 3) := by decide +kernel
theorem dX10_writesClass_56 : decode cX10_writesClass 56 = .ok (.aload_n 0, 1) := by decide +kernel
theorem dX10_writesClass_57 : decode cX10_writesClass 57 = .ok (.iconst 2, 1) := by decide +kernel
theorem dX10_writesClass_58 : decode cX10_writesClass 58 = .ok (.invokevirtual 301, 3) := by decide +kernel
theorem dX10_writesClass_61 : decode cX10_writesClass 61 = .ok (.aload_n 0, 1) := by decide +kernel
theorem dX10_writesClass_62 : decode cX10_writesClass 62 = .ok (.iconst 3, 1) := by decide +kernel
theorem dX10_writesClass_63 : decode cX10_writesClass 63 = .ok (.iload_n 2, 1) := by decide +kernel
theorem dX10_writesClass_64 : decode cX10_writesClass 64 = .ok (.iadd, 1) := by decide +kernel
theorem dX10_writesClass_65 : decode cX10_writesClass 65 = .ok (.invokevirtual 301, 3) := by decide +kernel
theorem dX10_writesClass_68 : decode cX10_writesClass 68 = .ok (.iinc 2 1, 3) := by decide +kernel
theorem dX10_writesClass_71 : decode cX10_writesClass 71 = .ok (.goto (-39), 3) := by decide +kernel
theorem dX10_writesClass_74 : decode cX10_writesClass 74 = .ok (.aload_n 0, 1) := by decide +kernel
theorem dX10_writesClass_75 : decode cX10_writesClass 75 = .ok (.getfield 17, 3) := by decide +kernel
theorem dX10_writesClass_78 : decode cX10_writesClass 78 = .ok (.iload_n 1, 1) := by decide +kernel
theorem dX10_writesClass_79 : decode cX10_writesClass 79 = .ok (.baload, 1) := by decide +kernel
theorem dX10_writesClass_80 : decode cX10_writesClass 80 = .ok (.ifCond .eq 8, 3) := by decide +kernel
theorem dX10_writesClass_83 : decode cX10_writesClass 83 = .ok (.aload_n 0, 1) := by decide +kernel
theorem dX10_writesClass_84 : decode cX10_writesClass 84 = .ok (.iconst 5, 1) := by decide +kernel
theorem dX10_writesClass_85 : decode cX10_writesClass 85 = .ok (.invokevirtual 301, 3) := by decide +kernel
theorem dX10_writesClass_88 : decode cX10_writesClass 88 = .ok (.aload_n 0, 1) := by decide +kernel
theorem dX10_writesClass_89 : decode cX10_writesClass 89 = .ok (.getfield 21, 3) := by decide +kernel
theorem dX10_writesClass_92 : decode cX10_writesClass 92 = .ok (.iload_n 1, 1) := by decide +kernel
theorem dX10_writesClass_93 : decode cX10_writesClass 93 = .ok (.iaload, 1) := by decide +kernel
theorem dX10_writesClass_94 : decode cX10_writesClass 94 = .ok (.ifCond .le 15, 3) := by decide +kernel
theorem dX10_writesClass_97 : decode cX10_writesClass 97 = .ok (.aload_n 0, 1) := by decide +kernel
theorem dX10_writesClass_98 : decode cX10_writesClass 98 = .ok (.bipush 6, 2) := by decide +kernel
theorem dX10_writesClass_100 : decode cX10_writesClass 100 = .ok (.aload_n 0, 1) := by decide +kernel
theorem dX10_writesClass_101 : decode cX10_writesClass 101 = .ok (.getfield 21, 3) := by decide +kernel
theorem dX10_writesClass_104 : decode cX10_writesClass 104 = .ok (.iload_n 1, 1) := by decide +kernel
theorem dX10_writesClass_105 : decode cX10_writesClass 105 = .ok (.iaload, 1) := by decide +kernel
theorem dX10_writesClass_106 : decode cX10_writesClass 106 = .ok (.invokevirtual 304, 3) := by decide +kernel
theorem dX10_writesClass_109 : decode cX10_writesClass 109 = .ok (.aload_n 0, 1) := by decide +kernel
theorem dX10_writesClass_110 : decode cX10_writesClass 110 = .ok (.getfield 24, 3) := by decide +kernel
theorem dX10_writesClass_113 : decode cX10_writesClass 113 = .ok (.iload_n 1, 1) := by decide +kernel
theorem dX10_writesClass_114 : decode cX10_writesClass 114 = .ok (.iaload, 1) := by decide +kernel
theorem dX10_writesClass_115 : decode cX10_writesClass 115 = .ok (.ifCond .le 27, 3) := by decide +kernel
theorem dX10_writesClass_118 : decode cX10_writesClass 118 = .ok (.aload_n 0, 1) := by decide +kernel
theorem dX10_writesClass_119 : decode cX10_writesClass 119 = .ok (.bipush 7, 2) := by decide +kernel
theorem dX10_writesClass_121 : decode cX10_writesClass 121 = .ok (.aload_n 0, 1) := by decide +kernel
theorem dX10_writesClass_122 : decode cX10_writesClass 122 = .ok (.getfield 24, 3) := by decide +kernel
theorem dX10_writesClass_125 : decode cX10_writesClass 125 = .ok (.iload_n 1, 1) := by decide +kernel
theorem dX10_writesClass_126 : decode cX10_writesClass 126 = .ok (.iaload, 1) := by decide +kernel
theorem dX10_writesClass_127 : decode cX10_writesClass 127 = .ok (.invokevirtual 304, 3) := by decide +kernel
theorem dX10_writesClass_130 : decode cX10_writesClass 130 = .ok (.aload_n 0, 1) := by decide +kernel
theorem dX10_writesClass_131 : decode cX10_writesClass 131 = .ok (.bipush 8, 2) := by decide +kernel
theorem dX10_writesClass_133 : decode cX10_writesClass 133 = .ok (.aload_n 0, 1) := by decide +kernel
theorem dX10_writesClass_134 : decode cX10_writesClass 134 = .ok (.getfield 27, 3) := by decide +kernel
theorem dX10_writesClass_137 : decode cX10_writesClass 137 = .ok (.iload_n 1, 1) := by decide +kernel
theorem dX10_writesClass_138 : decode cX10_writesClass 138 = .ok (.iaload, 1) := by decide +kernel
theorem dX10_writesClass_139 : decode cX10_writesClass 139 = .ok (.invokevirtual 304, 3) := by decide +kernel
theorem dX10_writesClass_142 : decode cX10_writesClass 142 = .ok (.aload_n 0, 1) := by decide +kernel
theorem dX10_writesClass_143 : decode cX10_writesClass 143 = .ok (.getfield 30, 3) := by decide +kernel
theorem dX10_writesClass_146 : decode cX10_writesClass 146 = .ok (.iload_n 1, 1) := by decide +kernel
theorem dX10_writesClass_147 : decode cX10_writesClass 147 = .ok (.iaload, 1) := by decide +kernel
theorem dX10_writesClass_148 : decode cX10_writesClass 148 = .ok (.ifCond .le 27, 3) := by decide +kernel
theorem dX10_writesClass_151 : decode cX10_writesClass 151 = .ok (.aload_n 0, 1) := by decide +kernel
theorem dX10_writesClass_152 : decode cX10_writesClass 152 = .ok (.bipush 9, 2) := by decide +kernel
theorem dX10_writesClass_154 : decode cX10_writesClass 154 = .ok (.aload_n 0, 1) := by decide +kernel
theorem dX10_writesClass_155 : decode cX10_writesClass 155 = .ok (.getfield 30, 3) := by decide +kernel
theorem dX10_writesClass_158 : decode cX10_writesClass 158 = .ok (.iload_n 1, 1) := by decide +kernel
theorem dX10_writesClass_159 : decode cX10_writesClass 159 = .ok (.iaload, 1) := by decide +kernel
theorem dX10_writesClass_160 : decode cX10_writesClass 160 = .ok (.invokevirtual 304, 3) := by decide +kernel
theorem dX10_writesClass_163 : decode cX10_writesClass 163 = .ok (.aload_n 0, 1) := by decide +kernel
theorem dX10_writesClass_164 : decode cX10_writesClass 164 = .ok (.bipush 8, 2) := by decide +kernel
theorem dX10_writesClass_166 : decode cX10_writesClass 166 = .ok (.aload_n 0, 1) := by decide +kernel
theorem dX10_writesClass_167 : decode cX10_writesClass 167 = .ok (.getfield 33, 3) := by decide +kernel
theorem dX10_writesClass_170 : decode cX10_writesClass 170 = .ok (.iload_n 1, 1) := by decide +kernel
theorem dX10_writesClass_171 : decode cX10_writesClass 171 = .ok (.iaload, 1) := by decide +kernel
theorem dX10_writesClass_172 : decode cX10_writesClass 172 = .ok (.invokevirtual 304, 3) := by decide +kernel
theorem dX10_writesClass_175 : decode cX10_writesClass 175 = .ok (.aload_n 0, 1) := by decide +kernel
theorem dX10_writesClass_176 : decode cX10_writesClass 176 = .ok (.bipush 59, 2) := by decide +kernel
theorem dX10_writesClass_178 : decode cX10_writesClass 178 = .ok (.invokevirtual 289, 3) := by decide +kernel
theorem dX10_writesClass_181 : decode cX10_writesClass 181 = .ok (.return_, 1) := by decide +kernel
theorem ok_X10_writesClass : okY RX10 yX10_writesClass 1 := ⟨rfl, by decide, by decide, by decide +kernel⟩
def j_X10_writesClass_68_16 (v2_11 : Int32) (M_15 : OV) : Option ((Int32 × OV) ⊕ (OV)) := bnd (v2_11 + 1) (fun v2_17 => some (.inl (v2_17, M_15)))
def s_X10_writesClass_32_10 (p0 : Int32) : (Int32 × OV) → Option ((Int32 × OV) ⊕ (OV)) := un2 (fun v2_11 M_12 => (if (2 : Int32) ≤ v2_11 then some (.inr M_12) else gd (ix ((82 : Int32) + v2_11) 113) ((f_X10_isIn (ar M_12 8 ((82 : Int32) + v2_11).toNatClampNeg) p0).bind (un1 (fun r_13 => (if r_13 = 0 then j_X10_writesClass_68_16 v2_11 M_12 else (f_X10_writesMore M_12 (2 : Int32)).bind (un1 (fun M_18 => (f_X10_writesMore M_18 ((3 : Int32) + v2_11)).bind (un1 (fun M_20 => j_X10_writesClass_68_16 v2_11 M_20))))))))))
def j_X10_writesClass_175_30 (M_29 : OV) : Option (OV) := (f_X10_writes M_29 (59 : Int32)).bind (un1 (fun M_31 => some M_31))
def j_X10_writesClass_142_28 (p0 : Int32) (M_27 : OV) : Option (OV) := gd (ix p0 26) ((if (ar M_27 6 p0.toNatClampNeg) ≤ 0 then j_X10_writesClass_175_30 M_27 else gd (ix p0 26) ((f_X10_writesNumber M_27 (9 : Int32) (ar M_27 6 p0.toNatClampNeg)).bind (un1 (fun M_33 => gd (ix p0 26) ((f_X10_writesNumber M_33 (8 : Int32) (ar M_33 7 p0.toNatClampNeg)).bind (un1 (fun M_35 => j_X10_writesClass_175_30 M_35))))))))
def j_X10_writesClass_109_26 (p0 : Int32) (M_25 : OV) : Option (OV) := gd (ix p0 26) ((if (ar M_25 4 p0.toNatClampNeg) ≤ 0 then j_X10_writesClass_142_28 p0 M_25 else gd (ix p0 26) ((f_X10_writesNumber M_25 (7 : Int32) (ar M_25 4 p0.toNatClampNeg)).bind (un1 (fun M_37 => gd (ix p0 26) ((f_X10_writesNumber M_37 (8 : Int32) (ar M_37 5 p0.toNatClampNeg)).bind (un1 (fun M_39 => j_X10_writesClass_142_28 p0 M_39))))))))
def j_X10_writesClass_88_24 (p0 : Int32) (M_23 : OV) : Option (OV) := gd (ix p0 26) ((if (ar M_23 3 p0.toNatClampNeg) ≤ 0 then j_X10_writesClass_109_26 p0 M_23 else gd (ix p0 26) ((f_X10_writesNumber M_23 (6 : Int32) (ar M_23 3 p0.toNatClampNeg)).bind (un1 (fun M_41 => j_X10_writesClass_109_26 p0 M_41)))))
def f_X10_writesClass (M : OV) (p0 : Int32) : Option (OV) := (f_X10_writesWord M (0 : Int32)).bind (un1 (fun M_1 => (f_X10_writes M_1 (32 : Int32)).bind (un1 (fun M_3 => (f_X10_writes M_3 ((97 : Int32) + p0)).bind (un1 (fun M_5 => gd (ix p0 26) ((f_X10_writesNumber M_5 (1 : Int32) (ar M_5 1 p0.toNatClampNeg)).bind (un1 (fun M_7 => bnd (0 : Int32) (fun v2_9 => ((lp (s_X10_writesClass_32_10 p0) 5000 (v2_9, M_7)).bind (un1 (fun M_22 => gd (ix p0 26) ((if (ar M_22 2 p0.toNatClampNeg) = 0 then j_X10_writesClass_88_24 p0 M_22 else (f_X10_writesMore M_22 (5 : Int32)).bind (un1 (fun M_43 => j_X10_writesClass_88_24 p0 M_43)))))))))))))))))
def r_X10_writesClass : Room := { frames := 4, cells := 0, slots := 0, locals := 88 }
set_option maxHeartbeats 4000000 in
set_option maxRecDepth 100000 in
theorem c_X10_writesClass (l : Launch) (D : va_G) (ev : EvT) (cy : Nat → ClassId) (oM : Nat) (aM : Nat → Nat) (M : OV) (p0 : Int32) (o : OV) (hf : f_X10_writesClass M p0 = some o) : Fn l yX10_writesClass cX10_writesClass 3 none r_X10_writesClass D ev cy [.ref oM, .int p0] [gX10 cy oM aM M] (fun v G => v = none ∧ G = [gX10 cy oM aM o]) := by
  refine Fn_of (by decide) (Nat.le_of_ble_eq_true rfl) (fun X A Q h hQ _ => ?_)
  unfold f_X10_writesClass at hf
  show ww X D A 3 Q 0 0 0 [(0, .ref oM), (1, .int p0)] [] [gX10 cy oM aM M]
  refine ww_aload_n h dX10_writesClass_0 rfl 0 rfl 1 rfl ?_
  refine ww_iconst (v := 0) h dX10_writesClass_1 (by decide) 2 rfl ?_
  obtain ⟨M_1, hu2, hf⟩ := ob1 hf
  refine ww_cVv h (c_X10_writesWord l D ev cy oM aM M (0 : Int32) _ hu2) ⟨w_1613, w_1610, w_1612, w_74, w_111, ok_X10_writesWord⟩ ⟨by decide, by decide⟩ ⟨by decide, by decide⟩ ⟨rfl, rfl⟩ [0] rfl 0 rfl rfl rfl rfl (Nat.le_of_ble_eq_true rfl) dX10_writesClass_2 5 rfl (Gs' := [gX10 cy oM aM M_1]) rfl ?_
  clear hu2
  refine ww_aload_n h dX10_writesClass_5 rfl 0 rfl 6 rfl ?_
  refine ww_bipush (v := 32) h dX10_writesClass_6 (by decide) 8 rfl ?_
  obtain ⟨M_3, hu4, hf⟩ := ob1 hf
  refine ww_cVv h (c_X10_writes l D ev cy oM aM M_1 (32 : Int32) _ hu4) ⟨w_1597, w_1594, w_1596, w_71, w_111, ok_X10_writes⟩ ⟨by decide, by decide⟩ ⟨by decide, by decide⟩ ⟨rfl, rfl⟩ [0] rfl 0 rfl rfl rfl rfl (Nat.le_of_ble_eq_true rfl) dX10_writesClass_8 11 rfl (Gs' := [gX10 cy oM aM M_3]) rfl ?_
  clear hu4
  refine ww_aload_n h dX10_writesClass_11 rfl 0 rfl 12 rfl ?_
  refine ww_bipush (v := 97) h dX10_writesClass_12 (by decide) 14 rfl ?_
  refine ww_iload_n h dX10_writesClass_14 rfl 1 rfl 15 rfl ?_
  refine ww_iadd h dX10_writesClass_15 16 rfl ?_
  obtain ⟨M_5, hu6, hf⟩ := ob1 hf
  refine ww_cVv h (c_X10_writes l D ev cy oM aM M_3 ((97 : Int32) + p0) _ hu6) ⟨w_1597, w_1594, w_1596, w_71, w_111, ok_X10_writes⟩ ⟨by decide, by decide⟩ ⟨by decide, by decide⟩ ⟨rfl, rfl⟩ [0] rfl 0 rfl rfl rfl rfl (Nat.le_of_ble_eq_true rfl) dX10_writesClass_16 19 rfl (Gs' := [gX10 cy oM aM M_5]) rfl ?_
  clear hu6
  refine ww_aload_n h dX10_writesClass_19 rfl 0 rfl 20 rfl ?_
  refine ww_iconst (v := 1) h dX10_writesClass_20 (by decide) 21 rfl ?_
  refine ww_aload_n h dX10_writesClass_21 rfl 0 rfl 22 rfl ?_
  refine ww_get h inG10 rfl 0 rfl rfl 1 (by decide) w_1158 rfl dX10_writesClass_22 25 rfl ?_
  refine ww_iload_n h dX10_writesClass_25 rfl 1 rfl 26 rfl ?_
  have hi := (gd_some hf).1
  replace hf := (gd_some hf).2
  refine ww_iald h 0 rfl 1 rfl (ix_in hi) dX10_writesClass_26 27 rfl ?_
  clear hi
  obtain ⟨M_7, hu8, hf⟩ := ob1 hf
  refine ww_cVv h (c_X10_writesNumber l D ev cy oM aM M_5 (1 : Int32) (ar M_5 1 p0.toNatClampNeg) _ hu8) ⟨w_1621, w_1618, w_1620, w_76, w_111, ok_X10_writesNumber⟩ ⟨by decide, by decide⟩ ⟨by decide, by decide⟩ ⟨rfl, rfl⟩ [0] rfl 0 rfl rfl rfl rfl (Nat.le_of_ble_eq_true rfl) dX10_writesClass_27 30 rfl (Gs' := [gX10 cy oM aM M_7]) rfl ?_
  clear hu8
  refine ww_iconst (v := 0) h dX10_writesClass_30 (by decide) 31 rfl ?_
  refine ww_ist_n h dX10_writesClass_31 rfl (by decide) (fun v2_9 => [(2, .int v2_9), (0, .ref oM), (1, .int p0)]) (fun _ => rfl) 32 rfl (fun v2_9 e => ?_)
  replace hf := bnd_at e hf
  clear e
  refine ww_lo [1, 2, 0] (lo' := [(0, .ref oM), (1, .int p0), (2, .int v2_9)]) rfl ?_
  obtain ⟨M_22, h10, hf⟩ := ob1 hf
  refine lp_walk (un2 (fun v2_11 M_12 => ww X D A 3 Q 0 0 32 [(0, .ref oM), (1, .int p0), (2, .int v2_11)] [] [gX10 cy oM aM M_12])) (un1 (fun M_22 => ww X D A 3 Q 0 0 74 [(0, .ref oM), (1, .int p0)] [] [gX10 cy oM aM M_22])) ?_ _ _ _ h10 ?_
  · clear h10 hf
    intro s10 o10 hf hI10 hE10
    obtain ⟨v2_11, M_12⟩ := s10
    unfold s_X10_writesClass_32_10 at hf
    replace hf := un2_e hf
    show ww X D A 3 Q 0 0 32 [(0, .ref oM), (1, .int p0), (2, .int v2_11)] [] [gX10 cy oM aM M_12]
    refine ww_iload_n h dX10_writesClass_32 rfl 2 rfl 33 rfl ?_
    refine ww_iconst (v := 2) h dX10_writesClass_33 (by decide) 34 rfl ?_
    refine ww_icmp_ge h dX10_writesClass_34 74 (by decide) 37 rfl (fun c => ?_) (fun c => ?_)
    · replace hf := ite_t c hf
      refine ww_lo [0, 1] (lo' := [(0, .ref oM), (1, .int p0)]) rfl ?_
      exact hE10 M_12 (Option.some.inj hf).symm
    · replace hf := ite_f c hf
      refine ww_aload_n h dX10_writesClass_37 rfl 0 rfl 38 rfl ?_
      refine ww_get h inG10 rfl 0 rfl rfl 8 (by decide) w_1165 rfl dX10_writesClass_38 41 rfl ?_
      refine ww_bipush (v := 82) h dX10_writesClass_41 (by decide) 43 rfl ?_
      refine ww_iload_n h dX10_writesClass_43 rfl 2 rfl 44 rfl ?_
      refine ww_iadd h dX10_writesClass_44 45 rfl ?_
      have hi := (gd_some hf).1
      replace hf := (gd_some hf).2
      refine ww_iald h 0 rfl 8 rfl (ix_in hi) dX10_writesClass_45 46 rfl ?_
      clear hi
      refine ww_iload_n h dX10_writesClass_46 rfl 1 rfl 47 rfl ?_
      obtain ⟨r_13, hu14, hf⟩ := ob1 hf
      refine ww_cSi h (c_X10_isIn l D ev cy (ar M_12 8 ((82 : Int32) + v2_11).toNatClampNeg) p0 _ hu14) ⟨w_1412, w_1410, w_1411, w_111, ok_X10_isIn⟩ ⟨by decide, by decide⟩ ⟨by decide, by decide⟩ ⟨rfl, rfl⟩ [] rfl rfl (Nat.le_of_ble_eq_true rfl) dX10_writesClass_47 50 rfl (Gs' := [gX10 cy oM aM M_12]) rfl ?_
      clear hu14
      have hJ68_16 : ∀ (M_15 : OV), j_X10_writesClass_68_16 v2_11 M_15 = some o10 → ww X D A 3 Q 0 0 68 [(0, .ref oM), (1, .int p0), (2, .int v2_11)] [] [gX10 cy oM aM M_15] := by
        intro M_15 hf
        unfold j_X10_writesClass_68_16 at hf
        refine ww_inc (c := 1) h dX10_writesClass_68 2 rfl (by decide) (by decide) (fun v2_17 => [(2, .int v2_17), (0, .ref oM), (1, .int p0)]) (fun _ => rfl) 71 rfl (fun v2_17 e => ?_)
        replace hf := bnd_at e hf
        clear e
        refine ww_goto h dX10_writesClass_71 32 (by decide) ?_
        refine ww_lo [1, 2, 0] (lo' := [(0, .ref oM), (1, .int p0), (2, .int v2_17)]) rfl ?_
        exact hI10 (v2_17, M_15) (Option.some.inj hf).symm
      refine ww_if_ne h dX10_writesClass_50 56 (by decide) 53 rfl (fun c => ?_) (fun c => ?_)
      · replace hf := ite_f c hf
        refine ww_aload_n h dX10_writesClass_56 rfl 0 rfl 57 rfl ?_
        refine ww_iconst (v := 2) h dX10_writesClass_57 (by decide) 58 rfl ?_
        obtain ⟨M_18, hu19, hf⟩ := ob1 hf
        refine ww_cVv h (c_X10_writesMore l D ev cy oM aM M_12 (2 : Int32) _ hu19) ⟨w_1625, w_1622, w_1624, w_77, w_111, ok_X10_writesMore⟩ ⟨by decide, by decide⟩ ⟨by decide, by decide⟩ ⟨rfl, rfl⟩ [0] rfl 0 rfl rfl rfl rfl (Nat.le_of_ble_eq_true rfl) dX10_writesClass_58 61 rfl (Gs' := [gX10 cy oM aM M_18]) rfl ?_
        clear hu19
        refine ww_aload_n h dX10_writesClass_61 rfl 0 rfl 62 rfl ?_
        refine ww_iconst (v := 3) h dX10_writesClass_62 (by decide) 63 rfl ?_
        refine ww_iload_n h dX10_writesClass_63 rfl 2 rfl 64 rfl ?_
        refine ww_iadd h dX10_writesClass_64 65 rfl ?_
        obtain ⟨M_20, hu21, hf⟩ := ob1 hf
        refine ww_cVv h (c_X10_writesMore l D ev cy oM aM M_18 ((3 : Int32) + v2_11) _ hu21) ⟨w_1625, w_1622, w_1624, w_77, w_111, ok_X10_writesMore⟩ ⟨by decide, by decide⟩ ⟨by decide, by decide⟩ ⟨rfl, rfl⟩ [0] rfl 0 rfl rfl rfl rfl (Nat.le_of_ble_eq_true rfl) dX10_writesClass_65 68 rfl (Gs' := [gX10 cy oM aM M_20]) rfl ?_
        clear hu21
        exact hJ68_16 M_20 hf
      · replace hf := ite_t c hf
        refine ww_goto h dX10_writesClass_53 68 (by decide) ?_
        exact hJ68_16 M_12 hf
  · clear h10
    show ww X D A 3 Q 0 0 74 [(0, .ref oM), (1, .int p0)] [] [gX10 cy oM aM M_22]
    refine ww_aload_n h dX10_writesClass_74 rfl 0 rfl 75 rfl ?_
    refine ww_get h inG10 rfl 0 rfl rfl 2 (by decide) w_1159 rfl dX10_writesClass_75 78 rfl ?_
    refine ww_iload_n h dX10_writesClass_78 rfl 1 rfl 79 rfl ?_
    have hi := (gd_some hf).1
    replace hf := (gd_some hf).2
    refine ww_zald h 0 rfl 2 rfl (ix_in hi) dX10_writesClass_79 80 rfl ?_
    clear hi
    have hJ88_24 : ∀ (M_23 : OV), j_X10_writesClass_88_24 p0 M_23 = some o → ww X D A 3 Q 0 0 88 [(0, .ref oM), (1, .int p0)] [] [gX10 cy oM aM M_23] := by
      intro M_23 hf
      unfold j_X10_writesClass_88_24 at hf
      refine ww_aload_n h dX10_writesClass_88 rfl 0 rfl 89 rfl ?_
      refine ww_get h inG10 rfl 0 rfl rfl 3 (by decide) w_1160 rfl dX10_writesClass_89 92 rfl ?_
      refine ww_iload_n h dX10_writesClass_92 rfl 1 rfl 93 rfl ?_
      have hi := (gd_some hf).1
      replace hf := (gd_some hf).2
      refine ww_iald h 0 rfl 3 rfl (ix_in hi) dX10_writesClass_93 94 rfl ?_
      clear hi
      have hJ109_26 : ∀ (M_25 : OV), j_X10_writesClass_109_26 p0 M_25 = some o → ww X D A 3 Q 0 0 109 [(0, .ref oM), (1, .int p0)] [] [gX10 cy oM aM M_25] := by
        intro M_25 hf
        unfold j_X10_writesClass_109_26 at hf
        refine ww_aload_n h dX10_writesClass_109 rfl 0 rfl 110 rfl ?_
        refine ww_get h inG10 rfl 0 rfl rfl 4 (by decide) w_1161 rfl dX10_writesClass_110 113 rfl ?_
        refine ww_iload_n h dX10_writesClass_113 rfl 1 rfl 114 rfl ?_
        have hi := (gd_some hf).1
        replace hf := (gd_some hf).2
        refine ww_iald h 0 rfl 4 rfl (ix_in hi) dX10_writesClass_114 115 rfl ?_
        clear hi
        have hJ142_28 : ∀ (M_27 : OV), j_X10_writesClass_142_28 p0 M_27 = some o → ww X D A 3 Q 0 0 142 [(0, .ref oM), (1, .int p0)] [] [gX10 cy oM aM M_27] := by
          intro M_27 hf
          unfold j_X10_writesClass_142_28 at hf
          refine ww_aload_n h dX10_writesClass_142 rfl 0 rfl 143 rfl ?_
          refine ww_get h inG10 rfl 0 rfl rfl 6 (by decide) w_1163 rfl dX10_writesClass_143 146 rfl ?_
          refine ww_iload_n h dX10_writesClass_146 rfl 1 rfl 147 rfl ?_
          have hi := (gd_some hf).1
          replace hf := (gd_some hf).2
          refine ww_iald h 0 rfl 6 rfl (ix_in hi) dX10_writesClass_147 148 rfl ?_
          clear hi
          have hJ175_30 : ∀ (M_29 : OV), j_X10_writesClass_175_30 M_29 = some o → ww X D A 3 Q 0 0 175 [(0, .ref oM)] [] [gX10 cy oM aM M_29] := by
            intro M_29 hf
            unfold j_X10_writesClass_175_30 at hf
            refine ww_aload_n h dX10_writesClass_175 rfl 0 rfl 176 rfl ?_
            refine ww_bipush (v := 59) h dX10_writesClass_176 (by decide) 178 rfl ?_
            obtain ⟨M_31, hu32, hf⟩ := ob1 hf
            refine ww_cVv h (c_X10_writes l D ev cy oM aM M_29 (59 : Int32) _ hu32) ⟨w_1597, w_1594, w_1596, w_71, w_111, ok_X10_writes⟩ ⟨by decide, by decide⟩ ⟨by decide, by decide⟩ ⟨rfl, rfl⟩ [0] rfl 0 rfl rfl rfl rfl (Nat.le_of_ble_eq_true rfl) dX10_writesClass_178 181 rfl (Gs' := [gX10 cy oM aM M_31]) rfl ?_
            clear hu32
            obtain rfl := Option.some.inj hf
            exact ww_vret h dX10_writesClass_181 hQ ⟨rfl, rfl⟩
          refine ww_if_le h dX10_writesClass_148 175 (by decide) 151 rfl (fun c => ?_) (fun c => ?_)
          · replace hf := ite_t c hf
            refine ww_lo [0] (lo' := [(0, .ref oM)]) rfl ?_
            exact hJ175_30 M_27 hf
          · replace hf := ite_f c hf
            refine ww_aload_n h dX10_writesClass_151 rfl 0 rfl 152 rfl ?_
            refine ww_bipush (v := 9) h dX10_writesClass_152 (by decide) 154 rfl ?_
            refine ww_aload_n h dX10_writesClass_154 rfl 0 rfl 155 rfl ?_
            refine ww_get h inG10 rfl 0 rfl rfl 6 (by decide) w_1163 rfl dX10_writesClass_155 158 rfl ?_
            refine ww_iload_n h dX10_writesClass_158 rfl 1 rfl 159 rfl ?_
            have hi := (gd_some hf).1
            replace hf := (gd_some hf).2
            refine ww_iald h 0 rfl 6 rfl (ix_in hi) dX10_writesClass_159 160 rfl ?_
            clear hi
            obtain ⟨M_33, hu34, hf⟩ := ob1 hf
            refine ww_cVv h (c_X10_writesNumber l D ev cy oM aM M_27 (9 : Int32) (ar M_27 6 p0.toNatClampNeg) _ hu34) ⟨w_1621, w_1618, w_1620, w_76, w_111, ok_X10_writesNumber⟩ ⟨by decide, by decide⟩ ⟨by decide, by decide⟩ ⟨rfl, rfl⟩ [0] rfl 0 rfl rfl rfl rfl (Nat.le_of_ble_eq_true rfl) dX10_writesClass_160 163 rfl (Gs' := [gX10 cy oM aM M_33]) rfl ?_
            clear hu34
            refine ww_aload_n h dX10_writesClass_163 rfl 0 rfl 164 rfl ?_
            refine ww_bipush (v := 8) h dX10_writesClass_164 (by decide) 166 rfl ?_
            refine ww_aload_n h dX10_writesClass_166 rfl 0 rfl 167 rfl ?_
            refine ww_get h inG10 rfl 0 rfl rfl 7 (by decide) w_1164 rfl dX10_writesClass_167 170 rfl ?_
            refine ww_iload_n h dX10_writesClass_170 rfl 1 rfl 171 rfl ?_
            have hi := (gd_some hf).1
            replace hf := (gd_some hf).2
            refine ww_iald h 0 rfl 7 rfl (ix_in hi) dX10_writesClass_171 172 rfl ?_
            clear hi
            obtain ⟨M_35, hu36, hf⟩ := ob1 hf
            refine ww_cVv h (c_X10_writesNumber l D ev cy oM aM M_33 (8 : Int32) (ar M_33 7 p0.toNatClampNeg) _ hu36) ⟨w_1621, w_1618, w_1620, w_76, w_111, ok_X10_writesNumber⟩ ⟨by decide, by decide⟩ ⟨by decide, by decide⟩ ⟨rfl, rfl⟩ [0] rfl 0 rfl rfl rfl rfl (Nat.le_of_ble_eq_true rfl) dX10_writesClass_172 175 rfl (Gs' := [gX10 cy oM aM M_35]) rfl ?_
            clear hu36
            refine ww_lo [0] (lo' := [(0, .ref oM)]) rfl ?_
            exact hJ175_30 M_35 hf
        refine ww_if_le h dX10_writesClass_115 142 (by decide) 118 rfl (fun c => ?_) (fun c => ?_)
        · replace hf := ite_t c hf
          exact hJ142_28 M_25 hf
        · replace hf := ite_f c hf
          refine ww_aload_n h dX10_writesClass_118 rfl 0 rfl 119 rfl ?_
          refine ww_bipush (v := 7) h dX10_writesClass_119 (by decide) 121 rfl ?_
          refine ww_aload_n h dX10_writesClass_121 rfl 0 rfl 122 rfl ?_
          refine ww_get h inG10 rfl 0 rfl rfl 4 (by decide) w_1161 rfl dX10_writesClass_122 125 rfl ?_
          refine ww_iload_n h dX10_writesClass_125 rfl 1 rfl 126 rfl ?_
          have hi := (gd_some hf).1
          replace hf := (gd_some hf).2
          refine ww_iald h 0 rfl 4 rfl (ix_in hi) dX10_writesClass_126 127 rfl ?_
          clear hi
          obtain ⟨M_37, hu38, hf⟩ := ob1 hf
          refine ww_cVv h (c_X10_writesNumber l D ev cy oM aM M_25 (7 : Int32) (ar M_25 4 p0.toNatClampNeg) _ hu38) ⟨w_1621, w_1618, w_1620, w_76, w_111, ok_X10_writesNumber⟩ ⟨by decide, by decide⟩ ⟨by decide, by decide⟩ ⟨rfl, rfl⟩ [0] rfl 0 rfl rfl rfl rfl (Nat.le_of_ble_eq_true rfl) dX10_writesClass_127 130 rfl (Gs' := [gX10 cy oM aM M_37]) rfl ?_
          clear hu38
          refine ww_aload_n h dX10_writesClass_130 rfl 0 rfl 131 rfl ?_
          refine ww_bipush (v := 8) h dX10_writesClass_131 (by decide) 133 rfl ?_
          refine ww_aload_n h dX10_writesClass_133 rfl 0 rfl 134 rfl ?_
          refine ww_get h inG10 rfl 0 rfl rfl 5 (by decide) w_1162 rfl dX10_writesClass_134 137 rfl ?_
          refine ww_iload_n h dX10_writesClass_137 rfl 1 rfl 138 rfl ?_
          have hi := (gd_some hf).1
          replace hf := (gd_some hf).2
          refine ww_iald h 0 rfl 5 rfl (ix_in hi) dX10_writesClass_138 139 rfl ?_
          clear hi
          obtain ⟨M_39, hu40, hf⟩ := ob1 hf
          refine ww_cVv h (c_X10_writesNumber l D ev cy oM aM M_37 (8 : Int32) (ar M_37 5 p0.toNatClampNeg) _ hu40) ⟨w_1621, w_1618, w_1620, w_76, w_111, ok_X10_writesNumber⟩ ⟨by decide, by decide⟩ ⟨by decide, by decide⟩ ⟨rfl, rfl⟩ [0] rfl 0 rfl rfl rfl rfl (Nat.le_of_ble_eq_true rfl) dX10_writesClass_139 142 rfl (Gs' := [gX10 cy oM aM M_39]) rfl ?_
          clear hu40
          exact hJ142_28 M_39 hf
      refine ww_if_le h dX10_writesClass_94 109 (by decide) 97 rfl (fun c => ?_) (fun c => ?_)
      · replace hf := ite_t c hf
        exact hJ109_26 M_23 hf
      · replace hf := ite_f c hf
        refine ww_aload_n h dX10_writesClass_97 rfl 0 rfl 98 rfl ?_
        refine ww_bipush (v := 6) h dX10_writesClass_98 (by decide) 100 rfl ?_
        refine ww_aload_n h dX10_writesClass_100 rfl 0 rfl 101 rfl ?_
        refine ww_get h inG10 rfl 0 rfl rfl 3 (by decide) w_1160 rfl dX10_writesClass_101 104 rfl ?_
        refine ww_iload_n h dX10_writesClass_104 rfl 1 rfl 105 rfl ?_
        have hi := (gd_some hf).1
        replace hf := (gd_some hf).2
        refine ww_iald h 0 rfl 3 rfl (ix_in hi) dX10_writesClass_105 106 rfl ?_
        clear hi
        obtain ⟨M_41, hu42, hf⟩ := ob1 hf
        refine ww_cVv h (c_X10_writesNumber l D ev cy oM aM M_23 (6 : Int32) (ar M_23 3 p0.toNatClampNeg) _ hu42) ⟨w_1621, w_1618, w_1620, w_76, w_111, ok_X10_writesNumber⟩ ⟨by decide, by decide⟩ ⟨by decide, by decide⟩ ⟨rfl, rfl⟩ [0] rfl 0 rfl rfl rfl rfl (Nat.le_of_ble_eq_true rfl) dX10_writesClass_106 109 rfl (Gs' := [gX10 cy oM aM M_41]) rfl ?_
        clear hu42
        exact hJ109_26 M_41 hf
    refine ww_if_eq h dX10_writesClass_80 88 (by decide) 83 rfl (fun c => ?_) (fun c => ?_)
    · replace hf := ite_t c hf
      exact hJ88_24 M_22 hf
    · replace hf := ite_f c hf
      refine ww_aload_n h dX10_writesClass_83 rfl 0 rfl 84 rfl ?_
      refine ww_iconst (v := 5) h dX10_writesClass_84 (by decide) 85 rfl ?_
      obtain ⟨M_43, hu44, hf⟩ := ob1 hf
      refine ww_cVv h (c_X10_writesMore l D ev cy oM aM M_22 (5 : Int32) _ hu44) ⟨w_1625, w_1622, w_1624, w_77, w_111, ok_X10_writesMore⟩ ⟨by decide, by decide⟩ ⟨by decide, by decide⟩ ⟨rfl, rfl⟩ [0] rfl 0 rfl rfl rfl rfl (Nat.le_of_ble_eq_true rfl) dX10_writesClass_85 88 rfl (Gs' := [gX10 cy oM aM M_43]) rfl ?_
      clear hu44
      exact hJ88_24 M_43 hf
