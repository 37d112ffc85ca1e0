theorem dX10_feed_0 : decode cX10_feed 0 = .ok (.aload_n 0, 1) := by decide +kernel
theorem dX10_feed_1 : decode cX10_feed 1 = .ok (.getfield 330, 3) := by decide +kernel
theorem dX10_feed_4 : decode cX10_feed 4 = .ok (.bipush 20, 2) := by decide +kernel
theorem dX10_feed_6 : decode cX10_feed 6 = .ok (.iadd, 1) := by decide +kernel
theorem dX10_feed_7 : decode cX10_feed 7 = .ok (.sipush 500, 3) := by decide +kernel
theorem dX10_feed_10 : decode cX10_feed 10 = .ok (.if_icmp .le 5, 3) := by decide +kernel
theorem dX10_feed_13 : decode cX10_feed 13 = .ok (.iconst (-1), 1) := by decide +kernel
theorem dX10_feed_14 : decode cX10_feed 14 = .ok (.ireturn, 1) := by decide +kernel
theorem dX10_feed_15 : decode cX10_feed 15 = .ok (.iconst 0, 1) := by decide +kernel
theorem dX10_feed_16 : decode cX10_feed 16 = .ok (.istore 6, 2) := by decide +kernel
theorem dX10_feed_18 : decode cX10_feed 18 = .ok (.iload 6, 2) := by decide +kernel
theorem dX10_feed_20 : decode cX10_feed 20 = .ok (.bipush 20, 2) := by decide +kernel
theorem dX10_feed_22 : decode cX10_feed 22 = .ok (.if_icmp .ge 93, 3) := by decide +kernel
theorem dX10_feed_25 : decode cX10_feed 25 = .ok (.iload 6, 2) := by decide +kernel
theorem dX10_feed_27 : decode cX10_feed 27 = .ok (.iconst 4, 1) := by decide +kernel
theorem dX10_feed_28 : decode cX10_feed 28 = .ok (.if_icmp .ge 7, 3) := by decide +kernel
theorem dX10_feed_31 : decode cX10_feed 31 = .ok (.iload_n 1, 1) := by decide +kernel
theorem dX10_feed_32 : decode cX10_feed 32 = .ok (.goto 39, 3) := by decide +kernel
theorem dX10_feed_35 : decode cX10_feed 35 = .ok (.iload 6, 2) := by decide +kernel
theorem dX10_feed_37 : decode cX10_feed 37 = .ok (.bipush 8, 2) := by decide +kernel
theorem dX10_feed_39 : decode cX10_feed 39 = .ok (.if_icmp .ge 7, 3) := by decide +kernel
theorem dX10_feed_42 : decode cX10_feed 42 = .ok (.iload_n 2, 1) := by decide +kernel
theorem dX10_feed_43 : decode cX10_feed 43 = .ok (.goto 28, 3) := by decide +kernel
theorem dX10_feed_46 : decode cX10_feed 46 = .ok (.iload 6, 2) := by decide +kernel
theorem dX10_feed_48 : decode cX10_feed 48 = .ok (.bipush 12, 2) := by decide +kernel
theorem dX10_feed_50 : decode cX10_feed 50 = .ok (.if_icmp .ge 7, 3) := by decide +kernel
theorem dX10_feed_53 : decode cX10_feed 53 = .ok (.iload_n 3, 1) := by decide +kernel
theorem dX10_feed_54 : decode cX10_feed 54 = .ok (.goto 17, 3) := by decide +kernel
theorem dX10_feed_57 : decode cX10_feed 57 = .ok (.iload 6, 2) := by decide +kernel
theorem dX10_feed_59 : decode cX10_feed 59 = .ok (.bipush 16, 2) := by decide +kernel
theorem dX10_feed_61 : decode cX10_feed 61 = .ok (.if_icmp .ge 8, 3) := by decide +kernel
theorem dX10_feed_64 : decode cX10_feed 64 = .ok (.iload 4, 2) := by decide +kernel
theorem dX10_feed_66 : decode cX10_feed 66 = .ok (.goto 5, 3) := by decide +kernel
theorem dX10_feed_69 : decode cX10_feed 69 = .ok (.iload 5, 2) := by decide +kernel
theorem dX10_feed_71 : decode cX10_feed 71 = .ok (.istore 7, 2) := by decide +kernel
theorem dX10_feed_73 : decode cX10_feed 73 = .ok (.aload_n 0, 1) := by decide +kernel
theorem dX10_feed_74 : decode cX10_feed 74 = .ok (.getfield 88, 3) := by decide +kernel
theorem dX10_feed_77 : decode cX10_feed 77 = .ok (.aload_n 0, 1) := by decide +kernel
theorem dX10_feed_78 : decode cX10_feed 78 = .ok (.getfield 330, 3) := by decide +kernel
theorem dX10_feed_81 : decode cX10_feed 81 = .ok (.iload 7, 2) := by decide +kernel
theorem dX10_feed_83 : decode cX10_feed 83 = .ok (.bipush 24, 2) := by decide +kernel
theorem dX10_feed_85 : decode cX10_feed 85 = .ok (.bipush 8, 2) := by decide +kernel
theorem dX10_feed_87 : decode cX10_feed 87 = .ok (.iload 6, 2) := by decide +kernel
theorem dX10_feed_89 : decode cX10_feed 89 = .ok (.iconst 4, 1) := by decide +kernel
theorem dX10_feed_90 : decode cX10_feed 90 = .ok (.irem, 1) := by decide +kernel
theorem dX10_feed_91 : decode cX10_feed 91 = .ok (.imul, 1) := by decide +kernel
theorem dX10_feed_92 : decode cX10_feed 92 = .ok (.isub, 1) := by decide +kernel
theorem dX10_feed_93 : decode cX10_feed 93 = .ok (.ishr, 1) := by decide +kernel
theorem dX10_feed_94 : decode cX10_feed 94 = .ok (.sipush 255, 3) := by decide +kernel
theorem dX10_feed_97 : decode cX10_feed 97 = .ok (.iand, 1) := by decide +kernel
theorem dX10_feed_98 : decode cX10_feed 98 = .ok (.iastore, 1) := by decide +kernel
theorem dX10_feed_99 : decode cX10_feed 99 = .ok (.aload_n 0, 1) := by decide +kernel
theorem dX10_feed_100 : decode cX10_feed 100 = .ok (.dup, 1) := by decide +kernel
theorem dX10_feed_101 : decode cX10_feed 101 = .ok (.getfield 330, 3) := by decide +kernel
theorem dX10_feed_104 : decode cX10_feed 104 = .ok (.iconst 1, 1) := by decide +kernel
theorem dX10_feed_105 : decode cX10_feed 105 = .ok (.iadd, 1) := by decide +kernel
theorem dX10_feed_106 : decode cX10_feed 106 = .ok (.putfield 330, 3) := by decide +kernel
theorem dX10_feed_109 : decode cX10_feed 109 = .ok (.iinc 6 1, 3) := by decide +kernel
theorem dX10_feed_112 : decode cX10_feed 112 = .ok (.goto (-94), 3) := by decide +kernel
theorem dX10_feed_115 : decode cX10_feed 115 = .ok (.aload_n 0, 1) := by decide +kernel
theorem dX10_feed_116 : decode cX10_feed 116 = .ok (.getfield 330, 3) := by decide +kernel
theorem dX10_feed_119 : decode cX10_feed 119 = .ok (.ireturn, 1) := by decide +kernel
theorem ok_X10_feed : okY RX10 yX10_feed 5 := ⟨rfl, by decide, by decide, by decide +kernel⟩
def j_X10_feed_71_6 (M_4 : OV) (v6_3 : Int32) (t_5 : Int32) : Option ((Int32 × OV) ⊕ (OV)) := bnd t_5 (fun v7_7 => gd (ix (iv M_4 36) 500) (bnd (sA M_4 35 (iv M_4 36).toNatClampNeg ((v7_7 >>> (((24 : Int32) - ((8 : Int32) * (v6_3 - v6_3 / (4 : Int32) * (4 : Int32)))) &&& 31)) &&& (255 : Int32))) (fun M_8 => bnd (sI M_8 36 ((iv M_8 36) + (1 : Int32))) (fun M_9 => bnd (v6_3 + 1) (fun v6_10 => some (.inl (v6_10, M_9)))))))
def s_X10_feed_18_2 (p0 : Int32) (p1 : Int32) (p2 : Int32) (p3 : Int32) (p4 : Int32) : (Int32 × OV) → Option ((Int32 × OV) ⊕ (OV)) := un2 (fun v6_3 M_4 => (if (20 : Int32) ≤ v6_3 then some (.inr M_4) else (if (4 : Int32) ≤ v6_3 then (if (8 : Int32) ≤ v6_3 then (if (12 : Int32) ≤ v6_3 then (if (16 : Int32) ≤ v6_3 then j_X10_feed_71_6 M_4 v6_3 p4 else j_X10_feed_71_6 M_4 v6_3 p3) else j_X10_feed_71_6 M_4 v6_3 p2) else j_X10_feed_71_6 M_4 v6_3 p1) else j_X10_feed_71_6 M_4 v6_3 p0)))
def f_X10_feed (M : OV) (p0 : Int32) (p1 : Int32) (p2 : Int32) (p3 : Int32) (p4 : Int32) : Option (Int32 × OV) := (if ((iv M 36) + (20 : Int32)) ≤ (500 : Int32) then bnd (0 : Int32) (fun v6_1 => ((lp (s_X10_feed_18_2 p0 p1 p2 p3 p4) 5000 (v6_1, M)).bind (un1 (fun M_11 => some ((iv M_11 36), M_11))))) else some ((-1 : Int32), M))
def r_X10_feed : Room := { frames := 0, cells := 0, slots := 0, locals := 0 }
set_option maxHeartbeats 4000000 in
set_option maxRecDepth 100000 in
theorem c_X10_feed (l : Launch) (D : va_G) (ev : EvT) (cy : Nat → ClassId) (oM : Nat) (aM : Nat → Nat) (M : OV) (p0 : Int32) (p1 : Int32) (p2 : Int32) (p3 : Int32) (p4 : Int32) (o : Int32 × OV) (hf : f_X10_feed M p0 p1 p2 p3 p4 = some o) : Fn l yX10_feed cX10_feed 8 (some .int) r_X10_feed D ev cy [.ref oM, .int p0, .int p1, .int p2, .int p3, .int p4] [gX10 cy oM aM M] (fun v G => v = some (.int o.1) ∧ G = [gX10 cy oM aM o.2]) := by
  refine Fn_of (by decide) (Nat.le_of_ble_eq_true rfl) (fun X A Q h hQ _ => ?_)
  unfold f_X10_feed at hf
  show ww X D A 8 Q 0 0 0 [(0, .ref oM), (1, .int p0), (2, .int p1), (3, .int p2), (4, .int p3), (5, .int p4)] [] [gX10 cy oM aM M]
  refine ww_aload_n h dX10_feed_0 rfl 0 rfl 1 rfl ?_
  refine ww_get h inG10 rfl 0 rfl rfl 36 (by decide) w_1193 rfl dX10_feed_1 4 rfl ?_
  refine ww_bipush (v := 20) h dX10_feed_4 (by decide) 6 rfl ?_
  refine ww_iadd h dX10_feed_6 7 rfl ?_
  refine ww_sipush (v := 500) h dX10_feed_7 (by decide) 10 rfl ?_
  refine ww_icmp_le h dX10_feed_10 15 (by decide) 13 rfl (fun c => ?_) (fun c => ?_)
  · replace hf := ite_t c hf
    refine ww_iconst (v := 0) h dX10_feed_15 (by decide) 16 rfl ?_
    refine ww_ist h dX10_feed_16 (by decide) (fun v6_1 => [(6, .int v6_1), (0, .ref oM), (1, .int p0), (2, .int p1), (3, .int p2), (4, .int p3), (5, .int p4)]) (fun _ => rfl) 18 rfl (fun v6_1 e => ?_)
    replace hf := bnd_at e hf
    clear e
    refine ww_lo [1, 2, 3, 4, 5, 6, 0] (lo' := [(0, .ref oM), (1, .int p0), (2, .int p1), (3, .int p2), (4, .int p3), (5, .int p4), (6, .int v6_1)]) rfl ?_
    obtain ⟨M_11, h2, hf⟩ := ob1 hf
    refine lp_walk (un2 (fun v6_3 M_4 => ww X D A 8 Q 0 0 18 [(0, .ref oM), (1, .int p0), (2, .int p1), (3, .int p2), (4, .int p3), (5, .int p4), (6, .int v6_3)] [] [gX10 cy oM aM M_4])) (un1 (fun M_11 => ww X D A 8 Q 0 0 115 [(0, .ref oM)] [] [gX10 cy oM aM M_11])) ?_ _ _ _ h2 ?_
    · clear h2 hf
      intro s2 o2 hf hI2 hE2
      obtain ⟨v6_3, M_4⟩ := s2
      unfold s_X10_feed_18_2 at hf
      replace hf := un2_e hf
      show ww X D A 8 Q 0 0 18 [(0, .ref oM), (1, .int p0), (2, .int p1), (3, .int p2), (4, .int p3), (5, .int p4), (6, .int v6_3)] [] [gX10 cy oM aM M_4]
      refine ww_iload h dX10_feed_18 6 rfl 20 rfl ?_
      refine ww_bipush (v := 20) h dX10_feed_20 (by decide) 22 rfl ?_
      refine ww_icmp_ge h dX10_feed_22 115 (by decide) 25 rfl (fun c => ?_) (fun c => ?_)
      · replace hf := ite_t c hf
        refine ww_lo [0] (lo' := [(0, .ref oM)]) rfl ?_
        exact hE2 M_4 (Option.some.inj hf).symm
      · replace hf := ite_f c hf
        refine ww_iload h dX10_feed_25 6 rfl 27 rfl ?_
        refine ww_iconst (v := 4) h dX10_feed_27 (by decide) 28 rfl ?_
        have hJ71_6 : ∀ (t_5 : Int32), j_X10_feed_71_6 M_4 v6_3 t_5 = some o2 → ww X D A 8 Q 0 0 71 [(0, .ref oM), (1, .int p0), (2, .int p1), (3, .int p2), (4, .int p3), (5, .int p4), (6, .int v6_3)] [.int t_5] [gX10 cy oM aM M_4] := by
          intro t_5 hf
          unfold j_X10_feed_71_6 at hf
          refine ww_ist h dX10_feed_71 (by decide) (fun v7_7 => [(7, .int v7_7), (0, .ref oM), (1, .int p0), (2, .int p1), (3, .int p2), (4, .int p3), (5, .int p4), (6, .int v6_3)]) (fun _ => rfl) 73 rfl (fun v7_7 e => ?_)
          replace hf := bnd_at e hf
          clear e
          refine ww_aload_n h dX10_feed_73 rfl 1 rfl 74 rfl ?_
          refine ww_get h inG10 rfl 0 rfl rfl 35 (by decide) w_1192 rfl dX10_feed_74 77 rfl ?_
          refine ww_aload_n h dX10_feed_77 rfl 1 rfl 78 rfl ?_
          refine ww_get h inG10 rfl 0 rfl rfl 36 (by decide) w_1193 rfl dX10_feed_78 81 rfl ?_
          refine ww_iload h dX10_feed_81 0 rfl 83 rfl ?_
          refine ww_bipush (v := 24) h dX10_feed_83 (by decide) 85 rfl ?_
          refine ww_bipush (v := 8) h dX10_feed_85 (by decide) 87 rfl ?_
          refine ww_iload h dX10_feed_87 7 rfl 89 rfl ?_
          refine ww_iconst (v := 4) h dX10_feed_89 (by decide) 90 rfl ?_
          refine ww_irem h dX10_feed_90 (by decide) 91 rfl ?_
          refine ww_imul h dX10_feed_91 92 rfl ?_
          refine ww_isub h dX10_feed_92 93 rfl ?_
          refine ww_ishr h dX10_feed_93 94 rfl ?_
          refine ww_sipush (v := 255) h dX10_feed_94 (by decide) 97 rfl ?_
          refine ww_iand h dX10_feed_97 98 rfl ?_
          have hi := (gd_some hf).1
          replace hf := (gd_some hf).2
          refine ww_iast h 0 rfl 25 rfl (ix_in hi) dX10_feed_98 99 rfl ?_
          clear hi
          refine ww_nm (fun z => [gX10 cy oM aM z]) (sA M_4 35 (iv M_4 36).toNatClampNeg ((v7_7 >>> (((24 : Int32) - ((8 : Int32) * (v6_3 - v6_3 / (4 : Int32) * (4 : Int32)))) &&& 31)) &&& (255 : Int32))) (fun M_8 e => ?_)
          replace hf := bnd_at e hf
          clear e
          refine ww_aload_n h dX10_feed_99 rfl 1 rfl 100 rfl ?_
          refine ww_dup h dX10_feed_100 rfl 101 rfl ?_
          refine ww_get h inG10 rfl 0 rfl rfl 36 (by decide) w_1193 rfl dX10_feed_101 104 rfl ?_
          refine ww_iconst (v := 1) h dX10_feed_104 (by decide) 105 rfl ?_
          refine ww_iadd h dX10_feed_105 106 rfl ?_
          refine ww_put (ty := .int) h inG10 tyX10_ok nmX10 rfl 0 rfl rfl 36 (by decide) w_1193 rfl (by decide +kernel) rfl rfl (Nat.le_of_ble_eq_true rfl) (Nat.le_of_ble_eq_true rfl) dX10_feed_106 109 rfl ?_
          refine ww_nm (fun z => [gX10 cy oM aM z]) (sI M_8 36 ((iv M_8 36) + (1 : Int32))) (fun M_9 e => ?_)
          replace hf := bnd_at e hf
          clear e
          refine ww_inc (c := 1) h dX10_feed_109 7 rfl (by decide) (by decide) (fun v6_10 => [(6, .int v6_10), (7, .int v7_7), (0, .ref oM), (1, .int p0), (2, .int p1), (3, .int p2), (4, .int p3), (5, .int p4)]) (fun _ => rfl) 112 rfl (fun v6_10 e => ?_)
          replace hf := bnd_at e hf
          clear e
          refine ww_goto h dX10_feed_112 18 (by decide) ?_
          refine ww_lo [2, 3, 4, 5, 6, 7, 0] (lo' := [(0, .ref oM), (1, .int p0), (2, .int p1), (3, .int p2), (4, .int p3), (5, .int p4), (6, .int v6_10)]) rfl ?_
          exact hI2 (v6_10, M_9) (Option.some.inj hf).symm
        refine ww_icmp_ge h dX10_feed_28 35 (by decide) 31 rfl (fun c => ?_) (fun c => ?_)
        · replace hf := ite_t c hf
          refine ww_iload h dX10_feed_35 6 rfl 37 rfl ?_
          refine ww_bipush (v := 8) h dX10_feed_37 (by decide) 39 rfl ?_
          refine ww_icmp_ge h dX10_feed_39 46 (by decide) 42 rfl (fun c => ?_) (fun c => ?_)
          · replace hf := ite_t c hf
            refine ww_iload h dX10_feed_46 6 rfl 48 rfl ?_
            refine ww_bipush (v := 12) h dX10_feed_48 (by decide) 50 rfl ?_
            refine ww_icmp_ge h dX10_feed_50 57 (by decide) 53 rfl (fun c => ?_) (fun c => ?_)
            · replace hf := ite_t c hf
              refine ww_iload h dX10_feed_57 6 rfl 59 rfl ?_
              refine ww_bipush (v := 16) h dX10_feed_59 (by decide) 61 rfl ?_
              refine ww_icmp_ge h dX10_feed_61 69 (by decide) 64 rfl (fun c => ?_) (fun c => ?_)
              · replace hf := ite_t c hf
                refine ww_iload h dX10_feed_69 5 rfl 71 rfl ?_
                exact hJ71_6 p4 hf
              · replace hf := ite_f c hf
                refine ww_iload h dX10_feed_64 4 rfl 66 rfl ?_
                refine ww_goto h dX10_feed_66 71 (by decide) ?_
                exact hJ71_6 p3 hf
            · replace hf := ite_f c hf
              refine ww_iload_n h dX10_feed_53 rfl 3 rfl 54 rfl ?_
              refine ww_goto h dX10_feed_54 71 (by decide) ?_
              exact hJ71_6 p2 hf
          · replace hf := ite_f c hf
            refine ww_iload_n h dX10_feed_42 rfl 2 rfl 43 rfl ?_
            refine ww_goto h dX10_feed_43 71 (by decide) ?_
            exact hJ71_6 p1 hf
        · replace hf := ite_f c hf
          refine ww_iload_n h dX10_feed_31 rfl 1 rfl 32 rfl ?_
          refine ww_goto h dX10_feed_32 71 (by decide) ?_
          exact hJ71_6 p0 hf
    · clear h2
      show ww X D A 8 Q 0 0 115 [(0, .ref oM)] [] [gX10 cy oM aM M_11]
      refine ww_aload_n h dX10_feed_115 rfl 0 rfl 116 rfl ?_
      refine ww_get h inG10 rfl 0 rfl rfl 36 (by decide) w_1193 rfl dX10_feed_116 119 rfl ?_
      obtain rfl := Option.some.inj hf
      exact ww_iret h dX10_feed_119 hQ ⟨rfl, rfl⟩
  · replace hf := ite_f c hf
    refine ww_iconst (v := (-1)) h dX10_feed_13 (by decide) 14 rfl ?_
    obtain rfl := Option.some.inj hf
    exact ww_iret h dX10_feed_14 hQ ⟨rfl, rfl⟩
theorem dX10_back_0 : decode cX10_back 0 = .ok (.iload_n 1, 1) := by decide +kernel
theorem dX10_back_1 : decode cX10_back 1 = .ok (.iconst 0, 1) := by decide +kernel
theorem dX10_back_2 : decode cX10_back 2 = .ok (.aload_n 0, 1) := by decide +kernel
theorem dX10_back_3 : decode cX10_back 3 = .ok (.getfield 330, 3) := by decide +kernel
theorem dX10_back_6 : decode cX10_back 6 = .ok (.invokestatic 125, 3) := by decide +kernel
theorem dX10_back_9 : decode cX10_back 9 = .ok (.ifCond .ne 5, 3) := by decide +kernel
theorem dX10_back_12 : decode cX10_back 12 = .ok (.iconst (-1), 1) := by decide +kernel
theorem dX10_back_13 : decode cX10_back 13 = .ok (.ireturn, 1) := by decide +kernel
theorem dX10_back_14 : decode cX10_back 14 = .ok (.aload_n 0, 1) := by decide +kernel
theorem dX10_back_15 : decode cX10_back 15 = .ok (.dup, 1) := by decide +kernel
theorem dX10_back_16 : decode cX10_back 16 = .ok (.getfield 330, 3) := by decide +kernel
theorem dX10_back_19 : decode cX10_back 19 = .ok (.iload_n 1, 1) := by decide +kernel
theorem dX10_back_20 : decode cX10_back 20 = .ok (.isub, 1) := by decide +kernel
theorem dX10_back_21 : decode cX10_back 21 = .ok (.putfield 330, 3) := by decide +kernel
theorem dX10_back_24 : decode cX10_back 24 = .ok (.aload_n 0, 1) := by decide +kernel
theorem dX10_back_25 : decode cX10_back 25 = .ok (.getfield 330, 3) := by decide +kernel
theorem dX10_back_28 : decode cX10_back 28 = .ok (.ireturn, 1) := by decide +kernel
theorem ok_X10_back : okY RX10 yX10_back 1 := ⟨rfl, by decide, by decide, by decide +kernel⟩
def f_X10_back (M : OV) (p0 : Int32) : Option (Int32 × OV) := (f_X10_in p0 (0 : Int32) (iv M 36)).bind (un1 (fun r_1 => (if r_1 = 0 then some ((-1 : Int32), M) else bnd (sI M 36 ((iv M 36) - p0)) (fun M_3 => some ((iv M_3 36), M_3)))))
def r_X10_back : Room := { frames := 1, cells := 0, slots := 0, locals := 22 }
set_option maxHeartbeats 4000000 in
set_option maxRecDepth 100000 in
theorem c_X10_back (l : Launch) (D : va_G) (ev : EvT) (cy : Nat → ClassId) (oM : Nat) (aM : Nat → Nat) (M : OV) (p0 : Int32) (o : Int32 × OV) (hf : f_X10_back M p0 = some o) : Fn l yX10_back cX10_back 2 (some .int) r_X10_back D ev cy [.ref oM, .int p0] [gX10 cy oM aM M] (fun v G => v = some (.int o.1) ∧ G = [gX10 cy oM aM o.2]) := by
  refine Fn_of (by decide) (Nat.le_of_ble_eq_true rfl) (fun X A Q h hQ _ => ?_)
  unfold f_X10_back at hf
  show ww X D A 2 Q 0 0 0 [(0, .ref oM), (1, .int p0)] [] [gX10 cy oM aM M]
  refine ww_iload_n h dX10_back_0 rfl 1 rfl 1 rfl ?_
  refine ww_iconst (v := 0) h dX10_back_1 (by decide) 2 rfl ?_
  refine ww_aload_n h dX10_back_2 rfl 0 rfl 3 rfl ?_
  refine ww_get h inG10 rfl 0 rfl rfl 36 (by decide) w_1193 rfl dX10_back_3 6 rfl ?_
  obtain ⟨r_1, hu2, hf⟩ := ob1 hf
  refine ww_cSi h (c_X10_in l D ev cy p0 (0 : Int32) (iv M 36) _ hu2) ⟨w_1333, w_1331, w_1332, w_111, ok_X10_in⟩ ⟨by decide, by decide⟩ ⟨by decide, by decide⟩ ⟨rfl, rfl⟩ [] rfl rfl (Nat.le_of_ble_eq_true rfl) dX10_back_6 9 rfl (Gs' := [gX10 cy oM aM M]) rfl ?_
  clear hu2
  refine ww_if_ne h dX10_back_9 14 (by decide) 12 rfl (fun c => ?_) (fun c => ?_)
  · replace hf := ite_f c hf
    refine ww_aload_n h dX10_back_14 rfl 0 rfl 15 rfl ?_
    refine ww_dup h dX10_back_15 rfl 16 rfl ?_
    refine ww_get h inG10 rfl 0 rfl rfl 36 (by decide) w_1193 rfl dX10_back_16 19 rfl ?_
    refine ww_iload_n h dX10_back_19 rfl 1 rfl 20 rfl ?_
    refine ww_isub h dX10_back_20 21 rfl ?_
    refine ww_put (ty := .int) h inG10 tyX10_ok nmX10 rfl 0 rfl rfl 36 (by decide) w_1193 rfl (by decide +kernel) rfl rfl (Nat.le_of_ble_eq_true rfl) (Nat.le_of_ble_eq_true rfl) dX10_back_21 24 rfl ?_
    refine ww_nm (fun z => [gX10 cy oM aM z]) (sI M 36 ((iv M 36) - p0)) (fun M_3 e => ?_)
    replace hf := bnd_at e hf
    clear e
    refine ww_aload_n h dX10_back_24 rfl 0 rfl 25 rfl ?_
    refine ww_get h inG10 rfl 0 rfl rfl 36 (by decide) w_1193 rfl dX10_back_25 28 rfl ?_
    obtain rfl := Option.some.inj hf
    exact ww_iret h dX10_back_28 hQ ⟨rfl, rfl⟩
  · replace hf := ite_t c hf
    refine ww_iconst (v := (-1)) h dX10_back_12 (by decide) 13 rfl ?_
    obtain rfl := Option.some.inj hf
    exact ww_iret h dX10_back_13 hQ ⟨rfl, rfl⟩
theorem dX10_wordFrom_0 : decode cX10_wordFrom 0 = .ok (.iconst 0, 1) := by decide +kernel
theorem dX10_wordFrom_1 : decode cX10_wordFrom 1 = .ok (.istore_n 2, 1) := by decide +kernel
theorem dX10_wordFrom_2 : decode cX10_wordFrom 2 = .ok (.iload_n 1, 1) := by decide +kernel
theorem dX10_wordFrom_3 : decode cX10_wordFrom 3 = .ok (.istore_n 3, 1) := by decide +kernel
theorem dX10_wordFrom_4 : decode cX10_wordFrom 4 = .ok (.iload_n 3, 1) := by decide +kernel
theorem dX10_wordFrom_5 : decode cX10_wordFrom 5 = .ok (.ifCond .le 21, 3) := by decide +kernel
theorem dX10_wordFrom_8 : decode cX10_wordFrom 8 = .ok (.aload_n 0, 1) := by decide +kernel
theorem dX10_wordFrom_9 : decode cX10_wordFrom 9 = .ok (.getfield 91, 3) := by decide +kernel
theorem dX10_wordFrom_12 : decode cX10_wordFrom 12 = .ok (.iload_n 2, 1) := by decide +kernel
theorem dX10_wordFrom_13 : decode cX10_wordFrom 13 = .ok (.baload, 1) := by decide +kernel
theorem dX10_wordFrom_14 : decode cX10_wordFrom 14 = .ok (.ifCond .ne 6, 3) := by decide +kernel
theorem dX10_wordFrom_17 : decode cX10_wordFrom 17 = .ok (.iinc 3 (-1), 3) := by decide +kernel
theorem dX10_wordFrom_20 : decode cX10_wordFrom 20 = .ok (.iinc 2 1, 3) := by decide +kernel
theorem dX10_wordFrom_23 : decode cX10_wordFrom 23 = .ok (.goto (-19), 3) := by decide +kernel
theorem dX10_wordFrom_26 : decode cX10_wordFrom 26 = .ok (.iload_n 2, 1) := by decide +kernel
theorem dX10_wordFrom_27 : decode cX10_wordFrom 27 = .ok (.ireturn, 1) := by decide +kernel
theorem ok_X10_wordFrom : okY RX10 yX10_wordFrom 1 := ⟨rfl, by decide, by decide, by decide +kernel⟩
def j_X10_wordFrom_20_7 (v2_4 : Int32) (v3_6 : Int32) : Option ((Int32 × Int32) ⊕ (Int32)) := bnd (v2_4 + 1) (fun v2_8 => some (.inl (v2_8, v3_6)))
def s_X10_wordFrom_4_3 (M : OV) : (Int32 × Int32) → Option ((Int32 × Int32) ⊕ (Int32)) := un2 (fun v2_4 v3_5 => (if v3_5 ≤ 0 then some (.inr v2_4) else gd (ix v2_4 58) ((if (ar M 37 v2_4.toNatClampNeg) = 0 then bnd (v3_5 + (-1)) (fun v3_9 => j_X10_wordFrom_20_7 v2_4 v3_9) else j_X10_wordFrom_20_7 v2_4 v3_5))))
def f_X10_wordFrom (M : OV) (p0 : Int32) : Option (Int32) := bnd (0 : Int32) (fun v2_1 => bnd p0 (fun v3_2 => ((lp (s_X10_wordFrom_4_3 M) 5000 (v2_1, v3_2)).bind (un1 (fun v2_10 => some v2_10)))))
def r_X10_wordFrom : Room := { frames := 0, cells := 0, slots := 0, locals := 0 }
set_option maxHeartbeats 4000000 in
set_option maxRecDepth 100000 in
theorem c_X10_wordFrom (l : Launch) (D : va_G) (ev : EvT) (cy : Nat → ClassId) (oM : Nat) (aM : Nat → Nat) (M : OV) (p0 : Int32) (o : Int32) (hf : f_X10_wordFrom M p0 = some o) : Fn l yX10_wordFrom cX10_wordFrom 4 (some .int) r_X10_wordFrom D ev cy [.ref oM, .int p0] [gX10 cy oM aM M] (fun v G => v = some (.int o) ∧ G = [gX10 cy oM aM M]) := by
  refine Fn_of (by decide) (Nat.le_of_ble_eq_true rfl) (fun X A Q h hQ _ => ?_)
  unfold f_X10_wordFrom at hf
  show ww X D A 4 Q 0 0 0 [(0, .ref oM), (1, .int p0)] [] [gX10 cy oM aM M]
  refine ww_iconst (v := 0) h dX10_wordFrom_0 (by decide) 1 rfl ?_
  refine ww_ist_n h dX10_wordFrom_1 rfl (by decide) (fun v2_1 => [(2, .int v2_1), (0, .ref oM), (1, .int p0)]) (fun _ => rfl) 2 rfl (fun v2_1 e => ?_)
  replace hf := bnd_at e hf
  clear e
  refine ww_iload_n h dX10_wordFrom_2 rfl 2 rfl 3 rfl ?_
  refine ww_ist_n h dX10_wordFrom_3 rfl (by decide) (fun v3_2 => [(3, .int v3_2), (2, .int v2_1), (0, .ref oM), (1, .int p0)]) (fun _ => rfl) 4 rfl (fun v3_2 e => ?_)
  replace hf := bnd_at e hf
  clear e
  refine ww_lo [2, 1, 0] (lo' := [(0, .ref oM), (2, .int v2_1), (3, .int v3_2)]) rfl ?_
  obtain ⟨v2_10, h3, hf⟩ := ob1 hf
  refine lp_walk (un2 (fun v2_4 v3_5 => ww X D A 4 Q 0 0 4 [(0, .ref oM), (2, .int v2_4), (3, .int v3_5)] [] [gX10 cy oM aM M])) (un1 (fun v2_10 => ww X D A 4 Q 0 0 26 [(2, .int v2_10)] [] [gX10 cy oM aM M])) ?_ _ _ _ h3 ?_
  · clear h3 hf
    intro s3 o3 hf hI3 hE3
    obtain ⟨v2_4, v3_5⟩ := s3
    unfold s_X10_wordFrom_4_3 at hf
    replace hf := un2_e hf
    show ww X D A 4 Q 0 0 4 [(0, .ref oM), (2, .int v2_4), (3, .int v3_5)] [] [gX10 cy oM aM M]
    refine ww_iload_n h dX10_wordFrom_4 rfl 2 rfl 5 rfl ?_
    refine ww_if_le h dX10_wordFrom_5 26 (by decide) 8 rfl (fun c => ?_) (fun c => ?_)
    · replace hf := ite_t c hf
      refine ww_lo [1] (lo' := [(2, .int v2_4)]) rfl ?_
      exact hE3 v2_4 (Option.some.inj hf).symm
    · replace hf := ite_f c hf
      refine ww_aload_n h dX10_wordFrom_8 rfl 0 rfl 9 rfl ?_
      refine ww_get h inG10 rfl 0 rfl rfl 37 (by decide) w_1194 rfl dX10_wordFrom_9 12 rfl ?_
      refine ww_iload_n h dX10_wordFrom_12 rfl 1 rfl 13 rfl ?_
      have hi := (gd_some hf).1
      replace hf := (gd_some hf).2
      refine ww_bald h 0 rfl 26 rfl (ix_in hi) dX10_wordFrom_13 14 rfl ?_
      clear hi
      have hJ20_7 : ∀ (v3_6 : Int32), j_X10_wordFrom_20_7 v2_4 v3_6 = some o3 → ww X D A 4 Q 0 0 20 [(0, .ref oM), (2, .int v2_4), (3, .int v3_6)] [] [gX10 cy oM aM M] := by
        intro v3_6 hf
        unfold j_X10_wordFrom_20_7 at hf
        refine ww_inc (c := 1) h dX10_wordFrom_20 1 rfl (by decide) (by decide) (fun v2_8 => [(2, .int v2_8), (0, .ref oM), (3, .int v3_6)]) (fun _ => rfl) 23 rfl (fun v2_8 e => ?_)
        replace hf := bnd_at e hf
        clear e
        refine ww_goto h dX10_wordFrom_23 4 (by decide) ?_
        refine ww_lo [1, 0, 2] (lo' := [(0, .ref oM), (2, .int v2_8), (3, .int v3_6)]) rfl ?_
        exact hI3 (v2_8, v3_6) (Option.some.inj hf).symm
      refine ww_if_ne h dX10_wordFrom_14 20 (by decide) 17 rfl (fun c => ?_) (fun c => ?_)
      · replace hf := ite_f c hf
        exact hJ20_7 v3_5 hf
      · replace hf := ite_t c hf
        refine ww_inc (c := (-1)) h dX10_wordFrom_17 2 rfl (by decide) (by decide) (fun v3_9 => [(3, .int v3_9), (0, .ref oM), (2, .int v2_4)]) (fun _ => rfl) 20 rfl (fun v3_9 e => ?_)
        replace hf := bnd_at e hf
        clear e
        refine ww_lo [1, 2, 0] (lo' := [(0, .ref oM), (2, .int v2_4), (3, .int v3_9)]) rfl ?_
        exact hJ20_7 v3_9 hf
  · clear h3
    show ww X D A 4 Q 0 0 26 [(2, .int v2_10)] [] [gX10 cy oM aM M]
    refine ww_iload_n h dX10_wordFrom_26 rfl 0 rfl 27 rfl ?_
    obtain rfl := Option.some.inj hf
    exact ww_iret h dX10_wordFrom_27 hQ ⟨rfl, rfl⟩
theorem dX10_here_0 : decode cX10_here 0 = .ok (.aload_n 0, 1) := by decide +kernel
theorem dX10_here_1 : decode cX10_here 1 = .ok (.getfield 342, 3) := by decide +kernel
theorem dX10_here_4 : decode cX10_here 4 = .ok (.aload_n 0, 1) := by decide +kernel
theorem dX10_here_5 : decode cX10_here 5 = .ok (.getfield 330, 3) := by decide +kernel
theorem dX10_here_8 : decode cX10_here 8 = .ok (.if_icmp .ge 15, 3) := by decide +kernel
theorem dX10_here_11 : decode cX10_here 11 = .ok (.aload_n 0, 1) := by decide +kernel
theorem dX10_here_12 : decode cX10_here 12 = .ok (.getfield 88, 3) := by decide +kernel
theorem dX10_here_15 : decode cX10_here 15 = .ok (.aload_n 0, 1) := by decide +kernel
theorem dX10_here_16 : decode cX10_here 16 = .ok (.getfield 342, 3) := by decide +kernel
theorem dX10_here_19 : decode cX10_here 19 = .ok (.iaload, 1) := by decide +kernel
theorem dX10_here_20 : decode cX10_here 20 = .ok (.goto 4, 3) := by decide +kernel
theorem dX10_here_23 : decode cX10_here 23 = .ok (.iconst (-1), 1) := by decide +kernel
theorem dX10_here_24 : decode cX10_here 24 = .ok (.ireturn, 1) := by decide +kernel
theorem ok_X10_here : okY RX10 yX10_here 0 := ⟨rfl, by decide, by decide, by decide +kernel⟩
def f_X10_here (M : OV) : Option (Int32) := (if (iv M 36) ≤ (iv M 38) then some (-1 : Int32) else gd (ix (iv M 38) 500) (some (ar M 35 (iv M 38).toNatClampNeg)))
def r_X10_here : Room := { frames := 0, cells := 0, slots := 0, locals := 0 }
set_option maxHeartbeats 4000000 in
set_option maxRecDepth 100000 in
theorem c_X10_here (l : Launch) (D : va_G) (ev : EvT) (cy : Nat → ClassId) (oM : Nat) (aM : Nat → Nat) (M : OV) (o : Int32) (hf : f_X10_here M = some o) : Fn l yX10_here cX10_here 1 (some .int) r_X10_here D ev cy [.ref oM] [gX10 cy oM aM M] (fun v G => v = some (.int o) ∧ G = [gX10 cy oM aM M]) := by
  refine Fn_of (by decide) (Nat.le_of_ble_eq_true rfl) (fun X A Q h hQ _ => ?_)
  unfold f_X10_here at hf
  show ww X D A 1 Q 0 0 0 [(0, .ref oM)] [] [gX10 cy oM aM M]
  refine ww_aload_n h dX10_here_0 rfl 0 rfl 1 rfl ?_
  refine ww_get h inG10 rfl 0 rfl rfl 38 (by decide) w_1195 rfl dX10_here_1 4 rfl ?_
  refine ww_aload_n h dX10_here_4 rfl 0 rfl 5 rfl ?_
  refine ww_get h inG10 rfl 0 rfl rfl 36 (by decide) w_1193 rfl dX10_here_5 8 rfl ?_
  refine ww_icmp_ge h dX10_here_8 23 (by decide) 11 rfl (fun c => ?_) (fun c => ?_)
  · replace hf := ite_t c hf
    refine ww_iconst (v := (-1)) h dX10_here_23 (by decide) 24 rfl ?_
    obtain rfl := Option.some.inj hf
    exact ww_iret h dX10_here_24 hQ ⟨rfl, rfl⟩
  · replace hf := ite_f c hf
    refine ww_aload_n h dX10_here_11 rfl 0 rfl 12 rfl ?_
    refine ww_get h inG10 rfl 0 rfl rfl 35 (by decide) w_1192 rfl dX10_here_12 15 rfl ?_
    refine ww_aload_n h dX10_here_15 rfl 0 rfl 16 rfl ?_
    refine ww_get h inG10 rfl 0 rfl rfl 38 (by decide) w_1195 rfl dX10_here_16 19 rfl ?_
    have hi := (gd_some hf).1
    replace hf := (gd_some hf).2
    refine ww_iald h 0 rfl 25 rfl (ix_in hi) dX10_here_19 20 rfl ?_
    clear hi
    refine ww_goto h dX10_here_20 24 (by decide) ?_
    obtain rfl := Option.some.inj hf
    exact ww_iret h dX10_here_24 hQ ⟨rfl, rfl⟩
theorem dX10_goesOn_0 : decode cX10_goesOn 0 = .ok (.aload_n 0, 1) := by decide +kernel
theorem dX10_goesOn_1 : decode cX10_goesOn 1 = .ok (.getfield 345, 3) := by decide +kernel
theorem dX10_goesOn_4 : decode cX10_goesOn 4 = .ok (.istore_n 1, 1) := by decide +kernel
theorem dX10_goesOn_5 : decode cX10_goesOn 5 = .ok (.aload_n 0, 1) := by decide +kernel
theorem dX10_goesOn_6 : decode cX10_goesOn 6 = .ok (.getfield 342, 3) := by decide +kernel
theorem dX10_goesOn_9 : decode cX10_goesOn 9 = .ok (.istore_n 2, 1) := by decide +kernel
theorem dX10_goesOn_10 : decode cX10_goesOn 10 = .ok (.aload_n 0, 1) := by decide +kernel
theorem dX10_goesOn_11 : decode cX10_goesOn 11 = .ok (.invokevirtual 348, 3) := by decide +kernel
theorem dX10_goesOn_14 : decode cX10_goesOn 14 = .ok (.bipush 32, 2) := by decide +kernel
theorem dX10_goesOn_16 : decode cX10_goesOn 16 = .ok (.if_icmp .ne 16, 3) := by decide +kernel
theorem dX10_goesOn_19 : decode cX10_goesOn 19 = .ok (.aload_n 0, 1) := by decide +kernel
theorem dX10_goesOn_20 : decode cX10_goesOn 20 = .ok (.dup, 1) := by decide +kernel
theorem dX10_goesOn_21 : decode cX10_goesOn 21 = .ok (.getfield 342, 3) := by decide +kernel
theorem dX10_goesOn_24 : decode cX10_goesOn 24 = .ok (.iconst 1, 1) := by decide +kernel
theorem dX10_goesOn_25 : decode cX10_goesOn 25 = .ok (.iadd, 1) := by decide +kernel
theorem dX10_goesOn_26 : decode cX10_goesOn 26 = .ok (.putfield 342, 3) := by decide +kernel
theorem dX10_goesOn_29 : decode cX10_goesOn 29 = .ok (.goto (-19), 3) := by decide +kernel
theorem dX10_goesOn_32 : decode cX10_goesOn 32 = .ok (.aload_n 0, 1) := by decide +kernel
theorem dX10_goesOn_33 : decode cX10_goesOn 33 = .ok (.aload_n 0, 1) := by decide +kernel
theorem dX10_goesOn_34 : decode cX10_goesOn 34 = .ok (.getfield 342, 3) := by decide +kernel
theorem dX10_goesOn_37 : decode cX10_goesOn 37 = .ok (.putfield 351, 3) := by decide +kernel
theorem dX10_goesOn_40 : decode cX10_goesOn 40 = .ok (.aload_n 0, 1) := by decide +kernel
theorem dX10_goesOn_41 : decode cX10_goesOn 41 = .ok (.getfield 351, 3) := by decide +kernel
theorem dX10_goesOn_44 : decode cX10_goesOn 44 = .ok (.iload_n 2, 1) := by decide +kernel
theorem dX10_goesOn_45 : decode cX10_goesOn 45 = .ok (.if_icmp .ne 17, 3) := by decide +kernel
theorem dX10_goesOn_48 : decode cX10_goesOn 48 = .ok (.iload_n 1, 1) := by decide +kernel
theorem dX10_goesOn_49 : decode cX10_goesOn 49 = .ok (.iconst 1, 1) := by decide +kernel
theorem dX10_goesOn_50 : decode cX10_goesOn 50 = .ok (.if_icmp .eq 8, 3) := by decide +kernel
theorem dX10_goesOn_53 : decode cX10_goesOn 53 = .ok (.iload_n 1, 1) := by decide +kernel
theorem dX10_goesOn_54 : decode cX10_goesOn 54 = .ok (.iconst 2, 1) := by decide +kernel
theorem dX10_goesOn_55 : decode cX10_goesOn 55 = .ok (.if_icmp .ne 7, 3) := by decide +kernel
theorem dX10_goesOn_58 : decode cX10_goesOn 58 = .ok (.iconst 1, 1) := by decide +kernel
theorem dX10_goesOn_59 : decode cX10_goesOn 59 = .ok (.goto 4, 3) := by decide +kernel
theorem dX10_goesOn_62 : decode cX10_goesOn 62 = .ok (.iconst 0, 1) := by decide +kernel
theorem dX10_goesOn_63 : decode cX10_goesOn 63 = .ok (.istore_n 3, 1) := by decide +kernel
theorem dX10_goesOn_64 : decode cX10_goesOn 64 = .ok (.aload_n 0, 1) := by decide +kernel
theorem dX10_goesOn_65 : decode cX10_goesOn 65 = .ok (.invokevirtual 348, 3) := by decide +kernel
theorem dX10_goesOn_68 : decode cX10_goesOn 68 = .ok (.istore 4, 2) := by decide +kernel
theorem dX10_goesOn_70 : decode cX10_goesOn 70 = .ok (.iload 4, 2) := by decide +kernel
theorem dX10_goesOn_72 : decode cX10_goesOn 72 = .ok (.iconst (-1), 1) := by decide +kernel
theorem dX10_goesOn_73 : decode cX10_goesOn 73 = .ok (.if_icmp .ne 11, 3) := by decide +kernel
theorem dX10_goesOn_76 : decode cX10_goesOn 76 = .ok (.aload_n 0, 1) := by decide +kernel
theorem dX10_goesOn_77 : decode cX10_goesOn 77 = .ok (.iconst 0, 1) := by decide +kernel
theorem dX10_goesOn_78 : decode cX10_goesOn 78 = .ok (.putfield 345, 3) := by decide +kernel
theorem dX10_goesOn_81 : decode cX10_goesOn 81 = .ok (.goto 113, 3) := by decide +kernel
theorem dX10_goesOn_84 : decode cX10_goesOn 84 = .ok (.iload 4, 2) := by decide +kernel
theorem dX10_goesOn_86 : decode cX10_goesOn 86 = .ok (.bipush 97, 2) := by decide +kernel
theorem dX10_goesOn_88 : decode cX10_goesOn 88 = .ok (.bipush 122, 2) := by decide +kernel
theorem dX10_goesOn_90 : decode cX10_goesOn 90 = .ok (.invokestatic 125, 3) := by decide +kernel
theorem dX10_goesOn_93 : decode cX10_goesOn 93 = .ok (.ifCond .eq 46, 3) := by decide +kernel
theorem dX10_goesOn_96 : decode cX10_goesOn 96 = .ok (.aload_n 0, 1) := by decide +kernel
theorem dX10_goesOn_97 : decode cX10_goesOn 97 = .ok (.invokevirtual 348, 3) := by decide +kernel
theorem dX10_goesOn_100 : decode cX10_goesOn 100 = .ok (.bipush 97, 2) := by decide +kernel
theorem dX10_goesOn_102 : decode cX10_goesOn 102 = .ok (.bipush 122, 2) := by decide +kernel
theorem dX10_goesOn_104 : decode cX10_goesOn 104 = .ok (.invokestatic 125, 3) := by decide +kernel
theorem dX10_goesOn_107 : decode cX10_goesOn 107 = .ok (.ifCond .eq 16, 3) := by decide +kernel
theorem dX10_goesOn_110 : decode cX10_goesOn 110 = .ok (.aload_n 0, 1) := by decide +kernel
theorem dX10_goesOn_111 : decode cX10_goesOn 111 = .ok (.dup, 1) := by decide +kernel
theorem dX10_goesOn_112 : decode cX10_goesOn 112 = .ok (.getfield 342, 3) := by decide +kernel
theorem dX10_goesOn_115 : decode cX10_goesOn 115 = .ok (.iconst 1, 1) := by decide +kernel
theorem dX10_goesOn_116 : decode cX10_goesOn 116 = .ok (.iadd, 1) := by decide +kernel
theorem dX10_goesOn_117 : decode cX10_goesOn 117 = .ok (.putfield 342, 3) := by decide +kernel
theorem dX10_goesOn_120 : decode cX10_goesOn 120 = .ok (.goto (-24), 3) := by decide +kernel
theorem dX10_goesOn_123 : decode cX10_goesOn 123 = .ok (.aload_n 0, 1) := by decide +kernel
theorem dX10_goesOn_124 : decode cX10_goesOn 124 = .ok (.iload_n 3, 1) := by decide +kernel
theorem dX10_goesOn_125 : decode cX10_goesOn 125 = .ok (.ifCond .eq 7, 3) := by decide +kernel
theorem dX10_goesOn_128 : decode cX10_goesOn 128 = .ok (.iconst 4, 1) := by decide +kernel
theorem dX10_goesOn_129 : decode cX10_goesOn 129 = .ok (.goto 4, 3) := by decide +kernel
theorem dX10_goesOn_132 : decode cX10_goesOn 132 = .ok (.iconst 1, 1) := by decide +kernel
theorem dX10_goesOn_133 : decode cX10_goesOn 133 = .ok (.putfield 345, 3) := by decide +kernel
theorem dX10_goesOn_136 : decode cX10_goesOn 136 = .ok (.goto 58, 3) := by decide +kernel
theorem dX10_goesOn_139 : decode cX10_goesOn 139 = .ok (.aload_n 0, 1) := by decide +kernel
theorem dX10_goesOn_140 : decode cX10_goesOn 140 = .ok (.dup, 1) := by decide +kernel
theorem dX10_goesOn_141 : decode cX10_goesOn 141 = .ok (.getfield 342, 3) := by decide +kernel
theorem dX10_goesOn_144 : decode cX10_goesOn 144 = .ok (.iconst 1, 1) := by decide +kernel
theorem dX10_goesOn_145 : decode cX10_goesOn 145 = .ok (.iadd, 1) := by decide +kernel
theorem dX10_goesOn_146 : decode cX10_goesOn 146 = .ok (.putfield 342, 3) := by decide +kernel
theorem dX10_goesOn_149 : decode cX10_goesOn 149 = .ok (.aload_n 0, 1) := by decide +kernel
theorem dX10_goesOn_150 : decode cX10_goesOn 150 = .ok (.iload 4, 2) := by decide +kernel
theorem dX10_goesOn_152 : decode cX10_goesOn 152 = .ok (.bipush 59, 2) := by decide +kernel
theorem dX10_goesOn_154 : decode cX10_goesOn 154 = .ok (.if_icmp .ne 7, 3) := by decide +kernel
theorem dX10_goesOn_157 : decode cX10_goesOn 157 = .ok (.iconst 3, 1) := by decide +kernel
theorem dX10_goesOn_158 : decode cX10_goesOn 158 = .ok (.goto 24, 3) := by decide +kernel
theorem dX10_goesOn_161 : decode cX10_goesOn 161 = .ok (.iload 4, 2) := by decide +kernel
theorem dX10_goesOn_163 : decode cX10_goesOn 163 = .ok (.bipush 48, 2) := by decide +kernel
theorem dX10_goesOn_165 : decode cX10_goesOn 165 = .ok (.bipush 57, 2) := by decide +kernel
theorem dX10_goesOn_167 : decode cX10_goesOn 167 = .ok (.invokestatic 125, 3) := by decide +kernel
theorem dX10_goesOn_170 : decode cX10_goesOn 170 = .ok (.ifCond .eq 11, 3) := by decide +kernel
theorem dX10_goesOn_173 : decode cX10_goesOn 173 = .ok (.iload_n 3, 1) := by decide +kernel
theorem dX10_goesOn_174 : decode cX10_goesOn 174 = .ok (.ifCond .ne 7, 3) := by decide +kernel
theorem dX10_goesOn_177 : decode cX10_goesOn 177 = .ok (.iconst 2, 1) := by decide +kernel
theorem dX10_goesOn_178 : decode cX10_goesOn 178 = .ok (.goto 4, 3) := by decide +kernel
theorem dX10_goesOn_181 : decode cX10_goesOn 181 = .ok (.iconst 4, 1) := by decide +kernel
theorem dX10_goesOn_182 : decode cX10_goesOn 182 = .ok (.putfield 345, 3) := by decide +kernel
theorem dX10_goesOn_185 : decode cX10_goesOn 185 = .ok (.aload_n 0, 1) := by decide +kernel
theorem dX10_goesOn_186 : decode cX10_goesOn 186 = .ok (.iload 4, 2) := by decide +kernel
theorem dX10_goesOn_188 : decode cX10_goesOn 188 = .ok (.bipush 48, 2) := by decide +kernel
theorem dX10_goesOn_190 : decode cX10_goesOn 190 = .ok (.isub, 1) := by decide +kernel
theorem dX10_goesOn_191 : decode cX10_goesOn 191 = .ok (.putfield 354, 3) := by decide +kernel
theorem dX10_goesOn_194 : decode cX10_goesOn 194 = .ok (.return_, 1) := by decide +kernel
theorem ok_X10_goesOn : okY RX10 yX10_goesOn 0 := ⟨rfl, by decide, by decide, by decide +kernel⟩
def s_X10_goesOn_10_3 : (OV) → Option ((OV) ⊕ (OV)) := un1 (fun M_4 => (f_X10_here M_4).bind (un1 (fun r_5 => (if r_5 = (32 : Int32) then bnd (sI M_4 38 ((iv M_4 38) + (1 : Int32))) (fun M_7 => some (.inl M_7)) else some (.inr M_4)))))
def j_X10_goesOn_182_20 (M_18 : OV) (v4_15 : Int32) (t_19 : Int32) : Option (OV) := bnd (sI M_18 39 t_19) (fun M_21 => bnd (sI M_21 41 (v4_15 - (48 : Int32))) (fun M_22 => some M_22))
def j_X10_goesOn_181_25 (M_18 : OV) (v4_15 : Int32) : Option (OV) := j_X10_goesOn_182_20 M_18 v4_15 (4 : Int32)
def s_X10_goesOn_96_26 : (OV) → Option ((OV) ⊕ (OV)) := un1 (fun M_27 => (f_X10_here M_27).bind (un1 (fun r_28 => (f_X10_in r_28 (97 : Int32) (122 : Int32)).bind (un1 (fun r_30 => (if r_30 = 0 then some (.inr M_27) else bnd (sI M_27 38 ((iv M_27 38) + (1 : Int32))) (fun M_32 => some (.inl M_32))))))))
def j_X10_goesOn_133_35 (M_33 : OV) (t_34 : Int32) : Option (OV) := bnd (sI M_33 39 t_34) (fun M_36 => some M_36)
def j_X10_goesOn_63_11 (M_9 : OV) (t_10 : Int32) : Option (OV) := bnd t_10 (fun v3_12 => (f_X10_here M_9).bind (un1 (fun r_13 => bnd r_13 (fun v4_15 => (if v4_15 = (-1 : Int32) then bnd (sI M_9 39 (0 : Int32)) (fun M_37 => some M_37) else (f_X10_in v4_15 (97 : Int32) (122 : Int32)).bind (un1 (fun r_16 => (if r_16 = 0 then bnd (sI M_9 38 ((iv M_9 38) + (1 : Int32))) (fun M_18 => (if v4_15 = (59 : Int32) then j_X10_goesOn_182_20 M_18 v4_15 (3 : Int32) else (f_X10_in v4_15 (48 : Int32) (57 : Int32)).bind (un1 (fun r_23 => (if r_23 = 0 then j_X10_goesOn_181_25 M_18 v4_15 else (if v3_12 = 0 then j_X10_goesOn_182_20 M_18 v4_15 (2 : Int32) else j_X10_goesOn_181_25 M_18 v4_15)))))) else ((lp (s_X10_goesOn_96_26) 5000 M_9).bind (un1 (fun M_33 => (if v3_12 = 0 then j_X10_goesOn_133_35 M_33 (1 : Int32) else j_X10_goesOn_133_35 M_33 (4 : Int32)))))))))))))
def j_X10_goesOn_62_38 (M_9 : OV) : Option (OV) := j_X10_goesOn_63_11 M_9 (0 : Int32)
def j_X10_goesOn_58_39 (M_9 : OV) : Option (OV) := j_X10_goesOn_63_11 M_9 (1 : Int32)
def f_X10_goesOn (M : OV) : Option (OV) := bnd (iv M 39) (fun v1_1 => bnd (iv M 38) (fun v2_2 => ((lp (s_X10_goesOn_10_3) 5000 M).bind (un1 (fun M_8 => bnd (sI M_8 40 (iv M_8 38)) (fun M_9 => (if (iv M_9 40) = v2_2 then (if v1_1 = (1 : Int32) then j_X10_goesOn_58_39 M_9 else (if v1_1 = (2 : Int32) then j_X10_goesOn_58_39 M_9 else j_X10_goesOn_62_38 M_9)) else j_X10_goesOn_62_38 M_9)))))))
def r_X10_goesOn : Room := { frames := 1, cells := 0, slots := 0, locals := 22 }
set_option maxHeartbeats 4000000 in
set_option maxRecDepth 100000 in
theorem c_X10_goesOn (l : Launch) (D : va_G) (ev : EvT) (cy : Nat → ClassId) (oM : Nat) (aM : Nat → Nat) (M : OV) (o : OV) (hf : f_X10_goesOn M = some o) : Fn l yX10_goesOn cX10_goesOn 5 none r_X10_goesOn D ev cy [.ref oM] [gX10 cy oM aM M] (fun v G => v = none ∧ G = [gX10 cy oM aM o]) := by
  refine Fn_of (by decide) (Nat.le_of_ble_eq_true rfl) (fun X A Q h hQ _ => ?_)
  unfold f_X10_goesOn at hf
  show ww X D A 5 Q 0 0 0 [(0, .ref oM)] [] [gX10 cy oM aM M]
  refine ww_aload_n h dX10_goesOn_0 rfl 0 rfl 1 rfl ?_
  refine ww_get h inG10 rfl 0 rfl rfl 39 (by decide) w_1196 rfl dX10_goesOn_1 4 rfl ?_
  refine ww_ist_n h dX10_goesOn_4 rfl (by decide) (fun v1_1 => [(1, .int v1_1), (0, .ref oM)]) (fun _ => rfl) 5 rfl (fun v1_1 e => ?_)
  replace hf := bnd_at e hf
  clear e
  refine ww_aload_n h dX10_goesOn_5 rfl 1 rfl 6 rfl ?_
  refine ww_get h inG10 rfl 0 rfl rfl 38 (by decide) w_1195 rfl dX10_goesOn_6 9 rfl ?_
  refine ww_ist_n h dX10_goesOn_9 rfl (by decide) (fun v2_2 => [(2, .int v2_2), (1, .int v1_1), (0, .ref oM)]) (fun _ => rfl) 10 rfl (fun v2_2 e => ?_)
  replace hf := bnd_at e hf
  clear e
  refine ww_lo [2, 1, 0] (lo' := [(0, .ref oM), (1, .int v1_1), (2, .int v2_2)]) rfl ?_
  obtain ⟨M_8, h3, hf⟩ := ob1 hf
  refine lp_walk (un1 (fun M_4 => ww X D A 5 Q 0 0 10 [(0, .ref oM), (1, .int v1_1), (2, .int v2_2)] [] [gX10 cy oM aM M_4])) (un1 (fun M_8 => ww X D A 5 Q 0 0 32 [(0, .ref oM), (1, .int v1_1), (2, .int v2_2)] [] [gX10 cy oM aM M_8])) ?_ _ _ _ h3 ?_
  · clear h3 hf
    intro s3 o3 hf hI3 hE3
    obtain ⟨M_4, rfl⟩ : ∃ z, z = s3 := ⟨_, rfl⟩
    unfold s_X10_goesOn_10_3 at hf
    replace hf := un1_e hf
    show ww X D A 5 Q 0 0 10 [(0, .ref oM), (1, .int v1_1), (2, .int v2_2)] [] [gX10 cy oM aM M_4]
    refine ww_aload_n h dX10_goesOn_10 rfl 0 rfl 11 rfl ?_
    obtain ⟨r_5, hu6, hf⟩ := ob1 hf
    refine ww_cVi h (c_X10_here l D ev cy oM aM M_4 _ hu6) ⟨w_1722, w_1719, w_1721, w_88, w_111, ok_X10_here⟩ ⟨by decide, by decide⟩ ⟨by decide, by decide⟩ ⟨rfl, rfl⟩ [0] rfl 0 rfl rfl rfl rfl (Nat.le_of_ble_eq_true rfl) dX10_goesOn_11 14 rfl (Gs' := [gX10 cy oM aM M_4]) rfl ?_
    clear hu6
    refine ww_bipush (v := 32) h dX10_goesOn_14 (by decide) 16 rfl ?_
    refine ww_icmp_ne h dX10_goesOn_16 32 (by decide) 19 rfl (fun c => ?_) (fun c => ?_)
    · replace hf := ite_f c hf
      exact hE3 M_4 (Option.some.inj hf).symm
    · replace hf := ite_t c hf
      refine ww_aload_n h dX10_goesOn_19 rfl 0 rfl 20 rfl ?_
      refine ww_dup h dX10_goesOn_20 rfl 21 rfl ?_
      refine ww_get h inG10 rfl 0 rfl rfl 38 (by decide) w_1195 rfl dX10_goesOn_21 24 rfl ?_
      refine ww_iconst (v := 1) h dX10_goesOn_24 (by decide) 25 rfl ?_
      refine ww_iadd h dX10_goesOn_25 26 rfl ?_
      refine ww_put (ty := .int) h inG10 tyX10_ok nmX10 rfl 0 rfl rfl 38 (by decide) w_1195 rfl (by decide +kernel) rfl rfl (Nat.le_of_ble_eq_true rfl) (Nat.le_of_ble_eq_true rfl) dX10_goesOn_26 29 rfl ?_
      refine ww_nm (fun z => [gX10 cy oM aM z]) (sI M_4 38 ((iv M_4 38) + (1 : Int32))) (fun M_7 e => ?_)
      replace hf := bnd_at e hf
      clear e
      refine ww_goto h dX10_goesOn_29 10 (by decide) ?_
      exact hI3 M_7 (Option.some.inj hf).symm
  · clear h3
    show ww X D A 5 Q 0 0 32 [(0, .ref oM), (1, .int v1_1), (2, .int v2_2)] [] [gX10 cy oM aM M_8]
    refine ww_aload_n h dX10_goesOn_32 rfl 0 rfl 33 rfl ?_
    refine ww_aload_n h dX10_goesOn_33 rfl 0 rfl 34 rfl ?_
    refine ww_get h inG10 rfl 0 rfl rfl 38 (by decide) w_1195 rfl dX10_goesOn_34 37 rfl ?_
    refine ww_put (ty := .int) h inG10 tyX10_ok nmX10 rfl 0 rfl rfl 40 (by decide) w_1197 rfl (by decide +kernel) rfl rfl (Nat.le_of_ble_eq_true rfl) (Nat.le_of_ble_eq_true rfl) dX10_goesOn_37 40 rfl ?_
    refine ww_nm (fun z => [gX10 cy oM aM z]) (sI M_8 40 (iv M_8 38)) (fun M_9 e => ?_)
    replace hf := bnd_at e hf
    clear e
    refine ww_aload_n h dX10_goesOn_40 rfl 0 rfl 41 rfl ?_
    refine ww_get h inG10 rfl 0 rfl rfl 40 (by decide) w_1197 rfl dX10_goesOn_41 44 rfl ?_
    refine ww_iload_n h dX10_goesOn_44 rfl 2 rfl 45 rfl ?_
    have hJ63_11 : ∀ (t_10 : Int32), j_X10_goesOn_63_11 M_9 t_10 = some o → ww X D A 5 Q 0 0 63 [(0, .ref oM)] [.int t_10] [gX10 cy oM aM M_9] := by
      intro t_10 hf
      unfold j_X10_goesOn_63_11 at hf
      refine ww_ist_n h dX10_goesOn_63 rfl (by decide) (fun v3_12 => [(3, .int v3_12), (0, .ref oM)]) (fun _ => rfl) 64 rfl (fun v3_12 e => ?_)
      replace hf := bnd_at e hf
      clear e
      refine ww_aload_n h dX10_goesOn_64 rfl 1 rfl 65 rfl ?_
      obtain ⟨r_13, hu14, hf⟩ := ob1 hf
      refine ww_cVi h (c_X10_here l D ev cy oM aM M_9 _ hu14) ⟨w_1722, w_1719, w_1721, w_88, w_111, ok_X10_here⟩ ⟨by decide, by decide⟩ ⟨by decide, by decide⟩ ⟨rfl, rfl⟩ [0] rfl 0 rfl rfl rfl rfl (Nat.le_of_ble_eq_true rfl) dX10_goesOn_65 68 rfl (Gs' := [gX10 cy oM aM M_9]) rfl ?_
      clear hu14
      refine ww_ist h dX10_goesOn_68 (by decide) (fun v4_15 => [(4, .int v4_15), (3, .int v3_12), (0, .ref oM)]) (fun _ => rfl) 70 rfl (fun v4_15 e => ?_)
      replace hf := bnd_at e hf
      clear e
      refine ww_iload h dX10_goesOn_70 0 rfl 72 rfl ?_
      refine ww_iconst (v := (-1)) h dX10_goesOn_72 (by decide) 73 rfl ?_
      refine ww_icmp_ne h dX10_goesOn_73 84 (by decide) 76 rfl (fun c => ?_) (fun c => ?_)
      · replace hf := ite_f c hf
        refine ww_iload h dX10_goesOn_84 0 rfl 86 rfl ?_
        refine ww_bipush (v := 97) h dX10_goesOn_86 (by decide) 88 rfl ?_
        refine ww_bipush (v := 122) h dX10_goesOn_88 (by decide) 90 rfl ?_
        obtain ⟨r_16, hu17, hf⟩ := ob1 hf
        refine ww_cSi h (c_X10_in l D ev cy v4_15 (97 : Int32) (122 : Int32) _ hu17) ⟨w_1333, w_1331, w_1332, w_111, ok_X10_in⟩ ⟨by decide, by decide⟩ ⟨by decide, by decide⟩ ⟨rfl, rfl⟩ [] rfl rfl (Nat.le_of_ble_eq_true rfl) dX10_goesOn_90 93 rfl (Gs' := [gX10 cy oM aM M_9]) rfl ?_
        clear hu17
        refine ww_if_eq h dX10_goesOn_93 139 (by decide) 96 rfl (fun c => ?_) (fun c => ?_)
        · replace hf := ite_t c hf
          refine ww_aload_n h dX10_goesOn_139 rfl 2 rfl 140 rfl ?_
          refine ww_dup h dX10_goesOn_140 rfl 141 rfl ?_
          refine ww_get h inG10 rfl 0 rfl rfl 38 (by decide) w_1195 rfl dX10_goesOn_141 144 rfl ?_
          refine ww_iconst (v := 1) h dX10_goesOn_144 (by decide) 145 rfl ?_
          refine ww_iadd h dX10_goesOn_145 146 rfl ?_
          refine ww_put (ty := .int) h inG10 tyX10_ok nmX10 rfl 0 rfl rfl 38 (by decide) w_1195 rfl (by decide +kernel) rfl rfl (Nat.le_of_ble_eq_true rfl) (Nat.le_of_ble_eq_true rfl) dX10_goesOn_146 149 rfl ?_
          refine ww_nm (fun z => [gX10 cy oM aM z]) (sI M_9 38 ((iv M_9 38) + (1 : Int32))) (fun M_18 e => ?_)
          replace hf := bnd_at e hf
          clear e
          refine ww_aload_n h dX10_goesOn_149 rfl 2 rfl 150 rfl ?_
          refine ww_iload h dX10_goesOn_150 0 rfl 152 rfl ?_
          refine ww_bipush (v := 59) h dX10_goesOn_152 (by decide) 154 rfl ?_
          have hJ182_20 : ∀ (t_19 : Int32), j_X10_goesOn_182_20 M_18 v4_15 t_19 = some o → ww X D A 5 Q 0 0 182 [(0, .ref oM), (4, .int v4_15)] [.int t_19, .ref oM] [gX10 cy oM aM M_18] := by
            intro t_19 hf
            unfold j_X10_goesOn_182_20 at hf
            refine ww_put (ty := .int) h inG10 tyX10_ok nmX10 rfl 0 rfl rfl 39 (by decide) w_1196 rfl (by decide +kernel) rfl rfl (Nat.le_of_ble_eq_true rfl) (Nat.le_of_ble_eq_true rfl) dX10_goesOn_182 185 rfl ?_
            refine ww_nm (fun z => [gX10 cy oM aM z]) (sI M_18 39 t_19) (fun M_21 e => ?_)
            replace hf := bnd_at e hf
            clear e
            refine ww_aload_n h dX10_goesOn_185 rfl 0 rfl 186 rfl ?_
            refine ww_iload h dX10_goesOn_186 1 rfl 188 rfl ?_
            refine ww_bipush (v := 48) h dX10_goesOn_188 (by decide) 190 rfl ?_
            refine ww_isub h dX10_goesOn_190 191 rfl ?_
            refine ww_put (ty := .int) h inG10 tyX10_ok nmX10 rfl 0 rfl rfl 41 (by decide) w_1198 rfl (by decide +kernel) rfl rfl (Nat.le_of_ble_eq_true rfl) (Nat.le_of_ble_eq_true rfl) dX10_goesOn_191 194 rfl ?_
            refine ww_nm (fun z => [gX10 cy oM aM z]) (sI M_21 41 (v4_15 - (48 : Int32))) (fun M_22 e => ?_)
            replace hf := bnd_at e hf
            clear e
            obtain rfl := Option.some.inj hf
            exact ww_vret h dX10_goesOn_194 hQ ⟨rfl, rfl⟩
          refine ww_icmp_ne h dX10_goesOn_154 161 (by decide) 157 rfl (fun c => ?_) (fun c => ?_)
          · replace hf := ite_f c hf
            refine ww_iload h dX10_goesOn_161 0 rfl 163 rfl ?_
            refine ww_bipush (v := 48) h dX10_goesOn_163 (by decide) 165 rfl ?_
            refine ww_bipush (v := 57) h dX10_goesOn_165 (by decide) 167 rfl ?_
            obtain ⟨r_23, hu24, hf⟩ := ob1 hf
            refine ww_cSi h (c_X10_in l D ev cy v4_15 (48 : Int32) (57 : Int32) _ hu24) ⟨w_1333, w_1331, w_1332, w_111, ok_X10_in⟩ ⟨by decide, by decide⟩ ⟨by decide, by decide⟩ ⟨rfl, rfl⟩ [] rfl rfl (Nat.le_of_ble_eq_true rfl) dX10_goesOn_167 170 rfl (Gs' := [gX10 cy oM aM M_18]) rfl ?_
            clear hu24
            have hJ181_25 : ∀ (_ : Unit), j_X10_goesOn_181_25 M_18 v4_15 = some o → ww X D A 5 Q 0 0 181 [(0, .ref oM), (4, .int v4_15)] [.ref oM] [gX10 cy oM aM M_18] := by
              intro _ hf
              unfold j_X10_goesOn_181_25 at hf
              refine ww_iconst (v := 4) h dX10_goesOn_181 (by decide) 182 rfl ?_
              exact hJ182_20 (4 : Int32) hf
            refine ww_if_eq h dX10_goesOn_170 181 (by decide) 173 rfl (fun c => ?_) (fun c => ?_)
            · replace hf := ite_t c hf
              refine ww_lo [2, 0] (lo' := [(0, .ref oM), (4, .int v4_15)]) rfl ?_
              exact hJ181_25 () hf
            · replace hf := ite_f c hf
              refine ww_iload_n h dX10_goesOn_173 rfl 1 rfl 174 rfl ?_
              refine ww_if_ne h dX10_goesOn_174 181 (by decide) 177 rfl (fun c => ?_) (fun c => ?_)
              · replace hf := ite_f c hf
                refine ww_lo [2, 0] (lo' := [(0, .ref oM), (4, .int v4_15)]) rfl ?_
                exact hJ181_25 () hf
              · replace hf := ite_t c hf
                refine ww_iconst (v := 2) h dX10_goesOn_177 (by decide) 178 rfl ?_
                refine ww_goto h dX10_goesOn_178 182 (by decide) ?_
                refine ww_lo [2, 0] (lo' := [(0, .ref oM), (4, .int v4_15)]) rfl ?_
                exact hJ182_20 (2 : Int32) hf
          · replace hf := ite_t c hf
            refine ww_iconst (v := 3) h dX10_goesOn_157 (by decide) 158 rfl ?_
            refine ww_goto h dX10_goesOn_158 182 (by decide) ?_
            refine ww_lo [2, 0] (lo' := [(0, .ref oM), (4, .int v4_15)]) rfl ?_
            exact hJ182_20 (3 : Int32) hf
        · replace hf := ite_f c hf
          refine ww_lo [2, 1] (lo' := [(0, .ref oM), (3, .int v3_12)]) rfl ?_
          obtain ⟨M_33, h26, hf⟩ := ob1 hf
          refine lp_walk (un1 (fun M_27 => ww X D A 5 Q 0 0 96 [(0, .ref oM), (3, .int v3_12)] [] [gX10 cy oM aM M_27])) (un1 (fun M_33 => ww X D A 5 Q 0 0 123 [(0, .ref oM), (3, .int v3_12)] [] [gX10 cy oM aM M_33])) ?_ _ _ _ h26 ?_
          · clear h26 hf
            intro s26 o26 hf hI26 hE26
            obtain ⟨M_27, rfl⟩ : ∃ z, z = s26 := ⟨_, rfl⟩
            unfold s_X10_goesOn_96_26 at hf
            replace hf := un1_e hf
            show ww X D A 5 Q 0 0 96 [(0, .ref oM), (3, .int v3_12)] [] [gX10 cy oM aM M_27]
            refine ww_aload_n h dX10_goesOn_96 rfl 0 rfl 97 rfl ?_
            obtain ⟨r_28, hu29, hf⟩ := ob1 hf
            refine ww_cVi h (c_X10_here l D ev cy oM aM M_27 _ hu29) ⟨w_1722, w_1719, w_1721, w_88, w_111, ok_X10_here⟩ ⟨by decide, by decide⟩ ⟨by decide, by decide⟩ ⟨rfl, rfl⟩ [0] rfl 0 rfl rfl rfl rfl (Nat.le_of_ble_eq_true rfl) dX10_goesOn_97 100 rfl (Gs' := [gX10 cy oM aM M_27]) rfl ?_
            clear hu29
            refine ww_bipush (v := 97) h dX10_goesOn_100 (by decide) 102 rfl ?_
            refine ww_bipush (v := 122) h dX10_goesOn_102 (by decide) 104 rfl ?_
            obtain ⟨r_30, hu31, hf⟩ := ob1 hf
            refine ww_cSi h (c_X10_in l D ev cy r_28 (97 : Int32) (122 : Int32) _ hu31) ⟨w_1333, w_1331, w_1332, w_111, ok_X10_in⟩ ⟨by decide, by decide⟩ ⟨by decide, by decide⟩ ⟨rfl, rfl⟩ [] rfl rfl (Nat.le_of_ble_eq_true rfl) dX10_goesOn_104 107 rfl (Gs' := [gX10 cy oM aM M_27]) rfl ?_
            clear hu31
            refine ww_if_eq h dX10_goesOn_107 123 (by decide) 110 rfl (fun c => ?_) (fun c => ?_)
            · replace hf := ite_t c hf
              exact hE26 M_27 (Option.some.inj hf).symm
            · replace hf := ite_f c hf
              refine ww_aload_n h dX10_goesOn_110 rfl 0 rfl 111 rfl ?_
              refine ww_dup h dX10_goesOn_111 rfl 112 rfl ?_
              refine ww_get h inG10 rfl 0 rfl rfl 38 (by decide) w_1195 rfl dX10_goesOn_112 115 rfl ?_
              refine ww_iconst (v := 1) h dX10_goesOn_115 (by decide) 116 rfl ?_
              refine ww_iadd h dX10_goesOn_116 117 rfl ?_
              refine ww_put (ty := .int) h inG10 tyX10_ok nmX10 rfl 0 rfl rfl 38 (by decide) w_1195 rfl (by decide +kernel) rfl rfl (Nat.le_of_ble_eq_true rfl) (Nat.le_of_ble_eq_true rfl) dX10_goesOn_117 120 rfl ?_
              refine ww_nm (fun z => [gX10 cy oM aM z]) (sI M_27 38 ((iv M_27 38) + (1 : Int32))) (fun M_32 e => ?_)
              replace hf := bnd_at e hf
              clear e
              refine ww_goto h dX10_goesOn_120 96 (by decide) ?_
              exact hI26 M_32 (Option.some.inj hf).symm
          · clear h26
            show ww X D A 5 Q 0 0 123 [(0, .ref oM), (3, .int v3_12)] [] [gX10 cy oM aM M_33]
            refine ww_aload_n h dX10_goesOn_123 rfl 0 rfl 124 rfl ?_
            refine ww_iload_n h dX10_goesOn_124 rfl 1 rfl 125 rfl ?_
            have hJ133_35 : ∀ (t_34 : Int32), j_X10_goesOn_133_35 M_33 t_34 = some o → ww X D A 5 Q 0 0 133 [] [.int t_34, .ref oM] [gX10 cy oM aM M_33] := by
              intro t_34 hf
              unfold j_X10_goesOn_133_35 at hf
              refine ww_put (ty := .int) h inG10 tyX10_ok nmX10 rfl 0 rfl rfl 39 (by decide) w_1196 rfl (by decide +kernel) rfl rfl (Nat.le_of_ble_eq_true rfl) (Nat.le_of_ble_eq_true rfl) dX10_goesOn_133 136 rfl ?_
              refine ww_nm (fun z => [gX10 cy oM aM z]) (sI M_33 39 t_34) (fun M_36 e => ?_)
              replace hf := bnd_at e hf
              clear e
              refine ww_goto h dX10_goesOn_136 194 (by decide) ?_
              obtain rfl := Option.some.inj hf
              exact ww_vret h dX10_goesOn_194 hQ ⟨rfl, rfl⟩
            refine ww_if_eq h dX10_goesOn_125 132 (by decide) 128 rfl (fun c => ?_) (fun c => ?_)
            · replace hf := ite_t c hf
              refine ww_iconst (v := 1) h dX10_goesOn_132 (by decide) 133 rfl ?_
              refine ww_lo [] (lo' := []) rfl ?_
              exact hJ133_35 (1 : Int32) hf
            · replace hf := ite_f c hf
              refine ww_iconst (v := 4) h dX10_goesOn_128 (by decide) 129 rfl ?_
              refine ww_goto h dX10_goesOn_129 133 (by decide) ?_
              refine ww_lo [] (lo' := []) rfl ?_
              exact hJ133_35 (4 : Int32) hf
      · replace hf := ite_t c hf
        refine ww_aload_n h dX10_goesOn_76 rfl 2 rfl 77 rfl ?_
        refine ww_iconst (v := 0) h dX10_goesOn_77 (by decide) 78 rfl ?_
        refine ww_put (ty := .int) h inG10 tyX10_ok nmX10 rfl 0 rfl rfl 39 (by decide) w_1196 rfl (by decide +kernel) rfl rfl (Nat.le_of_ble_eq_true rfl) (Nat.le_of_ble_eq_true rfl) dX10_goesOn_78 81 rfl ?_
        refine ww_nm (fun z => [gX10 cy oM aM z]) (sI M_9 39 (0 : Int32)) (fun M_37 e => ?_)
        replace hf := bnd_at e hf
        clear e
        refine ww_goto h dX10_goesOn_81 194 (by decide) ?_
        obtain rfl := Option.some.inj hf
        exact ww_vret h dX10_goesOn_194 hQ ⟨rfl, rfl⟩
    have hJ62_38 : ∀ (_ : Unit), j_X10_goesOn_62_38 M_9 = some o → ww X D A 5 Q 0 0 62 [(0, .ref oM)] [] [gX10 cy oM aM M_9] := by
      intro _ hf
      unfold j_X10_goesOn_62_38 at hf
      refine ww_iconst (v := 0) h dX10_goesOn_62 (by decide) 63 rfl ?_
      exact hJ63_11 (0 : Int32) hf
    refine ww_icmp_ne h dX10_goesOn_45 62 (by decide) 48 rfl (fun c => ?_) (fun c => ?_)
    · replace hf := ite_f c hf
      refine ww_lo [0] (lo' := [(0, .ref oM)]) rfl ?_
      exact hJ62_38 () hf
    · replace hf := ite_t c hf
      refine ww_iload_n h dX10_goesOn_48 rfl 1 rfl 49 rfl ?_
      refine ww_iconst (v := 1) h dX10_goesOn_49 (by decide) 50 rfl ?_
      have hJ58_39 : ∀ (_ : Unit), j_X10_goesOn_58_39 M_9 = some o → ww X D A 5 Q 0 0 58 [(0, .ref oM)] [] [gX10 cy oM aM M_9] := by
        intro _ hf
        unfold j_X10_goesOn_58_39 at hf
        refine ww_iconst (v := 1) h dX10_goesOn_58 (by decide) 59 rfl ?_
        refine ww_goto h dX10_goesOn_59 63 (by decide) ?_
        exact hJ63_11 (1 : Int32) hf
      refine ww_icmp_eq h dX10_goesOn_50 58 (by decide) 53 rfl (fun c => ?_) (fun c => ?_)
      · replace hf := ite_t c hf
        refine ww_lo [0] (lo' := [(0, .ref oM)]) rfl ?_
        exact hJ58_39 () hf
      · replace hf := ite_f c hf
        refine ww_iload_n h dX10_goesOn_53 rfl 1 rfl 54 rfl ?_
        refine ww_iconst (v := 2) h dX10_goesOn_54 (by decide) 55 rfl ?_
        refine ww_icmp_ne h dX10_goesOn_55 62 (by decide) 58 rfl (fun c => ?_) (fun c => ?_)
        · replace hf := ite_f c hf
          refine ww_lo [0] (lo' := [(0, .ref oM)]) rfl ?_
          exact hJ62_38 () hf
        · replace hf := ite_t c hf
          refine ww_lo [0] (lo' := [(0, .ref oM)]) rfl ?_
          exact hJ58_39 () hf
theorem dX10_isWord_0 : decode cX10_isWord 0 = .ok (.aload_n 0, 1) := by decide +kernel
theorem dX10_isWord_1 : decode cX10_isWord 1 = .ok (.getfield 345, 3) := by decide +kernel
theorem dX10_isWord_4 : decode cX10_isWord 4 = .ok (.iconst 1, 1) := by decide +kernel
theorem dX10_isWord_5 : decode cX10_isWord 5 = .ok (.if_icmp .eq 5, 3) := by decide +kernel
theorem dX10_isWord_8 : decode cX10_isWord 8 = .ok (.iconst 0, 1) := by decide +kernel
theorem dX10_isWord_9 : decode cX10_isWord 9 = .ok (.ireturn, 1) := by decide +kernel
theorem dX10_isWord_10 : decode cX10_isWord 10 = .ok (.aload_n 0, 1) := by decide +kernel
theorem dX10_isWord_11 : decode cX10_isWord 11 = .ok (.iload_n 1, 1) := by decide +kernel
theorem dX10_isWord_12 : decode cX10_isWord 12 = .ok (.invokevirtual 295, 3) := by decide +kernel
theorem dX10_isWord_15 : decode cX10_isWord 15 = .ok (.istore_n 2, 1) := by decide +kernel
theorem dX10_isWord_16 : decode cX10_isWord 16 = .ok (.iconst 0, 1) := by decide +kernel
theorem dX10_isWord_17 : decode cX10_isWord 17 = .ok (.istore_n 3, 1) := by decide +kernel
theorem dX10_isWord_18 : decode cX10_isWord 18 = .ok (.aload_n 0, 1) := by decide +kernel
theorem dX10_isWord_19 : decode cX10_isWord 19 = .ok (.getfield 351, 3) := by decide +kernel
theorem dX10_isWord_22 : decode cX10_isWord 22 = .ok (.iload_n 3, 1) := by decide +kernel
theorem dX10_isWord_23 : decode cX10_isWord 23 = .ok (.iadd, 1) := by decide +kernel
theorem dX10_isWord_24 : decode cX10_isWord 24 = .ok (.aload_n 0, 1) := by decide +kernel
theorem dX10_isWord_25 : decode cX10_isWord 25 = .ok (.getfield 342, 3) := by decide +kernel
theorem dX10_isWord_28 : decode cX10_isWord 28 = .ok (.if_icmp .ge 31, 3) := by decide +kernel
theorem dX10_isWord_31 : decode cX10_isWord 31 = .ok (.aload_n 0, 1) := by decide +kernel
theorem dX10_isWord_32 : decode cX10_isWord 32 = .ok (.getfield 91, 3) := by decide +kernel
theorem dX10_isWord_35 : decode cX10_isWord 35 = .ok (.iload_n 2, 1) := by decide +kernel
theorem dX10_isWord_36 : decode cX10_isWord 36 = .ok (.iload_n 3, 1) := by decide +kernel
theorem dX10_isWord_37 : decode cX10_isWord 37 = .ok (.iadd, 1) := by decide +kernel
theorem dX10_isWord_38 : decode cX10_isWord 38 = .ok (.baload, 1) := by decide +kernel
theorem dX10_isWord_39 : decode cX10_isWord 39 = .ok (.aload_n 0, 1) := by decide +kernel
theorem dX10_isWord_40 : decode cX10_isWord 40 = .ok (.getfield 88, 3) := by decide +kernel
theorem dX10_isWord_43 : decode cX10_isWord 43 = .ok (.aload_n 0, 1) := by decide +kernel
theorem dX10_isWord_44 : decode cX10_isWord 44 = .ok (.getfield 351, 3) := by decide +kernel
theorem dX10_isWord_47 : decode cX10_isWord 47 = .ok (.iload_n 3, 1) := by decide +kernel
theorem dX10_isWord_48 : decode cX10_isWord 48 = .ok (.iadd, 1) := by decide +kernel
theorem dX10_isWord_49 : decode cX10_isWord 49 = .ok (.iaload, 1) := by decide +kernel
theorem dX10_isWord_50 : decode cX10_isWord 50 = .ok (.if_icmp .ne 9, 3) := by decide +kernel
theorem dX10_isWord_53 : decode cX10_isWord 53 = .ok (.iinc 3 1, 3) := by decide +kernel
theorem dX10_isWord_56 : decode cX10_isWord 56 = .ok (.goto (-38), 3) := by decide +kernel
theorem dX10_isWord_59 : decode cX10_isWord 59 = .ok (.aload_n 0, 1) := by decide +kernel
theorem dX10_isWord_60 : decode cX10_isWord 60 = .ok (.getfield 351, 3) := by decide +kernel
theorem dX10_isWord_63 : decode cX10_isWord 63 = .ok (.iload_n 3, 1) := by decide +kernel
theorem dX10_isWord_64 : decode cX10_isWord 64 = .ok (.iadd, 1) := by decide +kernel
theorem dX10_isWord_65 : decode cX10_isWord 65 = .ok (.aload_n 0, 1) := by decide +kernel
theorem dX10_isWord_66 : decode cX10_isWord 66 = .ok (.getfield 342, 3) := by decide +kernel
theorem dX10_isWord_69 : decode cX10_isWord 69 = .ok (.if_icmp .ne 18, 3) := by decide +kernel
theorem dX10_isWord_72 : decode cX10_isWord 72 = .ok (.aload_n 0, 1) := by decide +kernel
theorem dX10_isWord_73 : decode cX10_isWord 73 = .ok (.getfield 91, 3) := by decide +kernel
theorem dX10_isWord_76 : decode cX10_isWord 76 = .ok (.iload_n 2, 1) := by decide +kernel
theorem dX10_isWord_77 : decode cX10_isWord 77 = .ok (.iload_n 3, 1) := by decide +kernel
theorem dX10_isWord_78 : decode cX10_isWord 78 = .ok (.iadd, 1) := by decide +kernel
theorem dX10_isWord_79 : decode cX10_isWord 79 = .ok (.baload, 1) := by decide +kernel
theorem dX10_isWord_80 : decode cX10_isWord 80 = .ok (.ifCond .ne 7, 3) := by decide +kernel
theorem dX10_isWord_83 : decode cX10_isWord 83 = .ok (.iconst 1, 1) := by decide +kernel
theorem dX10_isWord_84 : decode cX10_isWord 84 = .ok (.goto 4, 3) := by decide +kernel
theorem dX10_isWord_87 : decode cX10_isWord 87 = .ok (.iconst 0, 1) := by decide +kernel
theorem dX10_isWord_88 : decode cX10_isWord 88 = .ok (.ireturn, 1) := by decide +kernel
theorem ok_X10_isWord : okY RX10 yX10_isWord 1 := ⟨rfl, by decide, by decide, by decide +kernel⟩
def s_X10_isWord_18_5 (M : OV) (v2_3 : Int32) : (Int32) → Option ((Int32) ⊕ (Int32)) := un1 (fun v3_6 => (if (iv M 38) ≤ ((iv M 40) + v3_6) then some (.inr v3_6) else gd (ix (v2_3 + v3_6) 58) (gd (ix ((iv M 40) + v3_6) 500) ((if (ar M 37 (v2_3 + v3_6).toNatClampNeg) = (ar M 35 ((iv M 40) + v3_6).toNatClampNeg) then bnd (v3_6 + 1) (fun v3_7 => some (.inl v3_7)) else some (.inr v3_6))))))
def j_X10_isWord_87_9 : Option (Int32) := some (0 : Int32)
def f_X10_isWord (M : OV) (p0 : Int32) : Option (Int32) := (if (iv M 39) = (1 : Int32) then (f_X10_wordFrom M p0).bind (un1 (fun r_1 => bnd r_1 (fun v2_3 => bnd (0 : Int32) (fun v3_4 => ((lp (s_X10_isWord_18_5 M v2_3) 5000 v3_4).bind (un1 (fun v3_8 => (if ((iv M 40) + v3_8) = (iv M 38) then gd (ix (v2_3 + v3_8) 58) ((if (ar M 37 (v2_3 + v3_8).toNatClampNeg) = 0 then some (1 : Int32) else j_X10_isWord_87_9)) else j_X10_isWord_87_9)))))))) else some (0 : Int32))
def r_X10_isWord : Room := { frames := 1, cells := 0, slots := 0, locals := 23 }
set_option maxHeartbeats 4000000 in
set_option maxRecDepth 100000 in
theorem c_X10_isWord (l : Launch) (D : va_G) (ev : EvT) (cy : Nat → ClassId) (oM : Nat) (aM : Nat → Nat) (M : OV) (p0 : Int32) (o : Int32) (hf : f_X10_isWord M p0 = some o) : Fn l yX10_isWord cX10_isWord 4 (some .boolean) r_X10_isWord D ev cy [.ref oM, .int p0] [gX10 cy oM aM M] (fun v G => v = some (.int o) ∧ G = [gX10 cy oM aM M]) := by
  refine Fn_of (by decide) (Nat.le_of_ble_eq_true rfl) (fun X A Q h hQ _ => ?_)
  unfold f_X10_isWord at hf
  show ww X D A 4 Q 0 0 0 [(0, .ref oM), (1, .int p0)] [] [gX10 cy oM aM M]
  refine ww_aload_n h dX10_isWord_0 rfl 0 rfl 1 rfl ?_
  refine ww_get h inG10 rfl 0 rfl rfl 39 (by decide) w_1196 rfl dX10_isWord_1 4 rfl ?_
  refine ww_iconst (v := 1) h dX10_isWord_4 (by decide) 5 rfl ?_
  refine ww_icmp_eq h dX10_isWord_5 10 (by decide) 8 rfl (fun c => ?_) (fun c => ?_)
  · replace hf := ite_t c hf
    refine ww_aload_n h dX10_isWord_10 rfl 0 rfl 11 rfl ?_
    refine ww_iload_n h dX10_isWord_11 rfl 1 rfl 12 rfl ?_
    obtain ⟨r_1, hu2, hf⟩ := ob1 hf
    refine ww_cVi h (c_X10_wordFrom l D ev cy oM aM M p0 _ hu2) ⟨w_1617, w_1614, w_1616, w_75, w_111, ok_X10_wordFrom⟩ ⟨by decide, by decide⟩ ⟨by decide, by decide⟩ ⟨rfl, rfl⟩ [0] rfl 0 rfl rfl rfl rfl (Nat.le_of_ble_eq_true rfl) dX10_isWord_12 15 rfl (Gs' := [gX10 cy oM aM M]) rfl ?_
    clear hu2
    refine ww_ist_n h dX10_isWord_15 rfl (by decide) (fun v2_3 => [(2, .int v2_3), (0, .ref oM), (1, .int p0)]) (fun _ => rfl) 16 rfl (fun v2_3 e => ?_)
    replace hf := bnd_at e hf
    clear e
    refine ww_iconst (v := 0) h dX10_isWord_16 (by decide) 17 rfl ?_
    refine ww_ist_n h dX10_isWord_17 rfl (by decide) (fun v3_4 => [(3, .int v3_4), (2, .int v2_3), (0, .ref oM), (1, .int p0)]) (fun _ => rfl) 18 rfl (fun v3_4 e => ?_)
    replace hf := bnd_at e hf
    clear e
    refine ww_lo [2, 1, 0] (lo' := [(0, .ref oM), (2, .int v2_3), (3, .int v3_4)]) rfl ?_
    obtain ⟨v3_8, h5, hf⟩ := ob1 hf
    refine lp_walk (un1 (fun v3_6 => ww X D A 4 Q 0 0 18 [(0, .ref oM), (2, .int v2_3), (3, .int v3_6)] [] [gX10 cy oM aM M])) (un1 (fun v3_8 => ww X D A 4 Q 0 0 59 [(0, .ref oM), (2, .int v2_3), (3, .int v3_8)] [] [gX10 cy oM aM M])) ?_ _ _ _ h5 ?_
    · clear h5 hf
      intro s5 o5 hf hI5 hE5
      obtain ⟨v3_6, rfl⟩ : ∃ z, z = s5 := ⟨_, rfl⟩
      unfold s_X10_isWord_18_5 at hf
      replace hf := un1_e hf
      show ww X D A 4 Q 0 0 18 [(0, .ref oM), (2, .int v2_3), (3, .int v3_6)] [] [gX10 cy oM aM M]
      refine ww_aload_n h dX10_isWord_18 rfl 0 rfl 19 rfl ?_
      refine ww_get h inG10 rfl 0 rfl rfl 40 (by decide) w_1197 rfl dX10_isWord_19 22 rfl ?_
      refine ww_iload_n h dX10_isWord_22 rfl 2 rfl 23 rfl ?_
      refine ww_iadd h dX10_isWord_23 24 rfl ?_
      refine ww_aload_n h dX10_isWord_24 rfl 0 rfl 25 rfl ?_
      refine ww_get h inG10 rfl 0 rfl rfl 38 (by decide) w_1195 rfl dX10_isWord_25 28 rfl ?_
      refine ww_icmp_ge h dX10_isWord_28 59 (by decide) 31 rfl (fun c => ?_) (fun c => ?_)
      · replace hf := ite_t c hf
        exact hE5 v3_6 (Option.some.inj hf).symm
      · replace hf := ite_f c hf
        refine ww_aload_n h dX10_isWord_31 rfl 0 rfl 32 rfl ?_
        refine ww_get h inG10 rfl 0 rfl rfl 37 (by decide) w_1194 rfl dX10_isWord_32 35 rfl ?_
        refine ww_iload_n h dX10_isWord_35 rfl 1 rfl 36 rfl ?_
        refine ww_iload_n h dX10_isWord_36 rfl 2 rfl 37 rfl ?_
        refine ww_iadd h dX10_isWord_37 38 rfl ?_
        have hi := (gd_some hf).1
        replace hf := (gd_some hf).2
        refine ww_bald h 0 rfl 26 rfl (ix_in hi) dX10_isWord_38 39 rfl ?_
        clear hi
        refine ww_aload_n h dX10_isWord_39 rfl 0 rfl 40 rfl ?_
        refine ww_get h inG10 rfl 0 rfl rfl 35 (by decide) w_1192 rfl dX10_isWord_40 43 rfl ?_
        refine ww_aload_n h dX10_isWord_43 rfl 0 rfl 44 rfl ?_
        refine ww_get h inG10 rfl 0 rfl rfl 40 (by decide) w_1197 rfl dX10_isWord_44 47 rfl ?_
        refine ww_iload_n h dX10_isWord_47 rfl 2 rfl 48 rfl ?_
        refine ww_iadd h dX10_isWord_48 49 rfl ?_
        have hi := (gd_some hf).1
        replace hf := (gd_some hf).2
        refine ww_iald h 0 rfl 25 rfl (ix_in hi) dX10_isWord_49 50 rfl ?_
        clear hi
        refine ww_icmp_ne h dX10_isWord_50 59 (by decide) 53 rfl (fun c => ?_) (fun c => ?_)
        · replace hf := ite_f c hf
          exact hE5 v3_6 (Option.some.inj hf).symm
        · replace hf := ite_t c hf
          refine ww_inc (c := 1) h dX10_isWord_53 2 rfl (by decide) (by decide) (fun v3_7 => [(3, .int v3_7), (0, .ref oM), (2, .int v2_3)]) (fun _ => rfl) 56 rfl (fun v3_7 e => ?_)
          replace hf := bnd_at e hf
          clear e
          refine ww_goto h dX10_isWord_56 18 (by decide) ?_
          refine ww_lo [1, 2, 0] (lo' := [(0, .ref oM), (2, .int v2_3), (3, .int v3_7)]) rfl ?_
          exact hI5 v3_7 (Option.some.inj hf).symm
    · clear h5
      show ww X D A 4 Q 0 0 59 [(0, .ref oM), (2, .int v2_3), (3, .int v3_8)] [] [gX10 cy oM aM M]
      refine ww_aload_n h dX10_isWord_59 rfl 0 rfl 60 rfl ?_
      refine ww_get h inG10 rfl 0 rfl rfl 40 (by decide) w_1197 rfl dX10_isWord_60 63 rfl ?_
      refine ww_iload_n h dX10_isWord_63 rfl 2 rfl 64 rfl ?_
      refine ww_iadd h dX10_isWord_64 65 rfl ?_
      refine ww_aload_n h dX10_isWord_65 rfl 0 rfl 66 rfl ?_
      refine ww_get h inG10 rfl 0 rfl rfl 38 (by decide) w_1195 rfl dX10_isWord_66 69 rfl ?_
      have hJ87_9 : ∀ (_ : Unit), j_X10_isWord_87_9 = some o → ww X D A 4 Q 0 0 87 [] [] [gX10 cy oM aM M] := by
        intro _ hf
        unfold j_X10_isWord_87_9 at hf
        refine ww_iconst (v := 0) h dX10_isWord_87 (by decide) 88 rfl ?_
        obtain rfl := Option.some.inj hf
        exact ww_zret h (Or.inl rfl) dX10_isWord_88 hQ ⟨rfl, rfl⟩
      refine ww_icmp_ne h dX10_isWord_69 87 (by decide) 72 rfl (fun c => ?_) (fun c => ?_)
      · replace hf := ite_f c hf
        refine ww_lo [] (lo' := []) rfl ?_
        exact hJ87_9 () hf
      · replace hf := ite_t c hf
        refine ww_aload_n h dX10_isWord_72 rfl 0 rfl 73 rfl ?_
        refine ww_get h inG10 rfl 0 rfl rfl 37 (by decide) w_1194 rfl dX10_isWord_73 76 rfl ?_
        refine ww_iload_n h dX10_isWord_76 rfl 1 rfl 77 rfl ?_
        refine ww_iload_n h dX10_isWord_77 rfl 2 rfl 78 rfl ?_
        refine ww_iadd h dX10_isWord_78 79 rfl ?_
        have hi := (gd_some hf).1
        replace hf := (gd_some hf).2
        refine ww_bald h 0 rfl 26 rfl (ix_in hi) dX10_isWord_79 80 rfl ?_
        clear hi
        refine ww_if_ne h dX10_isWord_80 87 (by decide) 83 rfl (fun c => ?_) (fun c => ?_)
        · replace hf := ite_f c hf
          refine ww_lo [] (lo' := []) rfl ?_
          exact hJ87_9 () hf
        · replace hf := ite_t c hf
          refine ww_iconst (v := 1) h dX10_isWord_83 (by decide) 84 rfl ?_
          refine ww_goto h dX10_isWord_84 88 (by decide) ?_
          obtain rfl := Option.some.inj hf
          exact ww_zret h (Or.inr rfl) dX10_isWord_88 hQ ⟨rfl, rfl⟩
  · replace hf := ite_f c hf
    refine ww_iconst (v := 0) h dX10_isWord_8 (by decide) 9 rfl ?_
    obtain rfl := Option.some.inj hf
    exact ww_zret h (Or.inl rfl) dX10_isWord_9 hQ ⟨rfl, rfl⟩
theorem dX10_takesWord_0 : decode cX10_takesWord 0 = .ok (.aload_n 0, 1) := by decide +kernel
theorem dX10_takesWord_1 : decode cX10_takesWord 1 = .ok (.getfield 357, 3) := by decide +kernel
theorem dX10_takesWord_4 : decode cX10_takesWord 4 = .ok (.ifCond .ne 11, 3) := by decide +kernel
theorem dX10_takesWord_7 : decode cX10_takesWord 7 = .ok (.aload_n 0, 1) := by decide +kernel
theorem dX10_takesWord_8 : decode cX10_takesWord 8 = .ok (.iload_n 1, 1) := by decide +kernel
theorem dX10_takesWord_9 : decode cX10_takesWord 9 = .ok (.invokevirtual 360, 3) := by decide +kernel
theorem dX10_takesWord_12 : decode cX10_takesWord 12 = .ok (.ifCond .ne 5, 3) := by decide +kernel
theorem dX10_takesWord_15 : decode cX10_takesWord 15 = .ok (.iconst 0, 1) := by decide +kernel
theorem dX10_takesWord_16 : decode cX10_takesWord 16 = .ok (.ireturn, 1) := by decide +kernel
theorem dX10_takesWord_17 : decode cX10_takesWord 17 = .ok (.aload_n 0, 1) := by decide +kernel
theorem dX10_takesWord_18 : decode cX10_takesWord 18 = .ok (.invokevirtual 363, 3) := by decide +kernel
theorem dX10_takesWord_21 : decode cX10_takesWord 21 = .ok (.iconst 1, 1) := by decide +kernel
theorem dX10_takesWord_22 : decode cX10_takesWord 22 = .ok (.ireturn, 1) := by decide +kernel
theorem ok_X10_takesWord : okY RX10 yX10_takesWord 1 := ⟨rfl, by decide, by decide, by decide +kernel⟩
def f_X10_takesWord (M : OV) (p0 : Int32) : Option (Int32 × OV) := (if (iv M 42) = 0 then (f_X10_isWord M p0).bind (un1 (fun r_1 => (if r_1 = 0 then some ((0 : Int32), M) else (f_X10_goesOn M).bind (un1 (fun M_3 => some ((1 : Int32), M_3)))))) else some ((0 : Int32), M))
def r_X10_takesWord : Room := { frames := 2, cells := 0, slots := 0, locals := 46 }
set_option maxHeartbeats 4000000 in
set_option maxRecDepth 100000 in
theorem c_X10_takesWord (l : Launch) (D : va_G) (ev : EvT) (cy : Nat → ClassId) (oM : Nat) (aM : Nat → Nat) (M : OV) (p0 : Int32) (o : Int32 × OV) (hf : f_X10_takesWord M p0 = some o) : Fn l yX10_takesWord cX10_takesWord 2 (some .boolean) r_X10_takesWord D ev cy [.ref oM, .int p0] [gX10 cy oM aM M] (fun v G => v = some (.int o.1) ∧ G = [gX10 cy oM aM o.2]) := by
  refine Fn_of (by decide) (Nat.le_of_ble_eq_true rfl) (fun X A Q h hQ _ => ?_)
  unfold f_X10_takesWord at hf
  show ww X D A 2 Q 0 0 0 [(0, .ref oM), (1, .int p0)] [] [gX10 cy oM aM M]
  refine ww_aload_n h dX10_takesWord_0 rfl 0 rfl 1 rfl ?_
  refine ww_get h inG10 rfl 0 rfl rfl 42 (by decide) w_1199 rfl dX10_takesWord_1 4 rfl ?_
  refine ww_if_ne h dX10_takesWord_4 15 (by decide) 7 rfl (fun c => ?_) (fun c => ?_)
  · replace hf := ite_f c hf
    refine ww_iconst (v := 0) h dX10_takesWord_15 (by decide) 16 rfl ?_
    obtain rfl := Option.some.inj hf
    exact ww_zret h (Or.inl rfl) dX10_takesWord_16 hQ ⟨rfl, rfl⟩
  · replace hf := ite_t c hf
    refine ww_aload_n h dX10_takesWord_7 rfl 0 rfl 8 rfl ?_
    refine ww_iload_n h dX10_takesWord_8 rfl 1 rfl 9 rfl ?_
    obtain ⟨r_1, hu2, hf⟩ := ob1 hf
    refine ww_cVi h (c_X10_isWord l D ev cy oM aM M p0 _ hu2) ⟨w_1730, w_1727, w_1729, w_90, w_111, ok_X10_isWord⟩ ⟨by decide, by decide⟩ ⟨by decide, by decide⟩ ⟨rfl, rfl⟩ [0] rfl 0 rfl rfl rfl rfl (Nat.le_of_ble_eq_true rfl) dX10_takesWord_9 12 rfl (Gs' := [gX10 cy oM aM M]) rfl ?_
    clear hu2
    refine ww_if_ne h dX10_takesWord_12 17 (by decide) 15 rfl (fun c => ?_) (fun c => ?_)
    · replace hf := ite_f c hf
      refine ww_aload_n h dX10_takesWord_17 rfl 0 rfl 18 rfl ?_
      obtain ⟨M_3, hu4, hf⟩ := ob1 hf
      refine ww_cVv h (c_X10_goesOn l D ev cy oM aM M _ hu4) ⟨w_1718, w_1715, w_1717, w_87, w_111, ok_X10_goesOn⟩ ⟨by decide, by decide⟩ ⟨by decide, by decide⟩ ⟨rfl, rfl⟩ [0] rfl 0 rfl rfl rfl rfl (Nat.le_of_ble_eq_true rfl) dX10_takesWord_18 21 rfl (Gs' := [gX10 cy oM aM M_3]) rfl ?_
      clear hu4
      refine ww_iconst (v := 1) h dX10_takesWord_21 (by decide) 22 rfl ?_
      obtain rfl := Option.some.inj hf
      exact ww_zret h (Or.inr rfl) dX10_takesWord_22 hQ ⟨rfl, rfl⟩
    · replace hf := ite_t c hf
      refine ww_iconst (v := 0) h dX10_takesWord_15 (by decide) 16 rfl ?_
      obtain rfl := Option.some.inj hf
      exact ww_zret h (Or.inl rfl) dX10_takesWord_16 hQ ⟨rfl, rfl⟩
theorem dX10_needs_0 : decode cX10_needs 0 = .ok (.aload_n 0, 1) := by decide +kernel
theorem dX10_needs_1 : decode cX10_needs 1 = .ok (.iload_n 1, 1) := by decide +kernel
theorem dX10_needs_2 : decode cX10_needs 2 = .ok (.invokevirtual 366, 3) := by decide +kernel
theorem dX10_needs_5 : decode cX10_needs 5 = .ok (.ifCond .ne 8, 3) := by decide +kernel
theorem dX10_needs_8 : decode cX10_needs 8 = .ok (.aload_n 0, 1) := by decide +kernel
theorem dX10_needs_9 : decode cX10_needs 9 = .ok (.iconst 1, 1) := by decide +kernel
theorem dX10_needs_10 : decode cX10_needs 10 = .ok (.putfield 357, 3) := by decide +kernel
theorem dX10_needs_13 : decode cX10_needs 13 = .ok (.return_, 1) := by decide +kernel
theorem ok_X10_needs : okY RX10 yX10_needs 1 := ⟨rfl, by decide, by decide, by decide +kernel⟩
def f_X10_needs (M : OV) (p0 : Int32) : Option (OV) := (f_X10_takesWord M p0).bind (un2 (fun r_1 M_2 => (if r_1 = 0 then bnd (sI M_2 42 (1 : Int32)) (fun M_4 => some M_4) else some M_2)))
def r_X10_needs : Room := { frames := 3, cells := 0, slots := 0, locals := 67 }
set_option maxHeartbeats 4000000 in
set_option maxRecDepth 100000 in
theorem c_X10_needs (l : Launch) (D : va_G) (ev : EvT) (cy : Nat → ClassId) (oM : Nat) (aM : Nat → Nat) (M : OV) (p0 : Int32) (o : OV) (hf : f_X10_needs M p0 = some o) : Fn l yX10_needs cX10_needs 2 none r_X10_needs D ev cy [.ref oM, .int p0] [gX10 cy oM aM M] (fun v G => v = none ∧ G = [gX10 cy oM aM o]) := by
  refine Fn_of (by decide) (Nat.le_of_ble_eq_true rfl) (fun X A Q h hQ _ => ?_)
  unfold f_X10_needs at hf
  show ww X D A 2 Q 0 0 0 [(0, .ref oM), (1, .int p0)] [] [gX10 cy oM aM M]
  refine ww_aload_n h dX10_needs_0 rfl 0 rfl 1 rfl ?_
  refine ww_iload_n h dX10_needs_1 rfl 1 rfl 2 rfl ?_
  obtain ⟨r_1, M_2, hu3, hf⟩ := ob2 hf
  refine ww_cVi h (c_X10_takesWord l D ev cy oM aM M p0 _ hu3) ⟨w_1726, w_1723, w_1725, w_89, w_111, ok_X10_takesWord⟩ ⟨by decide, by decide⟩ ⟨by decide, by decide⟩ ⟨rfl, rfl⟩ [0] rfl 0 rfl rfl rfl rfl (Nat.le_of_ble_eq_true rfl) dX10_needs_2 5 rfl (Gs' := [gX10 cy oM aM M_2]) rfl ?_
  clear hu3
  refine ww_if_ne h dX10_needs_5 13 (by decide) 8 rfl (fun c => ?_) (fun c => ?_)
  · replace hf := ite_f c hf
    obtain rfl := Option.some.inj hf
    exact ww_vret h dX10_needs_13 hQ ⟨rfl, rfl⟩
  · replace hf := ite_t c hf
    refine ww_aload_n h dX10_needs_8 rfl 0 rfl 9 rfl ?_
    refine ww_iconst (v := 1) h dX10_needs_9 (by decide) 10 rfl ?_
    refine ww_put (ty := .boolean) h inG10 tyX10_ok nmX10 rfl 0 rfl rfl 42 (by decide) w_1199 rfl (by decide +kernel) (by decide) (by decide) (Nat.le_of_ble_eq_true rfl) (Nat.le_of_ble_eq_true rfl) dX10_needs_10 13 rfl ?_
    refine ww_nm (fun z => [gX10 cy oM aM z]) (sI M_2 42 (1 : Int32)) (fun M_4 e => ?_)
    replace hf := bnd_at e hf
    clear e
    obtain rfl := Option.some.inj hf
    exact ww_vret h dX10_needs_13 hQ ⟨rfl, rfl⟩
theorem dX10_needsNumber_0 : decode cX10_needsNumber 0 = .ok (.aload_n 0, 1) := by decide +kernel
theorem dX10_needsNumber_1 : decode cX10_needsNumber 1 = .ok (.getfield 357, 3) := by decide +kernel
theorem dX10_needsNumber_4 : decode cX10_needsNumber 4 = .ok (.ifCond .ne 23, 3) := by decide +kernel
theorem dX10_needsNumber_7 : decode cX10_needsNumber 7 = .ok (.aload_n 0, 1) := by decide +kernel
theorem dX10_needsNumber_8 : decode cX10_needsNumber 8 = .ok (.getfield 345, 3) := by decide +kernel
theorem dX10_needsNumber_11 : decode cX10_needsNumber 11 = .ok (.iconst 2, 1) := by decide +kernel
theorem dX10_needsNumber_12 : decode cX10_needsNumber 12 = .ok (.if_icmp .ne 15, 3) := by decide +kernel
theorem dX10_needsNumber_15 : decode cX10_needsNumber 15 = .ok (.aload_n 0, 1) := by decide +kernel
theorem dX10_needsNumber_16 : decode cX10_needsNumber 16 = .ok (.getfield 354, 3) := by decide +kernel
theorem dX10_needsNumber_19 : decode cX10_needsNumber 19 = .ok (.iload_n 1, 1) := by decide +kernel
theorem dX10_needsNumber_20 : decode cX10_needsNumber 20 = .ok (.iload_n 2, 1) := by decide +kernel
theorem dX10_needsNumber_21 : decode cX10_needsNumber 21 = .ok (.invokestatic 125, 3) := by decide +kernel
theorem dX10_needsNumber_24 : decode cX10_needsNumber 24 = .ok (.ifCond .ne 10, 3) := by decide +kernel
theorem dX10_needsNumber_27 : decode cX10_needsNumber 27 = .ok (.aload_n 0, 1) := by decide +kernel
theorem dX10_needsNumber_28 : decode cX10_needsNumber 28 = .ok (.iconst 1, 1) := by decide +kernel
theorem dX10_needsNumber_29 : decode cX10_needsNumber 29 = .ok (.putfield 357, 3) := by decide +kernel
theorem dX10_needsNumber_32 : decode cX10_needsNumber 32 = .ok (.iload_n 1, 1) := by decide +kernel
theorem dX10_needsNumber_33 : decode cX10_needsNumber 33 = .ok (.ireturn, 1) := by decide +kernel
theorem dX10_needsNumber_34 : decode cX10_needsNumber 34 = .ok (.aload_n 0, 1) := by decide +kernel
theorem dX10_needsNumber_35 : decode cX10_needsNumber 35 = .ok (.getfield 354, 3) := by decide +kernel
theorem dX10_needsNumber_38 : decode cX10_needsNumber 38 = .ok (.istore_n 3, 1) := by decide +kernel
theorem dX10_needsNumber_39 : decode cX10_needsNumber 39 = .ok (.aload_n 0, 1) := by decide +kernel
theorem dX10_needsNumber_40 : decode cX10_needsNumber 40 = .ok (.invokevirtual 363, 3) := by decide +kernel
theorem dX10_needsNumber_43 : decode cX10_needsNumber 43 = .ok (.iload_n 3, 1) := by decide +kernel
theorem dX10_needsNumber_44 : decode cX10_needsNumber 44 = .ok (.ireturn, 1) := by decide +kernel
theorem ok_X10_needsNumber : okY RX10 yX10_needsNumber 2 := ⟨rfl, by decide, by decide, by decide +kernel⟩
def j_X10_needsNumber_27_1 (M : OV) (p0 : Int32) : Option (Int32 × OV) := bnd (sI M 42 (1 : Int32)) (fun M_2 => some (p0, M_2))
def f_X10_needsNumber (M : OV) (p0 : Int32) (p1 : Int32) : Option (Int32 × OV) := (if (iv M 42) = 0 then (if (iv M 39) = (2 : Int32) then (f_X10_in (iv M 41) p0 p1).bind (un1 (fun r_3 => (if r_3 = 0 then j_X10_needsNumber_27_1 M p0 else bnd (iv M 41) (fun v3_5 => (f_X10_goesOn M).bind (un1 (fun M_6 => some (v3_5, M_6))))))) else j_X10_needsNumber_27_1 M p0) else j_X10_needsNumber_27_1 M p0)
def r_X10_needsNumber : Room := { frames := 2, cells := 0, slots := 0, locals := 46 }
set_option maxHeartbeats 4000000 in
set_option maxRecDepth 100000 in
theorem c_X10_needsNumber (l : Launch) (D : va_G) (ev : EvT) (cy : Nat → ClassId) (oM : Nat) (aM : Nat → Nat) (M : OV) (p0 : Int32) (p1 : Int32) (o : Int32 × OV) (hf : f_X10_needsNumber M p0 p1 = some o) : Fn l yX10_needsNumber cX10_needsNumber 4 (some .int) r_X10_needsNumber D ev cy [.ref oM, .int p0, .int p1] [gX10 cy oM aM M] (fun v G => v = some (.int o.1) ∧ G = [gX10 cy oM aM o.2]) := by
  refine Fn_of (by decide) (Nat.le_of_ble_eq_true rfl) (fun X A Q h hQ _ => ?_)
  unfold f_X10_needsNumber at hf
  show ww X D A 4 Q 0 0 0 [(0, .ref oM), (1, .int p0), (2, .int p1)] [] [gX10 cy oM aM M]
  refine ww_aload_n h dX10_needsNumber_0 rfl 0 rfl 1 rfl ?_
  refine ww_get h inG10 rfl 0 rfl rfl 42 (by decide) w_1199 rfl dX10_needsNumber_1 4 rfl ?_
  have hJ27_1 : ∀ (_ : Unit), j_X10_needsNumber_27_1 M p0 = some o → ww X D A 4 Q 0 0 27 [(0, .ref oM), (1, .int p0)] [] [gX10 cy oM aM M] := by
    intro _ hf
    unfold j_X10_needsNumber_27_1 at hf
    refine ww_aload_n h dX10_needsNumber_27 rfl 0 rfl 28 rfl ?_
    refine ww_iconst (v := 1) h dX10_needsNumber_28 (by decide) 29 rfl ?_
    refine ww_put (ty := .boolean) h inG10 tyX10_ok nmX10 rfl 0 rfl rfl 42 (by decide) w_1199 rfl (by decide +kernel) (by decide) (by decide) (Nat.le_of_ble_eq_true rfl) (Nat.le_of_ble_eq_true rfl) dX10_needsNumber_29 32 rfl ?_
    refine ww_nm (fun z => [gX10 cy oM aM z]) (sI M 42 (1 : Int32)) (fun M_2 e => ?_)
    replace hf := bnd_at e hf
    clear e
    refine ww_iload_n h dX10_needsNumber_32 rfl 1 rfl 33 rfl ?_
    obtain rfl := Option.some.inj hf
    exact ww_iret h dX10_needsNumber_33 hQ ⟨rfl, rfl⟩
  refine ww_if_ne h dX10_needsNumber_4 27 (by decide) 7 rfl (fun c => ?_) (fun c => ?_)
  · replace hf := ite_f c hf
    refine ww_lo [0, 1] (lo' := [(0, .ref oM), (1, .int p0)]) rfl ?_
    exact hJ27_1 () hf
  · replace hf := ite_t c hf
    refine ww_aload_n h dX10_needsNumber_7 rfl 0 rfl 8 rfl ?_
    refine ww_get h inG10 rfl 0 rfl rfl 39 (by decide) w_1196 rfl dX10_needsNumber_8 11 rfl ?_
    refine ww_iconst (v := 2) h dX10_needsNumber_11 (by decide) 12 rfl ?_
    refine ww_icmp_ne h dX10_needsNumber_12 27 (by decide) 15 rfl (fun c => ?_) (fun c => ?_)
    · replace hf := ite_f c hf
      refine ww_lo [0, 1] (lo' := [(0, .ref oM), (1, .int p0)]) rfl ?_
      exact hJ27_1 () hf
    · replace hf := ite_t c hf
      refine ww_aload_n h dX10_needsNumber_15 rfl 0 rfl 16 rfl ?_
      refine ww_get h inG10 rfl 0 rfl rfl 41 (by decide) w_1198 rfl dX10_needsNumber_16 19 rfl ?_
      refine ww_iload_n h dX10_needsNumber_19 rfl 1 rfl 20 rfl ?_
      refine ww_iload_n h dX10_needsNumber_20 rfl 2 rfl 21 rfl ?_
      obtain ⟨r_3, hu4, hf⟩ := ob1 hf
      refine ww_cSi h (c_X10_in l D ev cy (iv M 41) p0 p1 _ hu4) ⟨w_1333, w_1331, w_1332, w_111, ok_X10_in⟩ ⟨by decide, by decide⟩ ⟨by decide, by decide⟩ ⟨rfl, rfl⟩ [] rfl rfl (Nat.le_of_ble_eq_true rfl) dX10_needsNumber_21 24 rfl (Gs' := [gX10 cy oM aM M]) rfl ?_
      clear hu4
      refine ww_if_ne h dX10_needsNumber_24 34 (by decide) 27 rfl (fun c => ?_) (fun c => ?_)
      · replace hf := ite_f c hf
        refine ww_aload_n h dX10_needsNumber_34 rfl 0 rfl 35 rfl ?_
        refine ww_get h inG10 rfl 0 rfl rfl 41 (by decide) w_1198 rfl dX10_needsNumber_35 38 rfl ?_
        refine ww_ist_n h dX10_needsNumber_38 rfl (by decide) (fun v3_5 => [(3, .int v3_5), (0, .ref oM), (1, .int p0), (2, .int p1)]) (fun _ => rfl) 39 rfl (fun v3_5 e => ?_)
        replace hf := bnd_at e hf
        clear e
        refine ww_aload_n h dX10_needsNumber_39 rfl 1 rfl 40 rfl ?_
        obtain ⟨M_6, hu7, hf⟩ := ob1 hf
        refine ww_cVv h (c_X10_goesOn l D ev cy oM aM M _ hu7) ⟨w_1718, w_1715, w_1717, w_87, w_111, ok_X10_goesOn⟩ ⟨by decide, by decide⟩ ⟨by decide, by decide⟩ ⟨rfl, rfl⟩ [0] rfl 0 rfl rfl rfl rfl (Nat.le_of_ble_eq_true rfl) dX10_needsNumber_40 43 rfl (Gs' := [gX10 cy oM aM M_6]) rfl ?_
        clear hu7
        refine ww_iload_n h dX10_needsNumber_43 rfl 0 rfl 44 rfl ?_
        obtain rfl := Option.some.inj hf
        exact ww_iret h dX10_needsNumber_44 hQ ⟨rfl, rfl⟩
      · replace hf := ite_t c hf
        refine ww_lo [0, 1] (lo' := [(0, .ref oM), (1, .int p0)]) rfl ?_
        exact hJ27_1 () hf
theorem dX10_letterHere_0 : decode cX10_letterHere 0 = .ok (.aload_n 0, 1) := by decide +kernel
theorem dX10_letterHere_1 : decode cX10_letterHere 1 = .ok (.getfield 345, 3) := by decide +kernel
theorem dX10_letterHere_4 : decode cX10_letterHere 4 = .ok (.iconst 1, 1) := by decide +kernel
theorem dX10_letterHere_5 : decode cX10_letterHere 5 = .ok (.if_icmp .ne 31, 3) := by decide +kernel
theorem dX10_letterHere_8 : decode cX10_letterHere 8 = .ok (.aload_n 0, 1) := by decide +kernel
theorem dX10_letterHere_9 : decode cX10_letterHere 9 = .ok (.getfield 342, 3) := by decide +kernel
theorem dX10_letterHere_12 : decode cX10_letterHere 12 = .ok (.aload_n 0, 1) := by decide +kernel
theorem dX10_letterHere_13 : decode cX10_letterHere 13 = .ok (.getfield 351, 3) := by decide +kernel
theorem dX10_letterHere_16 : decode cX10_letterHere 16 = .ok (.iconst 1, 1) := by decide +kernel
theorem dX10_letterHere_17 : decode cX10_letterHere 17 = .ok (.iadd, 1) := by decide +kernel
theorem dX10_letterHere_18 : decode cX10_letterHere 18 = .ok (.if_icmp .ne 18, 3) := by decide +kernel
theorem dX10_letterHere_21 : decode cX10_letterHere 21 = .ok (.aload_n 0, 1) := by decide +kernel
theorem dX10_letterHere_22 : decode cX10_letterHere 22 = .ok (.getfield 88, 3) := by decide +kernel
theorem dX10_letterHere_25 : decode cX10_letterHere 25 = .ok (.aload_n 0, 1) := by decide +kernel
theorem dX10_letterHere_26 : decode cX10_letterHere 26 = .ok (.getfield 351, 3) := by decide +kernel
theorem dX10_letterHere_29 : decode cX10_letterHere 29 = .ok (.iaload, 1) := by decide +kernel
theorem dX10_letterHere_30 : decode cX10_letterHere 30 = .ok (.bipush 97, 2) := by decide +kernel
theorem dX10_letterHere_32 : decode cX10_letterHere 32 = .ok (.isub, 1) := by decide +kernel
theorem dX10_letterHere_33 : decode cX10_letterHere 33 = .ok (.goto 4, 3) := by decide +kernel
theorem dX10_letterHere_36 : decode cX10_letterHere 36 = .ok (.iconst (-1), 1) := by decide +kernel
theorem dX10_letterHere_37 : decode cX10_letterHere 37 = .ok (.ireturn, 1) := by decide +kernel
theorem ok_X10_letterHere : okY RX10 yX10_letterHere 0 := ⟨rfl, by decide, by decide, by decide +kernel⟩
def j_X10_letterHere_36_1 : Option (Int32) := some (-1 : Int32)
def f_X10_letterHere (M : OV) : Option (Int32) := (if (iv M 39) = (1 : Int32) then (if (iv M 38) = ((iv M 40) + (1 : Int32)) then gd (ix (iv M 40) 500) (some ((ar M 35 (iv M 40).toNatClampNeg) - (97 : Int32))) else j_X10_letterHere_36_1) else j_X10_letterHere_36_1)
def r_X10_letterHere : Room := { frames := 0, cells := 0, slots := 0, locals := 0 }
set_option maxHeartbeats 4000000 in
set_option maxRecDepth 100000 in
theorem c_X10_letterHere (l : Launch) (D : va_G) (ev : EvT) (cy : Nat → ClassId) (oM : Nat) (aM : Nat → Nat) (M : OV) (o : Int32) (hf : f_X10_letterHere M = some o) : Fn l yX10_letterHere cX10_letterHere 1 (some .int) r_X10_letterHere D ev cy [.ref oM] [gX10 cy oM aM M] (fun v G => v = some (.int o) ∧ G = [gX10 cy oM aM M]) := by
  refine Fn_of (by decide) (Nat.le_of_ble_eq_true rfl) (fun X A Q h hQ _ => ?_)
  unfold f_X10_letterHere at hf
  show ww X D A 1 Q 0 0 0 [(0, .ref oM)] [] [gX10 cy oM aM M]
  refine ww_aload_n h dX10_letterHere_0 rfl 0 rfl 1 rfl ?_
  refine ww_get h inG10 rfl 0 rfl rfl 39 (by decide) w_1196 rfl dX10_letterHere_1 4 rfl ?_
  refine ww_iconst (v := 1) h dX10_letterHere_4 (by decide) 5 rfl ?_
  have hJ36_1 : ∀ (_ : Unit), j_X10_letterHere_36_1 = some o → ww X D A 1 Q 0 0 36 [] [] [gX10 cy oM aM M] := by
    intro _ hf
    unfold j_X10_letterHere_36_1 at hf
    refine ww_iconst (v := (-1)) h dX10_letterHere_36 (by decide) 37 rfl ?_
    obtain rfl := Option.some.inj hf
    exact ww_iret h dX10_letterHere_37 hQ ⟨rfl, rfl⟩
  refine ww_icmp_ne h dX10_letterHere_5 36 (by decide) 8 rfl (fun c => ?_) (fun c => ?_)
  · replace hf := ite_f c hf
    refine ww_lo [] (lo' := []) rfl ?_
    exact hJ36_1 () hf
  · replace hf := ite_t c hf
    refine ww_aload_n h dX10_letterHere_8 rfl 0 rfl 9 rfl ?_
    refine ww_get h inG10 rfl 0 rfl rfl 38 (by decide) w_1195 rfl dX10_letterHere_9 12 rfl ?_
    refine ww_aload_n h dX10_letterHere_12 rfl 0 rfl 13 rfl ?_
    refine ww_get h inG10 rfl 0 rfl rfl 40 (by decide) w_1197 rfl dX10_letterHere_13 16 rfl ?_
    refine ww_iconst (v := 1) h dX10_letterHere_16 (by decide) 17 rfl ?_
    refine ww_iadd h dX10_letterHere_17 18 rfl ?_
    refine ww_icmp_ne h dX10_letterHere_18 36 (by decide) 21 rfl (fun c => ?_) (fun c => ?_)
    · replace hf := ite_f c hf
      refine ww_lo [] (lo' := []) rfl ?_
      exact hJ36_1 () hf
    · replace hf := ite_t c hf
      refine ww_aload_n h dX10_letterHere_21 rfl 0 rfl 22 rfl ?_
      refine ww_get h inG10 rfl 0 rfl rfl 35 (by decide) w_1192 rfl dX10_letterHere_22 25 rfl ?_
      refine ww_aload_n h dX10_letterHere_25 rfl 0 rfl 26 rfl ?_
      refine ww_get h inG10 rfl 0 rfl rfl 40 (by decide) w_1197 rfl dX10_letterHere_26 29 rfl ?_
      have hi := (gd_some hf).1
      replace hf := (gd_some hf).2
      refine ww_iald h 0 rfl 25 rfl (ix_in hi) dX10_letterHere_29 30 rfl ?_
      clear hi
      refine ww_bipush (v := 97) h dX10_letterHere_30 (by decide) 32 rfl ?_
      refine ww_isub h dX10_letterHere_32 33 rfl ?_
      refine ww_goto h dX10_letterHere_33 37 (by decide) ?_
      obtain rfl := Option.some.inj hf
      exact ww_iret h dX10_letterHere_37 hQ ⟨rfl, rfl⟩
theorem dX10_needsClose_0 : decode cX10_needsClose 0 = .ok (.aload_n 0, 1) := by decide +kernel
theorem dX10_needsClose_1 : decode cX10_needsClose 1 = .ok (.getfield 357, 3) := by decide +kernel
theorem dX10_needsClose_4 : decode cX10_needsClose 4 = .ok (.ifCond .ne 18, 3) := by decide +kernel
theorem dX10_needsClose_7 : decode cX10_needsClose 7 = .ok (.aload_n 0, 1) := by decide +kernel
theorem dX10_needsClose_8 : decode cX10_needsClose 8 = .ok (.getfield 345, 3) := by decide +kernel
theorem dX10_needsClose_11 : decode cX10_needsClose 11 = .ok (.iconst 3, 1) := by decide +kernel
theorem dX10_needsClose_12 : decode cX10_needsClose 12 = .ok (.if_icmp .ne 10, 3) := by decide +kernel
theorem dX10_needsClose_15 : decode cX10_needsClose 15 = .ok (.aload_n 0, 1) := by decide +kernel
theorem dX10_needsClose_16 : decode cX10_needsClose 16 = .ok (.invokevirtual 363, 3) := by decide +kernel
theorem dX10_needsClose_19 : decode cX10_needsClose 19 = .ok (.goto 8, 3) := by decide +kernel
theorem dX10_needsClose_22 : decode cX10_needsClose 22 = .ok (.aload_n 0, 1) := by decide +kernel
theorem dX10_needsClose_23 : decode cX10_needsClose 23 = .ok (.iconst 1, 1) := by decide +kernel
theorem dX10_needsClose_24 : decode cX10_needsClose 24 = .ok (.putfield 357, 3) := by decide +kernel
theorem dX10_needsClose_27 : decode cX10_needsClose 27 = .ok (.return_, 1) := by decide +kernel
theorem ok_X10_needsClose : okY RX10 yX10_needsClose 0 := ⟨rfl, by decide, by decide, by decide +kernel⟩
def j_X10_needsClose_22_1 (M : OV) : Option (OV) := bnd (sI M 42 (1 : Int32)) (fun M_2 => some M_2)
def f_X10_needsClose (M : OV) : Option (OV) := (if (iv M 42) = 0 then (if (iv M 39) = (3 : Int32) then (f_X10_goesOn M).bind (un1 (fun M_3 => some M_3)) else j_X10_needsClose_22_1 M) else j_X10_needsClose_22_1 M)
def r_X10_needsClose : Room := { frames := 2, cells := 0, slots := 0, locals := 46 }
set_option maxHeartbeats 4000000 in
set_option maxRecDepth 100000 in
theorem c_X10_needsClose (l : Launch) (D : va_G) (ev : EvT) (cy : Nat → ClassId) (oM : Nat) (aM : Nat → Nat) (M : OV) (o : OV) (hf : f_X10_needsClose M = some o) : Fn l yX10_needsClose cX10_needsClose 1 none r_X10_needsClose D ev cy [.ref oM] [gX10 cy oM aM M] (fun v G => v = none ∧ G = [gX10 cy oM aM o]) := by
  refine Fn_of (by decide) (Nat.le_of_ble_eq_true rfl) (fun X A Q h hQ _ => ?_)
  unfold f_X10_needsClose at hf
  show ww X D A 1 Q 0 0 0 [(0, .ref oM)] [] [gX10 cy oM aM M]
  refine ww_aload_n h dX10_needsClose_0 rfl 0 rfl 1 rfl ?_
  refine ww_get h inG10 rfl 0 rfl rfl 42 (by decide) w_1199 rfl dX10_needsClose_1 4 rfl ?_
  have hJ22_1 : ∀ (_ : Unit), j_X10_needsClose_22_1 M = some o → ww X D A 1 Q 0 0 22 [(0, .ref oM)] [] [gX10 cy oM aM M] := by
    intro _ hf
    unfold j_X10_needsClose_22_1 at hf
    refine ww_aload_n h dX10_needsClose_22 rfl 0 rfl 23 rfl ?_
    refine ww_iconst (v := 1) h dX10_needsClose_23 (by decide) 24 rfl ?_
    refine ww_put (ty := .boolean) h inG10 tyX10_ok nmX10 rfl 0 rfl rfl 42 (by decide) w_1199 rfl (by decide +kernel) (by decide) (by decide) (Nat.le_of_ble_eq_true rfl) (Nat.le_of_ble_eq_true rfl) dX10_needsClose_24 27 rfl ?_
    refine ww_nm (fun z => [gX10 cy oM aM z]) (sI M 42 (1 : Int32)) (fun M_2 e => ?_)
    replace hf := bnd_at e hf
    clear e
    obtain rfl := Option.some.inj hf
    exact ww_vret h dX10_needsClose_27 hQ ⟨rfl, rfl⟩
  refine ww_if_ne h dX10_needsClose_4 22 (by decide) 7 rfl (fun c => ?_) (fun c => ?_)
  · replace hf := ite_f c hf
    exact hJ22_1 () hf
  · replace hf := ite_t c hf
    refine ww_aload_n h dX10_needsClose_7 rfl 0 rfl 8 rfl ?_
    refine ww_get h inG10 rfl 0 rfl rfl 39 (by decide) w_1196 rfl dX10_needsClose_8 11 rfl ?_
    refine ww_iconst (v := 3) h dX10_needsClose_11 (by decide) 12 rfl ?_
    refine ww_icmp_ne h dX10_needsClose_12 22 (by decide) 15 rfl (fun c => ?_) (fun c => ?_)
    · replace hf := ite_f c hf
      exact hJ22_1 () hf
    · replace hf := ite_t c hf
      refine ww_aload_n h dX10_needsClose_15 rfl 0 rfl 16 rfl ?_
      obtain ⟨M_3, hu4, hf⟩ := ob1 hf
      refine ww_cVv h (c_X10_goesOn l D ev cy oM aM M _ hu4) ⟨w_1718, w_1715, w_1717, w_87, w_111, ok_X10_goesOn⟩ ⟨by decide, by decide⟩ ⟨by decide, by decide⟩ ⟨rfl, rfl⟩ [0] rfl 0 rfl rfl rfl rfl (Nat.le_of_ble_eq_true rfl) dX10_needsClose_16 19 rfl (Gs' := [gX10 cy oM aM M_3]) rfl ?_
      clear hu4
      refine ww_goto h dX10_needsClose_19 27 (by decide) ?_
      obtain rfl := Option.some.inj hf
      exact ww_vret h dX10_needsClose_27 hQ ⟨rfl, rfl⟩
theorem dX10_readsShyEnd_0 : decode cX10_readsShyEnd 0 = .ok (.aload_n 0, 1) := by decide +kernel
theorem dX10_readsShyEnd_1 : decode cX10_readsShyEnd 1 = .ok (.iconst 4, 1) := by decide +kernel
theorem dX10_readsShyEnd_2 : decode cX10_readsShyEnd 2 = .ok (.invokevirtual 375, 3) := by decide +kernel
theorem dX10_readsShyEnd_5 : decode cX10_readsShyEnd 5 = .ok (.aload_n 0, 1) := by decide +kernel
theorem dX10_readsShyEnd_6 : decode cX10_readsShyEnd 6 = .ok (.getfield 119, 3) := by decide +kernel
theorem dX10_readsShyEnd_9 : decode cX10_readsShyEnd 9 = .ok (.iconst 1, 1) := by decide +kernel
theorem dX10_readsShyEnd_10 : decode cX10_readsShyEnd 10 = .ok (.dup2, 1) := by decide +kernel
theorem dX10_readsShyEnd_11 : decode cX10_readsShyEnd 11 = .ok (.iaload, 1) := by decide +kernel
theorem dX10_readsShyEnd_12 : decode cX10_readsShyEnd 12 = .ok (.iconst 1, 1) := by decide +kernel
theorem dX10_readsShyEnd_13 : decode cX10_readsShyEnd 13 = .ok (.iload_n 1, 1) := by decide +kernel
theorem dX10_readsShyEnd_14 : decode cX10_readsShyEnd 14 = .ok (.ishl, 1) := by decide +kernel
theorem dX10_readsShyEnd_15 : decode cX10_readsShyEnd 15 = .ok (.ior, 1) := by decide +kernel
theorem dX10_readsShyEnd_16 : decode cX10_readsShyEnd 16 = .ok (.iastore, 1) := by decide +kernel
theorem dX10_readsShyEnd_17 : decode cX10_readsShyEnd 17 = .ok (.return_, 1) := by decide +kernel
theorem ok_X10_readsShyEnd : okY RX10 yX10_readsShyEnd 1 := ⟨rfl, by decide, by decide, by decide +kernel⟩
def f_X10_readsShyEnd (M : OV) (p0 : Int32) : Option (OV) := (f_X10_needs M (4 : Int32)).bind (un1 (fun M_1 => gd (ix (1 : Int32) 2) (gd (ix (1 : Int32) 2) (bnd (sA M_1 51 (1 : Int32).toNatClampNeg ((ar M_1 51 (1 : Int32).toNatClampNeg) ||| ((1 : Int32) <<< (p0 &&& 31)))) (fun M_3 => some M_3)))))
def r_X10_readsShyEnd : Room := { frames := 4, cells := 0, slots := 0, locals := 88 }
set_option maxHeartbeats 4000000 in
set_option maxRecDepth 100000 in
theorem c_X10_readsShyEnd (l : Launch) (D : va_G) (ev : EvT) (cy : Nat → ClassId) (oM : Nat) (aM : Nat → Nat) (M : OV) (p0 : Int32) (o : OV) (hf : f_X10_readsShyEnd M p0 = some o) : Fn l yX10_readsShyEnd cX10_readsShyEnd 2 none r_X10_readsShyEnd D ev cy [.ref oM, .int p0] [gX10 cy oM aM M] (fun v G => v = none ∧ G = [gX10 cy oM aM o]) := by
  refine Fn_of (by decide) (Nat.le_of_ble_eq_true rfl) (fun X A Q h hQ _ => ?_)
  unfold f_X10_readsShyEnd at hf
  show ww X D A 2 Q 0 0 0 [(0, .ref oM), (1, .int p0)] [] [gX10 cy oM aM M]
  refine ww_aload_n h dX10_readsShyEnd_0 rfl 0 rfl 1 rfl ?_
  refine ww_iconst (v := 4) h dX10_readsShyEnd_1 (by decide) 2 rfl ?_
  obtain ⟨M_1, hu2, hf⟩ := ob1 hf
  refine ww_cVv h (c_X10_needs l D ev cy oM aM M (4 : Int32) _ hu2) ⟨w_1742, w_1739, w_1741, w_93, w_111, ok_X10_needs⟩ ⟨by decide, by decide⟩ ⟨by decide, by decide⟩ ⟨rfl, rfl⟩ [0] rfl 0 rfl rfl rfl rfl (Nat.le_of_ble_eq_true rfl) dX10_readsShyEnd_2 5 rfl (Gs' := [gX10 cy oM aM M_1]) rfl ?_
  clear hu2
  refine ww_aload_n h dX10_readsShyEnd_5 rfl 0 rfl 6 rfl ?_
  refine ww_get h inG10 rfl 0 rfl rfl 51 (by decide) w_1208 rfl dX10_readsShyEnd_6 9 rfl ?_
  refine ww_iconst (v := 1) h dX10_readsShyEnd_9 (by decide) 10 rfl ?_
  refine ww_dup2 h dX10_readsShyEnd_10 rfl rfl 11 rfl ?_
  have hi := (gd_some hf).1
  replace hf := (gd_some hf).2
  refine ww_iald h 0 rfl 35 rfl (ix_in hi) dX10_readsShyEnd_11 12 rfl ?_
  clear hi
  refine ww_iconst (v := 1) h dX10_readsShyEnd_12 (by decide) 13 rfl ?_
  refine ww_iload_n h dX10_readsShyEnd_13 rfl 1 rfl 14 rfl ?_
  refine ww_ishl h dX10_readsShyEnd_14 15 rfl ?_
  refine ww_ior h dX10_readsShyEnd_15 16 rfl ?_
  have hi := (gd_some hf).1
  replace hf := (gd_some hf).2
  refine ww_iast h 0 rfl 35 rfl (ix_in hi) dX10_readsShyEnd_16 17 rfl ?_
  clear hi
  refine ww_nm (fun z => [gX10 cy oM aM z]) (sA M_1 51 (1 : Int32).toNatClampNeg ((ar M_1 51 (1 : Int32).toNatClampNeg) ||| ((1 : Int32) <<< (p0 &&& 31)))) (fun M_3 e => ?_)
  replace hf := bnd_at e hf
  clear e
  obtain rfl := Option.some.inj hf
  exact ww_vret h dX10_readsShyEnd_17 hQ ⟨rfl, rfl⟩
theorem dX10_readsRank_0 : decode cX10_readsRank 0 = .ok (.aload_n 0, 1) := by decide +kernel
theorem dX10_readsRank_1 : decode cX10_readsRank 1 = .ok (.bipush 8, 2) := by decide +kernel
theorem dX10_readsRank_3 : decode cX10_readsRank 3 = .ok (.invokevirtual 375, 3) := by decide +kernel
theorem dX10_readsRank_6 : decode cX10_readsRank 6 = .ok (.aload_n 0, 1) := by decide +kernel
theorem dX10_readsRank_7 : decode cX10_readsRank 7 = .ok (.iconst 1, 1) := by decide +kernel
theorem dX10_readsRank_8 : decode cX10_readsRank 8 = .ok (.iconst 3, 1) := by decide +kernel
theorem dX10_readsRank_9 : decode cX10_readsRank 9 = .ok (.invokevirtual 378, 3) := by decide +kernel
theorem dX10_readsRank_12 : decode cX10_readsRank 12 = .ok (.ireturn, 1) := by decide +kernel
theorem ok_X10_readsRank : okY RX10 yX10_readsRank 0 := ⟨rfl, by decide, by decide, by decide +kernel⟩
def f_X10_readsRank (M : OV) : Option (Int32 × OV) := (f_X10_needs M (8 : Int32)).bind (un1 (fun M_1 => (f_X10_needsNumber M_1 (1 : Int32) (3 : Int32)).bind (un2 (fun r_3 M_4 => some (r_3, M_4)))))
def r_X10_readsRank : Room := { frames := 4, cells := 0, slots := 0, locals := 88 }
set_option maxHeartbeats 4000000 in
set_option maxRecDepth 100000 in
theorem c_X10_readsRank (l : Launch) (D : va_G) (ev : EvT) (cy : Nat → ClassId) (oM : Nat) (aM : Nat → Nat) (M : OV) (o : Int32 × OV) (hf : f_X10_readsRank M = some o) : Fn l yX10_readsRank cX10_readsRank 1 (some .int) r_X10_readsRank D ev cy [.ref oM] [gX10 cy oM aM M] (fun v G => v = some (.int o.1) ∧ G = [gX10 cy oM aM o.2]) := by
  refine Fn_of (by decide) (Nat.le_of_ble_eq_true rfl) (fun X A Q h hQ _ => ?_)
  unfold f_X10_readsRank at hf
  show ww X D A 1 Q 0 0 0 [(0, .ref oM)] [] [gX10 cy oM aM M]
  refine ww_aload_n h dX10_readsRank_0 rfl 0 rfl 1 rfl ?_
  refine ww_bipush (v := 8) h dX10_readsRank_1 (by decide) 3 rfl ?_
  obtain ⟨M_1, hu2, hf⟩ := ob1 hf
  refine ww_cVv h (c_X10_needs l D ev cy oM aM M (8 : Int32) _ hu2) ⟨w_1742, w_1739, w_1741, w_93, w_111, ok_X10_needs⟩ ⟨by decide, by decide⟩ ⟨by decide, by decide⟩ ⟨rfl, rfl⟩ [0] rfl 0 rfl rfl rfl rfl (Nat.le_of_ble_eq_true rfl) dX10_readsRank_3 6 rfl (Gs' := [gX10 cy oM aM M_1]) rfl ?_
  clear hu2
  refine ww_aload_n h dX10_readsRank_6 rfl 0 rfl 7 rfl ?_
  refine ww_iconst (v := 1) h dX10_readsRank_7 (by decide) 8 rfl ?_
  refine ww_iconst (v := 3) h dX10_readsRank_8 (by decide) 9 rfl ?_
  obtain ⟨r_3, M_4, hu5, hf⟩ := ob2 hf
  refine ww_cVi h (c_X10_needsNumber l D ev cy oM aM M_1 (1 : Int32) (3 : Int32) _ hu5) ⟨w_1746, w_1743, w_1745, w_94, w_111, ok_X10_needsNumber⟩ ⟨by decide, by decide⟩ ⟨by decide, by decide⟩ ⟨rfl, rfl⟩ [0] rfl 0 rfl rfl rfl rfl (Nat.le_of_ble_eq_true rfl) dX10_readsRank_9 12 rfl (Gs' := [gX10 cy oM aM M_4]) rfl ?_
  clear hu5
  obtain rfl := Option.some.inj hf
  exact ww_iret h dX10_readsRank_12 hQ ⟨rfl, rfl⟩
theorem dX10_readsLetter_0 : decode cX10_readsLetter 0 = .ok (.aload_n 0, 1) := by decide +kernel
theorem dX10_readsLetter_1 : decode cX10_readsLetter 1 = .ok (.getfield 357, 3) := by decide +kernel
theorem dX10_readsLetter_4 : decode cX10_readsLetter 4 = .ok (.ifCond .eq 7, 3) := by decide +kernel
theorem dX10_readsLetter_7 : decode cX10_readsLetter 7 = .ok (.iconst (-1), 1) := by decide +kernel
theorem dX10_readsLetter_8 : decode cX10_readsLetter 8 = .ok (.goto 7, 3) := by decide +kernel
theorem dX10_readsLetter_11 : decode cX10_readsLetter 11 = .ok (.aload_n 0, 1) := by decide +kernel
theorem dX10_readsLetter_12 : decode cX10_readsLetter 12 = .ok (.invokevirtual 369, 3) := by decide +kernel
theorem dX10_readsLetter_15 : decode cX10_readsLetter 15 = .ok (.istore_n 1, 1) := by decide +kernel
theorem dX10_readsLetter_16 : decode cX10_readsLetter 16 = .ok (.iload_n 1, 1) := by decide +kernel
theorem dX10_readsLetter_17 : decode cX10_readsLetter 17 = .ok (.iconst (-1), 1) := by decide +kernel
theorem dX10_readsLetter_18 : decode cX10_readsLetter 18 = .ok (.if_icmp .eq 12, 3) := by decide +kernel
theorem dX10_readsLetter_21 : decode cX10_readsLetter 21 = .ok (.aload_n 0, 1) := by decide +kernel
theorem dX10_readsLetter_22 : decode cX10_readsLetter 22 = .ok (.getfield 95, 3) := by decide +kernel
theorem dX10_readsLetter_25 : decode cX10_readsLetter 25 = .ok (.iload_n 1, 1) := by decide +kernel
theorem dX10_readsLetter_26 : decode cX10_readsLetter 26 = .ok (.iaload, 1) := by decide +kernel
theorem dX10_readsLetter_27 : decode cX10_readsLetter 27 = .ok (.ifCond .ne 10, 3) := by decide +kernel
theorem dX10_readsLetter_30 : decode cX10_readsLetter 30 = .ok (.aload_n 0, 1) := by decide +kernel
theorem dX10_readsLetter_31 : decode cX10_readsLetter 31 = .ok (.iconst 1, 1) := by decide +kernel
theorem dX10_readsLetter_32 : decode cX10_readsLetter 32 = .ok (.putfield 357, 3) := by decide +kernel
theorem dX10_readsLetter_35 : decode cX10_readsLetter 35 = .ok (.iconst 0, 1) := by decide +kernel
theorem dX10_readsLetter_36 : decode cX10_readsLetter 36 = .ok (.ireturn, 1) := by decide +kernel
theorem dX10_readsLetter_37 : decode cX10_readsLetter 37 = .ok (.aload_n 0, 1) := by decide +kernel
theorem dX10_readsLetter_38 : decode cX10_readsLetter 38 = .ok (.invokevirtual 363, 3) := by decide +kernel
theorem dX10_readsLetter_41 : decode cX10_readsLetter 41 = .ok (.iload_n 1, 1) := by decide +kernel
theorem dX10_readsLetter_42 : decode cX10_readsLetter 42 = .ok (.ireturn, 1) := by decide +kernel
theorem ok_X10_readsLetter : okY RX10 yX10_readsLetter 0 := ⟨rfl, by decide, by decide, by decide +kernel⟩
def j_X10_readsLetter_30_4 (M : OV) : Option (Int32 × OV) := bnd (sI M 42 (1 : Int32)) (fun M_5 => some ((0 : Int32), M_5))
def j_X10_readsLetter_15_2 (M : OV) (t_1 : Int32) : Option (Int32 × OV) := bnd t_1 (fun v1_3 => (if v1_3 = (-1 : Int32) then j_X10_readsLetter_30_4 M else gd (ix v1_3 26) ((if (ar M 43 v1_3.toNatClampNeg) = 0 then j_X10_readsLetter_30_4 M else (f_X10_goesOn M).bind (un1 (fun M_6 => some (v1_3, M_6)))))))
def f_X10_readsLetter (M : OV) : Option (Int32 × OV) := (if (iv M 42) = 0 then (f_X10_letterHere M).bind (un1 (fun r_8 => j_X10_readsLetter_15_2 M r_8)) else j_X10_readsLetter_15_2 M (-1 : Int32))
def r_X10_readsLetter : Room := { frames := 2, cells := 0, slots := 0, locals := 46 }
set_option maxHeartbeats 4000000 in
set_option maxRecDepth 100000 in
theorem c_X10_readsLetter (l : Launch) (D : va_G) (ev : EvT) (cy : Nat → ClassId) (oM : Nat) (aM : Nat → Nat) (M : OV) (o : Int32 × OV) (hf : f_X10_readsLetter M = some o) : Fn l yX10_readsLetter cX10_readsLetter 2 (some .int) r_X10_readsLetter D ev cy [.ref oM] [gX10 cy oM aM M] (fun v G => v = some (.int o.1) ∧ G = [gX10 cy oM aM o.2]) := by
  refine Fn_of (by decide) (Nat.le_of_ble_eq_true rfl) (fun X A Q h hQ _ => ?_)
  unfold f_X10_readsLetter at hf
  show ww X D A 2 Q 0 0 0 [(0, .ref oM)] [] [gX10 cy oM aM M]
  refine ww_aload_n h dX10_readsLetter_0 rfl 0 rfl 1 rfl ?_
  refine ww_get h inG10 rfl 0 rfl rfl 42 (by decide) w_1199 rfl dX10_readsLetter_1 4 rfl ?_
  have hJ15_2 : ∀ (t_1 : Int32), j_X10_readsLetter_15_2 M t_1 = some o → ww X D A 2 Q 0 0 15 [(0, .ref oM)] [.int t_1] [gX10 cy oM aM M] := by
    intro t_1 hf
    unfold j_X10_readsLetter_15_2 at hf
    refine ww_ist_n h dX10_readsLetter_15 rfl (by decide) (fun v1_3 => [(1, .int v1_3), (0, .ref oM)]) (fun _ => rfl) 16 rfl (fun v1_3 e => ?_)
    replace hf := bnd_at e hf
    clear e
    refine ww_iload_n h dX10_readsLetter_16 rfl 0 rfl 17 rfl ?_
    refine ww_iconst (v := (-1)) h dX10_readsLetter_17 (by decide) 18 rfl ?_
    have hJ30_4 : ∀ (_ : Unit), j_X10_readsLetter_30_4 M = some o → ww X D A 2 Q 0 0 30 [(0, .ref oM)] [] [gX10 cy oM aM M] := by
      intro _ hf
      unfold j_X10_readsLetter_30_4 at hf
      refine ww_aload_n h dX10_readsLetter_30 rfl 0 rfl 31 rfl ?_
      refine ww_iconst (v := 1) h dX10_readsLetter_31 (by decide) 32 rfl ?_
      refine ww_put (ty := .boolean) h inG10 tyX10_ok nmX10 rfl 0 rfl rfl 42 (by decide) w_1199 rfl (by decide +kernel) (by decide) (by decide) (Nat.le_of_ble_eq_true rfl) (Nat.le_of_ble_eq_true rfl) dX10_readsLetter_32 35 rfl ?_
      refine ww_nm (fun z => [gX10 cy oM aM z]) (sI M 42 (1 : Int32)) (fun M_5 e => ?_)
      replace hf := bnd_at e hf
      clear e
      refine ww_iconst (v := 0) h dX10_readsLetter_35 (by decide) 36 rfl ?_
      obtain rfl := Option.some.inj hf
      exact ww_iret h dX10_readsLetter_36 hQ ⟨rfl, rfl⟩
    refine ww_icmp_eq h dX10_readsLetter_18 30 (by decide) 21 rfl (fun c => ?_) (fun c => ?_)
    · replace hf := ite_t c hf
      refine ww_lo [1] (lo' := [(0, .ref oM)]) rfl ?_
      exact hJ30_4 () hf
    · replace hf := ite_f c hf
      refine ww_aload_n h dX10_readsLetter_21 rfl 1 rfl 22 rfl ?_
      refine ww_get h inG10 rfl 0 rfl rfl 43 (by decide) w_1200 rfl dX10_readsLetter_22 25 rfl ?_
      refine ww_iload_n h dX10_readsLetter_25 rfl 0 rfl 26 rfl ?_
      have hi := (gd_some hf).1
      replace hf := (gd_some hf).2
      refine ww_iald h 0 rfl 27 rfl (ix_in hi) dX10_readsLetter_26 27 rfl ?_
      clear hi
      refine ww_if_ne h dX10_readsLetter_27 37 (by decide) 30 rfl (fun c => ?_) (fun c => ?_)
      · replace hf := ite_f c hf
        refine ww_aload_n h dX10_readsLetter_37 rfl 1 rfl 38 rfl ?_
        obtain ⟨M_6, hu7, hf⟩ := ob1 hf
        refine ww_cVv h (c_X10_goesOn l D ev cy oM aM M _ hu7) ⟨w_1718, w_1715, w_1717, w_87, w_111, ok_X10_goesOn⟩ ⟨by decide, by decide⟩ ⟨by decide, by decide⟩ ⟨rfl, rfl⟩ [0] rfl 0 rfl rfl rfl rfl (Nat.le_of_ble_eq_true rfl) dX10_readsLetter_38 41 rfl (Gs' := [gX10 cy oM aM M_6]) rfl ?_
        clear hu7
        refine ww_iload_n h dX10_readsLetter_41 rfl 0 rfl 42 rfl ?_
        obtain rfl := Option.some.inj hf
        exact ww_iret h dX10_readsLetter_42 hQ ⟨rfl, rfl⟩
      · replace hf := ite_t c hf
        refine ww_lo [1] (lo' := [(0, .ref oM)]) rfl ?_
        exact hJ30_4 () hf
  refine ww_if_eq h dX10_readsLetter_4 11 (by decide) 7 rfl (fun c => ?_) (fun c => ?_)
  · replace hf := ite_t c hf
    refine ww_aload_n h dX10_readsLetter_11 rfl 0 rfl 12 rfl ?_
    obtain ⟨r_8, hu9, hf⟩ := ob1 hf
    refine ww_cVi h (c_X10_letterHere l D ev cy oM aM M _ hu9) ⟨w_1738, w_1735, w_1737, w_92, w_111, ok_X10_letterHere⟩ ⟨by decide, by decide⟩ ⟨by decide, by decide⟩ ⟨rfl, rfl⟩ [0] rfl 0 rfl rfl rfl rfl (Nat.le_of_ble_eq_true rfl) dX10_readsLetter_12 15 rfl (Gs' := [gX10 cy oM aM M]) rfl ?_
    clear hu9
    exact hJ15_2 r_8 hf
  · replace hf := ite_f c hf
    refine ww_iconst (v := (-1)) h dX10_readsLetter_7 (by decide) 8 rfl ?_
    refine ww_goto h dX10_readsLetter_8 15 (by decide) ?_
    exact hJ15_2 (-1 : Int32) hf
theorem dX10_readsKeep_0 : decode cX10_readsKeep 0 = .ok (.aload_n 0, 1) := by decide +kernel
theorem dX10_readsKeep_1 : decode cX10_readsKeep 1 = .ok (.getfield 351, 3) := by decide +kernel
theorem dX10_readsKeep_4 : decode cX10_readsKeep 4 = .ok (.istore_n 1, 1) := by decide +kernel
theorem dX10_readsKeep_5 : decode cX10_readsKeep 5 = .ok (.aload_n 0, 1) := by decide +kernel
theorem dX10_readsKeep_6 : decode cX10_readsKeep 6 = .ok (.invokevirtual 390, 3) := by decide +kernel
theorem dX10_readsKeep_9 : decode cX10_readsKeep 9 = .ok (.istore_n 2, 1) := by decide +kernel
theorem dX10_readsKeep_10 : decode cX10_readsKeep 10 = .ok (.aload_n 0, 1) := by decide +kernel
theorem dX10_readsKeep_11 : decode cX10_readsKeep 11 = .ok (.invokevirtual 390, 3) := by decide +kernel
theorem dX10_readsKeep_14 : decode cX10_readsKeep 14 = .ok (.istore_n 3, 1) := by decide +kernel
theorem dX10_readsKeep_15 : decode cX10_readsKeep 15 = .ok (.aload_n 0, 1) := by decide +kernel
theorem dX10_readsKeep_16 : decode cX10_readsKeep 16 = .ok (.getfield 357, 3) := by decide +kernel
theorem dX10_readsKeep_19 : decode cX10_readsKeep 19 = .ok (.ifCond .eq 4, 3) := by decide +kernel
theorem dX10_readsKeep_22 : decode cX10_readsKeep 22 = .ok (.return_, 1) := by decide +kernel
theorem dX10_readsKeep_23 : decode cX10_readsKeep 23 = .ok (.aload_n 0, 1) := by decide +kernel
theorem dX10_readsKeep_24 : decode cX10_readsKeep 24 = .ok (.getfield 116, 3) := by decide +kernel
theorem dX10_readsKeep_27 : decode cX10_readsKeep 27 = .ok (.iload_n 2, 1) := by decide +kernel
theorem dX10_readsKeep_28 : decode cX10_readsKeep 28 = .ok (.iaload, 1) := by decide +kernel
theorem dX10_readsKeep_29 : decode cX10_readsKeep 29 = .ok (.iload_n 3, 1) := by decide +kernel
theorem dX10_readsKeep_30 : decode cX10_readsKeep 30 = .ok (.invokestatic 136, 3) := by decide +kernel
theorem dX10_readsKeep_33 : decode cX10_readsKeep 33 = .ok (.ifCond .ne 7, 3) := by decide +kernel
theorem dX10_readsKeep_36 : decode cX10_readsKeep 36 = .ok (.iconst 1, 1) := by decide +kernel
theorem dX10_readsKeep_37 : decode cX10_readsKeep 37 = .ok (.goto 4, 3) := by decide +kernel
theorem dX10_readsKeep_40 : decode cX10_readsKeep 40 = .ok (.iconst 0, 1) := by decide +kernel
theorem dX10_readsKeep_41 : decode cX10_readsKeep 41 = .ok (.istore 4, 2) := by decide +kernel
theorem dX10_readsKeep_43 : decode cX10_readsKeep 43 = .ok (.iload 4, 2) := by decide +kernel
theorem dX10_readsKeep_45 : decode cX10_readsKeep 45 = .ok (.ifCond .eq 23, 3) := by decide +kernel
theorem dX10_readsKeep_48 : decode cX10_readsKeep 48 = .ok (.aload_n 0, 1) := by decide +kernel
theorem dX10_readsKeep_49 : decode cX10_readsKeep 49 = .ok (.getfield 393, 3) := by decide +kernel
theorem dX10_readsKeep_52 : decode cX10_readsKeep 52 = .ok (.bipush 12, 2) := by decide +kernel
theorem dX10_readsKeep_54 : decode cX10_readsKeep 54 = .ok (.if_icmp .ne 14, 3) := by decide +kernel
theorem dX10_readsKeep_57 : decode cX10_readsKeep 57 = .ok (.aload_n 0, 1) := by decide +kernel
theorem dX10_readsKeep_58 : decode cX10_readsKeep 58 = .ok (.iload_n 1, 1) := by decide +kernel
theorem dX10_readsKeep_59 : decode cX10_readsKeep 59 = .ok (.putfield 351, 3) := by decide +kernel
theorem dX10_readsKeep_62 : decode cX10_readsKeep 62 = .ok (.aload_n 0, 1) := by decide +kernel
theorem dX10_readsKeep_63 : decode cX10_readsKeep 63 = .ok (.iconst 1, 1) := by decide +kernel
theorem dX10_readsKeep_64 : decode cX10_readsKeep 64 = .ok (.putfield 357, 3) := by decide +kernel
theorem dX10_readsKeep_67 : decode cX10_readsKeep 67 = .ok (.return_, 1) := by decide +kernel
theorem dX10_readsKeep_68 : decode cX10_readsKeep 68 = .ok (.iload 4, 2) := by decide +kernel
theorem dX10_readsKeep_70 : decode cX10_readsKeep 70 = .ok (.ifCond .eq 13, 3) := by decide +kernel
theorem dX10_readsKeep_73 : decode cX10_readsKeep 73 = .ok (.aload_n 0, 1) := by decide +kernel
theorem dX10_readsKeep_74 : decode cX10_readsKeep 74 = .ok (.dup, 1) := by decide +kernel
theorem dX10_readsKeep_75 : decode cX10_readsKeep 75 = .ok (.getfield 393, 3) := by decide +kernel
theorem dX10_readsKeep_78 : decode cX10_readsKeep 78 = .ok (.iconst 1, 1) := by decide +kernel
theorem dX10_readsKeep_79 : decode cX10_readsKeep 79 = .ok (.iadd, 1) := by decide +kernel
theorem dX10_readsKeep_80 : decode cX10_readsKeep 80 = .ok (.putfield 393, 3) := by decide +kernel
theorem dX10_readsKeep_83 : decode cX10_readsKeep 83 = .ok (.aload_n 0, 1) := by decide +kernel
theorem dX10_readsKeep_84 : decode cX10_readsKeep 84 = .ok (.getfield 116, 3) := by decide +kernel
theorem dX10_readsKeep_87 : decode cX10_readsKeep 87 = .ok (.iload_n 2, 1) := by decide +kernel
theorem dX10_readsKeep_88 : decode cX10_readsKeep 88 = .ok (.dup2, 1) := by decide +kernel
theorem dX10_readsKeep_89 : decode cX10_readsKeep 89 = .ok (.iaload, 1) := by decide +kernel
theorem dX10_readsKeep_90 : decode cX10_readsKeep 90 = .ok (.iconst 1, 1) := by decide +kernel
theorem dX10_readsKeep_91 : decode cX10_readsKeep 91 = .ok (.iload_n 3, 1) := by decide +kernel
theorem dX10_readsKeep_92 : decode cX10_readsKeep 92 = .ok (.ishl, 1) := by decide +kernel
theorem dX10_readsKeep_93 : decode cX10_readsKeep 93 = .ok (.ior, 1) := by decide +kernel
theorem dX10_readsKeep_94 : decode cX10_readsKeep 94 = .ok (.iastore, 1) := by decide +kernel
theorem dX10_readsKeep_95 : decode cX10_readsKeep 95 = .ok (.aload_n 0, 1) := by decide +kernel
theorem dX10_readsKeep_96 : decode cX10_readsKeep 96 = .ok (.invokevirtual 387, 3) := by decide +kernel
theorem dX10_readsKeep_99 : decode cX10_readsKeep 99 = .ok (.return_, 1) := by decide +kernel
theorem ok_X10_readsKeep : okY RX10 yX10_readsKeep 0 := ⟨rfl, by decide, by decide, by decide +kernel⟩
def j_X10_readsKeep_83_17 (v2_5 : Int32) (v3_9 : Int32) (M_16 : OV) : Option (OV) := gd (ix v2_5 26) (gd (ix v2_5 26) (bnd (sA M_16 50 v2_5.toNatClampNeg ((ar M_16 50 v2_5.toNatClampNeg) ||| ((1 : Int32) <<< (v3_9 &&& 31)))) (fun M_18 => (f_X10_needsClose M_18).bind (un1 (fun M_19 => some M_19)))))
def j_X10_readsKeep_68_15 (M_7 : OV) (v2_5 : Int32) (v3_9 : Int32) (v4_14 : Int32) : Option (OV) := (if v4_14 = 0 then j_X10_readsKeep_83_17 v2_5 v3_9 M_7 else bnd (sI M_7 53 ((iv M_7 53) + (1 : Int32))) (fun M_21 => j_X10_readsKeep_83_17 v2_5 v3_9 M_21))
def j_X10_readsKeep_41_13 (M_7 : OV) (v1_1 : Int32) (v2_5 : Int32) (v3_9 : Int32) (t_12 : Int32) : Option (OV) := bnd t_12 (fun v4_14 => (if v4_14 = 0 then j_X10_readsKeep_68_15 M_7 v2_5 v3_9 v4_14 else (if (iv M_7 53) = (12 : Int32) then bnd (sI M_7 40 v1_1) (fun M_22 => bnd (sI M_22 42 (1 : Int32)) (fun M_23 => some M_23)) else j_X10_readsKeep_68_15 M_7 v2_5 v3_9 v4_14)))
def f_X10_readsKeep (M : OV) : Option (OV) := bnd (iv M 40) (fun v1_1 => (f_X10_readsLetter M).bind (un2 (fun r_2 M_3 => bnd r_2 (fun v2_5 => (f_X10_readsLetter M_3).bind (un2 (fun r_6 M_7 => bnd r_6 (fun v3_9 => (if (iv M_7 42) = 0 then gd (ix v2_5 26) ((f_X10_isIn (ar M_7 50 v2_5.toNatClampNeg) v3_9).bind (un1 (fun r_10 => (if r_10 = 0 then j_X10_readsKeep_41_13 M_7 v1_1 v2_5 v3_9 (1 : Int32) else j_X10_readsKeep_41_13 M_7 v1_1 v2_5 v3_9 (0 : Int32))))) else some M_7))))))))
def r_X10_readsKeep : Room := { frames := 3, cells := 0, slots := 0, locals := 67 }
set_option maxHeartbeats 4000000 in
set_option maxRecDepth 100000 in
theorem c_X10_readsKeep (l : Launch) (D : va_G) (ev : EvT) (cy : Nat → ClassId) (oM : Nat) (aM : Nat → Nat) (M : OV) (o : OV) (hf : f_X10_readsKeep M = some o) : Fn l yX10_readsKeep cX10_readsKeep 5 none r_X10_readsKeep D ev cy [.ref oM] [gX10 cy oM aM M] (fun v G => v = none ∧ G = [gX10 cy oM aM o]) := by
  refine Fn_of (by decide) (Nat.le_of_ble_eq_true rfl) (fun X A Q h hQ _ => ?_)
  unfold f_X10_readsKeep at hf
  show ww X D A 5 Q 0 0 0 [(0, .ref oM)] [] [gX10 cy oM aM M]
  refine ww_aload_n h dX10_readsKeep_0 rfl 0 rfl 1 rfl ?_
  refine ww_get h inG10 rfl 0 rfl rfl 40 (by decide) w_1197 rfl dX10_readsKeep_1 4 rfl ?_
  refine ww_ist_n h dX10_readsKeep_4 rfl (by decide) (fun v1_1 => [(1, .int v1_1), (0, .ref oM)]) (fun _ => rfl) 5 rfl (fun v1_1 e => ?_)
  replace hf := bnd_at e hf
  clear e
  refine ww_aload_n h dX10_readsKeep_5 rfl 1 rfl 6 rfl ?_
  obtain ⟨r_2, M_3, hu4, hf⟩ := ob2 hf
  refine ww_cVi h (c_X10_readsLetter l D ev cy oM aM M _ hu4) ⟨w_1766, w_1763, w_1765, w_99, w_111, ok_X10_readsLetter⟩ ⟨by decide, by decide⟩ ⟨by decide, by decide⟩ ⟨rfl, rfl⟩ [0] rfl 0 rfl rfl rfl rfl (Nat.le_of_ble_eq_true rfl) dX10_readsKeep_6 9 rfl (Gs' := [gX10 cy oM aM M_3]) rfl ?_
  clear hu4
  refine ww_ist_n h dX10_readsKeep_9 rfl (by decide) (fun v2_5 => [(2, .int v2_5), (1, .int v1_1), (0, .ref oM)]) (fun _ => rfl) 10 rfl (fun v2_5 e => ?_)
  replace hf := bnd_at e hf
  clear e
  refine ww_aload_n h dX10_readsKeep_10 rfl 2 rfl 11 rfl ?_
  obtain ⟨r_6, M_7, hu8, hf⟩ := ob2 hf
  refine ww_cVi h (c_X10_readsLetter l D ev cy oM aM M_3 _ hu8) ⟨w_1766, w_1763, w_1765, w_99, w_111, ok_X10_readsLetter⟩ ⟨by decide, by decide⟩ ⟨by decide, by decide⟩ ⟨rfl, rfl⟩ [0] rfl 0 rfl rfl rfl rfl (Nat.le_of_ble_eq_true rfl) dX10_readsKeep_11 14 rfl (Gs' := [gX10 cy oM aM M_7]) rfl ?_
  clear hu8
  refine ww_ist_n h dX10_readsKeep_14 rfl (by decide) (fun v3_9 => [(3, .int v3_9), (2, .int v2_5), (1, .int v1_1), (0, .ref oM)]) (fun _ => rfl) 15 rfl (fun v3_9 e => ?_)
  replace hf := bnd_at e hf
  clear e
  refine ww_aload_n h dX10_readsKeep_15 rfl 3 rfl 16 rfl ?_
  refine ww_get h inG10 rfl 0 rfl rfl 42 (by decide) w_1199 rfl dX10_readsKeep_16 19 rfl ?_
  refine ww_if_eq h dX10_readsKeep_19 23 (by decide) 22 rfl (fun c => ?_) (fun c => ?_)
  · replace hf := ite_t c hf
    refine ww_aload_n h dX10_readsKeep_23 rfl 3 rfl 24 rfl ?_
    refine ww_get h inG10 rfl 0 rfl rfl 50 (by decide) w_1207 rfl dX10_readsKeep_24 27 rfl ?_
    refine ww_iload_n h dX10_readsKeep_27 rfl 1 rfl 28 rfl ?_
    have hi := (gd_some hf).1
    replace hf := (gd_some hf).2
    refine ww_iald h 0 rfl 34 rfl (ix_in hi) dX10_readsKeep_28 29 rfl ?_
    clear hi
    refine ww_iload_n h dX10_readsKeep_29 rfl 0 rfl 30 rfl ?_
    obtain ⟨r_10, hu11, hf⟩ := ob1 hf
    refine ww_cSi h (c_X10_isIn l D ev cy (ar M_7 50 v2_5.toNatClampNeg) v3_9 _ hu11) ⟨w_1412, w_1410, w_1411, w_111, ok_X10_isIn⟩ ⟨by decide, by decide⟩ ⟨by decide, by decide⟩ ⟨rfl, rfl⟩ [] rfl rfl (Nat.le_of_ble_eq_true rfl) dX10_readsKeep_30 33 rfl (Gs' := [gX10 cy oM aM M_7]) rfl ?_
    clear hu11
    have hJ41_13 : ∀ (t_12 : Int32), j_X10_readsKeep_41_13 M_7 v1_1 v2_5 v3_9 t_12 = some o → ww X D A 5 Q 0 0 41 [(0, .ref oM), (1, .int v1_1), (2, .int v2_5), (3, .int v3_9)] [.int t_12] [gX10 cy oM aM M_7] := by
      intro t_12 hf
      unfold j_X10_readsKeep_41_13 at hf
      refine ww_ist h dX10_readsKeep_41 (by decide) (fun v4_14 => [(4, .int v4_14), (0, .ref oM), (1, .int v1_1), (2, .int v2_5), (3, .int v3_9)]) (fun _ => rfl) 43 rfl (fun v4_14 e => ?_)
      replace hf := bnd_at e hf
      clear e
      refine ww_iload h dX10_readsKeep_43 0 rfl 45 rfl ?_
      have hJ68_15 : ∀ (_ : Unit), j_X10_readsKeep_68_15 M_7 v2_5 v3_9 v4_14 = some o → ww X D A 5 Q 0 0 68 [(0, .ref oM), (2, .int v2_5), (3, .int v3_9), (4, .int v4_14)] [] [gX10 cy oM aM M_7] := by
        intro _ hf
        unfold j_X10_readsKeep_68_15 at hf
        refine ww_iload h dX10_readsKeep_68 3 rfl 70 rfl ?_
        have hJ83_17 : ∀ (M_16 : OV), j_X10_readsKeep_83_17 v2_5 v3_9 M_16 = some o → ww X D A 5 Q 0 0 83 [(0, .ref oM), (2, .int v2_5), (3, .int v3_9)] [] [gX10 cy oM aM M_16] := by
          intro M_16 hf
          unfold j_X10_readsKeep_83_17 at hf
          refine ww_aload_n h dX10_readsKeep_83 rfl 0 rfl 84 rfl ?_
          refine ww_get h inG10 rfl 0 rfl rfl 50 (by decide) w_1207 rfl dX10_readsKeep_84 87 rfl ?_
          refine ww_iload_n h dX10_readsKeep_87 rfl 1 rfl 88 rfl ?_
          refine ww_dup2 h dX10_readsKeep_88 rfl rfl 89 rfl ?_
          have hi := (gd_some hf).1
          replace hf := (gd_some hf).2
          refine ww_iald h 0 rfl 34 rfl (ix_in hi) dX10_readsKeep_89 90 rfl ?_
          clear hi
          refine ww_iconst (v := 1) h dX10_readsKeep_90 (by decide) 91 rfl ?_
          refine ww_iload_n h dX10_readsKeep_91 rfl 2 rfl 92 rfl ?_
          refine ww_ishl h dX10_readsKeep_92 93 rfl ?_
          refine ww_ior h dX10_readsKeep_93 94 rfl ?_
          have hi := (gd_some hf).1
          replace hf := (gd_some hf).2
          refine ww_iast h 0 rfl 34 rfl (ix_in hi) dX10_readsKeep_94 95 rfl ?_
          clear hi
          refine ww_nm (fun z => [gX10 cy oM aM z]) (sA M_16 50 v2_5.toNatClampNeg ((ar M_16 50 v2_5.toNatClampNeg) ||| ((1 : Int32) <<< (v3_9 &&& 31)))) (fun M_18 e => ?_)
          replace hf := bnd_at e hf
          clear e
          refine ww_aload_n h dX10_readsKeep_95 rfl 0 rfl 96 rfl ?_
          obtain ⟨M_19, hu20, hf⟩ := ob1 hf
          refine ww_cVv h (c_X10_needsClose l D ev cy oM aM M_18 _ hu20) ⟨w_1758, w_1755, w_1757, w_97, w_111, ok_X10_needsClose⟩ ⟨by decide, by decide⟩ ⟨by decide, by decide⟩ ⟨rfl, rfl⟩ [0] rfl 0 rfl rfl rfl rfl (Nat.le_of_ble_eq_true rfl) dX10_readsKeep_96 99 rfl (Gs' := [gX10 cy oM aM M_19]) rfl ?_
          clear hu20
          obtain rfl := Option.some.inj hf
          exact ww_vret h dX10_readsKeep_99 hQ ⟨rfl, rfl⟩
        refine ww_if_eq h dX10_readsKeep_70 83 (by decide) 73 rfl (fun c => ?_) (fun c => ?_)
        · replace hf := ite_t c hf
          refine ww_lo [0, 1, 2] (lo' := [(0, .ref oM), (2, .int v2_5), (3, .int v3_9)]) rfl ?_
          exact hJ83_17 M_7 hf
        · replace hf := ite_f c hf
          refine ww_aload_n h dX10_readsKeep_73 rfl 0 rfl 74 rfl ?_
          refine ww_dup h dX10_readsKeep_74 rfl 75 rfl ?_
          refine ww_get h inG10 rfl 0 rfl rfl 53 (by decide) w_1210 rfl dX10_readsKeep_75 78 rfl ?_
          refine ww_iconst (v := 1) h dX10_readsKeep_78 (by decide) 79 rfl ?_
          refine ww_iadd h dX10_readsKeep_79 80 rfl ?_
          refine ww_put (ty := .int) h inG10 tyX10_ok nmX10 rfl 0 rfl rfl 53 (by decide) w_1210 rfl (by decide +kernel) rfl rfl (Nat.le_of_ble_eq_true rfl) (Nat.le_of_ble_eq_true rfl) dX10_readsKeep_80 83 rfl ?_
          refine ww_nm (fun z => [gX10 cy oM aM z]) (sI M_7 53 ((iv M_7 53) + (1 : Int32))) (fun M_21 e => ?_)
          replace hf := bnd_at e hf
          clear e
          refine ww_lo [0, 1, 2] (lo' := [(0, .ref oM), (2, .int v2_5), (3, .int v3_9)]) rfl ?_
          exact hJ83_17 M_21 hf
      refine ww_if_eq h dX10_readsKeep_45 68 (by decide) 48 rfl (fun c => ?_) (fun c => ?_)
      · replace hf := ite_t c hf
        refine ww_lo [1, 3, 4, 0] (lo' := [(0, .ref oM), (2, .int v2_5), (3, .int v3_9), (4, .int v4_14)]) rfl ?_
        exact hJ68_15 () hf
      · replace hf := ite_f c hf
        refine ww_aload_n h dX10_readsKeep_48 rfl 1 rfl 49 rfl ?_
        refine ww_get h inG10 rfl 0 rfl rfl 53 (by decide) w_1210 rfl dX10_readsKeep_49 52 rfl ?_
        refine ww_bipush (v := 12) h dX10_readsKeep_52 (by decide) 54 rfl ?_
        refine ww_icmp_ne h dX10_readsKeep_54 68 (by decide) 57 rfl (fun c => ?_) (fun c => ?_)
        · replace hf := ite_f c hf
          refine ww_lo [1, 3, 4, 0] (lo' := [(0, .ref oM), (2, .int v2_5), (3, .int v3_9), (4, .int v4_14)]) rfl ?_
          exact hJ68_15 () hf
        · replace hf := ite_t c hf
          refine ww_aload_n h dX10_readsKeep_57 rfl 1 rfl 58 rfl ?_
          refine ww_iload_n h dX10_readsKeep_58 rfl 2 rfl 59 rfl ?_
          refine ww_put (ty := .int) h inG10 tyX10_ok nmX10 rfl 0 rfl rfl 40 (by decide) w_1197 rfl (by decide +kernel) rfl rfl (Nat.le_of_ble_eq_true rfl) (Nat.le_of_ble_eq_true rfl) dX10_readsKeep_59 62 rfl ?_
          refine ww_nm (fun z => [gX10 cy oM aM z]) (sI M_7 40 v1_1) (fun M_22 e => ?_)
          replace hf := bnd_at e hf
          clear e
          refine ww_aload_n h dX10_readsKeep_62 rfl 1 rfl 63 rfl ?_
          refine ww_iconst (v := 1) h dX10_readsKeep_63 (by decide) 64 rfl ?_
          refine ww_put (ty := .boolean) h inG10 tyX10_ok nmX10 rfl 0 rfl rfl 42 (by decide) w_1199 rfl (by decide +kernel) (by decide) (by decide) (Nat.le_of_ble_eq_true rfl) (Nat.le_of_ble_eq_true rfl) dX10_readsKeep_64 67 rfl ?_
          refine ww_nm (fun z => [gX10 cy oM aM z]) (sI M_22 42 (1 : Int32)) (fun M_23 e => ?_)
          replace hf := bnd_at e hf
          clear e
          obtain rfl := Option.some.inj hf
          exact ww_vret h dX10_readsKeep_67 hQ ⟨rfl, rfl⟩
    refine ww_if_ne h dX10_readsKeep_33 40 (by decide) 36 rfl (fun c => ?_) (fun c => ?_)
    · replace hf := ite_f c hf
      refine ww_iconst (v := 0) h dX10_readsKeep_40 (by decide) 41 rfl ?_
      refine ww_lo [3, 2, 1, 0] (lo' := [(0, .ref oM), (1, .int v1_1), (2, .int v2_5), (3, .int v3_9)]) rfl ?_
      exact hJ41_13 (0 : Int32) hf
    · replace hf := ite_t c hf
      refine ww_iconst (v := 1) h dX10_readsKeep_36 (by decide) 37 rfl ?_
      refine ww_goto h dX10_readsKeep_37 41 (by decide) ?_
      refine ww_lo [3, 2, 1, 0] (lo' := [(0, .ref oM), (1, .int v1_1), (2, .int v2_5), (3, .int v3_9)]) rfl ?_
      exact hJ41_13 (1 : Int32) hf
  · replace hf := ite_f c hf
    obtain rfl := Option.some.inj hf
    exact ww_vret h dX10_readsKeep_22 hQ ⟨rfl, rfl⟩
theorem dX10_paragraph_0 : decode cX10_paragraph 0 = .ok (.iconst 0, 1) := by decide +kernel
theorem dX10_paragraph_1 : decode cX10_paragraph 1 = .ok (.istore_n 1, 1) := by decide +kernel
theorem dX10_paragraph_2 : decode cX10_paragraph 2 = .ok (.iconst 0, 1) := by decide +kernel
theorem dX10_paragraph_3 : decode cX10_paragraph 3 = .ok (.istore_n 2, 1) := by decide +kernel
theorem dX10_paragraph_4 : decode cX10_paragraph 4 = .ok (.iload_n 2, 1) := by decide +kernel
theorem dX10_paragraph_5 : decode cX10_paragraph 5 = .ok (.aload_n 0, 1) := by decide +kernel
theorem dX10_paragraph_6 : decode cX10_paragraph 6 = .ok (.getfield 330, 3) := by decide +kernel
theorem dX10_paragraph_9 : decode cX10_paragraph 9 = .ok (.if_icmp .ge 57, 3) := by decide +kernel
theorem dX10_paragraph_12 : decode cX10_paragraph 12 = .ok (.aload_n 0, 1) := by decide +kernel
theorem dX10_paragraph_13 : decode cX10_paragraph 13 = .ok (.getfield 88, 3) := by decide +kernel
theorem dX10_paragraph_16 : decode cX10_paragraph 16 = .ok (.iload_n 2, 1) := by decide +kernel
theorem dX10_paragraph_17 : decode cX10_paragraph 17 = .ok (.iaload, 1) := by decide +kernel
theorem dX10_paragraph_18 : decode cX10_paragraph 18 = .ok (.istore_n 3, 1) := by decide +kernel
theorem dX10_paragraph_19 : decode cX10_paragraph 19 = .ok (.iload_n 3, 1) := by decide +kernel
theorem dX10_paragraph_20 : decode cX10_paragraph 20 = .ok (.bipush 32, 2) := by decide +kernel
theorem dX10_paragraph_22 : decode cX10_paragraph 22 = .ok (.if_icmp .eq 38, 3) := by decide +kernel
theorem dX10_paragraph_25 : decode cX10_paragraph 25 = .ok (.aload_n 0, 1) := by decide +kernel
theorem dX10_paragraph_26 : decode cX10_paragraph 26 = .ok (.iload_n 3, 1) := by decide +kernel
theorem dX10_paragraph_27 : decode cX10_paragraph 27 = .ok (.bipush 97, 2) := by decide +kernel
theorem dX10_paragraph_29 : decode cX10_paragraph 29 = .ok (.isub, 1) := by decide +kernel
theorem dX10_paragraph_30 : decode cX10_paragraph 30 = .ok (.invokevirtual 151, 3) := by decide +kernel
theorem dX10_paragraph_33 : decode cX10_paragraph 33 = .ok (.ifCond .eq 13, 3) := by decide +kernel
theorem dX10_paragraph_36 : decode cX10_paragraph 36 = .ok (.iload_n 1, 1) := by decide +kernel
theorem dX10_paragraph_37 : decode cX10_paragraph 37 = .ok (.bipush 40, 2) := by decide +kernel
theorem dX10_paragraph_39 : decode cX10_paragraph 39 = .ok (.if_icmp .ge 7, 3) := by decide +kernel
theorem dX10_paragraph_42 : decode cX10_paragraph 42 = .ok (.iconst 1, 1) := by decide +kernel
theorem dX10_paragraph_43 : decode cX10_paragraph 43 = .ok (.goto 4, 3) := by decide +kernel
theorem dX10_paragraph_46 : decode cX10_paragraph 46 = .ok (.iconst 0, 1) := by decide +kernel
theorem dX10_paragraph_47 : decode cX10_paragraph 47 = .ok (.istore 4, 2) := by decide +kernel
theorem dX10_paragraph_49 : decode cX10_paragraph 49 = .ok (.iload 4, 2) := by decide +kernel
theorem dX10_paragraph_51 : decode cX10_paragraph 51 = .ok (.ifCond .ne 6, 3) := by decide +kernel
theorem dX10_paragraph_54 : decode cX10_paragraph 54 = .ok (.goto 12, 3) := by decide +kernel
theorem dX10_paragraph_57 : decode cX10_paragraph 57 = .ok (.iinc 1 1, 3) := by decide +kernel
theorem dX10_paragraph_60 : decode cX10_paragraph 60 = .ok (.iinc 2 1, 3) := by decide +kernel
theorem dX10_paragraph_63 : decode cX10_paragraph 63 = .ok (.goto (-59), 3) := by decide +kernel
theorem dX10_paragraph_66 : decode cX10_paragraph 66 = .ok (.aload_n 0, 1) := by decide +kernel
theorem dX10_paragraph_67 : decode cX10_paragraph 67 = .ok (.getfield 330, 3) := by decide +kernel
theorem dX10_paragraph_70 : decode cX10_paragraph 70 = .ok (.istore_n 3, 1) := by decide +kernel
theorem dX10_paragraph_71 : decode cX10_paragraph 71 = .ok (.aload_n 0, 1) := by decide +kernel
theorem dX10_paragraph_72 : decode cX10_paragraph 72 = .ok (.iconst 0, 1) := by decide +kernel
theorem dX10_paragraph_73 : decode cX10_paragraph 73 = .ok (.putfield 330, 3) := by decide +kernel
theorem dX10_paragraph_76 : decode cX10_paragraph 76 = .ok (.iload_n 2, 1) := by decide +kernel
theorem dX10_paragraph_77 : decode cX10_paragraph 77 = .ok (.iload_n 3, 1) := by decide +kernel
theorem dX10_paragraph_78 : decode cX10_paragraph 78 = .ok (.if_icmp .ge 8, 3) := by decide +kernel
theorem dX10_paragraph_81 : decode cX10_paragraph 81 = .ok (.bipush (-4), 2) := by decide +kernel
theorem dX10_paragraph_83 : decode cX10_paragraph 83 = .ok (.iload_n 2, 1) := by decide +kernel
theorem dX10_paragraph_84 : decode cX10_paragraph 84 = .ok (.isub, 1) := by decide +kernel
theorem dX10_paragraph_85 : decode cX10_paragraph 85 = .ok (.ireturn, 1) := by decide +kernel
theorem dX10_paragraph_86 : decode cX10_paragraph 86 = .ok (.aload_n 0, 1) := by decide +kernel
theorem dX10_paragraph_87 : decode cX10_paragraph 87 = .ok (.getfield 36, 3) := by decide +kernel
theorem dX10_paragraph_90 : decode cX10_paragraph 90 = .ok (.iconst 0, 1) := by decide +kernel
theorem dX10_paragraph_91 : decode cX10_paragraph 91 = .ok (.iconst 0, 1) := by decide +kernel
theorem dX10_paragraph_92 : decode cX10_paragraph 92 = .ok (.iastore, 1) := by decide +kernel
theorem dX10_paragraph_93 : decode cX10_paragraph 93 = .ok (.iconst 0, 1) := by decide +kernel
theorem dX10_paragraph_94 : decode cX10_paragraph 94 = .ok (.istore 4, 2) := by decide +kernel
theorem dX10_paragraph_96 : decode cX10_paragraph 96 = .ok (.iload 4, 2) := by decide +kernel
theorem dX10_paragraph_98 : decode cX10_paragraph 98 = .ok (.iload_n 3, 1) := by decide +kernel
theorem dX10_paragraph_99 : decode cX10_paragraph 99 = .ok (.if_icmp .ge 68, 3) := by decide +kernel
theorem dX10_paragraph_102 : decode cX10_paragraph 102 = .ok (.aload_n 0, 1) := by decide +kernel
theorem dX10_paragraph_103 : decode cX10_paragraph 103 = .ok (.getfield 88, 3) := by decide +kernel
theorem dX10_paragraph_106 : decode cX10_paragraph 106 = .ok (.iload 4, 2) := by decide +kernel
theorem dX10_paragraph_108 : decode cX10_paragraph 108 = .ok (.iaload, 1) := by decide +kernel
theorem dX10_paragraph_109 : decode cX10_paragraph 109 = .ok (.bipush 32, 2) := by decide +kernel
theorem dX10_paragraph_111 : decode cX10_paragraph 111 = .ok (.if_icmp .ne 6, 3) := by decide +kernel
theorem dX10_paragraph_114 : decode cX10_paragraph 114 = .ok (.goto 47, 3) := by decide +kernel
theorem dX10_paragraph_117 : decode cX10_paragraph 117 = .ok (.aload_n 0, 1) := by decide +kernel
theorem dX10_paragraph_118 : decode cX10_paragraph 118 = .ok (.getfield 36, 3) := by decide +kernel
theorem dX10_paragraph_121 : decode cX10_paragraph 121 = .ok (.iconst 1, 1) := by decide +kernel
theorem dX10_paragraph_122 : decode cX10_paragraph 122 = .ok (.aload_n 0, 1) := by decide +kernel
theorem dX10_paragraph_123 : decode cX10_paragraph 123 = .ok (.invokevirtual 132, 3) := by decide +kernel
theorem dX10_paragraph_126 : decode cX10_paragraph 126 = .ok (.iadd, 1) := by decide +kernel
theorem dX10_paragraph_127 : decode cX10_paragraph 127 = .ok (.aload_n 0, 1) := by decide +kernel
theorem dX10_paragraph_128 : decode cX10_paragraph 128 = .ok (.getfield 88, 3) := by decide +kernel
theorem dX10_paragraph_131 : decode cX10_paragraph 131 = .ok (.iload 4, 2) := by decide +kernel
theorem dX10_paragraph_133 : decode cX10_paragraph 133 = .ok (.iaload, 1) := by decide +kernel
theorem dX10_paragraph_134 : decode cX10_paragraph 134 = .ok (.bipush 97, 2) := by decide +kernel
theorem dX10_paragraph_136 : decode cX10_paragraph 136 = .ok (.isub, 1) := by decide +kernel
theorem dX10_paragraph_137 : decode cX10_paragraph 137 = .ok (.iastore, 1) := by decide +kernel
theorem dX10_paragraph_138 : decode cX10_paragraph 138 = .ok (.aload_n 0, 1) := by decide +kernel
theorem dX10_paragraph_139 : decode cX10_paragraph 139 = .ok (.getfield 36, 3) := by decide +kernel
theorem dX10_paragraph_142 : decode cX10_paragraph 142 = .ok (.bipush 41, 2) := by decide +kernel
theorem dX10_paragraph_144 : decode cX10_paragraph 144 = .ok (.aload_n 0, 1) := by decide +kernel
theorem dX10_paragraph_145 : decode cX10_paragraph 145 = .ok (.invokevirtual 132, 3) := by decide +kernel
theorem dX10_paragraph_148 : decode cX10_paragraph 148 = .ok (.iadd, 1) := by decide +kernel
theorem dX10_paragraph_149 : decode cX10_paragraph 149 = .ok (.iconst 0, 1) := by decide +kernel
theorem dX10_paragraph_150 : decode cX10_paragraph 150 = .ok (.iastore, 1) := by decide +kernel
theorem dX10_paragraph_151 : decode cX10_paragraph 151 = .ok (.aload_n 0, 1) := by decide +kernel
theorem dX10_paragraph_152 : decode cX10_paragraph 152 = .ok (.getfield 36, 3) := by decide +kernel
theorem dX10_paragraph_155 : decode cX10_paragraph 155 = .ok (.iconst 0, 1) := by decide +kernel
theorem dX10_paragraph_156 : decode cX10_paragraph 156 = .ok (.dup2, 1) := by decide +kernel
theorem dX10_paragraph_157 : decode cX10_paragraph 157 = .ok (.iaload, 1) := by decide +kernel
theorem dX10_paragraph_158 : decode cX10_paragraph 158 = .ok (.iconst 1, 1) := by decide +kernel
theorem dX10_paragraph_159 : decode cX10_paragraph 159 = .ok (.iadd, 1) := by decide +kernel
theorem dX10_paragraph_160 : decode cX10_paragraph 160 = .ok (.iastore, 1) := by decide +kernel
theorem dX10_paragraph_161 : decode cX10_paragraph 161 = .ok (.iinc 4 1, 3) := by decide +kernel
theorem dX10_paragraph_164 : decode cX10_paragraph 164 = .ok (.goto (-68), 3) := by decide +kernel
theorem dX10_paragraph_167 : decode cX10_paragraph 167 = .ok (.aload_n 0, 1) := by decide +kernel
theorem dX10_paragraph_168 : decode cX10_paragraph 168 = .ok (.iconst 0, 1) := by decide +kernel
theorem dX10_paragraph_169 : decode cX10_paragraph 169 = .ok (.putfield 129, 3) := by decide +kernel
theorem dX10_paragraph_172 : decode cX10_paragraph 172 = .ok (.iload_n 1, 1) := by decide +kernel
theorem dX10_paragraph_173 : decode cX10_paragraph 173 = .ok (.ireturn, 1) := by decide +kernel
theorem ok_X10_paragraph : okY RX10 yX10_paragraph 0 := ⟨rfl, by decide, by decide, by decide +kernel⟩
def j_X10_paragraph_60_8 (v2_5 : Int32) (v1_7 : Int32) : Option ((Int32 × Int32) ⊕ ((Int32 × Int32) ⊕ (Int32 × OV))) := bnd (v2_5 + 1) (fun v2_9 => some (.inl (v1_7, v2_9)))
def j_X10_paragraph_47_13 (v1_4 : Int32) (v2_5 : Int32) (t_12 : Int32) : Option ((Int32 × Int32) ⊕ ((Int32 × Int32) ⊕ (Int32 × OV))) := bnd t_12 (fun v4_14 => (if v4_14 = 0 then some (.inr (.inl (v1_4, v2_5))) else bnd (v1_4 + 1) (fun v1_15 => j_X10_paragraph_60_8 v2_5 v1_15)))
def j_X10_paragraph_46_16 (v1_4 : Int32) (v2_5 : Int32) : Option ((Int32 × Int32) ⊕ ((Int32 × Int32) ⊕ (Int32 × OV))) := j_X10_paragraph_47_13 v1_4 v2_5 (0 : Int32)
def s_X10_paragraph_4_3 (M : OV) : (Int32 × Int32) → Option ((Int32 × Int32) ⊕ ((Int32 × Int32) ⊕ (Int32 × OV))) := un2 (fun v1_4 v2_5 => (if (iv M 36) ≤ v2_5 then some (.inr (.inl (v1_4, v2_5))) else gd (ix v2_5 500) (bnd (ar M 35 v2_5.toNatClampNeg) (fun v3_6 => (if v3_6 = (32 : Int32) then j_X10_paragraph_60_8 v2_5 v1_4 else (f_X10_isTold M (v3_6 - (97 : Int32))).bind (un1 (fun r_10 => (if r_10 = 0 then j_X10_paragraph_46_16 v1_4 v2_5 else (if (40 : Int32) ≤ v1_4 then j_X10_paragraph_46_16 v1_4 v2_5 else j_X10_paragraph_47_13 v1_4 v2_5 (1 : Int32))))))))))
def j_X10_paragraph_161_27 (v4_24 : Int32) (M_26 : OV) : Option ((Int32 × OV) ⊕ (OV)) := bnd (v4_24 + 1) (fun v4_28 => some (.inl (v4_28, M_26)))
def s_X10_paragraph_96_23 (v3_19 : Int32) : (Int32 × OV) → Option ((Int32 × OV) ⊕ (OV)) := un2 (fun v4_24 M_25 => (if v3_19 ≤ v4_24 then some (.inr M_25) else gd (ix v4_24 500) ((if (ar M_25 35 v4_24.toNatClampNeg) = (32 : Int32) then j_X10_paragraph_161_27 v4_24 M_25 else (f_X10_many M_25).bind (un1 (fun r_29 => gd (ix v4_24 500) (gd (ix ((1 : Int32) + r_29) 113) (bnd (sA M_25 8 ((1 : Int32) + r_29).toNatClampNeg ((ar M_25 35 v4_24.toNatClampNeg) - (97 : Int32))) (fun M_31 => (f_X10_many M_31).bind (un1 (fun r_32 => gd (ix ((41 : Int32) + r_32) 113) (bnd (sA M_31 8 ((41 : Int32) + r_32).toNatClampNeg (0 : Int32)) (fun M_34 => gd (ix (0 : Int32) 113) (gd (ix (0 : Int32) 113) (bnd (sA M_34 8 (0 : Int32).toNatClampNeg ((ar M_34 8 (0 : Int32).toNatClampNeg) + (1 : Int32))) (fun M_35 => j_X10_paragraph_161_27 v4_24 M_35))))))))))))))))
def f_X10_paragraph (M : OV) : Option (Int32 × OV) := bnd (0 : Int32) (fun v1_1 => bnd (0 : Int32) (fun v2_2 => ((lp (s_X10_paragraph_4_3 M) 5000 (v1_1, v2_2)).bind (Sum.elim (un2 (fun v1_17 v2_18 => bnd (iv M 36) (fun v3_19 => bnd (sI M 36 (0 : Int32)) (fun M_20 => (if v3_19 ≤ v2_18 then gd (ix (0 : Int32) 113) (bnd (sA M_20 8 (0 : Int32).toNatClampNeg (0 : Int32)) (fun M_21 => bnd (0 : Int32) (fun v4_22 => ((lp (s_X10_paragraph_96_23 v3_19) 5000 (v4_22, M_21)).bind (un1 (fun M_36 => bnd (sI M_36 11 (0 : Int32)) (fun M_37 => some (v1_17, M_37)))))))) else some (((-4 : Int32) - v2_18), M_20)))))) (fun r => some r)))))
def r_X10_paragraph : Room := { frames := 2, cells := 0, slots := 0, locals := 43 }
set_option maxHeartbeats 4000000 in
set_option maxRecDepth 100000 in
theorem c_X10_paragraph (l : Launch) (D : va_G) (ev : EvT) (cy : Nat → ClassId) (oM : Nat) (aM : Nat → Nat) (M : OV) (o : Int32 × OV) (hf : f_X10_paragraph M = some o) : Fn l yX10_paragraph cX10_paragraph 5 (some .int) r_X10_paragraph D ev cy [.ref oM] [gX10 cy oM aM M] (fun v G => v = some (.int o.1) ∧ G = [gX10 cy oM aM o.2]) := by
  refine Fn_of (by decide) (Nat.le_of_ble_eq_true rfl) (fun X A Q h hQ _ => ?_)
  unfold f_X10_paragraph at hf
  show ww X D A 5 Q 0 0 0 [(0, .ref oM)] [] [gX10 cy oM aM M]
  refine ww_iconst (v := 0) h dX10_paragraph_0 (by decide) 1 rfl ?_
  refine ww_ist_n h dX10_paragraph_1 rfl (by decide) (fun v1_1 => [(1, .int v1_1), (0, .ref oM)]) (fun _ => rfl) 2 rfl (fun v1_1 e => ?_)
  replace hf := bnd_at e hf
  clear e
  refine ww_iconst (v := 0) h dX10_paragraph_2 (by decide) 3 rfl ?_
  refine ww_ist_n h dX10_paragraph_3 rfl (by decide) (fun v2_2 => [(2, .int v2_2), (1, .int v1_1), (0, .ref oM)]) (fun _ => rfl) 4 rfl (fun v2_2 e => ?_)
  replace hf := bnd_at e hf
  clear e
  refine ww_lo [2, 1, 0] (lo' := [(0, .ref oM), (1, .int v1_1), (2, .int v2_2)]) rfl ?_
  obtain ⟨x3, h3, hf⟩ := ob_some hf
  refine lp_walk (un2 (fun v1_4 v2_5 => ww X D A 5 Q 0 0 4 [(0, .ref oM), (1, .int v1_4), (2, .int v2_5)] [] [gX10 cy oM aM M])) (Sum.elim (un2 (fun v1_17 v2_18 => ww X D A 5 Q 0 0 66 [(0, .ref oM), (1, .int v1_17), (2, .int v2_18)] [] [gX10 cy oM aM M])) (fun r => r = o)) ?_ _ _ _ h3 ?_
  · clear h3 hf
    intro s3 o3 hf hI3 hE3
    obtain ⟨v1_4, v2_5⟩ := s3
    unfold s_X10_paragraph_4_3 at hf
    replace hf := un2_e hf
    show ww X D A 5 Q 0 0 4 [(0, .ref oM), (1, .int v1_4), (2, .int v2_5)] [] [gX10 cy oM aM M]
    refine ww_iload_n h dX10_paragraph_4 rfl 2 rfl 5 rfl ?_
    refine ww_aload_n h dX10_paragraph_5 rfl 0 rfl 6 rfl ?_
    refine ww_get h inG10 rfl 0 rfl rfl 36 (by decide) w_1193 rfl dX10_paragraph_6 9 rfl ?_
    refine ww_icmp_ge h dX10_paragraph_9 66 (by decide) 12 rfl (fun c => ?_) (fun c => ?_)
    · replace hf := ite_t c hf
      exact hE3 (.inl (v1_4, v2_5)) (Option.some.inj hf).symm
    · replace hf := ite_f c hf
      refine ww_aload_n h dX10_paragraph_12 rfl 0 rfl 13 rfl ?_
      refine ww_get h inG10 rfl 0 rfl rfl 35 (by decide) w_1192 rfl dX10_paragraph_13 16 rfl ?_
      refine ww_iload_n h dX10_paragraph_16 rfl 2 rfl 17 rfl ?_
      have hi := (gd_some hf).1
      replace hf := (gd_some hf).2
      refine ww_iald h 0 rfl 25 rfl (ix_in hi) dX10_paragraph_17 18 rfl ?_
      clear hi
      refine ww_ist_n h dX10_paragraph_18 rfl (by decide) (fun v3_6 => [(3, .int v3_6), (0, .ref oM), (1, .int v1_4), (2, .int v2_5)]) (fun _ => rfl) 19 rfl (fun v3_6 e => ?_)
      replace hf := bnd_at e hf
      clear e
      refine ww_iload_n h dX10_paragraph_19 rfl 0 rfl 20 rfl ?_
      refine ww_bipush (v := 32) h dX10_paragraph_20 (by decide) 22 rfl ?_
      have hJ60_8 : ∀ (v1_7 : Int32), j_X10_paragraph_60_8 v2_5 v1_7 = some o3 → ww X D A 5 Q 0 0 60 [(0, .ref oM), (1, .int v1_7), (2, .int v2_5)] [] [gX10 cy oM aM M] := by
        intro v1_7 hf
        unfold j_X10_paragraph_60_8 at hf
        refine ww_inc (c := 1) h dX10_paragraph_60 2 rfl (by decide) (by decide) (fun v2_9 => [(2, .int v2_9), (0, .ref oM), (1, .int v1_7)]) (fun _ => rfl) 63 rfl (fun v2_9 e => ?_)
        replace hf := bnd_at e hf
        clear e
        refine ww_goto h dX10_paragraph_63 4 (by decide) ?_
        refine ww_lo [1, 2, 0] (lo' := [(0, .ref oM), (1, .int v1_7), (2, .int v2_9)]) rfl ?_
        exact hI3 (v1_7, v2_9) (Option.some.inj hf).symm
      refine ww_icmp_eq h dX10_paragraph_22 60 (by decide) 25 rfl (fun c => ?_) (fun c => ?_)
      · replace hf := ite_t c hf
        refine ww_lo [1, 2, 3] (lo' := [(0, .ref oM), (1, .int v1_4), (2, .int v2_5)]) rfl ?_
        exact hJ60_8 v1_4 hf
      · replace hf := ite_f c hf
        refine ww_aload_n h dX10_paragraph_25 rfl 1 rfl 26 rfl ?_
        refine ww_iload_n h dX10_paragraph_26 rfl 0 rfl 27 rfl ?_
        refine ww_bipush (v := 97) h dX10_paragraph_27 (by decide) 29 rfl ?_
        refine ww_isub h dX10_paragraph_29 30 rfl ?_
        obtain ⟨r_10, hu11, hf⟩ := ob1 hf
        refine ww_cVi h (c_X10_isTold l D ev cy oM aM M (v3_6 - (97 : Int32)) _ hu11) ⟨w_1337, w_1334, w_1336, w_38, w_111, ok_X10_isTold⟩ ⟨by decide, by decide⟩ ⟨by decide, by decide⟩ ⟨rfl, rfl⟩ [0] rfl 0 rfl rfl rfl rfl (Nat.le_of_ble_eq_true rfl) dX10_paragraph_30 33 rfl (Gs' := [gX10 cy oM aM M]) rfl ?_
        clear hu11
        have hJ47_13 : ∀ (t_12 : Int32), j_X10_paragraph_47_13 v1_4 v2_5 t_12 = some o3 → ww X D A 5 Q 0 0 47 [(0, .ref oM), (1, .int v1_4), (2, .int v2_5)] [.int t_12] [gX10 cy oM aM M] := by
          intro t_12 hf
          unfold j_X10_paragraph_47_13 at hf
          refine ww_ist h dX10_paragraph_47 (by decide) (fun v4_14 => [(4, .int v4_14), (0, .ref oM), (1, .int v1_4), (2, .int v2_5)]) (fun _ => rfl) 49 rfl (fun v4_14 e => ?_)
          replace hf := bnd_at e hf
          clear e
          refine ww_iload h dX10_paragraph_49 0 rfl 51 rfl ?_
          refine ww_if_ne h dX10_paragraph_51 57 (by decide) 54 rfl (fun c => ?_) (fun c => ?_)
          · replace hf := ite_f c hf
            refine ww_inc (c := 1) h dX10_paragraph_57 2 rfl (by decide) (by decide) (fun v1_15 => [(1, .int v1_15), (4, .int v4_14), (0, .ref oM), (2, .int v2_5)]) (fun _ => rfl) 60 rfl (fun v1_15 e => ?_)
            replace hf := bnd_at e hf
            clear e
            refine ww_lo [2, 0, 3] (lo' := [(0, .ref oM), (1, .int v1_15), (2, .int v2_5)]) rfl ?_
            exact hJ60_8 v1_15 hf
          · replace hf := ite_t c hf
            refine ww_goto h dX10_paragraph_54 66 (by decide) ?_
            refine ww_lo [1, 2, 3] (lo' := [(0, .ref oM), (1, .int v1_4), (2, .int v2_5)]) rfl ?_
            exact hE3 (.inl (v1_4, v2_5)) (Option.some.inj hf).symm
        have hJ46_16 : ∀ (_ : Unit), j_X10_paragraph_46_16 v1_4 v2_5 = some o3 → ww X D A 5 Q 0 0 46 [(0, .ref oM), (1, .int v1_4), (2, .int v2_5)] [] [gX10 cy oM aM M] := by
          intro _ hf
          unfold j_X10_paragraph_46_16 at hf
          refine ww_iconst (v := 0) h dX10_paragraph_46 (by decide) 47 rfl ?_
          exact hJ47_13 (0 : Int32) hf
        refine ww_if_eq h dX10_paragraph_33 46 (by decide) 36 rfl (fun c => ?_) (fun c => ?_)
        · replace hf := ite_t c hf
          refine ww_lo [1, 2, 3] (lo' := [(0, .ref oM), (1, .int v1_4), (2, .int v2_5)]) rfl ?_
          exact hJ46_16 () hf
        · replace hf := ite_f c hf
          refine ww_iload_n h dX10_paragraph_36 rfl 2 rfl 37 rfl ?_
          refine ww_bipush (v := 40) h dX10_paragraph_37 (by decide) 39 rfl ?_
          refine ww_icmp_ge h dX10_paragraph_39 46 (by decide) 42 rfl (fun c => ?_) (fun c => ?_)
          · replace hf := ite_t c hf
            refine ww_lo [1, 2, 3] (lo' := [(0, .ref oM), (1, .int v1_4), (2, .int v2_5)]) rfl ?_
            exact hJ46_16 () hf
          · replace hf := ite_f c hf
            refine ww_iconst (v := 1) h dX10_paragraph_42 (by decide) 43 rfl ?_
            refine ww_goto h dX10_paragraph_43 47 (by decide) ?_
            refine ww_lo [1, 2, 3] (lo' := [(0, .ref oM), (1, .int v1_4), (2, .int v2_5)]) rfl ?_
            exact hJ47_13 (1 : Int32) hf
  · clear h3
    rcases x3 with x3 | x3
    · replace hf := sel_l hf
      obtain ⟨v1_17, v2_18⟩ := x3
      replace hf := un2_e hf
      show ww X D A 5 Q 0 0 66 [(0, .ref oM), (1, .int v1_17), (2, .int v2_18)] [] [gX10 cy oM aM M]
      refine ww_aload_n h dX10_paragraph_66 rfl 0 rfl 67 rfl ?_
      refine ww_get h inG10 rfl 0 rfl rfl 36 (by decide) w_1193 rfl dX10_paragraph_67 70 rfl ?_
      refine ww_ist_n h dX10_paragraph_70 rfl (by decide) (fun v3_19 => [(3, .int v3_19), (0, .ref oM), (1, .int v1_17), (2, .int v2_18)]) (fun _ => rfl) 71 rfl (fun v3_19 e => ?_)
      replace hf := bnd_at e hf
      clear e
      refine ww_aload_n h dX10_paragraph_71 rfl 1 rfl 72 rfl ?_
      refine ww_iconst (v := 0) h dX10_paragraph_72 (by decide) 73 rfl ?_
      refine ww_put (ty := .int) h inG10 tyX10_ok nmX10 rfl 0 rfl rfl 36 (by decide) w_1193 rfl (by decide +kernel) rfl rfl (Nat.le_of_ble_eq_true rfl) (Nat.le_of_ble_eq_true rfl) dX10_paragraph_73 76 rfl ?_
      refine ww_nm (fun z => [gX10 cy oM aM z]) (sI M 36 (0 : Int32)) (fun M_20 e => ?_)
      replace hf := bnd_at e hf
      clear e
      refine ww_iload_n h dX10_paragraph_76 rfl 3 rfl 77 rfl ?_
      refine ww_iload_n h dX10_paragraph_77 rfl 0 rfl 78 rfl ?_
      refine ww_icmp_ge h dX10_paragraph_78 86 (by decide) 81 rfl (fun c => ?_) (fun c => ?_)
      · replace hf := ite_t c hf
        refine ww_aload_n h dX10_paragraph_86 rfl 1 rfl 87 rfl ?_
        refine ww_get h inG10 rfl 0 rfl rfl 8 (by decide) w_1165 rfl dX10_paragraph_87 90 rfl ?_
        refine ww_iconst (v := 0) h dX10_paragraph_90 (by decide) 91 rfl ?_
        refine ww_iconst (v := 0) h dX10_paragraph_91 (by decide) 92 rfl ?_
        have hi := (gd_some hf).1
        replace hf := (gd_some hf).2
        refine ww_iast h 0 rfl 8 rfl (ix_in hi) dX10_paragraph_92 93 rfl ?_
        clear hi
        refine ww_nm (fun z => [gX10 cy oM aM z]) (sA M_20 8 (0 : Int32).toNatClampNeg (0 : Int32)) (fun M_21 e => ?_)
        replace hf := bnd_at e hf
        clear e
        refine ww_iconst (v := 0) h dX10_paragraph_93 (by decide) 94 rfl ?_
        refine ww_ist h dX10_paragraph_94 (by decide) (fun v4_22 => [(4, .int v4_22), (3, .int v3_19), (0, .ref oM), (1, .int v1_17), (2, .int v2_18)]) (fun _ => rfl) 96 rfl (fun v4_22 e => ?_)
        replace hf := bnd_at e hf
        clear e
        refine ww_lo [2, 3, 1, 0] (lo' := [(0, .ref oM), (1, .int v1_17), (3, .int v3_19), (4, .int v4_22)]) rfl ?_
        obtain ⟨M_36, h23, hf⟩ := ob1 hf
        refine lp_walk (un2 (fun v4_24 M_25 => ww X D A 5 Q 0 0 96 [(0, .ref oM), (1, .int v1_17), (3, .int v3_19), (4, .int v4_24)] [] [gX10 cy oM aM M_25])) (un1 (fun M_36 => ww X D A 5 Q 0 0 167 [(0, .ref oM), (1, .int v1_17)] [] [gX10 cy oM aM M_36])) ?_ _ _ _ h23 ?_
        · clear h23 hf
          intro s23 o23 hf hI23 hE23
          obtain ⟨v4_24, M_25⟩ := s23
          unfold s_X10_paragraph_96_23 at hf
          replace hf := un2_e hf
          show ww X D A 5 Q 0 0 96 [(0, .ref oM), (1, .int v1_17), (3, .int v3_19), (4, .int v4_24)] [] [gX10 cy oM aM M_25]
          refine ww_iload h dX10_paragraph_96 3 rfl 98 rfl ?_
          refine ww_iload_n h dX10_paragraph_98 rfl 2 rfl 99 rfl ?_
          refine ww_icmp_ge h dX10_paragraph_99 167 (by decide) 102 rfl (fun c => ?_) (fun c => ?_)
          · replace hf := ite_t c hf
            refine ww_lo [0, 1] (lo' := [(0, .ref oM), (1, .int v1_17)]) rfl ?_
            exact hE23 M_25 (Option.some.inj hf).symm
          · replace hf := ite_f c hf
            refine ww_aload_n h dX10_paragraph_102 rfl 0 rfl 103 rfl ?_
            refine ww_get h inG10 rfl 0 rfl rfl 35 (by decide) w_1192 rfl dX10_paragraph_103 106 rfl ?_
            refine ww_iload h dX10_paragraph_106 3 rfl 108 rfl ?_
            have hi := (gd_some hf).1
            replace hf := (gd_some hf).2
            refine ww_iald h 0 rfl 25 rfl (ix_in hi) dX10_paragraph_108 109 rfl ?_
            clear hi
            refine ww_bipush (v := 32) h dX10_paragraph_109 (by decide) 111 rfl ?_
            have hJ161_27 : ∀ (M_26 : OV), j_X10_paragraph_161_27 v4_24 M_26 = some o23 → ww X D A 5 Q 0 0 161 [(0, .ref oM), (1, .int v1_17), (3, .int v3_19), (4, .int v4_24)] [] [gX10 cy oM aM M_26] := by
              intro M_26 hf
              unfold j_X10_paragraph_161_27 at hf
              refine ww_inc (c := 1) h dX10_paragraph_161 3 rfl (by decide) (by decide) (fun v4_28 => [(4, .int v4_28), (0, .ref oM), (1, .int v1_17), (3, .int v3_19)]) (fun _ => rfl) 164 rfl (fun v4_28 e => ?_)
              replace hf := bnd_at e hf
              clear e
              refine ww_goto h dX10_paragraph_164 96 (by decide) ?_
              refine ww_lo [1, 2, 3, 0] (lo' := [(0, .ref oM), (1, .int v1_17), (3, .int v3_19), (4, .int v4_28)]) rfl ?_
              exact hI23 (v4_28, M_26) (Option.some.inj hf).symm
            refine ww_icmp_ne h dX10_paragraph_111 117 (by decide) 114 rfl (fun c => ?_) (fun c => ?_)
            · replace hf := ite_f c hf
              refine ww_aload_n h dX10_paragraph_117 rfl 0 rfl 118 rfl ?_
              refine ww_get h inG10 rfl 0 rfl rfl 8 (by decide) w_1165 rfl dX10_paragraph_118 121 rfl ?_
              refine ww_iconst (v := 1) h dX10_paragraph_121 (by decide) 122 rfl ?_
              refine ww_aload_n h dX10_paragraph_122 rfl 0 rfl 123 rfl ?_
              obtain ⟨r_29, hu30, hf⟩ := ob1 hf
              refine ww_cVi h (c_X10_many l D ev cy oM aM M_25 _ hu30) ⟨w_1330, w_1327, w_1329, w_37, w_111, ok_X10_many⟩ ⟨by decide, by decide⟩ ⟨by decide, by decide⟩ ⟨rfl, rfl⟩ [0] rfl 0 rfl rfl rfl rfl (Nat.le_of_ble_eq_true rfl) dX10_paragraph_123 126 rfl (Gs' := [gX10 cy oM aM M_25]) rfl ?_
              clear hu30
              refine ww_iadd h dX10_paragraph_126 127 rfl ?_
              refine ww_aload_n h dX10_paragraph_127 rfl 0 rfl 128 rfl ?_
              refine ww_get h inG10 rfl 0 rfl rfl 35 (by decide) w_1192 rfl dX10_paragraph_128 131 rfl ?_
              refine ww_iload h dX10_paragraph_131 3 rfl 133 rfl ?_
              have hi := (gd_some hf).1
              replace hf := (gd_some hf).2
              refine ww_iald h 0 rfl 25 rfl (ix_in hi) dX10_paragraph_133 134 rfl ?_
              clear hi
              refine ww_bipush (v := 97) h dX10_paragraph_134 (by decide) 136 rfl ?_
              refine ww_isub h dX10_paragraph_136 137 rfl ?_
              have hi := (gd_some hf).1
              replace hf := (gd_some hf).2
              refine ww_iast h 0 rfl 8 rfl (ix_in hi) dX10_paragraph_137 138 rfl ?_
              clear hi
              refine ww_nm (fun z => [gX10 cy oM aM z]) (sA M_25 8 ((1 : Int32) + r_29).toNatClampNeg ((ar M_25 35 v4_24.toNatClampNeg) - (97 : Int32))) (fun M_31 e => ?_)
              replace hf := bnd_at e hf
              clear e
              refine ww_aload_n h dX10_paragraph_138 rfl 0 rfl 139 rfl ?_
              refine ww_get h inG10 rfl 0 rfl rfl 8 (by decide) w_1165 rfl dX10_paragraph_139 142 rfl ?_
              refine ww_bipush (v := 41) h dX10_paragraph_142 (by decide) 144 rfl ?_
              refine ww_aload_n h dX10_paragraph_144 rfl 0 rfl 145 rfl ?_
              obtain ⟨r_32, hu33, hf⟩ := ob1 hf
              refine ww_cVi h (c_X10_many l D ev cy oM aM M_31 _ hu33) ⟨w_1330, w_1327, w_1329, w_37, w_111, ok_X10_many⟩ ⟨by decide, by decide⟩ ⟨by decide, by decide⟩ ⟨rfl, rfl⟩ [0] rfl 0 rfl rfl rfl rfl (Nat.le_of_ble_eq_true rfl) dX10_paragraph_145 148 rfl (Gs' := [gX10 cy oM aM M_31]) rfl ?_
              clear hu33
              refine ww_iadd h dX10_paragraph_148 149 rfl ?_
              refine ww_iconst (v := 0) h dX10_paragraph_149 (by decide) 150 rfl ?_
              have hi := (gd_some hf).1
              replace hf := (gd_some hf).2
              refine ww_iast h 0 rfl 8 rfl (ix_in hi) dX10_paragraph_150 151 rfl ?_
              clear hi
              refine ww_nm (fun z => [gX10 cy oM aM z]) (sA M_31 8 ((41 : Int32) + r_32).toNatClampNeg (0 : Int32)) (fun M_34 e => ?_)
              replace hf := bnd_at e hf
              clear e
              refine ww_aload_n h dX10_paragraph_151 rfl 0 rfl 152 rfl ?_
              refine ww_get h inG10 rfl 0 rfl rfl 8 (by decide) w_1165 rfl dX10_paragraph_152 155 rfl ?_
              refine ww_iconst (v := 0) h dX10_paragraph_155 (by decide) 156 rfl ?_
              refine ww_dup2 h dX10_paragraph_156 rfl rfl 157 rfl ?_
              have hi := (gd_some hf).1
              replace hf := (gd_some hf).2
              refine ww_iald h 0 rfl 8 rfl (ix_in hi) dX10_paragraph_157 158 rfl ?_
              clear hi
              refine ww_iconst (v := 1) h dX10_paragraph_158 (by decide) 159 rfl ?_
              refine ww_iadd h dX10_paragraph_159 160 rfl ?_
              have hi := (gd_some hf).1
              replace hf := (gd_some hf).2
              refine ww_iast h 0 rfl 8 rfl (ix_in hi) dX10_paragraph_160 161 rfl ?_
              clear hi
              refine ww_nm (fun z => [gX10 cy oM aM z]) (sA M_34 8 (0 : Int32).toNatClampNeg ((ar M_34 8 (0 : Int32).toNatClampNeg) + (1 : Int32))) (fun M_35 e => ?_)
              replace hf := bnd_at e hf
              clear e
              exact hJ161_27 M_35 hf
            · replace hf := ite_t c hf
              refine ww_goto h dX10_paragraph_114 161 (by decide) ?_
              exact hJ161_27 M_25 hf
        · clear h23
          show ww X D A 5 Q 0 0 167 [(0, .ref oM), (1, .int v1_17)] [] [gX10 cy oM aM M_36]
          refine ww_aload_n h dX10_paragraph_167 rfl 0 rfl 168 rfl ?_
          refine ww_iconst (v := 0) h dX10_paragraph_168 (by decide) 169 rfl ?_
          refine ww_put (ty := .int) h inG10 tyX10_ok nmX10 rfl 0 rfl rfl 11 (by decide) w_1168 rfl (by decide +kernel) rfl rfl (Nat.le_of_ble_eq_true rfl) (Nat.le_of_ble_eq_true rfl) dX10_paragraph_169 172 rfl ?_
          refine ww_nm (fun z => [gX10 cy oM aM z]) (sI M_36 11 (0 : Int32)) (fun M_37 e => ?_)
          replace hf := bnd_at e hf
          clear e
          refine ww_iload_n h dX10_paragraph_172 rfl 1 rfl 173 rfl ?_
          obtain rfl := Option.some.inj hf
          exact ww_iret h dX10_paragraph_173 hQ ⟨rfl, rfl⟩
      · replace hf := ite_f c hf
        refine ww_bipush (v := (-4)) h dX10_paragraph_81 (by decide) 83 rfl ?_
        refine ww_iload_n h dX10_paragraph_83 rfl 3 rfl 84 rfl ?_
        refine ww_isub h dX10_paragraph_84 85 rfl ?_
        obtain rfl := Option.some.inj hf
        exact ww_iret h dX10_paragraph_85 hQ ⟨rfl, rfl⟩
    · replace hf := sel_r hf
      exact Option.some.inj hf
theorem dX10_find_0 : decode cX10_find 0 = .ok (.aload_n 0, 1) := by decide +kernel
theorem dX10_find_1 : decode cX10_find 1 = .ok (.iload_n 1, 1) := by decide +kernel
theorem dX10_find_2 : decode cX10_find 2 = .ok (.invokevirtual 161, 3) := by decide +kernel
theorem dX10_find_5 : decode cX10_find 5 = .ok (.ifCond .ne 5, 3) := by decide +kernel
theorem dX10_find_8 : decode cX10_find 8 = .ok (.iconst (-1), 1) := by decide +kernel
theorem dX10_find_9 : decode cX10_find 9 = .ok (.ireturn, 1) := by decide +kernel
theorem dX10_find_10 : decode cX10_find 10 = .ok (.iconst 0, 1) := by decide +kernel
theorem dX10_find_11 : decode cX10_find 11 = .ok (.istore_n 2, 1) := by decide +kernel
theorem dX10_find_12 : decode cX10_find 12 = .ok (.iconst 1, 1) := by decide +kernel
theorem dX10_find_13 : decode cX10_find 13 = .ok (.istore_n 3, 1) := by decide +kernel
theorem dX10_find_14 : decode cX10_find 14 = .ok (.iconst 0, 1) := by decide +kernel
theorem dX10_find_15 : decode cX10_find 15 = .ok (.istore 4, 2) := by decide +kernel
theorem dX10_find_17 : decode cX10_find 17 = .ok (.iload 4, 2) := by decide +kernel
theorem dX10_find_19 : decode cX10_find 19 = .ok (.aload_n 0, 1) := by decide +kernel
theorem dX10_find_20 : decode cX10_find 20 = .ok (.getfield 330, 3) := by decide +kernel
theorem dX10_find_23 : decode cX10_find 23 = .ok (.if_icmp .ge 70, 3) := by decide +kernel
theorem dX10_find_26 : decode cX10_find 26 = .ok (.aload_n 0, 1) := by decide +kernel
theorem dX10_find_27 : decode cX10_find 27 = .ok (.getfield 88, 3) := by decide +kernel
theorem dX10_find_30 : decode cX10_find 30 = .ok (.iload 4, 2) := by decide +kernel
theorem dX10_find_32 : decode cX10_find 32 = .ok (.iaload, 1) := by decide +kernel
theorem dX10_find_33 : decode cX10_find 33 = .ok (.bipush 32, 2) := by decide +kernel
theorem dX10_find_35 : decode cX10_find 35 = .ok (.if_icmp .ne 6, 3) := by decide +kernel
theorem dX10_find_38 : decode cX10_find 38 = .ok (.goto 49, 3) := by decide +kernel
theorem dX10_find_41 : decode cX10_find 41 = .ok (.iload_n 3, 1) := by decide +kernel
theorem dX10_find_42 : decode cX10_find 42 = .ok (.ifCond .eq 24, 3) := by decide +kernel
theorem dX10_find_45 : decode cX10_find 45 = .ok (.aload_n 0, 1) := by decide +kernel
theorem dX10_find_46 : decode cX10_find 46 = .ok (.getfield 88, 3) := by decide +kernel
theorem dX10_find_49 : decode cX10_find 49 = .ok (.iload 4, 2) := by decide +kernel
theorem dX10_find_51 : decode cX10_find 51 = .ok (.iaload, 1) := by decide +kernel
theorem dX10_find_52 : decode cX10_find 52 = .ok (.bipush 97, 2) := by decide +kernel
theorem dX10_find_54 : decode cX10_find 54 = .ok (.bipush 122, 2) := by decide +kernel
theorem dX10_find_56 : decode cX10_find 56 = .ok (.invokestatic 125, 3) := by decide +kernel
theorem dX10_find_59 : decode cX10_find 59 = .ok (.ifCond .eq 7, 3) := by decide +kernel
theorem dX10_find_62 : decode cX10_find 62 = .ok (.iconst 1, 1) := by decide +kernel
theorem dX10_find_63 : decode cX10_find 63 = .ok (.goto 4, 3) := by decide +kernel
theorem dX10_find_66 : decode cX10_find 66 = .ok (.iconst 0, 1) := by decide +kernel
theorem dX10_find_67 : decode cX10_find 67 = .ok (.istore_n 3, 1) := by decide +kernel
theorem dX10_find_68 : decode cX10_find 68 = .ok (.aload_n 0, 1) := by decide +kernel
theorem dX10_find_69 : decode cX10_find 69 = .ok (.getfield 122, 3) := by decide +kernel
theorem dX10_find_72 : decode cX10_find 72 = .ok (.iload_n 2, 1) := by decide +kernel
theorem dX10_find_73 : decode cX10_find 73 = .ok (.aload_n 0, 1) := by decide +kernel
theorem dX10_find_74 : decode cX10_find 74 = .ok (.getfield 88, 3) := by decide +kernel
theorem dX10_find_77 : decode cX10_find 77 = .ok (.iload 4, 2) := by decide +kernel
theorem dX10_find_79 : decode cX10_find 79 = .ok (.iaload, 1) := by decide +kernel
theorem dX10_find_80 : decode cX10_find 80 = .ok (.bipush 97, 2) := by decide +kernel
theorem dX10_find_82 : decode cX10_find 82 = .ok (.isub, 1) := by decide +kernel
theorem dX10_find_83 : decode cX10_find 83 = .ok (.iastore, 1) := by decide +kernel
theorem dX10_find_84 : decode cX10_find 84 = .ok (.iinc 2 1, 3) := by decide +kernel
theorem dX10_find_87 : decode cX10_find 87 = .ok (.iinc 4 1, 3) := by decide +kernel
theorem dX10_find_90 : decode cX10_find 90 = .ok (.goto (-73), 3) := by decide +kernel
theorem dX10_find_93 : decode cX10_find 93 = .ok (.aload_n 0, 1) := by decide +kernel
theorem dX10_find_94 : decode cX10_find 94 = .ok (.iconst 0, 1) := by decide +kernel
theorem dX10_find_95 : decode cX10_find 95 = .ok (.putfield 330, 3) := by decide +kernel
theorem dX10_find_98 : decode cX10_find 98 = .ok (.iload_n 3, 1) := by decide +kernel
theorem dX10_find_99 : decode cX10_find 99 = .ok (.ifCond .eq 7, 3) := by decide +kernel
theorem dX10_find_102 : decode cX10_find 102 = .ok (.iload_n 2, 1) := by decide +kernel
theorem dX10_find_103 : decode cX10_find 103 = .ok (.ifCond .ne 6, 3) := by decide +kernel
theorem dX10_find_106 : decode cX10_find 106 = .ok (.bipush (-2), 2) := by decide +kernel
theorem dX10_find_108 : decode cX10_find 108 = .ok (.ireturn, 1) := by decide +kernel
theorem dX10_find_109 : decode cX10_find 109 = .ok (.iload_n 1, 1) := by decide +kernel
theorem dX10_find_110 : decode cX10_find 110 = .ok (.istore 4, 2) := by decide +kernel
theorem dX10_find_112 : decode cX10_find 112 = .ok (.iload 4, 2) := by decide +kernel
theorem dX10_find_114 : decode cX10_find 114 = .ok (.iload_n 2, 1) := by decide +kernel
theorem dX10_find_115 : decode cX10_find 115 = .ok (.iadd, 1) := by decide +kernel
theorem dX10_find_116 : decode cX10_find 116 = .ok (.aload_n 0, 1) := by decide +kernel
theorem dX10_find_117 : decode cX10_find 117 = .ok (.invokevirtual 132, 3) := by decide +kernel
theorem dX10_find_120 : decode cX10_find 120 = .ok (.if_icmp .gt 66, 3) := by decide +kernel
theorem dX10_find_123 : decode cX10_find 123 = .ok (.iconst 1, 1) := by decide +kernel
theorem dX10_find_124 : decode cX10_find 124 = .ok (.istore 5, 2) := by decide +kernel
theorem dX10_find_126 : decode cX10_find 126 = .ok (.iconst 0, 1) := by decide +kernel
theorem dX10_find_127 : decode cX10_find 127 = .ok (.istore 6, 2) := by decide +kernel
theorem dX10_find_129 : decode cX10_find 129 = .ok (.iload 6, 2) := by decide +kernel
theorem dX10_find_131 : decode cX10_find 131 = .ok (.iload_n 2, 1) := by decide +kernel
theorem dX10_find_132 : decode cX10_find 132 = .ok (.if_icmp .ge 40, 3) := by decide +kernel
theorem dX10_find_135 : decode cX10_find 135 = .ok (.iload 5, 2) := by decide +kernel
theorem dX10_find_137 : decode cX10_find 137 = .ok (.ifCond .eq 35, 3) := by decide +kernel
theorem dX10_find_140 : decode cX10_find 140 = .ok (.aload_n 0, 1) := by decide +kernel
theorem dX10_find_141 : decode cX10_find 141 = .ok (.iload 4, 2) := by decide +kernel
theorem dX10_find_143 : decode cX10_find 143 = .ok (.iload 6, 2) := by decide +kernel
theorem dX10_find_145 : decode cX10_find 145 = .ok (.iadd, 1) := by decide +kernel
theorem dX10_find_146 : decode cX10_find 146 = .ok (.invokevirtual 144, 3) := by decide +kernel
theorem dX10_find_149 : decode cX10_find 149 = .ok (.aload_n 0, 1) := by decide +kernel
theorem dX10_find_150 : decode cX10_find 150 = .ok (.getfield 122, 3) := by decide +kernel
theorem dX10_find_153 : decode cX10_find 153 = .ok (.iload 6, 2) := by decide +kernel
theorem dX10_find_155 : decode cX10_find 155 = .ok (.iaload, 1) := by decide +kernel
theorem dX10_find_156 : decode cX10_find 156 = .ok (.if_icmp .ne 7, 3) := by decide +kernel
theorem dX10_find_159 : decode cX10_find 159 = .ok (.iconst 1, 1) := by decide +kernel
theorem dX10_find_160 : decode cX10_find 160 = .ok (.goto 4, 3) := by decide +kernel
theorem dX10_find_163 : decode cX10_find 163 = .ok (.iconst 0, 1) := by decide +kernel
theorem dX10_find_164 : decode cX10_find 164 = .ok (.istore 5, 2) := by decide +kernel
theorem dX10_find_166 : decode cX10_find 166 = .ok (.iinc 6 1, 3) := by decide +kernel
theorem dX10_find_169 : decode cX10_find 169 = .ok (.goto (-40), 3) := by decide +kernel
theorem dX10_find_172 : decode cX10_find 172 = .ok (.iload 5, 2) := by decide +kernel
theorem dX10_find_174 : decode cX10_find 174 = .ok (.ifCond .eq 6, 3) := by decide +kernel
theorem dX10_find_177 : decode cX10_find 177 = .ok (.iload 4, 2) := by decide +kernel
theorem dX10_find_179 : decode cX10_find 179 = .ok (.ireturn, 1) := by decide +kernel
theorem dX10_find_180 : decode cX10_find 180 = .ok (.iinc 4 1, 3) := by decide +kernel
theorem dX10_find_183 : decode cX10_find 183 = .ok (.goto (-71), 3) := by decide +kernel
theorem dX10_find_186 : decode cX10_find 186 = .ok (.bipush (-2), 2) := by decide +kernel
theorem dX10_find_188 : decode cX10_find 188 = .ok (.ireturn, 1) := by decide +kernel
theorem ok_X10_find : okY RX10 yX10_find 1 := ⟨rfl, by decide, by decide, by decide +kernel⟩
def j_X10_find_87_14 (v4_9 : Int32) (v2_11 : Int32) (v3_12 : Int32) (M_13 : OV) : Option ((Int32 × Int32 × Int32 × OV) ⊕ (Int32 × Int32 × OV)) := bnd (v4_9 + 1) (fun v4_15 => some (.inl (v2_11, v3_12, v4_15, M_13)))
def j_X10_find_67_17 (M_10 : OV) (v2_7 : Int32) (v4_9 : Int32) (t_16 : Int32) : Option ((Int32 × Int32 × Int32 × OV) ⊕ (Int32 × Int32 × OV)) := bnd t_16 (fun v3_18 => gd (ix v4_9 500) (gd (ix v2_7 500) (bnd (sA M_10 54 v2_7.toNatClampNeg ((ar M_10 35 v4_9.toNatClampNeg) - (97 : Int32))) (fun M_19 => bnd (v2_7 + 1) (fun v2_20 => j_X10_find_87_14 v4_9 v2_20 v3_18 M_19)))))
def j_X10_find_66_21 (M_10 : OV) (v2_7 : Int32) (v4_9 : Int32) : Option ((Int32 × Int32 × Int32 × OV) ⊕ (Int32 × Int32 × OV)) := j_X10_find_67_17 M_10 v2_7 v4_9 (0 : Int32)
def s_X10_find_17_6 : (Int32 × Int32 × Int32 × OV) → Option ((Int32 × Int32 × Int32 × OV) ⊕ (Int32 × Int32 × OV)) := un4 (fun v2_7 v3_8 v4_9 M_10 => (if (iv M_10 36) ≤ v4_9 then some (.inr (v2_7, v3_8, M_10)) else gd (ix v4_9 500) ((if (ar M_10 35 v4_9.toNatClampNeg) = (32 : Int32) then j_X10_find_87_14 v4_9 v2_7 v3_8 M_10 else (if v3_8 = 0 then j_X10_find_66_21 M_10 v2_7 v4_9 else gd (ix v4_9 500) ((f_X10_in (ar M_10 35 v4_9.toNatClampNeg) (97 : Int32) (122 : Int32)).bind (un1 (fun r_22 => (if r_22 = 0 then j_X10_find_66_21 M_10 v2_7 v4_9 else j_X10_find_67_17 M_10 v2_7 v4_9 (1 : Int32))))))))))
def j_X10_find_164_41 (v6_37 : Int32) (t_40 : Int32) : Option ((Int32 × Int32) ⊕ (Int32)) := bnd t_40 (fun v5_42 => bnd (v6_37 + 1) (fun v6_43 => some (.inl (v5_42, v6_43))))
def s_X10_find_129_35 (M_27 : OV) (v2_24 : Int32) (v4_30 : Int32) : (Int32 × Int32) → Option ((Int32 × Int32) ⊕ (Int32)) := un2 (fun v5_36 v6_37 => (if v2_24 ≤ v6_37 then some (.inr v5_36) else (if v5_36 = 0 then some (.inr v5_36) else (f_X10_classOf M_27 (v4_30 + v6_37)).bind (un1 (fun r_38 => gd (ix v6_37 500) ((if r_38 = (ar M_27 54 v6_37.toNatClampNeg) then j_X10_find_164_41 v6_37 (1 : Int32) else j_X10_find_164_41 v6_37 (0 : Int32))))))))
def s_X10_find_112_29 (M_27 : OV) (v2_24 : Int32) : (Int32) → Option ((Int32) ⊕ ((Unit) ⊕ (Int32 × OV))) := un1 (fun v4_30 => (f_X10_many M_27).bind (un1 (fun r_31 => (if r_31 < (v4_30 + v2_24) then some (.inr (.inl ())) else bnd (1 : Int32) (fun v5_33 => bnd (0 : Int32) (fun v6_34 => ((lp (s_X10_find_129_35 M_27 v2_24 v4_30) 5000 (v5_33, v6_34)).bind (un1 (fun v5_44 => (if v5_44 = 0 then bnd (v4_30 + 1) (fun v4_45 => some (.inl v4_45)) else some (.inr (.inr (v4_30, M_27)))))))))))))
def f_X10_find (M : OV) (p0 : Int32) : Option (Int32 × OV) := (f_X10_isSign M p0).bind (un1 (fun r_1 => (if r_1 = 0 then some ((-1 : Int32), M) else bnd (0 : Int32) (fun v2_3 => bnd (1 : Int32) (fun v3_4 => bnd (0 : Int32) (fun v4_5 => ((lp (s_X10_find_17_6) 5000 (v2_3, v3_4, v4_5, M)).bind (un3 (fun v2_24 v3_25 M_26 => bnd (sI M_26 36 (0 : Int32)) (fun M_27 => (if v3_25 = 0 then some ((-2 : Int32), M_27) else (if v2_24 = 0 then some ((-2 : Int32), M_27) else bnd p0 (fun v4_28 => ((lp (s_X10_find_112_29 M_27 v2_24) 5000 v4_28).bind (Sum.elim (un1 (fun (_u : Unit) => some ((-2 : Int32), M_27))) (fun r => some r))))))))))))))))
def r_X10_find : Room := { frames := 2, cells := 0, slots := 0, locals := 43 }
set_option maxHeartbeats 4000000 in
set_option maxRecDepth 100000 in
theorem c_X10_find (l : Launch) (D : va_G) (ev : EvT) (cy : Nat → ClassId) (oM : Nat) (aM : Nat → Nat) (M : OV) (p0 : Int32) (o : Int32 × OV) (hf : f_X10_find M p0 = some o) : Fn l yX10_find cX10_find 7 (some .int) r_X10_find D ev cy [.ref oM, .int p0] [gX10 cy oM aM M] (fun v G => v = some (.int o.1) ∧ G = [gX10 cy oM aM o.2]) := by
  refine Fn_of (by decide) (Nat.le_of_ble_eq_true rfl) (fun X A Q h hQ _ => ?_)
  unfold f_X10_find at hf
  show ww X D A 7 Q 0 0 0 [(0, .ref oM), (1, .int p0)] [] [gX10 cy oM aM M]
  refine ww_aload_n h dX10_find_0 rfl 0 rfl 1 rfl ?_
  refine ww_iload_n h dX10_find_1 rfl 1 rfl 2 rfl ?_
  obtain ⟨r_1, hu2, hf⟩ := ob1 hf
  refine ww_cVi h (c_X10_isSign l D ev cy oM aM M p0 _ hu2) ⟨w_1357, w_1354, w_1356, w_42, w_111, ok_X10_isSign⟩ ⟨by decide, by decide⟩ ⟨by decide, by decide⟩ ⟨rfl, rfl⟩ [0] rfl 0 rfl rfl rfl rfl (Nat.le_of_ble_eq_true rfl) dX10_find_2 5 rfl (Gs' := [gX10 cy oM aM M]) rfl ?_
  clear hu2
  refine ww_if_ne h dX10_find_5 10 (by decide) 8 rfl (fun c => ?_) (fun c => ?_)
  · replace hf := ite_f c hf
    refine ww_iconst (v := 0) h dX10_find_10 (by decide) 11 rfl ?_
    refine ww_ist_n h dX10_find_11 rfl (by decide) (fun v2_3 => [(2, .int v2_3), (0, .ref oM), (1, .int p0)]) (fun _ => rfl) 12 rfl (fun v2_3 e => ?_)
    replace hf := bnd_at e hf
    clear e
    refine ww_iconst (v := 1) h dX10_find_12 (by decide) 13 rfl ?_
    refine ww_ist_n h dX10_find_13 rfl (by decide) (fun v3_4 => [(3, .int v3_4), (2, .int v2_3), (0, .ref oM), (1, .int p0)]) (fun _ => rfl) 14 rfl (fun v3_4 e => ?_)
    replace hf := bnd_at e hf
    clear e
    refine ww_iconst (v := 0) h dX10_find_14 (by decide) 15 rfl ?_
    refine ww_ist h dX10_find_15 (by decide) (fun v4_5 => [(4, .int v4_5), (3, .int v3_4), (2, .int v2_3), (0, .ref oM), (1, .int p0)]) (fun _ => rfl) 17 rfl (fun v4_5 e => ?_)
    replace hf := bnd_at e hf
    clear e
    refine ww_lo [3, 4, 2, 1, 0] (lo' := [(0, .ref oM), (1, .int p0), (2, .int v2_3), (3, .int v3_4), (4, .int v4_5)]) rfl ?_
    obtain ⟨v2_24, v3_25, M_26, h6, hf⟩ := ob3 hf
    refine lp_walk (un4 (fun v2_7 v3_8 v4_9 M_10 => ww X D A 7 Q 0 0 17 [(0, .ref oM), (1, .int p0), (2, .int v2_7), (3, .int v3_8), (4, .int v4_9)] [] [gX10 cy oM aM M_10])) (un3 (fun v2_24 v3_25 M_26 => ww X D A 7 Q 0 0 93 [(0, .ref oM), (1, .int p0), (2, .int v2_24), (3, .int v3_25)] [] [gX10 cy oM aM M_26])) ?_ _ _ _ h6 ?_
    · clear h6 hf
      intro s6 o6 hf hI6 hE6
      obtain ⟨v2_7, v3_8, v4_9, M_10⟩ := s6
      unfold s_X10_find_17_6 at hf
      replace hf := un4_e hf
      show ww X D A 7 Q 0 0 17 [(0, .ref oM), (1, .int p0), (2, .int v2_7), (3, .int v3_8), (4, .int v4_9)] [] [gX10 cy oM aM M_10]
      refine ww_iload h dX10_find_17 4 rfl 19 rfl ?_
      refine ww_aload_n h dX10_find_19 rfl 0 rfl 20 rfl ?_
      refine ww_get h inG10 rfl 0 rfl rfl 36 (by decide) w_1193 rfl dX10_find_20 23 rfl ?_
      refine ww_icmp_ge h dX10_find_23 93 (by decide) 26 rfl (fun c => ?_) (fun c => ?_)
      · replace hf := ite_t c hf
        refine ww_lo [0, 1, 2, 3] (lo' := [(0, .ref oM), (1, .int p0), (2, .int v2_7), (3, .int v3_8)]) rfl ?_
        exact hE6 (v2_7, v3_8, M_10) (Option.some.inj hf).symm
      · replace hf := ite_f c hf
        refine ww_aload_n h dX10_find_26 rfl 0 rfl 27 rfl ?_
        refine ww_get h inG10 rfl 0 rfl rfl 35 (by decide) w_1192 rfl dX10_find_27 30 rfl ?_
        refine ww_iload h dX10_find_30 4 rfl 32 rfl ?_
        have hi := (gd_some hf).1
        replace hf := (gd_some hf).2
        refine ww_iald h 0 rfl 25 rfl (ix_in hi) dX10_find_32 33 rfl ?_
        clear hi
        refine ww_bipush (v := 32) h dX10_find_33 (by decide) 35 rfl ?_
        have hJ87_14 : ∀ (v2_11 : Int32) (v3_12 : Int32) (M_13 : OV), j_X10_find_87_14 v4_9 v2_11 v3_12 M_13 = some o6 → ww X D A 7 Q 0 0 87 [(0, .ref oM), (1, .int p0), (2, .int v2_11), (3, .int v3_12), (4, .int v4_9)] [] [gX10 cy oM aM M_13] := by
          intro v2_11 v3_12 M_13 hf
          unfold j_X10_find_87_14 at hf
          refine ww_inc (c := 1) h dX10_find_87 4 rfl (by decide) (by decide) (fun v4_15 => [(4, .int v4_15), (0, .ref oM), (1, .int p0), (2, .int v2_11), (3, .int v3_12)]) (fun _ => rfl) 90 rfl (fun v4_15 e => ?_)
          replace hf := bnd_at e hf
          clear e
          refine ww_goto h dX10_find_90 17 (by decide) ?_
          refine ww_lo [1, 2, 3, 4, 0] (lo' := [(0, .ref oM), (1, .int p0), (2, .int v2_11), (3, .int v3_12), (4, .int v4_15)]) rfl ?_
          exact hI6 (v2_11, v3_12, v4_15, M_13) (Option.some.inj hf).symm
        refine ww_icmp_ne h dX10_find_35 41 (by decide) 38 rfl (fun c => ?_) (fun c => ?_)
        · replace hf := ite_f c hf
          refine ww_iload_n h dX10_find_41 rfl 3 rfl 42 rfl ?_
          have hJ67_17 : ∀ (t_16 : Int32), j_X10_find_67_17 M_10 v2_7 v4_9 t_16 = some o6 → ww X D A 7 Q 0 0 67 [(0, .ref oM), (1, .int p0), (2, .int v2_7), (4, .int v4_9)] [.int t_16] [gX10 cy oM aM M_10] := by
            intro t_16 hf
            unfold j_X10_find_67_17 at hf
            refine ww_ist_n h dX10_find_67 rfl (by decide) (fun v3_18 => [(3, .int v3_18), (0, .ref oM), (1, .int p0), (2, .int v2_7), (4, .int v4_9)]) (fun _ => rfl) 68 rfl (fun v3_18 e => ?_)
            replace hf := bnd_at e hf
            clear e
            refine ww_aload_n h dX10_find_68 rfl 1 rfl 69 rfl ?_
            refine ww_get h inG10 rfl 0 rfl rfl 54 (by decide) w_1211 rfl dX10_find_69 72 rfl ?_
            refine ww_iload_n h dX10_find_72 rfl 3 rfl 73 rfl ?_
            refine ww_aload_n h dX10_find_73 rfl 1 rfl 74 rfl ?_
            refine ww_get h inG10 rfl 0 rfl rfl 35 (by decide) w_1192 rfl dX10_find_74 77 rfl ?_
            refine ww_iload h dX10_find_77 4 rfl 79 rfl ?_
            have hi := (gd_some hf).1
            replace hf := (gd_some hf).2
            refine ww_iald h 0 rfl 25 rfl (ix_in hi) dX10_find_79 80 rfl ?_
            clear hi
            refine ww_bipush (v := 97) h dX10_find_80 (by decide) 82 rfl ?_
            refine ww_isub h dX10_find_82 83 rfl ?_
            have hi := (gd_some hf).1
            replace hf := (gd_some hf).2
            refine ww_iast h 0 rfl 36 rfl (ix_in hi) dX10_find_83 84 rfl ?_
            clear hi
            refine ww_nm (fun z => [gX10 cy oM aM z]) (sA M_10 54 v2_7.toNatClampNeg ((ar M_10 35 v4_9.toNatClampNeg) - (97 : Int32))) (fun M_19 e => ?_)
            replace hf := bnd_at e hf
            clear e
            refine ww_inc (c := 1) h dX10_find_84 3 rfl (by decide) (by decide) (fun v2_20 => [(2, .int v2_20), (3, .int v3_18), (0, .ref oM), (1, .int p0), (4, .int v4_9)]) (fun _ => rfl) 87 rfl (fun v2_20 e => ?_)
            replace hf := bnd_at e hf
            clear e
            refine ww_lo [2, 3, 0, 1, 4] (lo' := [(0, .ref oM), (1, .int p0), (2, .int v2_20), (3, .int v3_18), (4, .int v4_9)]) rfl ?_
            exact hJ87_14 v2_20 v3_18 M_19 hf
          have hJ66_21 : ∀ (_ : Unit), j_X10_find_66_21 M_10 v2_7 v4_9 = some o6 → ww X D A 7 Q 0 0 66 [(0, .ref oM), (1, .int p0), (2, .int v2_7), (4, .int v4_9)] [] [gX10 cy oM aM M_10] := by
            intro _ hf
            unfold j_X10_find_66_21 at hf
            refine ww_iconst (v := 0) h dX10_find_66 (by decide) 67 rfl ?_
            exact hJ67_17 (0 : Int32) hf
          refine ww_if_eq h dX10_find_42 66 (by decide) 45 rfl (fun c => ?_) (fun c => ?_)
          · replace hf := ite_t c hf
            refine ww_lo [0, 1, 2, 4] (lo' := [(0, .ref oM), (1, .int p0), (2, .int v2_7), (4, .int v4_9)]) rfl ?_
            exact hJ66_21 () hf
          · replace hf := ite_f c hf
            refine ww_aload_n h dX10_find_45 rfl 0 rfl 46 rfl ?_
            refine ww_get h inG10 rfl 0 rfl rfl 35 (by decide) w_1192 rfl dX10_find_46 49 rfl ?_
            refine ww_iload h dX10_find_49 4 rfl 51 rfl ?_
            have hi := (gd_some hf).1
            replace hf := (gd_some hf).2
            refine ww_iald h 0 rfl 25 rfl (ix_in hi) dX10_find_51 52 rfl ?_
            clear hi
            refine ww_bipush (v := 97) h dX10_find_52 (by decide) 54 rfl ?_
            refine ww_bipush (v := 122) h dX10_find_54 (by decide) 56 rfl ?_
            obtain ⟨r_22, hu23, hf⟩ := ob1 hf
            refine ww_cSi h (c_X10_in l D ev cy (ar M_10 35 v4_9.toNatClampNeg) (97 : Int32) (122 : Int32) _ hu23) ⟨w_1333, w_1331, w_1332, w_111, ok_X10_in⟩ ⟨by decide, by decide⟩ ⟨by decide, by decide⟩ ⟨rfl, rfl⟩ [] rfl rfl (Nat.le_of_ble_eq_true rfl) dX10_find_56 59 rfl (Gs' := [gX10 cy oM aM M_10]) rfl ?_
            clear hu23
            refine ww_if_eq h dX10_find_59 66 (by decide) 62 rfl (fun c => ?_) (fun c => ?_)
            · replace hf := ite_t c hf
              refine ww_lo [0, 1, 2, 4] (lo' := [(0, .ref oM), (1, .int p0), (2, .int v2_7), (4, .int v4_9)]) rfl ?_
              exact hJ66_21 () hf
            · replace hf := ite_f c hf
              refine ww_iconst (v := 1) h dX10_find_62 (by decide) 63 rfl ?_
              refine ww_goto h dX10_find_63 67 (by decide) ?_
              refine ww_lo [0, 1, 2, 4] (lo' := [(0, .ref oM), (1, .int p0), (2, .int v2_7), (4, .int v4_9)]) rfl ?_
              exact hJ67_17 (1 : Int32) hf
        · replace hf := ite_t c hf
          refine ww_goto h dX10_find_38 87 (by decide) ?_
          exact hJ87_14 v2_7 v3_8 M_10 hf
    · clear h6
      show ww X D A 7 Q 0 0 93 [(0, .ref oM), (1, .int p0), (2, .int v2_24), (3, .int v3_25)] [] [gX10 cy oM aM M_26]
      refine ww_aload_n h dX10_find_93 rfl 0 rfl 94 rfl ?_
      refine ww_iconst (v := 0) h dX10_find_94 (by decide) 95 rfl ?_
      refine ww_put (ty := .int) h inG10 tyX10_ok nmX10 rfl 0 rfl rfl 36 (by decide) w_1193 rfl (by decide +kernel) rfl rfl (Nat.le_of_ble_eq_true rfl) (Nat.le_of_ble_eq_true rfl) dX10_find_95 98 rfl ?_
      refine ww_nm (fun z => [gX10 cy oM aM z]) (sI M_26 36 (0 : Int32)) (fun M_27 e => ?_)
      replace hf := bnd_at e hf
      clear e
      refine ww_iload_n h dX10_find_98 rfl 3 rfl 99 rfl ?_
      refine ww_if_eq h dX10_find_99 106 (by decide) 102 rfl (fun c => ?_) (fun c => ?_)
      · replace hf := ite_t c hf
        refine ww_bipush (v := (-2)) h dX10_find_106 (by decide) 108 rfl ?_
        obtain rfl := Option.some.inj hf
        exact ww_iret h dX10_find_108 hQ ⟨rfl, rfl⟩
      · replace hf := ite_f c hf
        refine ww_iload_n h dX10_find_102 rfl 2 rfl 103 rfl ?_
        refine ww_if_ne h dX10_find_103 109 (by decide) 106 rfl (fun c => ?_) (fun c => ?_)
        · replace hf := ite_f c hf
          refine ww_iload_n h dX10_find_109 rfl 1 rfl 110 rfl ?_
          refine ww_ist h dX10_find_110 (by decide) (fun v4_28 => [(4, .int v4_28), (0, .ref oM), (1, .int p0), (2, .int v2_24), (3, .int v3_25)]) (fun _ => rfl) 112 rfl (fun v4_28 e => ?_)
          replace hf := bnd_at e hf
          clear e
          refine ww_lo [1, 3, 0] (lo' := [(0, .ref oM), (2, .int v2_24), (4, .int v4_28)]) rfl ?_
          obtain ⟨x29, h29, hf⟩ := ob_some hf
          refine lp_walk (un1 (fun v4_30 => ww X D A 7 Q 0 0 112 [(0, .ref oM), (2, .int v2_24), (4, .int v4_30)] [] [gX10 cy oM aM M_27])) (Sum.elim (un1 (fun (_u : Unit) => ww X D A 7 Q 0 0 186 [] [] [gX10 cy oM aM M_27])) (fun r => r = o)) ?_ _ _ _ h29 ?_
          · clear h29 hf
            intro s29 o29 hf hI29 hE29
            obtain ⟨v4_30, rfl⟩ : ∃ z, z = s29 := ⟨_, rfl⟩
            unfold s_X10_find_112_29 at hf
            replace hf := un1_e hf
            show ww X D A 7 Q 0 0 112 [(0, .ref oM), (2, .int v2_24), (4, .int v4_30)] [] [gX10 cy oM aM M_27]
            refine ww_iload h dX10_find_112 2 rfl 114 rfl ?_
            refine ww_iload_n h dX10_find_114 rfl 1 rfl 115 rfl ?_
            refine ww_iadd h dX10_find_115 116 rfl ?_
            refine ww_aload_n h dX10_find_116 rfl 0 rfl 117 rfl ?_
            obtain ⟨r_31, hu32, hf⟩ := ob1 hf
            refine ww_cVi h (c_X10_many l D ev cy oM aM M_27 _ hu32) ⟨w_1330, w_1327, w_1329, w_37, w_111, ok_X10_many⟩ ⟨by decide, by decide⟩ ⟨by decide, by decide⟩ ⟨rfl, rfl⟩ [0] rfl 0 rfl rfl rfl rfl (Nat.le_of_ble_eq_true rfl) dX10_find_117 120 rfl (Gs' := [gX10 cy oM aM M_27]) rfl ?_
            clear hu32
            refine ww_icmp_gt h dX10_find_120 186 (by decide) 123 rfl (fun c => ?_) (fun c => ?_)
            · replace hf := ite_t c hf
              refine ww_lo [] (lo' := []) rfl ?_
              exact hE29 (.inl ()) (Option.some.inj hf).symm
            · replace hf := ite_f c hf
              refine ww_iconst (v := 1) h dX10_find_123 (by decide) 124 rfl ?_
              refine ww_ist h dX10_find_124 (by decide) (fun v5_33 => [(5, .int v5_33), (0, .ref oM), (2, .int v2_24), (4, .int v4_30)]) (fun _ => rfl) 126 rfl (fun v5_33 e => ?_)
              replace hf := bnd_at e hf
              clear e
              refine ww_iconst (v := 0) h dX10_find_126 (by decide) 127 rfl ?_
              refine ww_ist h dX10_find_127 (by decide) (fun v6_34 => [(6, .int v6_34), (5, .int v5_33), (0, .ref oM), (2, .int v2_24), (4, .int v4_30)]) (fun _ => rfl) 129 rfl (fun v6_34 e => ?_)
              replace hf := bnd_at e hf
              clear e
              refine ww_lo [2, 3, 4, 1, 0] (lo' := [(0, .ref oM), (2, .int v2_24), (4, .int v4_30), (5, .int v5_33), (6, .int v6_34)]) rfl ?_
              obtain ⟨v5_44, h35, hf⟩ := ob1 hf
              refine lp_walk (un2 (fun v5_36 v6_37 => ww X D A 7 Q 0 0 129 [(0, .ref oM), (2, .int v2_24), (4, .int v4_30), (5, .int v5_36), (6, .int v6_37)] [] [gX10 cy oM aM M_27])) (un1 (fun v5_44 => ww X D A 7 Q 0 0 172 [(0, .ref oM), (2, .int v2_24), (4, .int v4_30), (5, .int v5_44)] [] [gX10 cy oM aM M_27])) ?_ _ _ _ h35 ?_
              · clear h35 hf
                intro s35 o35 hf hI35 hE35
                obtain ⟨v5_36, v6_37⟩ := s35
                unfold s_X10_find_129_35 at hf
                replace hf := un2_e hf
                show ww X D A 7 Q 0 0 129 [(0, .ref oM), (2, .int v2_24), (4, .int v4_30), (5, .int v5_36), (6, .int v6_37)] [] [gX10 cy oM aM M_27]
                refine ww_iload h dX10_find_129 4 rfl 131 rfl ?_
                refine ww_iload_n h dX10_find_131 rfl 1 rfl 132 rfl ?_
                refine ww_icmp_ge h dX10_find_132 172 (by decide) 135 rfl (fun c => ?_) (fun c => ?_)
                · replace hf := ite_t c hf
                  refine ww_lo [0, 1, 2, 3] (lo' := [(0, .ref oM), (2, .int v2_24), (4, .int v4_30), (5, .int v5_36)]) rfl ?_
                  exact hE35 v5_36 (Option.some.inj hf).symm
                · replace hf := ite_f c hf
                  refine ww_iload h dX10_find_135 3 rfl 137 rfl ?_
                  refine ww_if_eq h dX10_find_137 172 (by decide) 140 rfl (fun c => ?_) (fun c => ?_)
                  · replace hf := ite_t c hf
                    refine ww_lo [0, 1, 2, 3] (lo' := [(0, .ref oM), (2, .int v2_24), (4, .int v4_30), (5, .int v5_36)]) rfl ?_
                    exact hE35 v5_36 (Option.some.inj hf).symm
                  · replace hf := ite_f c hf
                    refine ww_aload_n h dX10_find_140 rfl 0 rfl 141 rfl ?_
                    refine ww_iload h dX10_find_141 2 rfl 143 rfl ?_
                    refine ww_iload h dX10_find_143 4 rfl 145 rfl ?_
                    refine ww_iadd h dX10_find_145 146 rfl ?_
                    obtain ⟨r_38, hu39, hf⟩ := ob1 hf
                    refine ww_cVi h (c_X10_classOf l D ev cy oM aM M_27 (v4_30 + v6_37) _ hu39) ⟨w_1369, w_1366, w_1368, w_44, w_111, ok_X10_classOf⟩ ⟨by decide, by decide⟩ ⟨by decide, by decide⟩ ⟨rfl, rfl⟩ [0] rfl 0 rfl rfl rfl rfl (Nat.le_of_ble_eq_true rfl) dX10_find_146 149 rfl (Gs' := [gX10 cy oM aM M_27]) rfl ?_
                    clear hu39
                    refine ww_aload_n h dX10_find_149 rfl 0 rfl 150 rfl ?_
                    refine ww_get h inG10 rfl 0 rfl rfl 54 (by decide) w_1211 rfl dX10_find_150 153 rfl ?_
                    refine ww_iload h dX10_find_153 4 rfl 155 rfl ?_
                    have hi := (gd_some hf).1
                    replace hf := (gd_some hf).2
                    refine ww_iald h 0 rfl 36 rfl (ix_in hi) dX10_find_155 156 rfl ?_
                    clear hi
                    have hJ164_41 : ∀ (t_40 : Int32), j_X10_find_164_41 v6_37 t_40 = some o35 → ww X D A 7 Q 0 0 164 [(0, .ref oM), (2, .int v2_24), (4, .int v4_30), (6, .int v6_37)] [.int t_40] [gX10 cy oM aM M_27] := by
                      intro t_40 hf
                      unfold j_X10_find_164_41 at hf
                      refine ww_ist h dX10_find_164 (by decide) (fun v5_42 => [(5, .int v5_42), (0, .ref oM), (2, .int v2_24), (4, .int v4_30), (6, .int v6_37)]) (fun _ => rfl) 166 rfl (fun v5_42 e => ?_)
                      replace hf := bnd_at e hf
                      clear e
                      refine ww_inc (c := 1) h dX10_find_166 4 rfl (by decide) (by decide) (fun v6_43 => [(6, .int v6_43), (5, .int v5_42), (0, .ref oM), (2, .int v2_24), (4, .int v4_30)]) (fun _ => rfl) 169 rfl (fun v6_43 e => ?_)
                      replace hf := bnd_at e hf
                      clear e
                      refine ww_goto h dX10_find_169 129 (by decide) ?_
                      refine ww_lo [2, 3, 4, 1, 0] (lo' := [(0, .ref oM), (2, .int v2_24), (4, .int v4_30), (5, .int v5_42), (6, .int v6_43)]) rfl ?_
                      exact hI35 (v5_42, v6_43) (Option.some.inj hf).symm
                    refine ww_icmp_ne h dX10_find_156 163 (by decide) 159 rfl (fun c => ?_) (fun c => ?_)
                    · replace hf := ite_f c hf
                      refine ww_iconst (v := 0) h dX10_find_163 (by decide) 164 rfl ?_
                      refine ww_lo [0, 1, 2, 4] (lo' := [(0, .ref oM), (2, .int v2_24), (4, .int v4_30), (6, .int v6_37)]) rfl ?_
                      exact hJ164_41 (0 : Int32) hf
                    · replace hf := ite_t c hf
                      refine ww_iconst (v := 1) h dX10_find_159 (by decide) 160 rfl ?_
                      refine ww_goto h dX10_find_160 164 (by decide) ?_
                      refine ww_lo [0, 1, 2, 4] (lo' := [(0, .ref oM), (2, .int v2_24), (4, .int v4_30), (6, .int v6_37)]) rfl ?_
                      exact hJ164_41 (1 : Int32) hf
              · clear h35
                show ww X D A 7 Q 0 0 172 [(0, .ref oM), (2, .int v2_24), (4, .int v4_30), (5, .int v5_44)] [] [gX10 cy oM aM M_27]
                refine ww_iload h dX10_find_172 3 rfl 174 rfl ?_
                refine ww_if_eq h dX10_find_174 180 (by decide) 177 rfl (fun c => ?_) (fun c => ?_)
                · replace hf := ite_t c hf
                  refine ww_inc (c := 1) h dX10_find_180 2 rfl (by decide) (by decide) (fun v4_45 => [(4, .int v4_45), (0, .ref oM), (2, .int v2_24), (5, .int v5_44)]) (fun _ => rfl) 183 rfl (fun v4_45 e => ?_)
                  replace hf := bnd_at e hf
                  clear e
                  refine ww_goto h dX10_find_183 112 (by decide) ?_
                  refine ww_lo [1, 2, 0] (lo' := [(0, .ref oM), (2, .int v2_24), (4, .int v4_45)]) rfl ?_
                  exact hI29 v4_45 (Option.some.inj hf).symm
                · replace hf := ite_f c hf
                  refine ww_iload h dX10_find_177 2 rfl 179 rfl ?_
                  obtain rfl := hE29 (.inr (v4_30, M_27)) (Option.some.inj hf).symm
                  exact ww_iret h dX10_find_179 hQ ⟨rfl, rfl⟩
          · clear h29
            rcases x29 with x29 | x29
            · replace hf := sel_l hf
              obtain ⟨_u, rfl⟩ : ∃ z, z = x29 := ⟨_, rfl⟩
              replace hf := un1_e hf
              show ww X D A 7 Q 0 0 186 [] [] [gX10 cy oM aM M_27]
              refine ww_bipush (v := (-2)) h dX10_find_186 (by decide) 188 rfl ?_
              obtain rfl := Option.some.inj hf
              exact ww_iret h dX10_find_188 hQ ⟨rfl, rfl⟩
            · replace hf := sel_r hf
              exact Option.some.inj hf
        · replace hf := ite_t c hf
          refine ww_bipush (v := (-2)) h dX10_find_106 (by decide) 108 rfl ?_
          obtain rfl := Option.some.inj hf
          exact ww_iret h dX10_find_108 hQ ⟨rfl, rfl⟩
  · replace hf := ite_t c hf
    refine ww_iconst (v := (-1)) h dX10_find_8 (by decide) 9 rfl ?_
    obtain rfl := Option.some.inj hf
    exact ww_iret h dX10_find_9 hQ ⟨rfl, rfl⟩
theorem dX10_moves_0 : decode cX10_moves 0 = .ok (.iload_n 2, 1) := by decide +kernel
theorem dX10_moves_1 : decode cX10_moves 1 = .ok (.ifCond .le 32, 3) := by decide +kernel
theorem dX10_moves_4 : decode cX10_moves 4 = .ok (.aload_n 0, 1) := by decide +kernel
theorem dX10_moves_5 : decode cX10_moves 5 = .ok (.invokevirtual 132, 3) := by decide +kernel
theorem dX10_moves_8 : decode cX10_moves 8 = .ok (.iconst 1, 1) := by decide +kernel
theorem dX10_moves_9 : decode cX10_moves 9 = .ok (.isub, 1) := by decide +kernel
theorem dX10_moves_10 : decode cX10_moves 10 = .ok (.istore_n 3, 1) := by decide +kernel
theorem dX10_moves_11 : decode cX10_moves 11 = .ok (.iload_n 3, 1) := by decide +kernel
theorem dX10_moves_12 : decode cX10_moves 12 = .ok (.iload_n 1, 1) := by decide +kernel
theorem dX10_moves_13 : decode cX10_moves 13 = .ok (.if_icmp .lt 17, 3) := by decide +kernel
theorem dX10_moves_16 : decode cX10_moves 16 = .ok (.aload_n 0, 1) := by decide +kernel
theorem dX10_moves_17 : decode cX10_moves 17 = .ok (.iload_n 3, 1) := by decide +kernel
theorem dX10_moves_18 : decode cX10_moves 18 = .ok (.iload_n 3, 1) := by decide +kernel
theorem dX10_moves_19 : decode cX10_moves 19 = .ok (.iload_n 2, 1) := by decide +kernel
theorem dX10_moves_20 : decode cX10_moves 20 = .ok (.iadd, 1) := by decide +kernel
theorem dX10_moves_21 : decode cX10_moves 21 = .ok (.invokevirtual 147, 3) := by decide +kernel
theorem dX10_moves_24 : decode cX10_moves 24 = .ok (.iinc 3 (-1), 3) := by decide +kernel
theorem dX10_moves_27 : decode cX10_moves 27 = .ok (.goto (-16), 3) := by decide +kernel
theorem dX10_moves_30 : decode cX10_moves 30 = .ok (.goto 27, 3) := by decide +kernel
theorem dX10_moves_33 : decode cX10_moves 33 = .ok (.iload_n 1, 1) := by decide +kernel
theorem dX10_moves_34 : decode cX10_moves 34 = .ok (.istore_n 3, 1) := by decide +kernel
theorem dX10_moves_35 : decode cX10_moves 35 = .ok (.iload_n 3, 1) := by decide +kernel
theorem dX10_moves_36 : decode cX10_moves 36 = .ok (.aload_n 0, 1) := by decide +kernel
theorem dX10_moves_37 : decode cX10_moves 37 = .ok (.invokevirtual 132, 3) := by decide +kernel
theorem dX10_moves_40 : decode cX10_moves 40 = .ok (.if_icmp .ge 17, 3) := by decide +kernel
theorem dX10_moves_43 : decode cX10_moves 43 = .ok (.aload_n 0, 1) := by decide +kernel
theorem dX10_moves_44 : decode cX10_moves 44 = .ok (.iload_n 3, 1) := by decide +kernel
theorem dX10_moves_45 : decode cX10_moves 45 = .ok (.iload_n 3, 1) := by decide +kernel
theorem dX10_moves_46 : decode cX10_moves 46 = .ok (.iload_n 2, 1) := by decide +kernel
theorem dX10_moves_47 : decode cX10_moves 47 = .ok (.iadd, 1) := by decide +kernel
theorem dX10_moves_48 : decode cX10_moves 48 = .ok (.invokevirtual 147, 3) := by decide +kernel
theorem dX10_moves_51 : decode cX10_moves 51 = .ok (.iinc 3 1, 3) := by decide +kernel
theorem dX10_moves_54 : decode cX10_moves 54 = .ok (.goto (-19), 3) := by decide +kernel
theorem dX10_moves_57 : decode cX10_moves 57 = .ok (.aload_n 0, 1) := by decide +kernel
theorem dX10_moves_58 : decode cX10_moves 58 = .ok (.getfield 36, 3) := by decide +kernel
theorem dX10_moves_61 : decode cX10_moves 61 = .ok (.iconst 0, 1) := by decide +kernel
theorem dX10_moves_62 : decode cX10_moves 62 = .ok (.dup2, 1) := by decide +kernel
theorem dX10_moves_63 : decode cX10_moves 63 = .ok (.iaload, 1) := by decide +kernel
theorem dX10_moves_64 : decode cX10_moves 64 = .ok (.iload_n 2, 1) := by decide +kernel
theorem dX10_moves_65 : decode cX10_moves 65 = .ok (.iadd, 1) := by decide +kernel
theorem dX10_moves_66 : decode cX10_moves 66 = .ok (.iastore, 1) := by decide +kernel
theorem dX10_moves_67 : decode cX10_moves 67 = .ok (.return_, 1) := by decide +kernel
theorem ok_X10_moves : okY RX10 yX10_moves 2 := ⟨rfl, by decide, by decide, by decide +kernel⟩
def j_X10_moves_57_2 (p1 : Int32) (M_1 : OV) : Option (OV) := gd (ix (0 : Int32) 113) (gd (ix (0 : Int32) 113) (bnd (sA M_1 8 (0 : Int32).toNatClampNeg ((ar M_1 8 (0 : Int32).toNatClampNeg) + p1)) (fun M_3 => some M_3)))
def s_X10_moves_35_5 (p1 : Int32) : (Int32 × OV) → Option ((Int32 × OV) ⊕ (OV)) := un2 (fun v3_6 M_7 => (f_X10_many M_7).bind (un1 (fun r_8 => (if r_8 ≤ v3_6 then some (.inr M_7) else (f_X10_copies M_7 v3_6 (v3_6 + p1)).bind (un1 (fun M_10 => bnd (v3_6 + 1) (fun v3_12 => some (.inl (v3_12, M_10)))))))))
def s_X10_moves_11_17 (p0 : Int32) (p1 : Int32) : (Int32 × OV) → Option ((Int32 × OV) ⊕ (OV)) := un2 (fun v3_18 M_19 => (if v3_18 < p0 then some (.inr M_19) else (f_X10_copies M_19 v3_18 (v3_18 + p1)).bind (un1 (fun M_20 => bnd (v3_18 + (-1)) (fun v3_22 => some (.inl (v3_22, M_20)))))))
def f_X10_moves (M : OV) (p0 : Int32) (p1 : Int32) : Option (OV) := (if p1 ≤ 0 then bnd p0 (fun v3_4 => ((lp (s_X10_moves_35_5 p1) 5000 (v3_4, M)).bind (un1 (fun M_13 => j_X10_moves_57_2 p1 M_13)))) else (f_X10_many M).bind (un1 (fun r_14 => bnd (r_14 - (1 : Int32)) (fun v3_16 => ((lp (s_X10_moves_11_17 p0 p1) 5000 (v3_16, M)).bind (un1 (fun M_23 => j_X10_moves_57_2 p1 M_23)))))))
def r_X10_moves : Room := { frames := 1, cells := 0, slots := 0, locals := 22 }
set_option maxHeartbeats 4000000 in
set_option maxRecDepth 100000 in
theorem c_X10_moves (l : Launch) (D : va_G) (ev : EvT) (cy : Nat → ClassId) (oM : Nat) (aM : Nat → Nat) (M : OV) (p0 : Int32) (p1 : Int32) (o : OV) (hf : f_X10_moves M p0 p1 = some o) : Fn l yX10_moves cX10_moves 4 none r_X10_moves D ev cy [.ref oM, .int p0, .int p1] [gX10 cy oM aM M] (fun v G => v = none ∧ G = [gX10 cy oM aM o]) := by
  refine Fn_of (by decide) (Nat.le_of_ble_eq_true rfl) (fun X A Q h hQ _ => ?_)
  unfold f_X10_moves at hf
  show ww X D A 4 Q 0 0 0 [(0, .ref oM), (1, .int p0), (2, .int p1)] [] [gX10 cy oM aM M]
  refine ww_iload_n h dX10_moves_0 rfl 2 rfl 1 rfl ?_
  have hJ57_2 : ∀ (M_1 : OV), j_X10_moves_57_2 p1 M_1 = some o → ww X D A 4 Q 0 0 57 [(0, .ref oM), (2, .int p1)] [] [gX10 cy oM aM M_1] := by
    intro M_1 hf
    unfold j_X10_moves_57_2 at hf
    refine ww_aload_n h dX10_moves_57 rfl 0 rfl 58 rfl ?_
    refine ww_get h inG10 rfl 0 rfl rfl 8 (by decide) w_1165 rfl dX10_moves_58 61 rfl ?_
    refine ww_iconst (v := 0) h dX10_moves_61 (by decide) 62 rfl ?_
    refine ww_dup2 h dX10_moves_62 rfl rfl 63 rfl ?_
    have hi := (gd_some hf).1
    replace hf := (gd_some hf).2
    refine ww_iald h 0 rfl 8 rfl (ix_in hi) dX10_moves_63 64 rfl ?_
    clear hi
    refine ww_iload_n h dX10_moves_64 rfl 1 rfl 65 rfl ?_
    refine ww_iadd h dX10_moves_65 66 rfl ?_
    have hi := (gd_some hf).1
    replace hf := (gd_some hf).2
    refine ww_iast h 0 rfl 8 rfl (ix_in hi) dX10_moves_66 67 rfl ?_
    clear hi
    refine ww_nm (fun z => [gX10 cy oM aM z]) (sA M_1 8 (0 : Int32).toNatClampNeg ((ar M_1 8 (0 : Int32).toNatClampNeg) + p1)) (fun M_3 e => ?_)
    replace hf := bnd_at e hf
    clear e
    obtain rfl := Option.some.inj hf
    exact ww_vret h dX10_moves_67 hQ ⟨rfl, rfl⟩
  refine ww_if_le h dX10_moves_1 33 (by decide) 4 rfl (fun c => ?_) (fun c => ?_)
  · replace hf := ite_t c hf
    refine ww_iload_n h dX10_moves_33 rfl 1 rfl 34 rfl ?_
    refine ww_ist_n h dX10_moves_34 rfl (by decide) (fun v3_4 => [(3, .int v3_4), (0, .ref oM), (1, .int p0), (2, .int p1)]) (fun _ => rfl) 35 rfl (fun v3_4 e => ?_)
    replace hf := bnd_at e hf
    clear e
    refine ww_lo [1, 3, 0] (lo' := [(0, .ref oM), (2, .int p1), (3, .int v3_4)]) rfl ?_
    obtain ⟨M_13, h5, hf⟩ := ob1 hf
    refine lp_walk (un2 (fun v3_6 M_7 => ww X D A 4 Q 0 0 35 [(0, .ref oM), (2, .int p1), (3, .int v3_6)] [] [gX10 cy oM aM M_7])) (un1 (fun M_13 => ww X D A 4 Q 0 0 57 [(0, .ref oM), (2, .int p1)] [] [gX10 cy oM aM M_13])) ?_ _ _ _ h5 ?_
    · clear h5 hf
      intro s5 o5 hf hI5 hE5
      obtain ⟨v3_6, M_7⟩ := s5
      unfold s_X10_moves_35_5 at hf
      replace hf := un2_e hf
      show ww X D A 4 Q 0 0 35 [(0, .ref oM), (2, .int p1), (3, .int v3_6)] [] [gX10 cy oM aM M_7]
      refine ww_iload_n h dX10_moves_35 rfl 2 rfl 36 rfl ?_
      refine ww_aload_n h dX10_moves_36 rfl 0 rfl 37 rfl ?_
      obtain ⟨r_8, hu9, hf⟩ := ob1 hf
      refine ww_cVi h (c_X10_many l D ev cy oM aM M_7 _ hu9) ⟨w_1330, w_1327, w_1329, w_37, w_111, ok_X10_many⟩ ⟨by decide, by decide⟩ ⟨by decide, by decide⟩ ⟨rfl, rfl⟩ [0] rfl 0 rfl rfl rfl rfl (Nat.le_of_ble_eq_true rfl) dX10_moves_37 40 rfl (Gs' := [gX10 cy oM aM M_7]) rfl ?_
      clear hu9
      refine ww_icmp_ge h dX10_moves_40 57 (by decide) 43 rfl (fun c => ?_) (fun c => ?_)
      · replace hf := ite_t c hf
        refine ww_lo [0, 1] (lo' := [(0, .ref oM), (2, .int p1)]) rfl ?_
        exact hE5 M_7 (Option.some.inj hf).symm
      · replace hf := ite_f c hf
        refine ww_aload_n h dX10_moves_43 rfl 0 rfl 44 rfl ?_
        refine ww_iload_n h dX10_moves_44 rfl 2 rfl 45 rfl ?_
        refine ww_iload_n h dX10_moves_45 rfl 2 rfl 46 rfl ?_
        refine ww_iload_n h dX10_moves_46 rfl 1 rfl 47 rfl ?_
        refine ww_iadd h dX10_moves_47 48 rfl ?_
        obtain ⟨M_10, hu11, hf⟩ := ob1 hf
        refine ww_cVv h (c_X10_copies l D ev cy oM aM M_7 v3_6 (v3_6 + p1) _ hu11) ⟨w_1349, w_1346, w_1348, w_41, w_111, ok_X10_copies⟩ ⟨by decide, by decide⟩ ⟨by decide, by decide⟩ ⟨rfl, rfl⟩ [0] rfl 0 rfl rfl rfl rfl (Nat.le_of_ble_eq_true rfl) dX10_moves_48 51 rfl (Gs' := [gX10 cy oM aM M_10]) rfl ?_
        clear hu11
        refine ww_inc (c := 1) h dX10_moves_51 2 rfl (by decide) (by decide) (fun v3_12 => [(3, .int v3_12), (0, .ref oM), (2, .int p1)]) (fun _ => rfl) 54 rfl (fun v3_12 e => ?_)
        replace hf := bnd_at e hf
        clear e
        refine ww_goto h dX10_moves_54 35 (by decide) ?_
        refine ww_lo [1, 2, 0] (lo' := [(0, .ref oM), (2, .int p1), (3, .int v3_12)]) rfl ?_
        exact hI5 (v3_12, M_10) (Option.some.inj hf).symm
    · clear h5
      show ww X D A 4 Q 0 0 57 [(0, .ref oM), (2, .int p1)] [] [gX10 cy oM aM M_13]
      exact hJ57_2 M_13 hf
  · replace hf := ite_f c hf
    refine ww_aload_n h dX10_moves_4 rfl 0 rfl 5 rfl ?_
    obtain ⟨r_14, hu15, hf⟩ := ob1 hf
    refine ww_cVi h (c_X10_many l D ev cy oM aM M _ hu15) ⟨w_1330, w_1327, w_1329, w_37, w_111, ok_X10_many⟩ ⟨by decide, by decide⟩ ⟨by decide, by decide⟩ ⟨rfl, rfl⟩ [0] rfl 0 rfl rfl rfl rfl (Nat.le_of_ble_eq_true rfl) dX10_moves_5 8 rfl (Gs' := [gX10 cy oM aM M]) rfl ?_
    clear hu15
    refine ww_iconst (v := 1) h dX10_moves_8 (by decide) 9 rfl ?_
    refine ww_isub h dX10_moves_9 10 rfl ?_
    refine ww_ist_n h dX10_moves_10 rfl (by decide) (fun v3_16 => [(3, .int v3_16), (0, .ref oM), (1, .int p0), (2, .int p1)]) (fun _ => rfl) 11 rfl (fun v3_16 e => ?_)
    replace hf := bnd_at e hf
    clear e
    refine ww_lo [1, 2, 3, 0] (lo' := [(0, .ref oM), (1, .int p0), (2, .int p1), (3, .int v3_16)]) rfl ?_
    obtain ⟨M_23, h17, hf⟩ := ob1 hf
    refine lp_walk (un2 (fun v3_18 M_19 => ww X D A 4 Q 0 0 11 [(0, .ref oM), (1, .int p0), (2, .int p1), (3, .int v3_18)] [] [gX10 cy oM aM M_19])) (un1 (fun M_23 => ww X D A 4 Q 0 0 30 [(0, .ref oM), (2, .int p1)] [] [gX10 cy oM aM M_23])) ?_ _ _ _ h17 ?_
    · clear h17 hf
      intro s17 o17 hf hI17 hE17
      obtain ⟨v3_18, M_19⟩ := s17
      unfold s_X10_moves_11_17 at hf
      replace hf := un2_e hf
      show ww X D A 4 Q 0 0 11 [(0, .ref oM), (1, .int p0), (2, .int p1), (3, .int v3_18)] [] [gX10 cy oM aM M_19]
      refine ww_iload_n h dX10_moves_11 rfl 3 rfl 12 rfl ?_
      refine ww_iload_n h dX10_moves_12 rfl 1 rfl 13 rfl ?_
      refine ww_icmp_lt h dX10_moves_13 30 (by decide) 16 rfl (fun c => ?_) (fun c => ?_)
      · replace hf := ite_t c hf
        refine ww_lo [0, 2] (lo' := [(0, .ref oM), (2, .int p1)]) rfl ?_
        exact hE17 M_19 (Option.some.inj hf).symm
      · replace hf := ite_f c hf
        refine ww_aload_n h dX10_moves_16 rfl 0 rfl 17 rfl ?_
        refine ww_iload_n h dX10_moves_17 rfl 3 rfl 18 rfl ?_
        refine ww_iload_n h dX10_moves_18 rfl 3 rfl 19 rfl ?_
        refine ww_iload_n h dX10_moves_19 rfl 2 rfl 20 rfl ?_
        refine ww_iadd h dX10_moves_20 21 rfl ?_
        obtain ⟨M_20, hu21, hf⟩ := ob1 hf
        refine ww_cVv h (c_X10_copies l D ev cy oM aM M_19 v3_18 (v3_18 + p1) _ hu21) ⟨w_1349, w_1346, w_1348, w_41, w_111, ok_X10_copies⟩ ⟨by decide, by decide⟩ ⟨by decide, by decide⟩ ⟨rfl, rfl⟩ [0] rfl 0 rfl rfl rfl rfl (Nat.le_of_ble_eq_true rfl) dX10_moves_21 24 rfl (Gs' := [gX10 cy oM aM M_20]) rfl ?_
        clear hu21
        refine ww_inc (c := (-1)) h dX10_moves_24 3 rfl (by decide) (by decide) (fun v3_22 => [(3, .int v3_22), (0, .ref oM), (1, .int p0), (2, .int p1)]) (fun _ => rfl) 27 rfl (fun v3_22 e => ?_)
        replace hf := bnd_at e hf
        clear e
        refine ww_goto h dX10_moves_27 11 (by decide) ?_
        refine ww_lo [1, 2, 3, 0] (lo' := [(0, .ref oM), (1, .int p0), (2, .int p1), (3, .int v3_22)]) rfl ?_
        exact hI17 (v3_22, M_20) (Option.some.inj hf).symm
    · clear h17
      show ww X D A 4 Q 0 0 30 [(0, .ref oM), (2, .int p1)] [] [gX10 cy oM aM M_23]
      refine ww_goto h dX10_moves_30 57 (by decide) ?_
      exact hJ57_2 M_23 hf
theorem dX10_insert_0 : decode cX10_insert 0 = .ok (.iload_n 1, 1) := by decide +kernel
theorem dX10_insert_1 : decode cX10_insert 1 = .ok (.iconst 0, 1) := by decide +kernel
theorem dX10_insert_2 : decode cX10_insert 2 = .ok (.aload_n 0, 1) := by decide +kernel
theorem dX10_insert_3 : decode cX10_insert 3 = .ok (.invokevirtual 132, 3) := by decide +kernel
theorem dX10_insert_6 : decode cX10_insert 6 = .ok (.invokestatic 125, 3) := by decide +kernel
theorem dX10_insert_9 : decode cX10_insert 9 = .ok (.ifCond .eq 20, 3) := by decide +kernel
theorem dX10_insert_12 : decode cX10_insert 12 = .ok (.aload_n 0, 1) := by decide +kernel
theorem dX10_insert_13 : decode cX10_insert 13 = .ok (.iload_n 2, 1) := by decide +kernel
theorem dX10_insert_14 : decode cX10_insert 14 = .ok (.invokevirtual 151, 3) := by decide +kernel
theorem dX10_insert_17 : decode cX10_insert 17 = .ok (.ifCond .eq 12, 3) := by decide +kernel
theorem dX10_insert_20 : decode cX10_insert 20 = .ok (.aload_n 0, 1) := by decide +kernel
theorem dX10_insert_21 : decode cX10_insert 21 = .ok (.invokevirtual 132, 3) := by decide +kernel
theorem dX10_insert_24 : decode cX10_insert 24 = .ok (.bipush 40, 2) := by decide +kernel
theorem dX10_insert_26 : decode cX10_insert 26 = .ok (.if_icmp .ne 5, 3) := by decide +kernel
theorem dX10_insert_29 : decode cX10_insert 29 = .ok (.iconst 0, 1) := by decide +kernel
theorem dX10_insert_30 : decode cX10_insert 30 = .ok (.ireturn, 1) := by decide +kernel
theorem dX10_insert_31 : decode cX10_insert 31 = .ok (.aload_n 0, 1) := by decide +kernel
theorem dX10_insert_32 : decode cX10_insert 32 = .ok (.invokevirtual 155, 3) := by decide +kernel
theorem dX10_insert_35 : decode cX10_insert 35 = .ok (.aload_n 0, 1) := by decide +kernel
theorem dX10_insert_36 : decode cX10_insert 36 = .ok (.iload_n 1, 1) := by decide +kernel
theorem dX10_insert_37 : decode cX10_insert 37 = .ok (.iconst 1, 1) := by decide +kernel
theorem dX10_insert_38 : decode cX10_insert 38 = .ok (.invokevirtual 158, 3) := by decide +kernel
theorem dX10_insert_41 : decode cX10_insert 41 = .ok (.aload_n 0, 1) := by decide +kernel
theorem dX10_insert_42 : decode cX10_insert 42 = .ok (.getfield 36, 3) := by decide +kernel
theorem dX10_insert_45 : decode cX10_insert 45 = .ok (.iconst 1, 1) := by decide +kernel
theorem dX10_insert_46 : decode cX10_insert 46 = .ok (.iload_n 1, 1) := by decide +kernel
theorem dX10_insert_47 : decode cX10_insert 47 = .ok (.iadd, 1) := by decide +kernel
theorem dX10_insert_48 : decode cX10_insert 48 = .ok (.iload_n 2, 1) := by decide +kernel
theorem dX10_insert_49 : decode cX10_insert 49 = .ok (.iastore, 1) := by decide +kernel
theorem dX10_insert_50 : decode cX10_insert 50 = .ok (.aload_n 0, 1) := by decide +kernel
theorem dX10_insert_51 : decode cX10_insert 51 = .ok (.getfield 36, 3) := by decide +kernel
theorem dX10_insert_54 : decode cX10_insert 54 = .ok (.bipush 41, 2) := by decide +kernel
theorem dX10_insert_56 : decode cX10_insert 56 = .ok (.iload_n 1, 1) := by decide +kernel
theorem dX10_insert_57 : decode cX10_insert 57 = .ok (.iadd, 1) := by decide +kernel
theorem dX10_insert_58 : decode cX10_insert 58 = .ok (.iconst 0, 1) := by decide +kernel
theorem dX10_insert_59 : decode cX10_insert 59 = .ok (.iastore, 1) := by decide +kernel
theorem dX10_insert_60 : decode cX10_insert 60 = .ok (.iconst 1, 1) := by decide +kernel
theorem dX10_insert_61 : decode cX10_insert 61 = .ok (.ireturn, 1) := by decide +kernel
theorem ok_X10_insert : okY RX10 yX10_insert 2 := ⟨rfl, by decide, by decide, by decide +kernel⟩
def f_X10_insert (M : OV) (p0 : Int32) (p1 : Int32) : Option (Int32 × OV) := (f_X10_many M).bind (un1 (fun r_1 => (f_X10_in p0 (0 : Int32) r_1).bind (un1 (fun r_3 => (if r_3 = 0 then some ((0 : Int32), M) else (f_X10_isTold M p1).bind (un1 (fun r_5 => (if r_5 = 0 then some ((0 : Int32), M) else (f_X10_many M).bind (un1 (fun r_7 => (if r_7 = (40 : Int32) then some ((0 : Int32), M) else (f_X10_keeps M).bind (un1 (fun M_9 => (f_X10_moves M_9 p0 (1 : Int32)).bind (un1 (fun M_11 => gd (ix ((1 : Int32) + p0) 113) (bnd (sA M_11 8 ((1 : Int32) + p0).toNatClampNeg p1) (fun M_13 => gd (ix ((41 : Int32) + p0) 113) (bnd (sA M_13 8 ((41 : Int32) + p0).toNatClampNeg (0 : Int32)) (fun M_14 => some ((1 : Int32), M_14))))))))))))))))))))
def r_X10_insert : Room := { frames := 2, cells := 0, slots := 0, locals := 45 }
set_option maxHeartbeats 4000000 in
set_option maxRecDepth 100000 in
theorem c_X10_insert (l : Launch) (D : va_G) (ev : EvT) (cy : Nat → ClassId) (oM : Nat) (aM : Nat → Nat) (M : OV) (p0 : Int32) (p1 : Int32) (o : Int32 × OV) (hf : f_X10_insert M p0 p1 = some o) : Fn l yX10_insert cX10_insert 3 (some .boolean) r_X10_insert D ev cy [.ref oM, .int p0, .int p1] [gX10 cy oM aM M] (fun v G => v = some (.int o.1) ∧ G = [gX10 cy oM aM o.2]) := by
  refine Fn_of (by decide) (Nat.le_of_ble_eq_true rfl) (fun X A Q h hQ _ => ?_)
  unfold f_X10_insert at hf
  show ww X D A 3 Q 0 0 0 [(0, .ref oM), (1, .int p0), (2, .int p1)] [] [gX10 cy oM aM M]
  refine ww_iload_n h dX10_insert_0 rfl 1 rfl 1 rfl ?_
  refine ww_iconst (v := 0) h dX10_insert_1 (by decide) 2 rfl ?_
  refine ww_aload_n h dX10_insert_2 rfl 0 rfl 3 rfl ?_
  obtain ⟨r_1, hu2, hf⟩ := ob1 hf
  refine ww_cVi h (c_X10_many l D ev cy oM aM M _ hu2) ⟨w_1330, w_1327, w_1329, w_37, w_111, ok_X10_many⟩ ⟨by decide, by decide⟩ ⟨by decide, by decide⟩ ⟨rfl, rfl⟩ [0] rfl 0 rfl rfl rfl rfl (Nat.le_of_ble_eq_true rfl) dX10_insert_3 6 rfl (Gs' := [gX10 cy oM aM M]) rfl ?_
  clear hu2
  obtain ⟨r_3, hu4, hf⟩ := ob1 hf
  refine ww_cSi h (c_X10_in l D ev cy p0 (0 : Int32) r_1 _ hu4) ⟨w_1333, w_1331, w_1332, w_111, ok_X10_in⟩ ⟨by decide, by decide⟩ ⟨by decide, by decide⟩ ⟨rfl, rfl⟩ [] rfl rfl (Nat.le_of_ble_eq_true rfl) dX10_insert_6 9 rfl (Gs' := [gX10 cy oM aM M]) rfl ?_
  clear hu4
  refine ww_if_eq h dX10_insert_9 29 (by decide) 12 rfl (fun c => ?_) (fun c => ?_)
  · replace hf := ite_t c hf
    refine ww_iconst (v := 0) h dX10_insert_29 (by decide) 30 rfl ?_
    obtain rfl := Option.some.inj hf
    exact ww_zret h (Or.inl rfl) dX10_insert_30 hQ ⟨rfl, rfl⟩
  · replace hf := ite_f c hf
    refine ww_aload_n h dX10_insert_12 rfl 0 rfl 13 rfl ?_
    refine ww_iload_n h dX10_insert_13 rfl 2 rfl 14 rfl ?_
    obtain ⟨r_5, hu6, hf⟩ := ob1 hf
    refine ww_cVi h (c_X10_isTold l D ev cy oM aM M p1 _ hu6) ⟨w_1337, w_1334, w_1336, w_38, w_111, ok_X10_isTold⟩ ⟨by decide, by decide⟩ ⟨by decide, by decide⟩ ⟨rfl, rfl⟩ [0] rfl 0 rfl rfl rfl rfl (Nat.le_of_ble_eq_true rfl) dX10_insert_14 17 rfl (Gs' := [gX10 cy oM aM M]) rfl ?_
    clear hu6
    refine ww_if_eq h dX10_insert_17 29 (by decide) 20 rfl (fun c => ?_) (fun c => ?_)
    · replace hf := ite_t c hf
      refine ww_iconst (v := 0) h dX10_insert_29 (by decide) 30 rfl ?_
      obtain rfl := Option.some.inj hf
      exact ww_zret h (Or.inl rfl) dX10_insert_30 hQ ⟨rfl, rfl⟩
    · replace hf := ite_f c hf
      refine ww_aload_n h dX10_insert_20 rfl 0 rfl 21 rfl ?_
      obtain ⟨r_7, hu8, hf⟩ := ob1 hf
      refine ww_cVi h (c_X10_many l D ev cy oM aM M _ hu8) ⟨w_1330, w_1327, w_1329, w_37, w_111, ok_X10_many⟩ ⟨by decide, by decide⟩ ⟨by decide, by decide⟩ ⟨rfl, rfl⟩ [0] rfl 0 rfl rfl rfl rfl (Nat.le_of_ble_eq_true rfl) dX10_insert_21 24 rfl (Gs' := [gX10 cy oM aM M]) rfl ?_
      clear hu8
      refine ww_bipush (v := 40) h dX10_insert_24 (by decide) 26 rfl ?_
      refine ww_icmp_ne h dX10_insert_26 31 (by decide) 29 rfl (fun c => ?_) (fun c => ?_)
      · replace hf := ite_f c hf
        refine ww_aload_n h dX10_insert_31 rfl 0 rfl 32 rfl ?_
        obtain ⟨M_9, hu10, hf⟩ := ob1 hf
        refine ww_cVv h (c_X10_keeps l D ev cy oM aM M _ hu10) ⟨w_1341, w_1338, w_1340, w_39, w_111, ok_X10_keeps⟩ ⟨by decide, by decide⟩ ⟨by decide, by decide⟩ ⟨rfl, rfl⟩ [0] rfl 0 rfl rfl rfl rfl (Nat.le_of_ble_eq_true rfl) dX10_insert_32 35 rfl (Gs' := [gX10 cy oM aM M_9]) rfl ?_
        clear hu10
        refine ww_aload_n h dX10_insert_35 rfl 0 rfl 36 rfl ?_
        refine ww_iload_n h dX10_insert_36 rfl 1 rfl 37 rfl ?_
        refine ww_iconst (v := 1) h dX10_insert_37 (by decide) 38 rfl ?_
        obtain ⟨M_11, hu12, hf⟩ := ob1 hf
        refine ww_cVv h (c_X10_moves l D ev cy oM aM M_9 p0 (1 : Int32) _ hu12) ⟨w_1345, w_1342, w_1344, w_40, w_111, ok_X10_moves⟩ ⟨by decide, by decide⟩ ⟨by decide, by decide⟩ ⟨rfl, rfl⟩ [0] rfl 0 rfl rfl rfl rfl (Nat.le_of_ble_eq_true rfl) dX10_insert_38 41 rfl (Gs' := [gX10 cy oM aM M_11]) rfl ?_
        clear hu12
        refine ww_aload_n h dX10_insert_41 rfl 0 rfl 42 rfl ?_
        refine ww_get h inG10 rfl 0 rfl rfl 8 (by decide) w_1165 rfl dX10_insert_42 45 rfl ?_
        refine ww_iconst (v := 1) h dX10_insert_45 (by decide) 46 rfl ?_
        refine ww_iload_n h dX10_insert_46 rfl 1 rfl 47 rfl ?_
        refine ww_iadd h dX10_insert_47 48 rfl ?_
        refine ww_iload_n h dX10_insert_48 rfl 2 rfl 49 rfl ?_
        have hi := (gd_some hf).1
        replace hf := (gd_some hf).2
        refine ww_iast h 0 rfl 8 rfl (ix_in hi) dX10_insert_49 50 rfl ?_
        clear hi
        refine ww_nm (fun z => [gX10 cy oM aM z]) (sA M_11 8 ((1 : Int32) + p0).toNatClampNeg p1) (fun M_13 e => ?_)
        replace hf := bnd_at e hf
        clear e
        refine ww_aload_n h dX10_insert_50 rfl 0 rfl 51 rfl ?_
        refine ww_get h inG10 rfl 0 rfl rfl 8 (by decide) w_1165 rfl dX10_insert_51 54 rfl ?_
        refine ww_bipush (v := 41) h dX10_insert_54 (by decide) 56 rfl ?_
        refine ww_iload_n h dX10_insert_56 rfl 1 rfl 57 rfl ?_
        refine ww_iadd h dX10_insert_57 58 rfl ?_
        refine ww_iconst (v := 0) h dX10_insert_58 (by decide) 59 rfl ?_
        have hi := (gd_some hf).1
        replace hf := (gd_some hf).2
        refine ww_iast h 0 rfl 8 rfl (ix_in hi) dX10_insert_59 60 rfl ?_
        clear hi
        refine ww_nm (fun z => [gX10 cy oM aM z]) (sA M_13 8 ((41 : Int32) + p0).toNatClampNeg (0 : Int32)) (fun M_14 e => ?_)
        replace hf := bnd_at e hf
        clear e
        refine ww_iconst (v := 1) h dX10_insert_60 (by decide) 61 rfl ?_
        obtain rfl := Option.some.inj hf
        exact ww_zret h (Or.inr rfl) dX10_insert_61 hQ ⟨rfl, rfl⟩
      · replace hf := ite_t c hf
        refine ww_iconst (v := 0) h dX10_insert_29 (by decide) 30 rfl ?_
        obtain rfl := Option.some.inj hf
        exact ww_zret h (Or.inl rfl) dX10_insert_30 hQ ⟨rfl, rfl⟩
theorem dX10_drops_0 : decode cX10_drops 0 = .ok (.aload_n 0, 1) := by decide +kernel
theorem dX10_drops_1 : decode cX10_drops 1 = .ok (.iload_n 1, 1) := by decide +kernel
theorem dX10_drops_2 : decode cX10_drops 2 = .ok (.iload_n 2, 1) := by decide +kernel
theorem dX10_drops_3 : decode cX10_drops 3 = .ok (.iadd, 1) := by decide +kernel
theorem dX10_drops_4 : decode cX10_drops 4 = .ok (.iload_n 2, 1) := by decide +kernel
theorem dX10_drops_5 : decode cX10_drops 5 = .ok (.ineg, 1) := by decide +kernel
theorem dX10_drops_6 : decode cX10_drops 6 = .ok (.invokevirtual 158, 3) := by decide +kernel
theorem dX10_drops_9 : decode cX10_drops 9 = .ok (.return_, 1) := by decide +kernel
theorem ok_X10_drops : okY RX10 yX10_drops 2 := ⟨rfl, by decide, by decide, by decide +kernel⟩
def f_X10_drops (M : OV) (p0 : Int32) (p1 : Int32) : Option (OV) := (f_X10_moves M (p0 + p1) (-p1)).bind (un1 (fun M_1 => some M_1))
def r_X10_drops : Room := { frames := 2, cells := 0, slots := 0, locals := 45 }
set_option maxHeartbeats 4000000 in
set_option maxRecDepth 100000 in
theorem c_X10_drops (l : Launch) (D : va_G) (ev : EvT) (cy : Nat → ClassId) (oM : Nat) (aM : Nat → Nat) (M : OV) (p0 : Int32) (p1 : Int32) (o : OV) (hf : f_X10_drops M p0 p1 = some o) : Fn l yX10_drops cX10_drops 3 none r_X10_drops D ev cy [.ref oM, .int p0, .int p1] [gX10 cy oM aM M] (fun v G => v = none ∧ G = [gX10 cy oM aM o]) := by
  refine Fn_of (by decide) (Nat.le_of_ble_eq_true rfl) (fun X A Q h hQ _ => ?_)
  unfold f_X10_drops at hf
  show ww X D A 3 Q 0 0 0 [(0, .ref oM), (1, .int p0), (2, .int p1)] [] [gX10 cy oM aM M]
  refine ww_aload_n h dX10_drops_0 rfl 0 rfl 1 rfl ?_
  refine ww_iload_n h dX10_drops_1 rfl 1 rfl 2 rfl ?_
  refine ww_iload_n h dX10_drops_2 rfl 2 rfl 3 rfl ?_
  refine ww_iadd h dX10_drops_3 4 rfl ?_
  refine ww_iload_n h dX10_drops_4 rfl 2 rfl 5 rfl ?_
  refine ww_ineg h dX10_drops_5 6 rfl ?_
  obtain ⟨M_1, hu2, hf⟩ := ob1 hf
  refine ww_cVv h (c_X10_moves l D ev cy oM aM M (p0 + p1) (-p1) _ hu2) ⟨w_1345, w_1342, w_1344, w_40, w_111, ok_X10_moves⟩ ⟨by decide, by decide⟩ ⟨by decide, by decide⟩ ⟨rfl, rfl⟩ [0] rfl 0 rfl rfl rfl rfl (Nat.le_of_ble_eq_true rfl) dX10_drops_6 9 rfl (Gs' := [gX10 cy oM aM M_1]) rfl ?_
  clear hu2
  obtain rfl := Option.some.inj hf
  exact ww_vret h dX10_drops_9 hQ ⟨rfl, rfl⟩
