theorem dX10_spellTable_0 : decode cX10_spellTable 0 = .ok (.iload_n 1, 1) := by decide +kernel
theorem dX10_spellTable_1 : decode cX10_spellTable 1 = .ok (.iconst (-1), 1) := by decide +kernel
theorem dX10_spellTable_2 : decode cX10_spellTable 2 = .ok (.if_icmp .ge 5, 3) := by decide +kernel
theorem dX10_spellTable_5 : decode cX10_spellTable 5 = .ok (.iconst (-1), 1) := by decide +kernel
theorem dX10_spellTable_6 : decode cX10_spellTable 6 = .ok (.ireturn, 1) := by decide +kernel
theorem dX10_spellTable_7 : decode cX10_spellTable 7 = .ok (.aload_n 0, 1) := by decide +kernel
theorem dX10_spellTable_8 : decode cX10_spellTable 8 = .ok (.iconst 0, 1) := by decide +kernel
theorem dX10_spellTable_9 : decode cX10_spellTable 9 = .ok (.putfield 286, 3) := by decide +kernel
theorem dX10_spellTable_12 : decode cX10_spellTable 12 = .ok (.iconst 0, 1) := by decide +kernel
theorem dX10_spellTable_13 : decode cX10_spellTable 13 = .ok (.istore_n 2, 1) := by decide +kernel
theorem dX10_spellTable_14 : decode cX10_spellTable 14 = .ok (.iload_n 2, 1) := by decide +kernel
theorem dX10_spellTable_15 : decode cX10_spellTable 15 = .ok (.bipush 26, 2) := by decide +kernel
theorem dX10_spellTable_17 : decode cX10_spellTable 17 = .ok (.if_icmp .ge 22, 3) := by decide +kernel
theorem dX10_spellTable_20 : decode cX10_spellTable 20 = .ok (.aload_n 0, 1) := by decide +kernel
theorem dX10_spellTable_21 : decode cX10_spellTable 21 = .ok (.iload_n 2, 1) := by decide +kernel
theorem dX10_spellTable_22 : decode cX10_spellTable 22 = .ok (.invokevirtual 151, 3) := by decide +kernel
theorem dX10_spellTable_25 : decode cX10_spellTable 25 = .ok (.ifCond .eq 8, 3) := by decide +kernel
theorem dX10_spellTable_28 : decode cX10_spellTable 28 = .ok (.aload_n 0, 1) := by decide +kernel
theorem dX10_spellTable_29 : decode cX10_spellTable 29 = .ok (.iload_n 2, 1) := by decide +kernel
theorem dX10_spellTable_30 : decode cX10_spellTable 30 = .ok (.invokevirtual 307, 3) := by decide +kernel
theorem dX10_spellTable_33 : decode cX10_spellTable 33 = .ok (.iinc 2 1, 3) := by decide +kernel
theorem dX10_spellTable_36 : decode cX10_spellTable 36 = .ok (.goto (-22), 3) := by decide +kernel
theorem dX10_spellTable_39 : decode cX10_spellTable 39 = .ok (.iconst 0, 1) := by decide +kernel
theorem dX10_spellTable_40 : decode cX10_spellTable 40 = .ok (.istore_n 2, 1) := by decide +kernel
theorem dX10_spellTable_41 : decode cX10_spellTable 41 = .ok (.iload_n 2, 1) := by decide +kernel
theorem dX10_spellTable_42 : decode cX10_spellTable 42 = .ok (.bipush 26, 2) := by decide +kernel
theorem dX10_spellTable_44 : decode cX10_spellTable 44 = .ok (.if_icmp .ge 75, 3) := by decide +kernel
theorem dX10_spellTable_47 : decode cX10_spellTable 47 = .ok (.iconst 0, 1) := by decide +kernel
theorem dX10_spellTable_48 : decode cX10_spellTable 48 = .ok (.istore_n 3, 1) := by decide +kernel
theorem dX10_spellTable_49 : decode cX10_spellTable 49 = .ok (.iload_n 3, 1) := by decide +kernel
theorem dX10_spellTable_50 : decode cX10_spellTable 50 = .ok (.bipush 26, 2) := by decide +kernel
theorem dX10_spellTable_52 : decode cX10_spellTable 52 = .ok (.if_icmp .ge 61, 3) := by decide +kernel
theorem dX10_spellTable_55 : decode cX10_spellTable 55 = .ok (.aload_n 0, 1) := by decide +kernel
theorem dX10_spellTable_56 : decode cX10_spellTable 56 = .ok (.iload_n 2, 1) := by decide +kernel
theorem dX10_spellTable_57 : decode cX10_spellTable 57 = .ok (.iload_n 3, 1) := by decide +kernel
theorem dX10_spellTable_58 : decode cX10_spellTable 58 = .ok (.invokevirtual 180, 3) := by decide +kernel
theorem dX10_spellTable_61 : decode cX10_spellTable 61 = .ok (.ifCond .ne 6, 3) := by decide +kernel
theorem dX10_spellTable_64 : decode cX10_spellTable 64 = .ok (.goto 43, 3) := by decide +kernel
theorem dX10_spellTable_67 : decode cX10_spellTable 67 = .ok (.aload_n 0, 1) := by decide +kernel
theorem dX10_spellTable_68 : decode cX10_spellTable 68 = .ok (.bipush 10, 2) := by decide +kernel
theorem dX10_spellTable_70 : decode cX10_spellTable 70 = .ok (.invokevirtual 298, 3) := by decide +kernel
theorem dX10_spellTable_73 : decode cX10_spellTable 73 = .ok (.aload_n 0, 1) := by decide +kernel
theorem dX10_spellTable_74 : decode cX10_spellTable 74 = .ok (.bipush 32, 2) := by decide +kernel
theorem dX10_spellTable_76 : decode cX10_spellTable 76 = .ok (.invokevirtual 289, 3) := by decide +kernel
theorem dX10_spellTable_79 : decode cX10_spellTable 79 = .ok (.aload_n 0, 1) := by decide +kernel
theorem dX10_spellTable_80 : decode cX10_spellTable 80 = .ok (.bipush 97, 2) := by decide +kernel
theorem dX10_spellTable_82 : decode cX10_spellTable 82 = .ok (.iload_n 2, 1) := by decide +kernel
theorem dX10_spellTable_83 : decode cX10_spellTable 83 = .ok (.iadd, 1) := by decide +kernel
theorem dX10_spellTable_84 : decode cX10_spellTable 84 = .ok (.invokevirtual 289, 3) := by decide +kernel
theorem dX10_spellTable_87 : decode cX10_spellTable 87 = .ok (.aload_n 0, 1) := by decide +kernel
theorem dX10_spellTable_88 : decode cX10_spellTable 88 = .ok (.bipush 32, 2) := by decide +kernel
theorem dX10_spellTable_90 : decode cX10_spellTable 90 = .ok (.invokevirtual 289, 3) := by decide +kernel
theorem dX10_spellTable_93 : decode cX10_spellTable 93 = .ok (.aload_n 0, 1) := by decide +kernel
theorem dX10_spellTable_94 : decode cX10_spellTable 94 = .ok (.bipush 97, 2) := by decide +kernel
theorem dX10_spellTable_96 : decode cX10_spellTable 96 = .ok (.iload_n 3, 1) := by decide +kernel
theorem dX10_spellTable_97 : decode cX10_spellTable 97 = .ok (.iadd, 1) := by decide +kernel
theorem dX10_spellTable_98 : decode cX10_spellTable 98 = .ok (.invokevirtual 289, 3) := by decide +kernel
theorem dX10_spellTable_101 : decode cX10_spellTable 101 = .ok (.aload_n 0, 1) := by decide +kernel
theorem dX10_spellTable_102 : decode cX10_spellTable 102 = .ok (.bipush 59, 2) := by decide +kernel
theorem dX10_spellTable_104 : decode cX10_spellTable 104 = .ok (.invokevirtual 289, 3) := by decide +kernel
theorem dX10_spellTable_107 : decode cX10_spellTable 107 = .ok (.iinc 3 1, 3) := by decide +kernel
theorem dX10_spellTable_110 : decode cX10_spellTable 110 = .ok (.goto (-61), 3) := by decide +kernel
theorem dX10_spellTable_113 : decode cX10_spellTable 113 = .ok (.iinc 2 1, 3) := by decide +kernel
theorem dX10_spellTable_116 : decode cX10_spellTable 116 = .ok (.goto (-75), 3) := by decide +kernel
theorem dX10_spellTable_119 : decode cX10_spellTable 119 = .ok (.aload_n 0, 1) := by decide +kernel
theorem dX10_spellTable_120 : decode cX10_spellTable 120 = .ok (.iload_n 1, 1) := by decide +kernel
theorem dX10_spellTable_121 : decode cX10_spellTable 121 = .ok (.invokevirtual 292, 3) := by decide +kernel
theorem dX10_spellTable_124 : decode cX10_spellTable 124 = .ok (.ireturn, 1) := by decide +kernel
theorem ok_X10_spellTable : okY RX10 yX10_spellTable 1 := ⟨rfl, by decide, by decide, by decide +kernel⟩
def j_X10_spellTable_33_9 (v2_4 : Int32) (M_8 : OV) : Option ((Int32 × OV) ⊕ (OV)) := bnd (v2_4 + 1) (fun v2_10 => some (.inl (v2_10, M_8)))
def s_X10_spellTable_14_3 : (Int32 × OV) → Option ((Int32 × OV) ⊕ (OV)) := un2 (fun v2_4 M_5 => (if (26 : Int32) ≤ v2_4 then some (.inr M_5) else (f_X10_isTold M_5 v2_4).bind (un1 (fun r_6 => (if r_6 = 0 then j_X10_spellTable_33_9 v2_4 M_5 else (f_X10_writesClass M_5 v2_4).bind (un1 (fun M_11 => j_X10_spellTable_33_9 v2_4 M_11)))))))
def j_X10_spellTable_107_25 (v3_20 : Int32) (M_24 : OV) : Option ((Int32 × OV) ⊕ (OV)) := bnd (v3_20 + 1) (fun v3_26 => some (.inl (v3_26, M_24)))
def s_X10_spellTable_49_19 (v2_16 : Int32) : (Int32 × OV) → Option ((Int32 × OV) ⊕ (OV)) := un2 (fun v3_20 M_21 => (if (26 : Int32) ≤ v3_20 then some (.inr M_21) else (f_X10_arePair M_21 v2_16 v3_20).bind (un1 (fun r_22 => (if r_22 = 0 then j_X10_spellTable_107_25 v3_20 M_21 else (f_X10_writesWord M_21 (10 : Int32)).bind (un1 (fun M_27 => (f_X10_writes M_27 (32 : Int32)).bind (un1 (fun M_29 => (f_X10_writes M_29 ((97 : Int32) + v2_16)).bind (un1 (fun M_31 => (f_X10_writes M_31 (32 : Int32)).bind (un1 (fun M_33 => (f_X10_writes M_33 ((97 : Int32) + v3_20)).bind (un1 (fun M_35 => (f_X10_writes M_35 (59 : Int32)).bind (un1 (fun M_37 => j_X10_spellTable_107_25 v3_20 M_37)))))))))))))))))
def s_X10_spellTable_41_15 : (Int32 × OV) → Option ((Int32 × OV) ⊕ (OV)) := un2 (fun v2_16 M_17 => (if (26 : Int32) ≤ v2_16 then some (.inr M_17) else bnd (0 : Int32) (fun v3_18 => ((lp (s_X10_spellTable_49_19 v2_16) 5000 (v3_18, M_17)).bind (un1 (fun M_39 => bnd (v2_16 + 1) (fun v2_40 => some (.inl (v2_40, M_39)))))))))
def f_X10_spellTable (M : OV) (p0 : Int32) : Option (Int32 × OV) := (if (-1 : Int32) ≤ p0 then bnd (sI M 32 (0 : Int32)) (fun M_1 => bnd (0 : Int32) (fun v2_2 => ((lp (s_X10_spellTable_14_3) 5000 (v2_2, M_1)).bind (un1 (fun M_13 => bnd (0 : Int32) (fun v2_14 => ((lp (s_X10_spellTable_41_15) 5000 (v2_14, M_13)).bind (un1 (fun M_41 => (f_X10_told M_41 p0).bind (un1 (fun r_42 => some (r_42, M_41)))))))))))) else some ((-1 : Int32), M))
def r_X10_spellTable : Room := { frames := 5, cells := 0, slots := 0, locals := 110 }
set_option maxHeartbeats 4000000 in
set_option maxRecDepth 100000 in
theorem c_X10_spellTable (l : Launch) (D : va_G) (ev : EvT) (cy : Nat → ClassId) (oM : Nat) (aM : Nat → Nat) (M : OV) (p0 : Int32) (o : Int32 × OV) (hf : f_X10_spellTable M p0 = some o) : Fn l yX10_spellTable cX10_spellTable 4 (some .int) r_X10_spellTable D ev cy [.ref oM, .int p0] [gX10 cy oM aM M] (fun v G => v = some (.int o.1) ∧ G = [gX10 cy oM aM o.2]) := by
  refine Fn_of (by decide) (Nat.le_of_ble_eq_true rfl) (fun X A Q h hQ _ => ?_)
  unfold f_X10_spellTable at hf
  show ww X D A 4 Q 0 0 0 [(0, .ref oM), (1, .int p0)] [] [gX10 cy oM aM M]
  refine ww_iload_n h dX10_spellTable_0 rfl 1 rfl 1 rfl ?_
  refine ww_iconst (v := (-1)) h dX10_spellTable_1 (by decide) 2 rfl ?_
  refine ww_icmp_ge h dX10_spellTable_2 7 (by decide) 5 rfl (fun c => ?_) (fun c => ?_)
  · replace hf := ite_t c hf
    refine ww_aload_n h dX10_spellTable_7 rfl 0 rfl 8 rfl ?_
    refine ww_iconst (v := 0) h dX10_spellTable_8 (by decide) 9 rfl ?_
    refine ww_put (ty := .int) h inG10 tyX10_ok nmX10 rfl 0 rfl rfl 32 (by decide) w_1189 rfl (by decide +kernel) rfl rfl (Nat.le_of_ble_eq_true rfl) (Nat.le_of_ble_eq_true rfl) dX10_spellTable_9 12 rfl ?_
    refine ww_nm (fun z => [gX10 cy oM aM z]) (sI M 32 (0 : Int32)) (fun M_1 e => ?_)
    replace hf := bnd_at e hf
    clear e
    refine ww_iconst (v := 0) h dX10_spellTable_12 (by decide) 13 rfl ?_
    refine ww_ist_n h dX10_spellTable_13 rfl (by decide) (fun v2_2 => [(2, .int v2_2), (0, .ref oM), (1, .int p0)]) (fun _ => rfl) 14 rfl (fun v2_2 e => ?_)
    replace hf := bnd_at e hf
    clear e
    refine ww_lo [1, 2, 0] (lo' := [(0, .ref oM), (1, .int p0), (2, .int v2_2)]) rfl ?_
    obtain ⟨M_13, h3, hf⟩ := ob1 hf
    refine lp_walk (un2 (fun v2_4 M_5 => ww X D A 4 Q 0 0 14 [(0, .ref oM), (1, .int p0), (2, .int v2_4)] [] [gX10 cy oM aM M_5])) (un1 (fun M_13 => ww X D A 4 Q 0 0 39 [(0, .ref oM), (1, .int p0)] [] [gX10 cy oM aM M_13])) ?_ _ _ _ h3 ?_
    · clear h3 hf
      intro s3 o3 hf hI3 hE3
      obtain ⟨v2_4, M_5⟩ := s3
      unfold s_X10_spellTable_14_3 at hf
      replace hf := un2_e hf
      show ww X D A 4 Q 0 0 14 [(0, .ref oM), (1, .int p0), (2, .int v2_4)] [] [gX10 cy oM aM M_5]
      refine ww_iload_n h dX10_spellTable_14 rfl 2 rfl 15 rfl ?_
      refine ww_bipush (v := 26) h dX10_spellTable_15 (by decide) 17 rfl ?_
      refine ww_icmp_ge h dX10_spellTable_17 39 (by decide) 20 rfl (fun c => ?_) (fun c => ?_)
      · replace hf := ite_t c hf
        refine ww_lo [0, 1] (lo' := [(0, .ref oM), (1, .int p0)]) rfl ?_
        exact hE3 M_5 (Option.some.inj hf).symm
      · replace hf := ite_f c hf
        refine ww_aload_n h dX10_spellTable_20 rfl 0 rfl 21 rfl ?_
        refine ww_iload_n h dX10_spellTable_21 rfl 2 rfl 22 rfl ?_
        obtain ⟨r_6, hu7, hf⟩ := ob1 hf
        refine ww_cVi h (c_X10_isTold l D ev cy oM aM M_5 v2_4 _ hu7) ⟨w_1337, w_1334, w_1336, w_38, w_111, ok_X10_isTold⟩ ⟨by decide, by decide⟩ ⟨by decide, by decide⟩ ⟨rfl, rfl⟩ [0] rfl 0 rfl rfl rfl rfl (Nat.le_of_ble_eq_true rfl) dX10_spellTable_22 25 rfl (Gs' := [gX10 cy oM aM M_5]) rfl ?_
        clear hu7
        have hJ33_9 : ∀ (M_8 : OV), j_X10_spellTable_33_9 v2_4 M_8 = some o3 → ww X D A 4 Q 0 0 33 [(0, .ref oM), (1, .int p0), (2, .int v2_4)] [] [gX10 cy oM aM M_8] := by
          intro M_8 hf
          unfold j_X10_spellTable_33_9 at hf
          refine ww_inc (c := 1) h dX10_spellTable_33 2 rfl (by decide) (by decide) (fun v2_10 => [(2, .int v2_10), (0, .ref oM), (1, .int p0)]) (fun _ => rfl) 36 rfl (fun v2_10 e => ?_)
          replace hf := bnd_at e hf
          clear e
          refine ww_goto h dX10_spellTable_36 14 (by decide) ?_
          refine ww_lo [1, 2, 0] (lo' := [(0, .ref oM), (1, .int p0), (2, .int v2_10)]) rfl ?_
          exact hI3 (v2_10, M_8) (Option.some.inj hf).symm
        refine ww_if_eq h dX10_spellTable_25 33 (by decide) 28 rfl (fun c => ?_) (fun c => ?_)
        · replace hf := ite_t c hf
          exact hJ33_9 M_5 hf
        · replace hf := ite_f c hf
          refine ww_aload_n h dX10_spellTable_28 rfl 0 rfl 29 rfl ?_
          refine ww_iload_n h dX10_spellTable_29 rfl 2 rfl 30 rfl ?_
          obtain ⟨M_11, hu12, hf⟩ := ob1 hf
          refine ww_cVv h (c_X10_writesClass l D ev cy oM aM M_5 v2_4 _ hu12) ⟨w_1609, w_1606, w_1608, w_73, w_111, ok_X10_writesClass⟩ ⟨by decide, by decide⟩ ⟨by decide, by decide⟩ ⟨rfl, rfl⟩ [0] rfl 0 rfl rfl rfl rfl (Nat.le_of_ble_eq_true rfl) dX10_spellTable_30 33 rfl (Gs' := [gX10 cy oM aM M_11]) rfl ?_
          clear hu12
          exact hJ33_9 M_11 hf
    · clear h3
      show ww X D A 4 Q 0 0 39 [(0, .ref oM), (1, .int p0)] [] [gX10 cy oM aM M_13]
      refine ww_iconst (v := 0) h dX10_spellTable_39 (by decide) 40 rfl ?_
      refine ww_ist_n h dX10_spellTable_40 rfl (by decide) (fun v2_14 => [(2, .int v2_14), (0, .ref oM), (1, .int p0)]) (fun _ => rfl) 41 rfl (fun v2_14 e => ?_)
      replace hf := bnd_at e hf
      clear e
      refine ww_lo [1, 2, 0] (lo' := [(0, .ref oM), (1, .int p0), (2, .int v2_14)]) rfl ?_
      obtain ⟨M_41, h15, hf⟩ := ob1 hf
      refine lp_walk (un2 (fun v2_16 M_17 => ww X D A 4 Q 0 0 41 [(0, .ref oM), (1, .int p0), (2, .int v2_16)] [] [gX10 cy oM aM M_17])) (un1 (fun M_41 => ww X D A 4 Q 0 0 119 [(0, .ref oM), (1, .int p0)] [] [gX10 cy oM aM M_41])) ?_ _ _ _ h15 ?_
      · clear h15 hf
        intro s15 o15 hf hI15 hE15
        obtain ⟨v2_16, M_17⟩ := s15
        unfold s_X10_spellTable_41_15 at hf
        replace hf := un2_e hf
        show ww X D A 4 Q 0 0 41 [(0, .ref oM), (1, .int p0), (2, .int v2_16)] [] [gX10 cy oM aM M_17]
        refine ww_iload_n h dX10_spellTable_41 rfl 2 rfl 42 rfl ?_
        refine ww_bipush (v := 26) h dX10_spellTable_42 (by decide) 44 rfl ?_
        refine ww_icmp_ge h dX10_spellTable_44 119 (by decide) 47 rfl (fun c => ?_) (fun c => ?_)
        · replace hf := ite_t c hf
          refine ww_lo [0, 1] (lo' := [(0, .ref oM), (1, .int p0)]) rfl ?_
          exact hE15 M_17 (Option.some.inj hf).symm
        · replace hf := ite_f c hf
          refine ww_iconst (v := 0) h dX10_spellTable_47 (by decide) 48 rfl ?_
          refine ww_ist_n h dX10_spellTable_48 rfl (by decide) (fun v3_18 => [(3, .int v3_18), (0, .ref oM), (1, .int p0), (2, .int v2_16)]) (fun _ => rfl) 49 rfl (fun v3_18 e => ?_)
          replace hf := bnd_at e hf
          clear e
          refine ww_lo [1, 2, 3, 0] (lo' := [(0, .ref oM), (1, .int p0), (2, .int v2_16), (3, .int v3_18)]) rfl ?_
          obtain ⟨M_39, h19, hf⟩ := ob1 hf
          refine lp_walk (un2 (fun v3_20 M_21 => ww X D A 4 Q 0 0 49 [(0, .ref oM), (1, .int p0), (2, .int v2_16), (3, .int v3_20)] [] [gX10 cy oM aM M_21])) (un1 (fun M_39 => ww X D A 4 Q 0 0 113 [(0, .ref oM), (1, .int p0), (2, .int v2_16)] [] [gX10 cy oM aM M_39])) ?_ _ _ _ h19 ?_
          · clear h19 hf
            intro s19 o19 hf hI19 hE19
            obtain ⟨v3_20, M_21⟩ := s19
            unfold s_X10_spellTable_49_19 at hf
            replace hf := un2_e hf
            show ww X D A 4 Q 0 0 49 [(0, .ref oM), (1, .int p0), (2, .int v2_16), (3, .int v3_20)] [] [gX10 cy oM aM M_21]
            refine ww_iload_n h dX10_spellTable_49 rfl 3 rfl 50 rfl ?_
            refine ww_bipush (v := 26) h dX10_spellTable_50 (by decide) 52 rfl ?_
            refine ww_icmp_ge h dX10_spellTable_52 113 (by decide) 55 rfl (fun c => ?_) (fun c => ?_)
            · replace hf := ite_t c hf
              refine ww_lo [0, 1, 2] (lo' := [(0, .ref oM), (1, .int p0), (2, .int v2_16)]) rfl ?_
              exact hE19 M_21 (Option.some.inj hf).symm
            · replace hf := ite_f c hf
              refine ww_aload_n h dX10_spellTable_55 rfl 0 rfl 56 rfl ?_
              refine ww_iload_n h dX10_spellTable_56 rfl 2 rfl 57 rfl ?_
              refine ww_iload_n h dX10_spellTable_57 rfl 3 rfl 58 rfl ?_
              obtain ⟨r_22, hu23, hf⟩ := ob1 hf
              refine ww_cVi h (c_X10_arePair l D ev cy oM aM M_21 v2_16 v3_20 _ hu23) ⟨w_1409, w_1406, w_1408, w_49, w_111, ok_X10_arePair⟩ ⟨by decide, by decide⟩ ⟨by decide, by decide⟩ ⟨rfl, rfl⟩ [0] rfl 0 rfl rfl rfl rfl (Nat.le_of_ble_eq_true rfl) dX10_spellTable_58 61 rfl (Gs' := [gX10 cy oM aM M_21]) rfl ?_
              clear hu23
              have hJ107_25 : ∀ (M_24 : OV), j_X10_spellTable_107_25 v3_20 M_24 = some o19 → ww X D A 4 Q 0 0 107 [(0, .ref oM), (1, .int p0), (2, .int v2_16), (3, .int v3_20)] [] [gX10 cy oM aM M_24] := by
                intro M_24 hf
                unfold j_X10_spellTable_107_25 at hf
                refine ww_inc (c := 1) h dX10_spellTable_107 3 rfl (by decide) (by decide) (fun v3_26 => [(3, .int v3_26), (0, .ref oM), (1, .int p0), (2, .int v2_16)]) (fun _ => rfl) 110 rfl (fun v3_26 e => ?_)
                replace hf := bnd_at e hf
                clear e
                refine ww_goto h dX10_spellTable_110 49 (by decide) ?_
                refine ww_lo [1, 2, 3, 0] (lo' := [(0, .ref oM), (1, .int p0), (2, .int v2_16), (3, .int v3_26)]) rfl ?_
                exact hI19 (v3_26, M_24) (Option.some.inj hf).symm
              refine ww_if_ne h dX10_spellTable_61 67 (by decide) 64 rfl (fun c => ?_) (fun c => ?_)
              · replace hf := ite_f c hf
                refine ww_aload_n h dX10_spellTable_67 rfl 0 rfl 68 rfl ?_
                refine ww_bipush (v := 10) h dX10_spellTable_68 (by decide) 70 rfl ?_
                obtain ⟨M_27, hu28, hf⟩ := ob1 hf
                refine ww_cVv h (c_X10_writesWord l D ev cy oM aM M_21 (10 : Int32) _ hu28) ⟨w_1613, w_1610, w_1612, w_74, w_111, ok_X10_writesWord⟩ ⟨by decide, by decide⟩ ⟨by decide, by decide⟩ ⟨rfl, rfl⟩ [0] rfl 0 rfl rfl rfl rfl (Nat.le_of_ble_eq_true rfl) dX10_spellTable_70 73 rfl (Gs' := [gX10 cy oM aM M_27]) rfl ?_
                clear hu28
                refine ww_aload_n h dX10_spellTable_73 rfl 0 rfl 74 rfl ?_
                refine ww_bipush (v := 32) h dX10_spellTable_74 (by decide) 76 rfl ?_
                obtain ⟨M_29, hu30, hf⟩ := ob1 hf
                refine ww_cVv h (c_X10_writes l D ev cy oM aM M_27 (32 : Int32) _ hu30) ⟨w_1597, w_1594, w_1596, w_71, w_111, ok_X10_writes⟩ ⟨by decide, by decide⟩ ⟨by decide, by decide⟩ ⟨rfl, rfl⟩ [0] rfl 0 rfl rfl rfl rfl (Nat.le_of_ble_eq_true rfl) dX10_spellTable_76 79 rfl (Gs' := [gX10 cy oM aM M_29]) rfl ?_
                clear hu30
                refine ww_aload_n h dX10_spellTable_79 rfl 0 rfl 80 rfl ?_
                refine ww_bipush (v := 97) h dX10_spellTable_80 (by decide) 82 rfl ?_
                refine ww_iload_n h dX10_spellTable_82 rfl 2 rfl 83 rfl ?_
                refine ww_iadd h dX10_spellTable_83 84 rfl ?_
                obtain ⟨M_31, hu32, hf⟩ := ob1 hf
                refine ww_cVv h (c_X10_writes l D ev cy oM aM M_29 ((97 : Int32) + v2_16) _ hu32) ⟨w_1597, w_1594, w_1596, w_71, w_111, ok_X10_writes⟩ ⟨by decide, by decide⟩ ⟨by decide, by decide⟩ ⟨rfl, rfl⟩ [0] rfl 0 rfl rfl rfl rfl (Nat.le_of_ble_eq_true rfl) dX10_spellTable_84 87 rfl (Gs' := [gX10 cy oM aM M_31]) rfl ?_
                clear hu32
                refine ww_aload_n h dX10_spellTable_87 rfl 0 rfl 88 rfl ?_
                refine ww_bipush (v := 32) h dX10_spellTable_88 (by decide) 90 rfl ?_
                obtain ⟨M_33, hu34, hf⟩ := ob1 hf
                refine ww_cVv h (c_X10_writes l D ev cy oM aM M_31 (32 : Int32) _ hu34) ⟨w_1597, w_1594, w_1596, w_71, w_111, ok_X10_writes⟩ ⟨by decide, by decide⟩ ⟨by decide, by decide⟩ ⟨rfl, rfl⟩ [0] rfl 0 rfl rfl rfl rfl (Nat.le_of_ble_eq_true rfl) dX10_spellTable_90 93 rfl (Gs' := [gX10 cy oM aM M_33]) rfl ?_
                clear hu34
                refine ww_aload_n h dX10_spellTable_93 rfl 0 rfl 94 rfl ?_
                refine ww_bipush (v := 97) h dX10_spellTable_94 (by decide) 96 rfl ?_
                refine ww_iload_n h dX10_spellTable_96 rfl 3 rfl 97 rfl ?_
                refine ww_iadd h dX10_spellTable_97 98 rfl ?_
                obtain ⟨M_35, hu36, hf⟩ := ob1 hf
                refine ww_cVv h (c_X10_writes l D ev cy oM aM M_33 ((97 : Int32) + v3_20) _ hu36) ⟨w_1597, w_1594, w_1596, w_71, w_111, ok_X10_writes⟩ ⟨by decide, by decide⟩ ⟨by decide, by decide⟩ ⟨rfl, rfl⟩ [0] rfl 0 rfl rfl rfl rfl (Nat.le_of_ble_eq_true rfl) dX10_spellTable_98 101 rfl (Gs' := [gX10 cy oM aM M_35]) rfl ?_
                clear hu36
                refine ww_aload_n h dX10_spellTable_101 rfl 0 rfl 102 rfl ?_
                refine ww_bipush (v := 59) h dX10_spellTable_102 (by decide) 104 rfl ?_
                obtain ⟨M_37, hu38, hf⟩ := ob1 hf
                refine ww_cVv h (c_X10_writes l D ev cy oM aM M_35 (59 : Int32) _ hu38) ⟨w_1597, w_1594, w_1596, w_71, w_111, ok_X10_writes⟩ ⟨by decide, by decide⟩ ⟨by decide, by decide⟩ ⟨rfl, rfl⟩ [0] rfl 0 rfl rfl rfl rfl (Nat.le_of_ble_eq_true rfl) dX10_spellTable_104 107 rfl (Gs' := [gX10 cy oM aM M_37]) rfl ?_
                clear hu38
                exact hJ107_25 M_37 hf
              · replace hf := ite_t c hf
                refine ww_goto h dX10_spellTable_64 107 (by decide) ?_
                exact hJ107_25 M_21 hf
          · clear h19
            show ww X D A 4 Q 0 0 113 [(0, .ref oM), (1, .int p0), (2, .int v2_16)] [] [gX10 cy oM aM M_39]
            refine ww_inc (c := 1) h dX10_spellTable_113 2 rfl (by decide) (by decide) (fun v2_40 => [(2, .int v2_40), (0, .ref oM), (1, .int p0)]) (fun _ => rfl) 116 rfl (fun v2_40 e => ?_)
            replace hf := bnd_at e hf
            clear e
            refine ww_goto h dX10_spellTable_116 41 (by decide) ?_
            refine ww_lo [1, 2, 0] (lo' := [(0, .ref oM), (1, .int p0), (2, .int v2_40)]) rfl ?_
            exact hI15 (v2_40, M_39) (Option.some.inj hf).symm
      · clear h15
        show ww X D A 4 Q 0 0 119 [(0, .ref oM), (1, .int p0)] [] [gX10 cy oM aM M_41]
        refine ww_aload_n h dX10_spellTable_119 rfl 0 rfl 120 rfl ?_
        refine ww_iload_n h dX10_spellTable_120 rfl 1 rfl 121 rfl ?_
        obtain ⟨r_42, hu43, hf⟩ := ob1 hf
        refine ww_cVi h (c_X10_told l D ev cy oM aM M_41 p0 _ hu43) ⟨w_1601, w_1598, w_1600, w_72, w_111, ok_X10_told⟩ ⟨by decide, by decide⟩ ⟨by decide, by decide⟩ ⟨rfl, rfl⟩ [0] rfl 0 rfl rfl rfl rfl (Nat.le_of_ble_eq_true rfl) dX10_spellTable_121 124 rfl (Gs' := [gX10 cy oM aM M_41]) rfl ?_
        clear hu43
        obtain rfl := Option.some.inj hf
        exact ww_iret h dX10_spellTable_124 hQ ⟨rfl, rfl⟩
  · replace hf := ite_f c hf
    refine ww_iconst (v := (-1)) h dX10_spellTable_5 (by decide) 6 rfl ?_
    obtain rfl := Option.some.inj hf
    exact ww_iret h dX10_spellTable_6 hQ ⟨rfl, rfl⟩
theorem dX10_mayBe_0 : decode cX10_mayBe 0 = .ok (.aload_n 0, 1) := by decide +kernel
theorem dX10_mayBe_1 : decode cX10_mayBe 1 = .ok (.iload_n 2, 1) := by decide +kernel
theorem dX10_mayBe_2 : decode cX10_mayBe 2 = .ok (.invokevirtual 221, 3) := by decide +kernel
theorem dX10_mayBe_5 : decode cX10_mayBe 5 = .ok (.ifCond .ne 5, 3) := by decide +kernel
theorem dX10_mayBe_8 : decode cX10_mayBe 8 = .ok (.iconst 0, 1) := by decide +kernel
theorem dX10_mayBe_9 : decode cX10_mayBe 9 = .ok (.ireturn, 1) := by decide +kernel
theorem dX10_mayBe_10 : decode cX10_mayBe 10 = .ok (.aload_n 0, 1) := by decide +kernel
theorem dX10_mayBe_11 : decode cX10_mayBe 11 = .ok (.iload_n 1, 1) := by decide +kernel
theorem dX10_mayBe_12 : decode cX10_mayBe 12 = .ok (.iload_n 2, 1) := by decide +kernel
theorem dX10_mayBe_13 : decode cX10_mayBe 13 = .ok (.invokevirtual 231, 3) := by decide +kernel
theorem dX10_mayBe_16 : decode cX10_mayBe 16 = .ok (.aload_n 0, 1) := by decide +kernel
theorem dX10_mayBe_17 : decode cX10_mayBe 17 = .ok (.getfield 211, 3) := by decide +kernel
theorem dX10_mayBe_20 : decode cX10_mayBe 20 = .ok (.ifCond .ne 7, 3) := by decide +kernel
theorem dX10_mayBe_23 : decode cX10_mayBe 23 = .ok (.iconst 1, 1) := by decide +kernel
theorem dX10_mayBe_24 : decode cX10_mayBe 24 = .ok (.goto 4, 3) := by decide +kernel
theorem dX10_mayBe_27 : decode cX10_mayBe 27 = .ok (.iconst 0, 1) := by decide +kernel
theorem dX10_mayBe_28 : decode cX10_mayBe 28 = .ok (.ireturn, 1) := by decide +kernel
theorem ok_X10_mayBe : okY RX10 yX10_mayBe 2 := ⟨rfl, by decide, by decide, by decide +kernel⟩
def f_X10_mayBe (M : OV) (p0 : Int32) (p1 : Int32) : Option (Int32 × OV) := (f_X10_isLegal M p1).bind (un1 (fun r_1 => (if r_1 = 0 then some ((0 : Int32), M) else (f_X10_looks M p0 p1).bind (un1 (fun M_3 => (if (iv M_3 14) = 0 then some ((1 : Int32), M_3) else some ((0 : Int32), M_3)))))))
def r_X10_mayBe : Room := { frames := 4, cells := 0, slots := 0, locals := 97 }
set_option maxHeartbeats 4000000 in
set_option maxRecDepth 100000 in
theorem c_X10_mayBe (l : Launch) (D : va_G) (ev : EvT) (cy : Nat → ClassId) (oM : Nat) (aM : Nat → Nat) (M : OV) (p0 : Int32) (p1 : Int32) (o : Int32 × OV) (hf : f_X10_mayBe M p0 p1 = some o) : Fn l yX10_mayBe cX10_mayBe 3 (some .boolean) r_X10_mayBe D ev cy [.ref oM, .int p0, .int p1] [gX10 cy oM aM M] (fun v G => v = some (.int o.1) ∧ G = [gX10 cy oM aM o.2]) := by
  refine Fn_of (by decide) (Nat.le_of_ble_eq_true rfl) (fun X A Q h hQ _ => ?_)
  unfold f_X10_mayBe at hf
  show ww X D A 3 Q 0 0 0 [(0, .ref oM), (1, .int p0), (2, .int p1)] [] [gX10 cy oM aM M]
  refine ww_aload_n h dX10_mayBe_0 rfl 0 rfl 1 rfl ?_
  refine ww_iload_n h dX10_mayBe_1 rfl 2 rfl 2 rfl ?_
  obtain ⟨r_1, hu2, hf⟩ := ob1 hf
  refine ww_cVi h (c_X10_isLegal l D ev cy oM aM M p1 _ hu2) ⟨w_1461, w_1458, w_1460, w_51, w_111, ok_X10_isLegal⟩ ⟨by decide, by decide⟩ ⟨by decide, by decide⟩ ⟨rfl, rfl⟩ [0] rfl 0 rfl rfl rfl rfl (Nat.le_of_ble_eq_true rfl) dX10_mayBe_2 5 rfl (Gs' := [gX10 cy oM aM M]) rfl ?_
  clear hu2
  refine ww_if_ne h dX10_mayBe_5 10 (by decide) 8 rfl (fun c => ?_) (fun c => ?_)
  · replace hf := ite_f c hf
    refine ww_aload_n h dX10_mayBe_10 rfl 0 rfl 11 rfl ?_
    refine ww_iload_n h dX10_mayBe_11 rfl 1 rfl 12 rfl ?_
    refine ww_iload_n h dX10_mayBe_12 rfl 2 rfl 13 rfl ?_
    obtain ⟨M_3, hu4, hf⟩ := ob1 hf
    refine ww_cVv h (c_X10_looks l D ev cy oM aM M p0 p1 _ hu4) ⟨w_1469, w_1466, w_1468, w_52, w_111, ok_X10_looks⟩ ⟨by decide, by decide⟩ ⟨by decide, by decide⟩ ⟨rfl, rfl⟩ [0] rfl 0 rfl rfl rfl rfl (Nat.le_of_ble_eq_true rfl) dX10_mayBe_13 16 rfl (Gs' := [gX10 cy oM aM M_3]) rfl ?_
    clear hu4
    refine ww_aload_n h dX10_mayBe_16 rfl 0 rfl 17 rfl ?_
    refine ww_get h inG10 rfl 0 rfl rfl 14 (by decide) w_1171 rfl dX10_mayBe_17 20 rfl ?_
    refine ww_if_ne h dX10_mayBe_20 27 (by decide) 23 rfl (fun c => ?_) (fun c => ?_)
    · replace hf := ite_f c hf
      refine ww_iconst (v := 0) h dX10_mayBe_27 (by decide) 28 rfl ?_
      obtain rfl := Option.some.inj hf
      exact ww_zret h (Or.inl rfl) dX10_mayBe_28 hQ ⟨rfl, rfl⟩
    · replace hf := ite_t c hf
      refine ww_iconst (v := 1) h dX10_mayBe_23 (by decide) 24 rfl ?_
      refine ww_goto h dX10_mayBe_24 28 (by decide) ?_
      obtain rfl := Option.some.inj hf
      exact ww_zret h (Or.inr rfl) dX10_mayBe_28 hQ ⟨rfl, rfl⟩
  · replace hf := ite_t c hf
    refine ww_iconst (v := 0) h dX10_mayBe_8 (by decide) 9 rfl ?_
    obtain rfl := Option.some.inj hf
    exact ww_zret h (Or.inl rfl) dX10_mayBe_9 hQ ⟨rfl, rfl⟩
theorem dX10_laysWays_0 : decode cX10_laysWays 0 = .ok (.aload_n 0, 1) := by decide +kernel
theorem dX10_laysWays_1 : decode cX10_laysWays 1 = .ok (.getfield 81, 3) := by decide +kernel
theorem dX10_laysWays_4 : decode cX10_laysWays 4 = .ok (.aload_n 0, 1) := by decide +kernel
theorem dX10_laysWays_5 : decode cX10_laysWays 5 = .ok (.invokevirtual 132, 3) := by decide +kernel
theorem dX10_laysWays_8 : decode cX10_laysWays 8 = .ok (.lconst 1, 1) := by decide +kernel
theorem dX10_laysWays_9 : decode cX10_laysWays 9 = .ok (.lastore, 1) := by decide +kernel
theorem dX10_laysWays_10 : decode cX10_laysWays 10 = .ok (.aload_n 0, 1) := by decide +kernel
theorem dX10_laysWays_11 : decode cX10_laysWays 11 = .ok (.getfield 85, 3) := by decide +kernel
theorem dX10_laysWays_14 : decode cX10_laysWays 14 = .ok (.aload_n 0, 1) := by decide +kernel
theorem dX10_laysWays_15 : decode cX10_laysWays 15 = .ok (.invokevirtual 132, 3) := by decide +kernel
theorem dX10_laysWays_18 : decode cX10_laysWays 18 = .ok (.iconst 0, 1) := by decide +kernel
theorem dX10_laysWays_19 : decode cX10_laysWays 19 = .ok (.iastore, 1) := by decide +kernel
theorem dX10_laysWays_20 : decode cX10_laysWays 20 = .ok (.aload_n 0, 1) := by decide +kernel
theorem dX10_laysWays_21 : decode cX10_laysWays 21 = .ok (.invokevirtual 132, 3) := by decide +kernel
theorem dX10_laysWays_24 : decode cX10_laysWays 24 = .ok (.iconst 1, 1) := by decide +kernel
theorem dX10_laysWays_25 : decode cX10_laysWays 25 = .ok (.isub, 1) := by decide +kernel
theorem dX10_laysWays_26 : decode cX10_laysWays 26 = .ok (.istore_n 1, 1) := by decide +kernel
theorem dX10_laysWays_27 : decode cX10_laysWays 27 = .ok (.iload_n 1, 1) := by decide +kernel
theorem dX10_laysWays_28 : decode cX10_laysWays 28 = .ok (.ifCond .lt 125, 3) := by decide +kernel
theorem dX10_laysWays_31 : decode cX10_laysWays 31 = .ok (.aload_n 0, 1) := by decide +kernel
theorem dX10_laysWays_32 : decode cX10_laysWays 32 = .ok (.getfield 81, 3) := by decide +kernel
theorem dX10_laysWays_35 : decode cX10_laysWays 35 = .ok (.iload_n 1, 1) := by decide +kernel
theorem dX10_laysWays_36 : decode cX10_laysWays 36 = .ok (.lconst 0, 1) := by decide +kernel
theorem dX10_laysWays_37 : decode cX10_laysWays 37 = .ok (.lastore, 1) := by decide +kernel
theorem dX10_laysWays_38 : decode cX10_laysWays 38 = .ok (.aload_n 0, 1) := by decide +kernel
theorem dX10_laysWays_39 : decode cX10_laysWays 39 = .ok (.getfield 85, 3) := by decide +kernel
theorem dX10_laysWays_42 : decode cX10_laysWays 42 = .ok (.iload_n 1, 1) := by decide +kernel
theorem dX10_laysWays_43 : decode cX10_laysWays 43 = .ok (.iconst (-1), 1) := by decide +kernel
theorem dX10_laysWays_44 : decode cX10_laysWays 44 = .ok (.iastore, 1) := by decide +kernel
theorem dX10_laysWays_45 : decode cX10_laysWays 45 = .ok (.aload_n 0, 1) := by decide +kernel
theorem dX10_laysWays_46 : decode cX10_laysWays 46 = .ok (.iload_n 1, 1) := by decide +kernel
theorem dX10_laysWays_47 : decode cX10_laysWays 47 = .ok (.invokevirtual 228, 3) := by decide +kernel
theorem dX10_laysWays_50 : decode cX10_laysWays 50 = .ok (.istore_n 2, 1) := by decide +kernel
theorem dX10_laysWays_51 : decode cX10_laysWays 51 = .ok (.iload_n 1, 1) := by decide +kernel
theorem dX10_laysWays_52 : decode cX10_laysWays 52 = .ok (.istore_n 3, 1) := by decide +kernel
theorem dX10_laysWays_53 : decode cX10_laysWays 53 = .ok (.iload_n 3, 1) := by decide +kernel
theorem dX10_laysWays_54 : decode cX10_laysWays 54 = .ok (.iload_n 2, 1) := by decide +kernel
theorem dX10_laysWays_55 : decode cX10_laysWays 55 = .ok (.if_icmp .gt 92, 3) := by decide +kernel
theorem dX10_laysWays_58 : decode cX10_laysWays 58 = .ok (.aload_n 0, 1) := by decide +kernel
theorem dX10_laysWays_59 : decode cX10_laysWays 59 = .ok (.getfield 81, 3) := by decide +kernel
theorem dX10_laysWays_62 : decode cX10_laysWays 62 = .ok (.iload_n 3, 1) := by decide +kernel
theorem dX10_laysWays_63 : decode cX10_laysWays 63 = .ok (.iconst 1, 1) := by decide +kernel
theorem dX10_laysWays_64 : decode cX10_laysWays 64 = .ok (.iadd, 1) := by decide +kernel
theorem dX10_laysWays_65 : decode cX10_laysWays 65 = .ok (.laload, 1) := by decide +kernel
theorem dX10_laysWays_66 : decode cX10_laysWays 66 = .ok (.lconst 0, 1) := by decide +kernel
theorem dX10_laysWays_67 : decode cX10_laysWays 67 = .ok (.lcmp, 1) := by decide +kernel
theorem dX10_laysWays_68 : decode cX10_laysWays 68 = .ok (.ifCond .eq 73, 3) := by decide +kernel
theorem dX10_laysWays_71 : decode cX10_laysWays 71 = .ok (.aload_n 0, 1) := by decide +kernel
theorem dX10_laysWays_72 : decode cX10_laysWays 72 = .ok (.iload_n 1, 1) := by decide +kernel
theorem dX10_laysWays_73 : decode cX10_laysWays 73 = .ok (.iload_n 3, 1) := by decide +kernel
theorem dX10_laysWays_74 : decode cX10_laysWays 74 = .ok (.invokevirtual 310, 3) := by decide +kernel
theorem dX10_laysWays_77 : decode cX10_laysWays 77 = .ok (.ifCond .ne 6, 3) := by decide +kernel
theorem dX10_laysWays_80 : decode cX10_laysWays 80 = .ok (.goto 61, 3) := by decide +kernel
theorem dX10_laysWays_83 : decode cX10_laysWays 83 = .ok (.aload_n 0, 1) := by decide +kernel
theorem dX10_laysWays_84 : decode cX10_laysWays 84 = .ok (.getfield 81, 3) := by decide +kernel
theorem dX10_laysWays_87 : decode cX10_laysWays 87 = .ok (.iload_n 1, 1) := by decide +kernel
theorem dX10_laysWays_88 : decode cX10_laysWays 88 = .ok (.dup2, 1) := by decide +kernel
theorem dX10_laysWays_89 : decode cX10_laysWays 89 = .ok (.laload, 1) := by decide +kernel
theorem dX10_laysWays_90 : decode cX10_laysWays 90 = .ok (.aload_n 0, 1) := by decide +kernel
theorem dX10_laysWays_91 : decode cX10_laysWays 91 = .ok (.getfield 81, 3) := by decide +kernel
theorem dX10_laysWays_94 : decode cX10_laysWays 94 = .ok (.iload_n 3, 1) := by decide +kernel
theorem dX10_laysWays_95 : decode cX10_laysWays 95 = .ok (.iconst 1, 1) := by decide +kernel
theorem dX10_laysWays_96 : decode cX10_laysWays 96 = .ok (.iadd, 1) := by decide +kernel
theorem dX10_laysWays_97 : decode cX10_laysWays 97 = .ok (.laload, 1) := by decide +kernel
theorem dX10_laysWays_98 : decode cX10_laysWays 98 = .ok (.ladd, 1) := by decide +kernel
theorem dX10_laysWays_99 : decode cX10_laysWays 99 = .ok (.lastore, 1) := by decide +kernel
theorem dX10_laysWays_100 : decode cX10_laysWays 100 = .ok (.iconst 1, 1) := by decide +kernel
theorem dX10_laysWays_101 : decode cX10_laysWays 101 = .ok (.aload_n 0, 1) := by decide +kernel
theorem dX10_laysWays_102 : decode cX10_laysWays 102 = .ok (.getfield 85, 3) := by decide +kernel
theorem dX10_laysWays_105 : decode cX10_laysWays 105 = .ok (.iload_n 3, 1) := by decide +kernel
theorem dX10_laysWays_106 : decode cX10_laysWays 106 = .ok (.iconst 1, 1) := by decide +kernel
theorem dX10_laysWays_107 : decode cX10_laysWays 107 = .ok (.iadd, 1) := by decide +kernel
theorem dX10_laysWays_108 : decode cX10_laysWays 108 = .ok (.iaload, 1) := by decide +kernel
theorem dX10_laysWays_109 : decode cX10_laysWays 109 = .ok (.iadd, 1) := by decide +kernel
theorem dX10_laysWays_110 : decode cX10_laysWays 110 = .ok (.istore 4, 2) := by decide +kernel
theorem dX10_laysWays_112 : decode cX10_laysWays 112 = .ok (.aload_n 0, 1) := by decide +kernel
theorem dX10_laysWays_113 : decode cX10_laysWays 113 = .ok (.getfield 85, 3) := by decide +kernel
theorem dX10_laysWays_116 : decode cX10_laysWays 116 = .ok (.iload_n 1, 1) := by decide +kernel
theorem dX10_laysWays_117 : decode cX10_laysWays 117 = .ok (.iaload, 1) := by decide +kernel
theorem dX10_laysWays_118 : decode cX10_laysWays 118 = .ok (.iconst (-1), 1) := by decide +kernel
theorem dX10_laysWays_119 : decode cX10_laysWays 119 = .ok (.if_icmp .eq 14, 3) := by decide +kernel
theorem dX10_laysWays_122 : decode cX10_laysWays 122 = .ok (.iload 4, 2) := by decide +kernel
theorem dX10_laysWays_124 : decode cX10_laysWays 124 = .ok (.aload_n 0, 1) := by decide +kernel
theorem dX10_laysWays_125 : decode cX10_laysWays 125 = .ok (.getfield 85, 3) := by decide +kernel
theorem dX10_laysWays_128 : decode cX10_laysWays 128 = .ok (.iload_n 1, 1) := by decide +kernel
theorem dX10_laysWays_129 : decode cX10_laysWays 129 = .ok (.iaload, 1) := by decide +kernel
theorem dX10_laysWays_130 : decode cX10_laysWays 130 = .ok (.if_icmp .ge 11, 3) := by decide +kernel
theorem dX10_laysWays_133 : decode cX10_laysWays 133 = .ok (.aload_n 0, 1) := by decide +kernel
theorem dX10_laysWays_134 : decode cX10_laysWays 134 = .ok (.getfield 85, 3) := by decide +kernel
theorem dX10_laysWays_137 : decode cX10_laysWays 137 = .ok (.iload_n 1, 1) := by decide +kernel
theorem dX10_laysWays_138 : decode cX10_laysWays 138 = .ok (.iload 4, 2) := by decide +kernel
theorem dX10_laysWays_140 : decode cX10_laysWays 140 = .ok (.iastore, 1) := by decide +kernel
theorem dX10_laysWays_141 : decode cX10_laysWays 141 = .ok (.iinc 3 1, 3) := by decide +kernel
theorem dX10_laysWays_144 : decode cX10_laysWays 144 = .ok (.goto (-91), 3) := by decide +kernel
theorem dX10_laysWays_147 : decode cX10_laysWays 147 = .ok (.iinc 1 (-1), 3) := by decide +kernel
theorem dX10_laysWays_150 : decode cX10_laysWays 150 = .ok (.goto (-123), 3) := by decide +kernel
theorem dX10_laysWays_153 : decode cX10_laysWays 153 = .ok (.return_, 1) := by decide +kernel
theorem ok_X10_laysWays : okY RX10 yX10_laysWays 0 := ⟨rfl, by decide, by decide, by decide +kernel⟩
def j_X10_laysWays_141_23 (v3_20 : Int32) (M_22 : OV) : Option ((Int32 × OV) ⊕ (OV)) := bnd (v3_20 + 1) (fun v3_24 => some (.inl (v3_24, M_22)))
def j_X10_laysWays_133_30 (M_28 : OV) (v1_11 : Int32) (v3_20 : Int32) (v4_29 : Int32) : Option ((Int32 × OV) ⊕ (OV)) := gd (ix v1_11 41) (bnd (sA M_28 34 v1_11.toNatClampNeg v4_29) (fun M_31 => j_X10_laysWays_141_23 v3_20 M_31))
def s_X10_laysWays_53_19 (v1_11 : Int32) (v2_17 : Int32) : (Int32 × OV) → Option ((Int32 × OV) ⊕ (OV)) := un2 (fun v3_20 M_21 => (if v2_17 < v3_20 then some (.inr M_21) else gd (ix (v3_20 + (1 : Int32)) 41) ((if (lg_cmp (al M_21 33 (v3_20 + (1 : Int32)).toNatClampNeg) (0 : Int64)) = 0 then j_X10_laysWays_141_23 v3_20 M_21 else (f_X10_mayBe M_21 v1_11 v3_20).bind (un2 (fun r_25 M_26 => (if r_25 = 0 then j_X10_laysWays_141_23 v3_20 M_26 else gd (ix v1_11 41) (gd (ix (v3_20 + (1 : Int32)) 41) (gd (ix v1_11 41) (bnd (sL M_26 33 v1_11.toNatClampNeg ((al M_26 33 v1_11.toNatClampNeg) + (al M_26 33 (v3_20 + (1 : Int32)).toNatClampNeg))) (fun M_28 => gd (ix (v3_20 + (1 : Int32)) 41) (bnd ((1 : Int32) + (ar M_28 34 (v3_20 + (1 : Int32)).toNatClampNeg)) (fun v4_29 => gd (ix v1_11 41) ((if (ar M_28 34 v1_11.toNatClampNeg) = (-1 : Int32) then j_X10_laysWays_133_30 M_28 v1_11 v3_20 v4_29 else gd (ix v1_11 41) ((if (ar M_28 34 v1_11.toNatClampNeg) ≤ v4_29 then j_X10_laysWays_141_23 v3_20 M_28 else j_X10_laysWays_133_30 M_28 v1_11 v3_20 v4_29)))))))))))))))))
def s_X10_laysWays_27_10 : (Int32 × OV) → Option ((Int32 × OV) ⊕ (OV)) := un2 (fun v1_11 M_12 => (if v1_11 < 0 then some (.inr M_12) else gd (ix v1_11 41) (bnd (sL M_12 33 v1_11.toNatClampNeg (0 : Int64)) (fun M_13 => gd (ix v1_11 41) (bnd (sA M_13 34 v1_11.toNatClampNeg (-1 : Int32)) (fun M_14 => (f_X10_limitOf M_14 v1_11).bind (un1 (fun r_15 => bnd r_15 (fun v2_17 => bnd v1_11 (fun v3_18 => ((lp (s_X10_laysWays_53_19 v1_11 v2_17) 5000 (v3_18, M_14)).bind (un1 (fun M_32 => bnd (v1_11 + (-1)) (fun v1_33 => some (.inl (v1_33, M_32))))))))))))))))
def f_X10_laysWays (M : OV) : Option (OV) := (f_X10_many M).bind (un1 (fun r_1 => gd (ix r_1 41) (bnd (sL M 33 r_1.toNatClampNeg (1 : Int64)) (fun M_3 => (f_X10_many M_3).bind (un1 (fun r_4 => gd (ix r_4 41) (bnd (sA M_3 34 r_4.toNatClampNeg (0 : Int32)) (fun M_6 => (f_X10_many M_6).bind (un1 (fun r_7 => bnd (r_7 - (1 : Int32)) (fun v1_9 => ((lp (s_X10_laysWays_27_10) 5000 (v1_9, M_6)).bind (un1 (fun M_34 => some M_34))))))))))))))
def r_X10_laysWays : Room := { frames := 5, cells := 0, slots := 0, locals := 119 }
set_option maxHeartbeats 4000000 in
set_option maxRecDepth 100000 in
theorem c_X10_laysWays (l : Launch) (D : va_G) (ev : EvT) (cy : Nat → ClassId) (oM : Nat) (aM : Nat → Nat) (M : OV) (o : OV) (hf : f_X10_laysWays M = some o) : Fn l yX10_laysWays cX10_laysWays 5 none r_X10_laysWays D ev cy [.ref oM] [gX10 cy oM aM M] (fun v G => v = none ∧ G = [gX10 cy oM aM o]) := by
  refine Fn_of (by decide) (Nat.le_of_ble_eq_true rfl) (fun X A Q h hQ _ => ?_)
  unfold f_X10_laysWays at hf
  show ww X D A 5 Q 0 0 0 [(0, .ref oM)] [] [gX10 cy oM aM M]
  refine ww_aload_n h dX10_laysWays_0 rfl 0 rfl 1 rfl ?_
  refine ww_get h inG10 rfl 0 rfl rfl 33 (by decide) w_1190 rfl dX10_laysWays_1 4 rfl ?_
  refine ww_aload_n h dX10_laysWays_4 rfl 0 rfl 5 rfl ?_
  obtain ⟨r_1, hu2, hf⟩ := ob1 hf
  refine ww_cVi h (c_X10_many l D ev cy oM aM M _ hu2) ⟨w_1330, w_1327, w_1329, w_37, w_111, ok_X10_many⟩ ⟨by decide, by decide⟩ ⟨by decide, by decide⟩ ⟨rfl, rfl⟩ [0] rfl 0 rfl rfl rfl rfl (Nat.le_of_ble_eq_true rfl) dX10_laysWays_5 8 rfl (Gs' := [gX10 cy oM aM M]) rfl ?_
  clear hu2
  refine ww_lconst (v := 1) h dX10_laysWays_8 (by decide) 9 rfl ?_
  have hi := (gd_some hf).1
  replace hf := (gd_some hf).2
  refine ww_last h 0 rfl 23 rfl (ix_in hi) dX10_laysWays_9 10 rfl ?_
  clear hi
  refine ww_nm (fun z => [gX10 cy oM aM z]) (sL M 33 r_1.toNatClampNeg (1 : Int64)) (fun M_3 e => ?_)
  replace hf := bnd_at e hf
  clear e
  refine ww_aload_n h dX10_laysWays_10 rfl 0 rfl 11 rfl ?_
  refine ww_get h inG10 rfl 0 rfl rfl 34 (by decide) w_1191 rfl dX10_laysWays_11 14 rfl ?_
  refine ww_aload_n h dX10_laysWays_14 rfl 0 rfl 15 rfl ?_
  obtain ⟨r_4, hu5, hf⟩ := ob1 hf
  refine ww_cVi h (c_X10_many l D ev cy oM aM M_3 _ hu5) ⟨w_1330, w_1327, w_1329, w_37, w_111, ok_X10_many⟩ ⟨by decide, by decide⟩ ⟨by decide, by decide⟩ ⟨rfl, rfl⟩ [0] rfl 0 rfl rfl rfl rfl (Nat.le_of_ble_eq_true rfl) dX10_laysWays_15 18 rfl (Gs' := [gX10 cy oM aM M_3]) rfl ?_
  clear hu5
  refine ww_iconst (v := 0) h dX10_laysWays_18 (by decide) 19 rfl ?_
  have hi := (gd_some hf).1
  replace hf := (gd_some hf).2
  refine ww_iast h 0 rfl 24 rfl (ix_in hi) dX10_laysWays_19 20 rfl ?_
  clear hi
  refine ww_nm (fun z => [gX10 cy oM aM z]) (sA M_3 34 r_4.toNatClampNeg (0 : Int32)) (fun M_6 e => ?_)
  replace hf := bnd_at e hf
  clear e
  refine ww_aload_n h dX10_laysWays_20 rfl 0 rfl 21 rfl ?_
  obtain ⟨r_7, hu8, hf⟩ := ob1 hf
  refine ww_cVi h (c_X10_many l D ev cy oM aM M_6 _ hu8) ⟨w_1330, w_1327, w_1329, w_37, w_111, ok_X10_many⟩ ⟨by decide, by decide⟩ ⟨by decide, by decide⟩ ⟨rfl, rfl⟩ [0] rfl 0 rfl rfl rfl rfl (Nat.le_of_ble_eq_true rfl) dX10_laysWays_21 24 rfl (Gs' := [gX10 cy oM aM M_6]) rfl ?_
  clear hu8
  refine ww_iconst (v := 1) h dX10_laysWays_24 (by decide) 25 rfl ?_
  refine ww_isub h dX10_laysWays_25 26 rfl ?_
  refine ww_ist_n h dX10_laysWays_26 rfl (by decide) (fun v1_9 => [(1, .int v1_9), (0, .ref oM)]) (fun _ => rfl) 27 rfl (fun v1_9 e => ?_)
  replace hf := bnd_at e hf
  clear e
  refine ww_lo [1, 0] (lo' := [(0, .ref oM), (1, .int v1_9)]) rfl ?_
  obtain ⟨M_34, h10, hf⟩ := ob1 hf
  refine lp_walk (un2 (fun v1_11 M_12 => ww X D A 5 Q 0 0 27 [(0, .ref oM), (1, .int v1_11)] [] [gX10 cy oM aM M_12])) (un1 (fun M_34 => ww X D A 5 Q 0 0 153 [] [] [gX10 cy oM aM M_34])) ?_ _ _ _ h10 ?_
  · clear h10 hf
    intro s10 o10 hf hI10 hE10
    obtain ⟨v1_11, M_12⟩ := s10
    unfold s_X10_laysWays_27_10 at hf
    replace hf := un2_e hf
    show ww X D A 5 Q 0 0 27 [(0, .ref oM), (1, .int v1_11)] [] [gX10 cy oM aM M_12]
    refine ww_iload_n h dX10_laysWays_27 rfl 1 rfl 28 rfl ?_
    refine ww_if_lt h dX10_laysWays_28 153 (by decide) 31 rfl (fun c => ?_) (fun c => ?_)
    · replace hf := ite_t c hf
      refine ww_lo [] (lo' := []) rfl ?_
      exact hE10 M_12 (Option.some.inj hf).symm
    · replace hf := ite_f c hf
      refine ww_aload_n h dX10_laysWays_31 rfl 0 rfl 32 rfl ?_
      refine ww_get h inG10 rfl 0 rfl rfl 33 (by decide) w_1190 rfl dX10_laysWays_32 35 rfl ?_
      refine ww_iload_n h dX10_laysWays_35 rfl 1 rfl 36 rfl ?_
      refine ww_lconst (v := 0) h dX10_laysWays_36 (by decide) 37 rfl ?_
      have hi := (gd_some hf).1
      replace hf := (gd_some hf).2
      refine ww_last h 0 rfl 23 rfl (ix_in hi) dX10_laysWays_37 38 rfl ?_
      clear hi
      refine ww_nm (fun z => [gX10 cy oM aM z]) (sL M_12 33 v1_11.toNatClampNeg (0 : Int64)) (fun M_13 e => ?_)
      replace hf := bnd_at e hf
      clear e
      refine ww_aload_n h dX10_laysWays_38 rfl 0 rfl 39 rfl ?_
      refine ww_get h inG10 rfl 0 rfl rfl 34 (by decide) w_1191 rfl dX10_laysWays_39 42 rfl ?_
      refine ww_iload_n h dX10_laysWays_42 rfl 1 rfl 43 rfl ?_
      refine ww_iconst (v := (-1)) h dX10_laysWays_43 (by decide) 44 rfl ?_
      have hi := (gd_some hf).1
      replace hf := (gd_some hf).2
      refine ww_iast h 0 rfl 24 rfl (ix_in hi) dX10_laysWays_44 45 rfl ?_
      clear hi
      refine ww_nm (fun z => [gX10 cy oM aM z]) (sA M_13 34 v1_11.toNatClampNeg (-1 : Int32)) (fun M_14 e => ?_)
      replace hf := bnd_at e hf
      clear e
      refine ww_aload_n h dX10_laysWays_45 rfl 0 rfl 46 rfl ?_
      refine ww_iload_n h dX10_laysWays_46 rfl 1 rfl 47 rfl ?_
      obtain ⟨r_15, hu16, hf⟩ := ob1 hf
      refine ww_cVi h (c_X10_limitOf l D ev cy oM aM M_14 v1_11 _ hu16) ⟨w_1504, w_1501, w_1503, w_58, w_111, ok_X10_limitOf⟩ ⟨by decide, by decide⟩ ⟨by decide, by decide⟩ ⟨rfl, rfl⟩ [0] rfl 0 rfl rfl rfl rfl (Nat.le_of_ble_eq_true rfl) dX10_laysWays_47 50 rfl (Gs' := [gX10 cy oM aM M_14]) rfl ?_
      clear hu16
      refine ww_ist_n h dX10_laysWays_50 rfl (by decide) (fun v2_17 => [(2, .int v2_17), (0, .ref oM), (1, .int v1_11)]) (fun _ => rfl) 51 rfl (fun v2_17 e => ?_)
      replace hf := bnd_at e hf
      clear e
      refine ww_iload_n h dX10_laysWays_51 rfl 2 rfl 52 rfl ?_
      refine ww_ist_n h dX10_laysWays_52 rfl (by decide) (fun v3_18 => [(3, .int v3_18), (2, .int v2_17), (0, .ref oM), (1, .int v1_11)]) (fun _ => rfl) 53 rfl (fun v3_18 e => ?_)
      replace hf := bnd_at e hf
      clear e
      refine ww_lo [2, 3, 1, 0] (lo' := [(0, .ref oM), (1, .int v1_11), (2, .int v2_17), (3, .int v3_18)]) rfl ?_
      obtain ⟨M_32, h19, hf⟩ := ob1 hf
      refine lp_walk (un2 (fun v3_20 M_21 => ww X D A 5 Q 0 0 53 [(0, .ref oM), (1, .int v1_11), (2, .int v2_17), (3, .int v3_20)] [] [gX10 cy oM aM M_21])) (un1 (fun M_32 => ww X D A 5 Q 0 0 147 [(0, .ref oM), (1, .int v1_11)] [] [gX10 cy oM aM M_32])) ?_ _ _ _ h19 ?_
      · clear h19 hf
        intro s19 o19 hf hI19 hE19
        obtain ⟨v3_20, M_21⟩ := s19
        unfold s_X10_laysWays_53_19 at hf
        replace hf := un2_e hf
        show ww X D A 5 Q 0 0 53 [(0, .ref oM), (1, .int v1_11), (2, .int v2_17), (3, .int v3_20)] [] [gX10 cy oM aM M_21]
        refine ww_iload_n h dX10_laysWays_53 rfl 3 rfl 54 rfl ?_
        refine ww_iload_n h dX10_laysWays_54 rfl 2 rfl 55 rfl ?_
        refine ww_icmp_gt h dX10_laysWays_55 147 (by decide) 58 rfl (fun c => ?_) (fun c => ?_)
        · replace hf := ite_t c hf
          refine ww_lo [0, 1] (lo' := [(0, .ref oM), (1, .int v1_11)]) rfl ?_
          exact hE19 M_21 (Option.some.inj hf).symm
        · replace hf := ite_f c hf
          refine ww_aload_n h dX10_laysWays_58 rfl 0 rfl 59 rfl ?_
          refine ww_get h inG10 rfl 0 rfl rfl 33 (by decide) w_1190 rfl dX10_laysWays_59 62 rfl ?_
          refine ww_iload_n h dX10_laysWays_62 rfl 3 rfl 63 rfl ?_
          refine ww_iconst (v := 1) h dX10_laysWays_63 (by decide) 64 rfl ?_
          refine ww_iadd h dX10_laysWays_64 65 rfl ?_
          have hi := (gd_some hf).1
          replace hf := (gd_some hf).2
          refine ww_lald h 0 rfl 23 rfl (ix_in hi) dX10_laysWays_65 66 rfl ?_
          clear hi
          refine ww_lconst (v := 0) h dX10_laysWays_66 (by decide) 67 rfl ?_
          refine ww_lcmp h dX10_laysWays_67 68 rfl ?_
          have hJ141_23 : ∀ (M_22 : OV), j_X10_laysWays_141_23 v3_20 M_22 = some o19 → ww X D A 5 Q 0 0 141 [(0, .ref oM), (1, .int v1_11), (2, .int v2_17), (3, .int v3_20)] [] [gX10 cy oM aM M_22] := by
            intro M_22 hf
            unfold j_X10_laysWays_141_23 at hf
            refine ww_inc (c := 1) h dX10_laysWays_141 3 rfl (by decide) (by decide) (fun v3_24 => [(3, .int v3_24), (0, .ref oM), (1, .int v1_11), (2, .int v2_17)]) (fun _ => rfl) 144 rfl (fun v3_24 e => ?_)
            replace hf := bnd_at e hf
            clear e
            refine ww_goto h dX10_laysWays_144 53 (by decide) ?_
            refine ww_lo [1, 2, 3, 0] (lo' := [(0, .ref oM), (1, .int v1_11), (2, .int v2_17), (3, .int v3_24)]) rfl ?_
            exact hI19 (v3_24, M_22) (Option.some.inj hf).symm
          refine ww_if_eq h dX10_laysWays_68 141 (by decide) 71 rfl (fun c => ?_) (fun c => ?_)
          · replace hf := ite_t c hf
            exact hJ141_23 M_21 hf
          · replace hf := ite_f c hf
            refine ww_aload_n h dX10_laysWays_71 rfl 0 rfl 72 rfl ?_
            refine ww_iload_n h dX10_laysWays_72 rfl 1 rfl 73 rfl ?_
            refine ww_iload_n h dX10_laysWays_73 rfl 3 rfl 74 rfl ?_
            obtain ⟨r_25, M_26, hu27, hf⟩ := ob2 hf
            refine ww_cVi h (c_X10_mayBe l D ev cy oM aM M_21 v1_11 v3_20 _ hu27) ⟨w_1637, w_1634, w_1636, w_79, w_111, ok_X10_mayBe⟩ ⟨by decide, by decide⟩ ⟨by decide, by decide⟩ ⟨rfl, rfl⟩ [0] rfl 0 rfl rfl rfl rfl (Nat.le_of_ble_eq_true rfl) dX10_laysWays_74 77 rfl (Gs' := [gX10 cy oM aM M_26]) rfl ?_
            clear hu27
            refine ww_if_ne h dX10_laysWays_77 83 (by decide) 80 rfl (fun c => ?_) (fun c => ?_)
            · replace hf := ite_f c hf
              refine ww_aload_n h dX10_laysWays_83 rfl 0 rfl 84 rfl ?_
              refine ww_get h inG10 rfl 0 rfl rfl 33 (by decide) w_1190 rfl dX10_laysWays_84 87 rfl ?_
              refine ww_iload_n h dX10_laysWays_87 rfl 1 rfl 88 rfl ?_
              refine ww_dup2 h dX10_laysWays_88 rfl rfl 89 rfl ?_
              have hi := (gd_some hf).1
              replace hf := (gd_some hf).2
              refine ww_lald h 0 rfl 23 rfl (ix_in hi) dX10_laysWays_89 90 rfl ?_
              clear hi
              refine ww_aload_n h dX10_laysWays_90 rfl 0 rfl 91 rfl ?_
              refine ww_get h inG10 rfl 0 rfl rfl 33 (by decide) w_1190 rfl dX10_laysWays_91 94 rfl ?_
              refine ww_iload_n h dX10_laysWays_94 rfl 3 rfl 95 rfl ?_
              refine ww_iconst (v := 1) h dX10_laysWays_95 (by decide) 96 rfl ?_
              refine ww_iadd h dX10_laysWays_96 97 rfl ?_
              have hi := (gd_some hf).1
              replace hf := (gd_some hf).2
              refine ww_lald h 0 rfl 23 rfl (ix_in hi) dX10_laysWays_97 98 rfl ?_
              clear hi
              refine ww_ladd h dX10_laysWays_98 99 rfl ?_
              have hi := (gd_some hf).1
              replace hf := (gd_some hf).2
              refine ww_last h 0 rfl 23 rfl (ix_in hi) dX10_laysWays_99 100 rfl ?_
              clear hi
              refine ww_nm (fun z => [gX10 cy oM aM z]) (sL M_26 33 v1_11.toNatClampNeg ((al M_26 33 v1_11.toNatClampNeg) + (al M_26 33 (v3_20 + (1 : Int32)).toNatClampNeg))) (fun M_28 e => ?_)
              replace hf := bnd_at e hf
              clear e
              refine ww_iconst (v := 1) h dX10_laysWays_100 (by decide) 101 rfl ?_
              refine ww_aload_n h dX10_laysWays_101 rfl 0 rfl 102 rfl ?_
              refine ww_get h inG10 rfl 0 rfl rfl 34 (by decide) w_1191 rfl dX10_laysWays_102 105 rfl ?_
              refine ww_iload_n h dX10_laysWays_105 rfl 3 rfl 106 rfl ?_
              refine ww_iconst (v := 1) h dX10_laysWays_106 (by decide) 107 rfl ?_
              refine ww_iadd h dX10_laysWays_107 108 rfl ?_
              have hi := (gd_some hf).1
              replace hf := (gd_some hf).2
              refine ww_iald h 0 rfl 24 rfl (ix_in hi) dX10_laysWays_108 109 rfl ?_
              clear hi
              refine ww_iadd h dX10_laysWays_109 110 rfl ?_
              refine ww_ist h dX10_laysWays_110 (by decide) (fun v4_29 => [(4, .int v4_29), (0, .ref oM), (1, .int v1_11), (2, .int v2_17), (3, .int v3_20)]) (fun _ => rfl) 112 rfl (fun v4_29 e => ?_)
              replace hf := bnd_at e hf
              clear e
              refine ww_aload_n h dX10_laysWays_112 rfl 1 rfl 113 rfl ?_
              refine ww_get h inG10 rfl 0 rfl rfl 34 (by decide) w_1191 rfl dX10_laysWays_113 116 rfl ?_
              refine ww_iload_n h dX10_laysWays_116 rfl 2 rfl 117 rfl ?_
              have hi := (gd_some hf).1
              replace hf := (gd_some hf).2
              refine ww_iald h 0 rfl 24 rfl (ix_in hi) dX10_laysWays_117 118 rfl ?_
              clear hi
              refine ww_iconst (v := (-1)) h dX10_laysWays_118 (by decide) 119 rfl ?_
              have hJ133_30 : ∀ (_ : Unit), j_X10_laysWays_133_30 M_28 v1_11 v3_20 v4_29 = some o19 → ww X D A 5 Q 0 0 133 [(0, .ref oM), (1, .int v1_11), (2, .int v2_17), (3, .int v3_20), (4, .int v4_29)] [] [gX10 cy oM aM M_28] := by
                intro _ hf
                unfold j_X10_laysWays_133_30 at hf
                refine ww_aload_n h dX10_laysWays_133 rfl 0 rfl 134 rfl ?_
                refine ww_get h inG10 rfl 0 rfl rfl 34 (by decide) w_1191 rfl dX10_laysWays_134 137 rfl ?_
                refine ww_iload_n h dX10_laysWays_137 rfl 1 rfl 138 rfl ?_
                refine ww_iload h dX10_laysWays_138 4 rfl 140 rfl ?_
                have hi := (gd_some hf).1
                replace hf := (gd_some hf).2
                refine ww_iast h 0 rfl 24 rfl (ix_in hi) dX10_laysWays_140 141 rfl ?_
                clear hi
                refine ww_nm (fun z => [gX10 cy oM aM z]) (sA M_28 34 v1_11.toNatClampNeg v4_29) (fun M_31 e => ?_)
                replace hf := bnd_at e hf
                clear e
                refine ww_lo [0, 1, 2, 3] (lo' := [(0, .ref oM), (1, .int v1_11), (2, .int v2_17), (3, .int v3_20)]) rfl ?_
                exact hJ141_23 M_31 hf
              refine ww_icmp_eq h dX10_laysWays_119 133 (by decide) 122 rfl (fun c => ?_) (fun c => ?_)
              · replace hf := ite_t c hf
                refine ww_lo [1, 2, 3, 4, 0] (lo' := [(0, .ref oM), (1, .int v1_11), (2, .int v2_17), (3, .int v3_20), (4, .int v4_29)]) rfl ?_
                exact hJ133_30 () hf
              · replace hf := ite_f c hf
                refine ww_iload h dX10_laysWays_122 0 rfl 124 rfl ?_
                refine ww_aload_n h dX10_laysWays_124 rfl 1 rfl 125 rfl ?_
                refine ww_get h inG10 rfl 0 rfl rfl 34 (by decide) w_1191 rfl dX10_laysWays_125 128 rfl ?_
                refine ww_iload_n h dX10_laysWays_128 rfl 2 rfl 129 rfl ?_
                have hi := (gd_some hf).1
                replace hf := (gd_some hf).2
                refine ww_iald h 0 rfl 24 rfl (ix_in hi) dX10_laysWays_129 130 rfl ?_
                clear hi
                refine ww_icmp_ge h dX10_laysWays_130 141 (by decide) 133 rfl (fun c => ?_) (fun c => ?_)
                · replace hf := ite_t c hf
                  refine ww_lo [1, 2, 3, 4] (lo' := [(0, .ref oM), (1, .int v1_11), (2, .int v2_17), (3, .int v3_20)]) rfl ?_
                  exact hJ141_23 M_28 hf
                · replace hf := ite_f c hf
                  refine ww_lo [1, 2, 3, 4, 0] (lo' := [(0, .ref oM), (1, .int v1_11), (2, .int v2_17), (3, .int v3_20), (4, .int v4_29)]) rfl ?_
                  exact hJ133_30 () hf
            · replace hf := ite_t c hf
              refine ww_goto h dX10_laysWays_80 141 (by decide) ?_
              exact hJ141_23 M_26 hf
      · clear h19
        show ww X D A 5 Q 0 0 147 [(0, .ref oM), (1, .int v1_11)] [] [gX10 cy oM aM M_32]
        refine ww_inc (c := (-1)) h dX10_laysWays_147 1 rfl (by decide) (by decide) (fun v1_33 => [(1, .int v1_33), (0, .ref oM)]) (fun _ => rfl) 150 rfl (fun v1_33 e => ?_)
        replace hf := bnd_at e hf
        clear e
        refine ww_goto h dX10_laysWays_150 27 (by decide) ?_
        refine ww_lo [1, 0] (lo' := [(0, .ref oM), (1, .int v1_33)]) rfl ?_
        exact hI10 (v1_33, M_32) (Option.some.inj hf).symm
  · clear h10
    show ww X D A 5 Q 0 0 153 [] [] [gX10 cy oM aM M_34]
    obtain rfl := Option.some.inj hf
    exact ww_vret h dX10_laysWays_153 hQ ⟨rfl, rfl⟩
theorem dX10_ways_0 : decode cX10_ways 0 = .ok (.aload_n 0, 1) := by decide +kernel
theorem dX10_ways_1 : decode cX10_ways 1 = .ok (.invokevirtual 132, 3) := by decide +kernel
theorem dX10_ways_4 : decode cX10_ways 4 = .ok (.ifCond .ne 5, 3) := by decide +kernel
theorem dX10_ways_7 : decode cX10_ways 7 = .ok (.iconst 0, 1) := by decide +kernel
theorem dX10_ways_8 : decode cX10_ways 8 = .ok (.ireturn, 1) := by decide +kernel
theorem dX10_ways_9 : decode cX10_ways 9 = .ok (.aload_n 0, 1) := by decide +kernel
theorem dX10_ways_10 : decode cX10_ways 10 = .ok (.invokevirtual 313, 3) := by decide +kernel
theorem dX10_ways_13 : decode cX10_ways 13 = .ok (.aload_n 0, 1) := by decide +kernel
theorem dX10_ways_14 : decode cX10_ways 14 = .ok (.getfield 81, 3) := by decide +kernel
theorem dX10_ways_17 : decode cX10_ways 17 = .ok (.iconst 0, 1) := by decide +kernel
theorem dX10_ways_18 : decode cX10_ways 18 = .ok (.laload, 1) := by decide +kernel
theorem dX10_ways_19 : decode cX10_ways 19 = .ok (.ldc2_w 316, 3) := by decide +kernel
theorem dX10_ways_22 : decode cX10_ways 22 = .ok (.lcmp, 1) := by decide +kernel
theorem dX10_ways_23 : decode cX10_ways 23 = .ok (.ifCond .le 8, 3) := by decide +kernel
theorem dX10_ways_26 : decode cX10_ways 26 = .ok (.ldc 237, 2) := by decide +kernel
theorem dX10_ways_28 : decode cX10_ways 28 = .ok (.goto 10, 3) := by decide +kernel
theorem dX10_ways_31 : decode cX10_ways 31 = .ok (.aload_n 0, 1) := by decide +kernel
theorem dX10_ways_32 : decode cX10_ways 32 = .ok (.getfield 81, 3) := by decide +kernel
theorem dX10_ways_35 : decode cX10_ways 35 = .ok (.iconst 0, 1) := by decide +kernel
theorem dX10_ways_36 : decode cX10_ways 36 = .ok (.laload, 1) := by decide +kernel
theorem dX10_ways_37 : decode cX10_ways 37 = .ok (.l2i, 1) := by decide +kernel
theorem dX10_ways_38 : decode cX10_ways 38 = .ok (.ireturn, 1) := by decide +kernel
theorem ok_X10_ways : okY RX10 yX10_ways 0 := ⟨rfl, by decide, by decide, by decide +kernel⟩
def f_X10_ways (M : OV) : Option (Int32 × OV) := (f_X10_many M).bind (un1 (fun r_1 => (if r_1 = 0 then some ((0 : Int32), M) else (f_X10_laysWays M).bind (un1 (fun M_3 => gd (ix (0 : Int32) 41) ((if (lg_cmp (al M_3 33 (0 : Int32).toNatClampNeg) (1000000000 : Int64)) ≤ 0 then gd (ix (0 : Int32) 41) (some (((al M_3 33 (0 : Int32).toNatClampNeg).toInt32), M_3)) else some ((1000000000 : Int32), M_3))))))))
def r_X10_ways : Room := { frames := 6, cells := 0, slots := 0, locals := 143 }
set_option maxHeartbeats 4000000 in
set_option maxRecDepth 100000 in
theorem c_X10_ways (l : Launch) (D : va_G) (ev : EvT) (cy : Nat → ClassId) (oM : Nat) (aM : Nat → Nat) (M : OV) (o : Int32 × OV) (hf : f_X10_ways M = some o) : Fn l yX10_ways cX10_ways 1 (some .int) r_X10_ways D ev cy [.ref oM] [gX10 cy oM aM M] (fun v G => v = some (.int o.1) ∧ G = [gX10 cy oM aM o.2]) := by
  refine Fn_of (by decide) (Nat.le_of_ble_eq_true rfl) (fun X A Q h hQ _ => ?_)
  unfold f_X10_ways at hf
  show ww X D A 1 Q 0 0 0 [(0, .ref oM)] [] [gX10 cy oM aM M]
  refine ww_aload_n h dX10_ways_0 rfl 0 rfl 1 rfl ?_
  obtain ⟨r_1, hu2, hf⟩ := ob1 hf
  refine ww_cVi h (c_X10_many l D ev cy oM aM M _ hu2) ⟨w_1330, w_1327, w_1329, w_37, w_111, ok_X10_many⟩ ⟨by decide, by decide⟩ ⟨by decide, by decide⟩ ⟨rfl, rfl⟩ [0] rfl 0 rfl rfl rfl rfl (Nat.le_of_ble_eq_true rfl) dX10_ways_1 4 rfl (Gs' := [gX10 cy oM aM M]) rfl ?_
  clear hu2
  refine ww_if_ne h dX10_ways_4 9 (by decide) 7 rfl (fun c => ?_) (fun c => ?_)
  · replace hf := ite_f c hf
    refine ww_aload_n h dX10_ways_9 rfl 0 rfl 10 rfl ?_
    obtain ⟨M_3, hu4, hf⟩ := ob1 hf
    refine ww_cVv h (c_X10_laysWays l D ev cy oM aM M _ hu4) ⟨w_1633, w_1630, w_1632, w_78, w_111, ok_X10_laysWays⟩ ⟨by decide, by decide⟩ ⟨by decide, by decide⟩ ⟨rfl, rfl⟩ [0] rfl 0 rfl rfl rfl rfl (Nat.le_of_ble_eq_true rfl) dX10_ways_10 13 rfl (Gs' := [gX10 cy oM aM M_3]) rfl ?_
    clear hu4
    refine ww_aload_n h dX10_ways_13 rfl 0 rfl 14 rfl ?_
    refine ww_get h inG10 rfl 0 rfl rfl 33 (by decide) w_1190 rfl dX10_ways_14 17 rfl ?_
    refine ww_iconst (v := 0) h dX10_ways_17 (by decide) 18 rfl ?_
    have hi := (gd_some hf).1
    replace hf := (gd_some hf).2
    refine ww_lald h 0 rfl 23 rfl (ix_in hi) dX10_ways_18 19 rfl ?_
    clear hi
    refine ww_ldc2 h w_1638 dX10_ways_19 22 rfl ?_
    refine ww_lcmp h dX10_ways_22 23 rfl ?_
    refine ww_if_le h dX10_ways_23 31 (by decide) 26 rfl (fun c => ?_) (fun c => ?_)
    · replace hf := ite_t c hf
      refine ww_aload_n h dX10_ways_31 rfl 0 rfl 32 rfl ?_
      refine ww_get h inG10 rfl 0 rfl rfl 33 (by decide) w_1190 rfl dX10_ways_32 35 rfl ?_
      refine ww_iconst (v := 0) h dX10_ways_35 (by decide) 36 rfl ?_
      have hi := (gd_some hf).1
      replace hf := (gd_some hf).2
      refine ww_lald h 0 rfl 23 rfl (ix_in hi) dX10_ways_36 37 rfl ?_
      clear hi
      refine ww_l2i h dX10_ways_37 38 rfl ?_
      obtain rfl := Option.some.inj hf
      exact ww_iret h dX10_ways_38 hQ ⟨rfl, rfl⟩
    · replace hf := ite_f c hf
      refine ww_ldc h w_1505 dX10_ways_26 28 rfl ?_
      refine ww_goto h dX10_ways_28 38 (by decide) ?_
      obtain rfl := Option.some.inj hf
      exact ww_iret h dX10_ways_38 hQ ⟨rfl, rfl⟩
  · replace hf := ite_t c hf
    refine ww_iconst (v := 0) h dX10_ways_7 (by decide) 8 rfl ?_
    obtain rfl := Option.some.inj hf
    exact ww_iret h dX10_ways_8 hQ ⟨rfl, rfl⟩
theorem dX10_fewest_0 : decode cX10_fewest 0 = .ok (.aload_n 0, 1) := by decide +kernel
theorem dX10_fewest_1 : decode cX10_fewest 1 = .ok (.invokevirtual 132, 3) := by decide +kernel
theorem dX10_fewest_4 : decode cX10_fewest 4 = .ok (.ifCond .ne 6, 3) := by decide +kernel
theorem dX10_fewest_7 : decode cX10_fewest 7 = .ok (.bipush (-2), 2) := by decide +kernel
theorem dX10_fewest_9 : decode cX10_fewest 9 = .ok (.ireturn, 1) := by decide +kernel
theorem dX10_fewest_10 : decode cX10_fewest 10 = .ok (.aload_n 0, 1) := by decide +kernel
theorem dX10_fewest_11 : decode cX10_fewest 11 = .ok (.invokevirtual 313, 3) := by decide +kernel
theorem dX10_fewest_14 : decode cX10_fewest 14 = .ok (.aload_n 0, 1) := by decide +kernel
theorem dX10_fewest_15 : decode cX10_fewest 15 = .ok (.getfield 81, 3) := by decide +kernel
theorem dX10_fewest_18 : decode cX10_fewest 18 = .ok (.iconst 0, 1) := by decide +kernel
theorem dX10_fewest_19 : decode cX10_fewest 19 = .ok (.laload, 1) := by decide +kernel
theorem dX10_fewest_20 : decode cX10_fewest 20 = .ok (.lconst 0, 1) := by decide +kernel
theorem dX10_fewest_21 : decode cX10_fewest 21 = .ok (.lcmp, 1) := by decide +kernel
theorem dX10_fewest_22 : decode cX10_fewest 22 = .ok (.ifCond .ne 8, 3) := by decide +kernel
theorem dX10_fewest_25 : decode cX10_fewest 25 = .ok (.bipush (-2), 2) := by decide +kernel
theorem dX10_fewest_27 : decode cX10_fewest 27 = .ok (.goto 9, 3) := by decide +kernel
theorem dX10_fewest_30 : decode cX10_fewest 30 = .ok (.aload_n 0, 1) := by decide +kernel
theorem dX10_fewest_31 : decode cX10_fewest 31 = .ok (.getfield 85, 3) := by decide +kernel
theorem dX10_fewest_34 : decode cX10_fewest 34 = .ok (.iconst 0, 1) := by decide +kernel
theorem dX10_fewest_35 : decode cX10_fewest 35 = .ok (.iaload, 1) := by decide +kernel
theorem dX10_fewest_36 : decode cX10_fewest 36 = .ok (.ireturn, 1) := by decide +kernel
theorem ok_X10_fewest : okY RX10 yX10_fewest 0 := ⟨rfl, by decide, by decide, by decide +kernel⟩
def f_X10_fewest (M : OV) : Option (Int32 × OV) := (f_X10_many M).bind (un1 (fun r_1 => (if r_1 = 0 then some ((-2 : Int32), M) else (f_X10_laysWays M).bind (un1 (fun M_3 => gd (ix (0 : Int32) 41) ((if (lg_cmp (al M_3 33 (0 : Int32).toNatClampNeg) (0 : Int64)) = 0 then some ((-2 : Int32), M_3) else gd (ix (0 : Int32) 41) (some ((ar M_3 34 (0 : Int32).toNatClampNeg), M_3)))))))))
def r_X10_fewest : Room := { frames := 6, cells := 0, slots := 0, locals := 143 }
set_option maxHeartbeats 4000000 in
set_option maxRecDepth 100000 in
theorem c_X10_fewest (l : Launch) (D : va_G) (ev : EvT) (cy : Nat → ClassId) (oM : Nat) (aM : Nat → Nat) (M : OV) (o : Int32 × OV) (hf : f_X10_fewest M = some o) : Fn l yX10_fewest cX10_fewest 1 (some .int) r_X10_fewest D ev cy [.ref oM] [gX10 cy oM aM M] (fun v G => v = some (.int o.1) ∧ G = [gX10 cy oM aM o.2]) := by
  refine Fn_of (by decide) (Nat.le_of_ble_eq_true rfl) (fun X A Q h hQ _ => ?_)
  unfold f_X10_fewest at hf
  show ww X D A 1 Q 0 0 0 [(0, .ref oM)] [] [gX10 cy oM aM M]
  refine ww_aload_n h dX10_fewest_0 rfl 0 rfl 1 rfl ?_
  obtain ⟨r_1, hu2, hf⟩ := ob1 hf
  refine ww_cVi h (c_X10_many l D ev cy oM aM M _ hu2) ⟨w_1330, w_1327, w_1329, w_37, w_111, ok_X10_many⟩ ⟨by decide, by decide⟩ ⟨by decide, by decide⟩ ⟨rfl, rfl⟩ [0] rfl 0 rfl rfl rfl rfl (Nat.le_of_ble_eq_true rfl) dX10_fewest_1 4 rfl (Gs' := [gX10 cy oM aM M]) rfl ?_
  clear hu2
  refine ww_if_ne h dX10_fewest_4 10 (by decide) 7 rfl (fun c => ?_) (fun c => ?_)
  · replace hf := ite_f c hf
    refine ww_aload_n h dX10_fewest_10 rfl 0 rfl 11 rfl ?_
    obtain ⟨M_3, hu4, hf⟩ := ob1 hf
    refine ww_cVv h (c_X10_laysWays l D ev cy oM aM M _ hu4) ⟨w_1633, w_1630, w_1632, w_78, w_111, ok_X10_laysWays⟩ ⟨by decide, by decide⟩ ⟨by decide, by decide⟩ ⟨rfl, rfl⟩ [0] rfl 0 rfl rfl rfl rfl (Nat.le_of_ble_eq_true rfl) dX10_fewest_11 14 rfl (Gs' := [gX10 cy oM aM M_3]) rfl ?_
    clear hu4
    refine ww_aload_n h dX10_fewest_14 rfl 0 rfl 15 rfl ?_
    refine ww_get h inG10 rfl 0 rfl rfl 33 (by decide) w_1190 rfl dX10_fewest_15 18 rfl ?_
    refine ww_iconst (v := 0) h dX10_fewest_18 (by decide) 19 rfl ?_
    have hi := (gd_some hf).1
    replace hf := (gd_some hf).2
    refine ww_lald h 0 rfl 23 rfl (ix_in hi) dX10_fewest_19 20 rfl ?_
    clear hi
    refine ww_lconst (v := 0) h dX10_fewest_20 (by decide) 21 rfl ?_
    refine ww_lcmp h dX10_fewest_21 22 rfl ?_
    refine ww_if_ne h dX10_fewest_22 30 (by decide) 25 rfl (fun c => ?_) (fun c => ?_)
    · replace hf := ite_f c hf
      refine ww_aload_n h dX10_fewest_30 rfl 0 rfl 31 rfl ?_
      refine ww_get h inG10 rfl 0 rfl rfl 34 (by decide) w_1191 rfl dX10_fewest_31 34 rfl ?_
      refine ww_iconst (v := 0) h dX10_fewest_34 (by decide) 35 rfl ?_
      have hi := (gd_some hf).1
      replace hf := (gd_some hf).2
      refine ww_iald h 0 rfl 24 rfl (ix_in hi) dX10_fewest_35 36 rfl ?_
      clear hi
      obtain rfl := Option.some.inj hf
      exact ww_iret h dX10_fewest_36 hQ ⟨rfl, rfl⟩
    · replace hf := ite_t c hf
      refine ww_bipush (v := (-2)) h dX10_fewest_25 (by decide) 27 rfl ?_
      refine ww_goto h dX10_fewest_27 36 (by decide) ?_
      obtain rfl := Option.some.inj hf
      exact ww_iret h dX10_fewest_36 hQ ⟨rfl, rfl⟩
  · replace hf := ite_t c hf
    refine ww_bipush (v := (-2)) h dX10_fewest_7 (by decide) 9 rfl ?_
    obtain rfl := Option.some.inj hf
    exact ww_iret h dX10_fewest_9 hQ ⟨rfl, rfl⟩
theorem dX10_way_0 : decode cX10_way 0 = .ok (.iload_n 1, 1) := by decide +kernel
theorem dX10_way_1 : decode cX10_way 1 = .ok (.ifCond .lt 8, 3) := by decide +kernel
theorem dX10_way_4 : decode cX10_way 4 = .ok (.iload_n 2, 1) := by decide +kernel
theorem dX10_way_5 : decode cX10_way 5 = .ok (.iconst (-1), 1) := by decide +kernel
theorem dX10_way_6 : decode cX10_way 6 = .ok (.if_icmp .ge 5, 3) := by decide +kernel
theorem dX10_way_9 : decode cX10_way 9 = .ok (.iconst (-1), 1) := by decide +kernel
theorem dX10_way_10 : decode cX10_way 10 = .ok (.ireturn, 1) := by decide +kernel
theorem dX10_way_11 : decode cX10_way 11 = .ok (.aload_n 0, 1) := by decide +kernel
theorem dX10_way_12 : decode cX10_way 12 = .ok (.invokevirtual 132, 3) := by decide +kernel
theorem dX10_way_15 : decode cX10_way 15 = .ok (.ifCond .ne 6, 3) := by decide +kernel
theorem dX10_way_18 : decode cX10_way 18 = .ok (.bipush (-2), 2) := by decide +kernel
theorem dX10_way_20 : decode cX10_way 20 = .ok (.ireturn, 1) := by decide +kernel
theorem dX10_way_21 : decode cX10_way 21 = .ok (.aload_n 0, 1) := by decide +kernel
theorem dX10_way_22 : decode cX10_way 22 = .ok (.invokevirtual 313, 3) := by decide +kernel
theorem dX10_way_25 : decode cX10_way 25 = .ok (.iload_n 1, 1) := by decide +kernel
theorem dX10_way_26 : decode cX10_way 26 = .ok (.i2l, 1) := by decide +kernel
theorem dX10_way_27 : decode cX10_way 27 = .ok (.aload_n 0, 1) := by decide +kernel
theorem dX10_way_28 : decode cX10_way 28 = .ok (.getfield 81, 3) := by decide +kernel
theorem dX10_way_31 : decode cX10_way 31 = .ok (.iconst 0, 1) := by decide +kernel
theorem dX10_way_32 : decode cX10_way 32 = .ok (.laload, 1) := by decide +kernel
theorem dX10_way_33 : decode cX10_way 33 = .ok (.lcmp, 1) := by decide +kernel
theorem dX10_way_34 : decode cX10_way 34 = .ok (.ifCond .lt 6, 3) := by decide +kernel
theorem dX10_way_37 : decode cX10_way 37 = .ok (.bipush (-2), 2) := by decide +kernel
theorem dX10_way_39 : decode cX10_way 39 = .ok (.ireturn, 1) := by decide +kernel
theorem dX10_way_40 : decode cX10_way 40 = .ok (.iload_n 1, 1) := by decide +kernel
theorem dX10_way_41 : decode cX10_way 41 = .ok (.i2l, 1) := by decide +kernel
theorem dX10_way_42 : decode cX10_way 42 = .ok (.lstore_n 3, 1) := by decide +kernel
theorem dX10_way_43 : decode cX10_way 43 = .ok (.iconst 0, 1) := by decide +kernel
theorem dX10_way_44 : decode cX10_way 44 = .ok (.istore 5, 2) := by decide +kernel
theorem dX10_way_46 : decode cX10_way 46 = .ok (.iconst 0, 1) := by decide +kernel
theorem dX10_way_47 : decode cX10_way 47 = .ok (.istore 6, 2) := by decide +kernel
theorem dX10_way_49 : decode cX10_way 49 = .ok (.iload 6, 2) := by decide +kernel
theorem dX10_way_51 : decode cX10_way 51 = .ok (.aload_n 0, 1) := by decide +kernel
theorem dX10_way_52 : decode cX10_way 52 = .ok (.invokevirtual 132, 3) := by decide +kernel
theorem dX10_way_55 : decode cX10_way 55 = .ok (.if_icmp .ge 82, 3) := by decide +kernel
theorem dX10_way_58 : decode cX10_way 58 = .ok (.iload 6, 2) := by decide +kernel
theorem dX10_way_60 : decode cX10_way 60 = .ok (.istore 7, 2) := by decide +kernel
theorem dX10_way_62 : decode cX10_way 62 = .ok (.aload_n 0, 1) := by decide +kernel
theorem dX10_way_63 : decode cX10_way 63 = .ok (.iload 6, 2) := by decide +kernel
theorem dX10_way_65 : decode cX10_way 65 = .ok (.iload 7, 2) := by decide +kernel
theorem dX10_way_67 : decode cX10_way 67 = .ok (.invokevirtual 310, 3) := by decide +kernel
theorem dX10_way_70 : decode cX10_way 70 = .ok (.ifCond .eq 17, 3) := by decide +kernel
theorem dX10_way_73 : decode cX10_way 73 = .ok (.lload_n 3, 1) := by decide +kernel
theorem dX10_way_74 : decode cX10_way 74 = .ok (.aload_n 0, 1) := by decide +kernel
theorem dX10_way_75 : decode cX10_way 75 = .ok (.getfield 81, 3) := by decide +kernel
theorem dX10_way_78 : decode cX10_way 78 = .ok (.iload 7, 2) := by decide +kernel
theorem dX10_way_80 : decode cX10_way 80 = .ok (.iconst 1, 1) := by decide +kernel
theorem dX10_way_81 : decode cX10_way 81 = .ok (.iadd, 1) := by decide +kernel
theorem dX10_way_82 : decode cX10_way 82 = .ok (.laload, 1) := by decide +kernel
theorem dX10_way_83 : decode cX10_way 83 = .ok (.lcmp, 1) := by decide +kernel
theorem dX10_way_84 : decode cX10_way 84 = .ok (.ifCond .lt 32, 3) := by decide +kernel
theorem dX10_way_87 : decode cX10_way 87 = .ok (.aload_n 0, 1) := by decide +kernel
theorem dX10_way_88 : decode cX10_way 88 = .ok (.iload 6, 2) := by decide +kernel
theorem dX10_way_90 : decode cX10_way 90 = .ok (.iload 7, 2) := by decide +kernel
theorem dX10_way_92 : decode cX10_way 92 = .ok (.invokevirtual 310, 3) := by decide +kernel
theorem dX10_way_95 : decode cX10_way 95 = .ok (.ifCond .eq 15, 3) := by decide +kernel
theorem dX10_way_98 : decode cX10_way 98 = .ok (.lload_n 3, 1) := by decide +kernel
theorem dX10_way_99 : decode cX10_way 99 = .ok (.aload_n 0, 1) := by decide +kernel
theorem dX10_way_100 : decode cX10_way 100 = .ok (.getfield 81, 3) := by decide +kernel
theorem dX10_way_103 : decode cX10_way 103 = .ok (.iload 7, 2) := by decide +kernel
theorem dX10_way_105 : decode cX10_way 105 = .ok (.iconst 1, 1) := by decide +kernel
theorem dX10_way_106 : decode cX10_way 106 = .ok (.iadd, 1) := by decide +kernel
theorem dX10_way_107 : decode cX10_way 107 = .ok (.laload, 1) := by decide +kernel
theorem dX10_way_108 : decode cX10_way 108 = .ok (.lsub, 1) := by decide +kernel
theorem dX10_way_109 : decode cX10_way 109 = .ok (.lstore_n 3, 1) := by decide +kernel
theorem dX10_way_110 : decode cX10_way 110 = .ok (.iinc 7 1, 3) := by decide +kernel
theorem dX10_way_113 : decode cX10_way 113 = .ok (.goto (-51), 3) := by decide +kernel
theorem dX10_way_116 : decode cX10_way 116 = .ok (.iload 5, 2) := by decide +kernel
theorem dX10_way_118 : decode cX10_way 118 = .ok (.iload_n 2, 1) := by decide +kernel
theorem dX10_way_119 : decode cX10_way 119 = .ok (.if_icmp .ne 6, 3) := by decide +kernel
theorem dX10_way_122 : decode cX10_way 122 = .ok (.iload 7, 2) := by decide +kernel
theorem dX10_way_124 : decode cX10_way 124 = .ok (.ireturn, 1) := by decide +kernel
theorem dX10_way_125 : decode cX10_way 125 = .ok (.iinc 5 1, 3) := by decide +kernel
theorem dX10_way_128 : decode cX10_way 128 = .ok (.iload 7, 2) := by decide +kernel
theorem dX10_way_130 : decode cX10_way 130 = .ok (.iconst 1, 1) := by decide +kernel
theorem dX10_way_131 : decode cX10_way 131 = .ok (.iadd, 1) := by decide +kernel
theorem dX10_way_132 : decode cX10_way 132 = .ok (.istore 6, 2) := by decide +kernel
theorem dX10_way_134 : decode cX10_way 134 = .ok (.goto (-85), 3) := by decide +kernel
theorem dX10_way_137 : decode cX10_way 137 = .ok (.iload_n 2, 1) := by decide +kernel
theorem dX10_way_138 : decode cX10_way 138 = .ok (.iconst (-1), 1) := by decide +kernel
theorem dX10_way_139 : decode cX10_way 139 = .ok (.if_icmp .ne 8, 3) := by decide +kernel
theorem dX10_way_142 : decode cX10_way 142 = .ok (.iload 5, 2) := by decide +kernel
theorem dX10_way_144 : decode cX10_way 144 = .ok (.goto 5, 3) := by decide +kernel
theorem dX10_way_147 : decode cX10_way 147 = .ok (.bipush (-2), 2) := by decide +kernel
theorem dX10_way_149 : decode cX10_way 149 = .ok (.ireturn, 1) := by decide +kernel
theorem ok_X10_way : okY RX10 yX10_way 2 := ⟨rfl, by decide, by decide, by decide +kernel⟩
def j_X10_way_110_28 (M_25 : OV) (v7_18 : Int32) (v3_27 : Int64) : Option ((Int64 × Int32 × OV) ⊕ (Int64 × Int32 × OV)) := bnd (v7_18 + 1) (fun v7_29 => some (.inl (v3_27, v7_29, M_25)))
def j_X10_way_87_23 (M_21 : OV) (v6_11 : Int32) (v3_17 : Int64) (v7_18 : Int32) : Option ((Int64 × Int32 × OV) ⊕ (Int64 × Int32 × OV)) := (f_X10_mayBe M_21 v6_11 v7_18).bind (un2 (fun r_24 M_25 => (if r_24 = 0 then j_X10_way_110_28 M_25 v7_18 v3_17 else gd (ix (v7_18 + (1 : Int32)) 41) (bnd (v3_17 - (al M_25 33 (v7_18 + (1 : Int32)).toNatClampNeg)) (fun v3_30 => j_X10_way_110_28 M_25 v7_18 v3_30)))))
def s_X10_way_62_16 (v6_11 : Int32) : (Int64 × Int32 × OV) → Option ((Int64 × Int32 × OV) ⊕ (Int64 × Int32 × OV)) := un3 (fun v3_17 v7_18 M_19 => (f_X10_mayBe M_19 v6_11 v7_18).bind (un2 (fun r_20 M_21 => (if r_20 = 0 then j_X10_way_87_23 M_21 v6_11 v3_17 v7_18 else gd (ix (v7_18 + (1 : Int32)) 41) ((if (lg_cmp v3_17 (al M_21 33 (v7_18 + (1 : Int32)).toNatClampNeg)) < 0 then some (.inr (v3_17, v7_18, M_21)) else j_X10_way_87_23 M_21 v6_11 v3_17 v7_18))))))
def s_X10_way_49_8 (p1 : Int32) : (Int64 × Int32 × Int32 × OV) → Option ((Int64 × Int32 × Int32 × OV) ⊕ ((Int32 × OV) ⊕ (Int32 × OV))) := un4 (fun v3_9 v5_10 v6_11 M_12 => (f_X10_many M_12).bind (un1 (fun r_13 => (if r_13 ≤ v6_11 then some (.inr (.inl (v5_10, M_12))) else bnd v6_11 (fun v7_15 => ((lp (s_X10_way_62_16 v6_11) 5000 (v3_9, v7_15, M_12)).bind (un3 (fun v3_31 v7_32 M_33 => (if v5_10 = p1 then some (.inr (.inr (v7_32, M_33))) else bnd (v5_10 + 1) (fun v5_34 => bnd (v7_32 + (1 : Int32)) (fun v6_35 => some (.inl (v3_31, v5_34, v6_35, M_33)))))))))))))
def f_X10_way (M : OV) (p0 : Int32) (p1 : Int32) : Option (Int32 × OV) := (if p0 < 0 then some ((-1 : Int32), M) else (if (-1 : Int32) ≤ p1 then (f_X10_many M).bind (un1 (fun r_1 => (if r_1 = 0 then some ((-2 : Int32), M) else (f_X10_laysWays M).bind (un1 (fun M_3 => gd (ix (0 : Int32) 41) ((if (lg_cmp (p0.toInt64) (al M_3 33 (0 : Int32).toNatClampNeg)) < 0 then bnd (p0.toInt64) (fun v3_5 => bnd (0 : Int32) (fun v5_6 => bnd (0 : Int32) (fun v6_7 => ((lp (s_X10_way_49_8 p1) 5000 (v3_5, v5_6, v6_7, M_3)).bind (Sum.elim (un2 (fun v5_36 M_37 => (if p1 = (-1 : Int32) then some (v5_36, M_37) else some ((-2 : Int32), M_37)))) (fun r => some r)))))) else some ((-2 : Int32), M_3)))))))) else some ((-1 : Int32), M)))
def r_X10_way : Room := { frames := 6, cells := 0, slots := 0, locals := 143 }
set_option maxHeartbeats 4000000 in
set_option maxRecDepth 100000 in
theorem c_X10_way (l : Launch) (D : va_G) (ev : EvT) (cy : Nat → ClassId) (oM : Nat) (aM : Nat → Nat) (M : OV) (p0 : Int32) (p1 : Int32) (o : Int32 × OV) (hf : f_X10_way M p0 p1 = some o) : Fn l yX10_way cX10_way 8 (some .int) r_X10_way D ev cy [.ref oM, .int p0, .int p1] [gX10 cy oM aM M] (fun v G => v = some (.int o.1) ∧ G = [gX10 cy oM aM o.2]) := by
  refine Fn_of (by decide) (Nat.le_of_ble_eq_true rfl) (fun X A Q h hQ _ => ?_)
  unfold f_X10_way at hf
  show ww X D A 8 Q 0 0 0 [(0, .ref oM), (1, .int p0), (2, .int p1)] [] [gX10 cy oM aM M]
  refine ww_iload_n h dX10_way_0 rfl 1 rfl 1 rfl ?_
  refine ww_if_lt h dX10_way_1 9 (by decide) 4 rfl (fun c => ?_) (fun c => ?_)
  · replace hf := ite_t c hf
    refine ww_iconst (v := (-1)) h dX10_way_9 (by decide) 10 rfl ?_
    obtain rfl := Option.some.inj hf
    exact ww_iret h dX10_way_10 hQ ⟨rfl, rfl⟩
  · replace hf := ite_f c hf
    refine ww_iload_n h dX10_way_4 rfl 2 rfl 5 rfl ?_
    refine ww_iconst (v := (-1)) h dX10_way_5 (by decide) 6 rfl ?_
    refine ww_icmp_ge h dX10_way_6 11 (by decide) 9 rfl (fun c => ?_) (fun c => ?_)
    · replace hf := ite_t c hf
      refine ww_aload_n h dX10_way_11 rfl 0 rfl 12 rfl ?_
      obtain ⟨r_1, hu2, hf⟩ := ob1 hf
      refine ww_cVi h (c_X10_many l D ev cy oM aM M _ hu2) ⟨w_1330, w_1327, w_1329, w_37, w_111, ok_X10_many⟩ ⟨by decide, by decide⟩ ⟨by decide, by decide⟩ ⟨rfl, rfl⟩ [0] rfl 0 rfl rfl rfl rfl (Nat.le_of_ble_eq_true rfl) dX10_way_12 15 rfl (Gs' := [gX10 cy oM aM M]) rfl ?_
      clear hu2
      refine ww_if_ne h dX10_way_15 21 (by decide) 18 rfl (fun c => ?_) (fun c => ?_)
      · replace hf := ite_f c hf
        refine ww_aload_n h dX10_way_21 rfl 0 rfl 22 rfl ?_
        obtain ⟨M_3, hu4, hf⟩ := ob1 hf
        refine ww_cVv h (c_X10_laysWays l D ev cy oM aM M _ hu4) ⟨w_1633, w_1630, w_1632, w_78, w_111, ok_X10_laysWays⟩ ⟨by decide, by decide⟩ ⟨by decide, by decide⟩ ⟨rfl, rfl⟩ [0] rfl 0 rfl rfl rfl rfl (Nat.le_of_ble_eq_true rfl) dX10_way_22 25 rfl (Gs' := [gX10 cy oM aM M_3]) rfl ?_
        clear hu4
        refine ww_iload_n h dX10_way_25 rfl 1 rfl 26 rfl ?_
        refine ww_i2l h dX10_way_26 27 rfl ?_
        refine ww_aload_n h dX10_way_27 rfl 0 rfl 28 rfl ?_
        refine ww_get h inG10 rfl 0 rfl rfl 33 (by decide) w_1190 rfl dX10_way_28 31 rfl ?_
        refine ww_iconst (v := 0) h dX10_way_31 (by decide) 32 rfl ?_
        have hi := (gd_some hf).1
        replace hf := (gd_some hf).2
        refine ww_lald h 0 rfl 23 rfl (ix_in hi) dX10_way_32 33 rfl ?_
        clear hi
        refine ww_lcmp h dX10_way_33 34 rfl ?_
        refine ww_if_lt h dX10_way_34 40 (by decide) 37 rfl (fun c => ?_) (fun c => ?_)
        · replace hf := ite_t c hf
          refine ww_iload_n h dX10_way_40 rfl 1 rfl 41 rfl ?_
          refine ww_i2l h dX10_way_41 42 rfl ?_
          refine ww_lst_n h dX10_way_42 rfl (by decide) (fun v3_5 => [(3, .long v3_5), (0, .ref oM), (1, .int p0), (2, .int p1)]) (fun _ => rfl) 43 rfl (fun v3_5 e => ?_)
          replace hf := bnd_at e hf
          clear e
          refine ww_iconst (v := 0) h dX10_way_43 (by decide) 44 rfl ?_
          refine ww_ist h dX10_way_44 (by decide) (fun v5_6 => [(5, .int v5_6), (3, .long v3_5), (0, .ref oM), (1, .int p0), (2, .int p1)]) (fun _ => rfl) 46 rfl (fun v5_6 e => ?_)
          replace hf := bnd_at e hf
          clear e
          refine ww_iconst (v := 0) h dX10_way_46 (by decide) 47 rfl ?_
          refine ww_ist h dX10_way_47 (by decide) (fun v6_7 => [(6, .int v6_7), (5, .int v5_6), (3, .long v3_5), (0, .ref oM), (1, .int p0), (2, .int p1)]) (fun _ => rfl) 49 rfl (fun v6_7 e => ?_)
          replace hf := bnd_at e hf
          clear e
          refine ww_lo [3, 5, 2, 1, 0] (lo' := [(0, .ref oM), (2, .int p1), (3, .long v3_5), (5, .int v5_6), (6, .int v6_7)]) rfl ?_
          obtain ⟨x8, h8, hf⟩ := ob_some hf
          refine lp_walk (un4 (fun v3_9 v5_10 v6_11 M_12 => ww X D A 8 Q 0 0 49 [(0, .ref oM), (2, .int p1), (3, .long v3_9), (5, .int v5_10), (6, .int v6_11)] [] [gX10 cy oM aM M_12])) (Sum.elim (un2 (fun v5_36 M_37 => ww X D A 8 Q 0 0 137 [(2, .int p1), (5, .int v5_36)] [] [gX10 cy oM aM M_37])) (fun r => r = o)) ?_ _ _ _ h8 ?_
          · clear h8 hf
            intro s8 o8 hf hI8 hE8
            obtain ⟨v3_9, v5_10, v6_11, M_12⟩ := s8
            unfold s_X10_way_49_8 at hf
            replace hf := un4_e hf
            show ww X D A 8 Q 0 0 49 [(0, .ref oM), (2, .int p1), (3, .long v3_9), (5, .int v5_10), (6, .int v6_11)] [] [gX10 cy oM aM M_12]
            refine ww_iload h dX10_way_49 4 rfl 51 rfl ?_
            refine ww_aload_n h dX10_way_51 rfl 0 rfl 52 rfl ?_
            obtain ⟨r_13, hu14, hf⟩ := ob1 hf
            refine ww_cVi h (c_X10_many l D ev cy oM aM M_12 _ hu14) ⟨w_1330, w_1327, w_1329, w_37, w_111, ok_X10_many⟩ ⟨by decide, by decide⟩ ⟨by decide, by decide⟩ ⟨rfl, rfl⟩ [0] rfl 0 rfl rfl rfl rfl (Nat.le_of_ble_eq_true rfl) dX10_way_52 55 rfl (Gs' := [gX10 cy oM aM M_12]) rfl ?_
            clear hu14
            refine ww_icmp_ge h dX10_way_55 137 (by decide) 58 rfl (fun c => ?_) (fun c => ?_)
            · replace hf := ite_t c hf
              refine ww_lo [1, 3] (lo' := [(2, .int p1), (5, .int v5_10)]) rfl ?_
              exact hE8 (.inl (v5_10, M_12)) (Option.some.inj hf).symm
            · replace hf := ite_f c hf
              refine ww_iload h dX10_way_58 4 rfl 60 rfl ?_
              refine ww_ist h dX10_way_60 (by decide) (fun v7_15 => [(7, .int v7_15), (0, .ref oM), (2, .int p1), (3, .long v3_9), (5, .int v5_10), (6, .int v6_11)]) (fun _ => rfl) 62 rfl (fun v7_15 e => ?_)
              replace hf := bnd_at e hf
              clear e
              refine ww_lo [1, 2, 3, 4, 5, 0] (lo' := [(0, .ref oM), (2, .int p1), (3, .long v3_9), (5, .int v5_10), (6, .int v6_11), (7, .int v7_15)]) rfl ?_
              obtain ⟨v3_31, v7_32, M_33, h16, hf⟩ := ob3 hf
              refine lp_walk (un3 (fun v3_17 v7_18 M_19 => ww X D A 8 Q 0 0 62 [(0, .ref oM), (2, .int p1), (3, .long v3_17), (5, .int v5_10), (6, .int v6_11), (7, .int v7_18)] [] [gX10 cy oM aM M_19])) (un3 (fun v3_31 v7_32 M_33 => ww X D A 8 Q 0 0 116 [(0, .ref oM), (2, .int p1), (3, .long v3_31), (5, .int v5_10), (7, .int v7_32)] [] [gX10 cy oM aM M_33])) ?_ _ _ _ h16 ?_
              · clear h16 hf
                intro s16 o16 hf hI16 hE16
                obtain ⟨v3_17, v7_18, M_19⟩ := s16
                unfold s_X10_way_62_16 at hf
                replace hf := un3_e hf
                show ww X D A 8 Q 0 0 62 [(0, .ref oM), (2, .int p1), (3, .long v3_17), (5, .int v5_10), (6, .int v6_11), (7, .int v7_18)] [] [gX10 cy oM aM M_19]
                refine ww_aload_n h dX10_way_62 rfl 0 rfl 63 rfl ?_
                refine ww_iload h dX10_way_63 4 rfl 65 rfl ?_
                refine ww_iload h dX10_way_65 5 rfl 67 rfl ?_
                obtain ⟨r_20, M_21, hu22, hf⟩ := ob2 hf
                refine ww_cVi h (c_X10_mayBe l D ev cy oM aM M_19 v6_11 v7_18 _ hu22) ⟨w_1637, w_1634, w_1636, w_79, w_111, ok_X10_mayBe⟩ ⟨by decide, by decide⟩ ⟨by decide, by decide⟩ ⟨rfl, rfl⟩ [0] rfl 0 rfl rfl rfl rfl (Nat.le_of_ble_eq_true rfl) dX10_way_67 70 rfl (Gs' := [gX10 cy oM aM M_21]) rfl ?_
                clear hu22
                have hJ87_23 : ∀ (_ : Unit), j_X10_way_87_23 M_21 v6_11 v3_17 v7_18 = some o16 → ww X D A 8 Q 0 0 87 [(0, .ref oM), (2, .int p1), (3, .long v3_17), (5, .int v5_10), (6, .int v6_11), (7, .int v7_18)] [] [gX10 cy oM aM M_21] := by
                  intro _ hf
                  unfold j_X10_way_87_23 at hf
                  refine ww_aload_n h dX10_way_87 rfl 0 rfl 88 rfl ?_
                  refine ww_iload h dX10_way_88 4 rfl 90 rfl ?_
                  refine ww_iload h dX10_way_90 5 rfl 92 rfl ?_
                  obtain ⟨r_24, M_25, hu26, hf⟩ := ob2 hf
                  refine ww_cVi h (c_X10_mayBe l D ev cy oM aM M_21 v6_11 v7_18 _ hu26) ⟨w_1637, w_1634, w_1636, w_79, w_111, ok_X10_mayBe⟩ ⟨by decide, by decide⟩ ⟨by decide, by decide⟩ ⟨rfl, rfl⟩ [0] rfl 0 rfl rfl rfl rfl (Nat.le_of_ble_eq_true rfl) dX10_way_92 95 rfl (Gs' := [gX10 cy oM aM M_25]) rfl ?_
                  clear hu26
                  have hJ110_28 : ∀ (v3_27 : Int64), j_X10_way_110_28 M_25 v7_18 v3_27 = some o16 → ww X D A 8 Q 0 0 110 [(0, .ref oM), (2, .int p1), (3, .long v3_27), (5, .int v5_10), (6, .int v6_11), (7, .int v7_18)] [] [gX10 cy oM aM M_25] := by
                    intro v3_27 hf
                    unfold j_X10_way_110_28 at hf
                    refine ww_inc (c := 1) h dX10_way_110 5 rfl (by decide) (by decide) (fun v7_29 => [(7, .int v7_29), (0, .ref oM), (2, .int p1), (3, .long v3_27), (5, .int v5_10), (6, .int v6_11)]) (fun _ => rfl) 113 rfl (fun v7_29 e => ?_)
                    replace hf := bnd_at e hf
                    clear e
                    refine ww_goto h dX10_way_113 62 (by decide) ?_
                    refine ww_lo [1, 2, 3, 4, 5, 0] (lo' := [(0, .ref oM), (2, .int p1), (3, .long v3_27), (5, .int v5_10), (6, .int v6_11), (7, .int v7_29)]) rfl ?_
                    exact hI16 (v3_27, v7_29, M_25) (Option.some.inj hf).symm
                  refine ww_if_eq h dX10_way_95 110 (by decide) 98 rfl (fun c => ?_) (fun c => ?_)
                  · replace hf := ite_t c hf
                    exact hJ110_28 v3_17 hf
                  · replace hf := ite_f c hf
                    refine ww_lload_n h dX10_way_98 rfl 2 rfl 99 rfl ?_
                    refine ww_aload_n h dX10_way_99 rfl 0 rfl 100 rfl ?_
                    refine ww_get h inG10 rfl 0 rfl rfl 33 (by decide) w_1190 rfl dX10_way_100 103 rfl ?_
                    refine ww_iload h dX10_way_103 5 rfl 105 rfl ?_
                    refine ww_iconst (v := 1) h dX10_way_105 (by decide) 106 rfl ?_
                    refine ww_iadd h dX10_way_106 107 rfl ?_
                    have hi := (gd_some hf).1
                    replace hf := (gd_some hf).2
                    refine ww_lald h 0 rfl 23 rfl (ix_in hi) dX10_way_107 108 rfl ?_
                    clear hi
                    refine ww_lsub h dX10_way_108 109 rfl ?_
                    refine ww_lst_n h dX10_way_109 rfl (by decide) (fun v3_30 => [(3, .long v3_30), (0, .ref oM), (2, .int p1), (5, .int v5_10), (6, .int v6_11), (7, .int v7_18)]) (fun _ => rfl) 110 rfl (fun v3_30 e => ?_)
                    replace hf := bnd_at e hf
                    clear e
                    refine ww_lo [1, 2, 0, 3, 4, 5] (lo' := [(0, .ref oM), (2, .int p1), (3, .long v3_30), (5, .int v5_10), (6, .int v6_11), (7, .int v7_18)]) rfl ?_
                    exact hJ110_28 v3_30 hf
                refine ww_if_eq h dX10_way_70 87 (by decide) 73 rfl (fun c => ?_) (fun c => ?_)
                · replace hf := ite_t c hf
                  exact hJ87_23 () hf
                · replace hf := ite_f c hf
                  refine ww_lload_n h dX10_way_73 rfl 2 rfl 74 rfl ?_
                  refine ww_aload_n h dX10_way_74 rfl 0 rfl 75 rfl ?_
                  refine ww_get h inG10 rfl 0 rfl rfl 33 (by decide) w_1190 rfl dX10_way_75 78 rfl ?_
                  refine ww_iload h dX10_way_78 5 rfl 80 rfl ?_
                  refine ww_iconst (v := 1) h dX10_way_80 (by decide) 81 rfl ?_
                  refine ww_iadd h dX10_way_81 82 rfl ?_
                  have hi := (gd_some hf).1
                  replace hf := (gd_some hf).2
                  refine ww_lald h 0 rfl 23 rfl (ix_in hi) dX10_way_82 83 rfl ?_
                  clear hi
                  refine ww_lcmp h dX10_way_83 84 rfl ?_
                  refine ww_if_lt h dX10_way_84 116 (by decide) 87 rfl (fun c => ?_) (fun c => ?_)
                  · replace hf := ite_t c hf
                    refine ww_lo [0, 1, 2, 3, 5] (lo' := [(0, .ref oM), (2, .int p1), (3, .long v3_17), (5, .int v5_10), (7, .int v7_18)]) rfl ?_
                    exact hE16 (v3_17, v7_18, M_21) (Option.some.inj hf).symm
                  · replace hf := ite_f c hf
                    exact hJ87_23 () hf
              · clear h16
                show ww X D A 8 Q 0 0 116 [(0, .ref oM), (2, .int p1), (3, .long v3_31), (5, .int v5_10), (7, .int v7_32)] [] [gX10 cy oM aM M_33]
                refine ww_iload h dX10_way_116 3 rfl 118 rfl ?_
                refine ww_iload_n h dX10_way_118 rfl 1 rfl 119 rfl ?_
                refine ww_icmp_ne h dX10_way_119 125 (by decide) 122 rfl (fun c => ?_) (fun c => ?_)
                · replace hf := ite_f c hf
                  refine ww_inc (c := 1) h dX10_way_125 3 rfl (by decide) (by decide) (fun v5_34 => [(5, .int v5_34), (0, .ref oM), (2, .int p1), (3, .long v3_31), (7, .int v7_32)]) (fun _ => rfl) 128 rfl (fun v5_34 e => ?_)
                  replace hf := bnd_at e hf
                  clear e
                  refine ww_iload h dX10_way_128 4 rfl 130 rfl ?_
                  refine ww_iconst (v := 1) h dX10_way_130 (by decide) 131 rfl ?_
                  refine ww_iadd h dX10_way_131 132 rfl ?_
                  refine ww_ist h dX10_way_132 (by decide) (fun v6_35 => [(6, .int v6_35), (5, .int v5_34), (0, .ref oM), (2, .int p1), (3, .long v3_31), (7, .int v7_32)]) (fun _ => rfl) 134 rfl (fun v6_35 e => ?_)
                  replace hf := bnd_at e hf
                  clear e
                  refine ww_goto h dX10_way_134 49 (by decide) ?_
                  refine ww_lo [2, 3, 4, 1, 0] (lo' := [(0, .ref oM), (2, .int p1), (3, .long v3_31), (5, .int v5_34), (6, .int v6_35)]) rfl ?_
                  exact hI8 (v3_31, v5_34, v6_35, M_33) (Option.some.inj hf).symm
                · replace hf := ite_t c hf
                  refine ww_iload h dX10_way_122 4 rfl 124 rfl ?_
                  obtain rfl := hE8 (.inr (v7_32, M_33)) (Option.some.inj hf).symm
                  exact ww_iret h dX10_way_124 hQ ⟨rfl, rfl⟩
          · clear h8
            rcases x8 with x8 | x8
            · replace hf := sel_l hf
              obtain ⟨v5_36, M_37⟩ := x8
              replace hf := un2_e hf
              show ww X D A 8 Q 0 0 137 [(2, .int p1), (5, .int v5_36)] [] [gX10 cy oM aM M_37]
              refine ww_iload_n h dX10_way_137 rfl 0 rfl 138 rfl ?_
              refine ww_iconst (v := (-1)) h dX10_way_138 (by decide) 139 rfl ?_
              refine ww_icmp_ne h dX10_way_139 147 (by decide) 142 rfl (fun c => ?_) (fun c => ?_)
              · replace hf := ite_f c hf
                refine ww_bipush (v := (-2)) h dX10_way_147 (by decide) 149 rfl ?_
                obtain rfl := Option.some.inj hf
                exact ww_iret h dX10_way_149 hQ ⟨rfl, rfl⟩
              · replace hf := ite_t c hf
                refine ww_iload h dX10_way_142 1 rfl 144 rfl ?_
                refine ww_goto h dX10_way_144 149 (by decide) ?_
                obtain rfl := Option.some.inj hf
                exact ww_iret h dX10_way_149 hQ ⟨rfl, rfl⟩
            · replace hf := sel_r hf
              exact Option.some.inj hf
        · replace hf := ite_f c hf
          refine ww_bipush (v := (-2)) h dX10_way_37 (by decide) 39 rfl ?_
          obtain rfl := Option.some.inj hf
          exact ww_iret h dX10_way_39 hQ ⟨rfl, rfl⟩
      · replace hf := ite_t c hf
        refine ww_bipush (v := (-2)) h dX10_way_18 (by decide) 20 rfl ?_
        obtain rfl := Option.some.inj hf
        exact ww_iret h dX10_way_20 hQ ⟨rfl, rfl⟩
    · replace hf := ite_f c hf
      refine ww_iconst (v := (-1)) h dX10_way_9 (by decide) 10 rfl ?_
      obtain rfl := Option.some.inj hf
      exact ww_iret h dX10_way_10 hQ ⟨rfl, rfl⟩
theorem dX10_worst_0 : decode cX10_worst 0 = .ok (.aload_n 0, 1) := by decide +kernel
theorem dX10_worst_1 : decode cX10_worst 1 = .ok (.invokevirtual 167, 3) := by decide +kernel
theorem dX10_worst_4 : decode cX10_worst 4 = .ok (.bipush (-2), 2) := by decide +kernel
theorem dX10_worst_6 : decode cX10_worst 6 = .ok (.istore_n 1, 1) := by decide +kernel
theorem dX10_worst_7 : decode cX10_worst 7 = .ok (.ldc 237, 2) := by decide +kernel
theorem dX10_worst_9 : decode cX10_worst 9 = .ok (.istore_n 2, 1) := by decide +kernel
theorem dX10_worst_10 : decode cX10_worst 10 = .ok (.iconst 0, 1) := by decide +kernel
theorem dX10_worst_11 : decode cX10_worst 11 = .ok (.istore_n 3, 1) := by decide +kernel
theorem dX10_worst_12 : decode cX10_worst 12 = .ok (.iload_n 3, 1) := by decide +kernel
theorem dX10_worst_13 : decode cX10_worst 13 = .ok (.aload_n 0, 1) := by decide +kernel
theorem dX10_worst_14 : decode cX10_worst 14 = .ok (.getfield 39, 3) := by decide +kernel
theorem dX10_worst_17 : decode cX10_worst 17 = .ok (.iconst 0, 1) := by decide +kernel
theorem dX10_worst_18 : decode cX10_worst 18 = .ok (.iaload, 1) := by decide +kernel
theorem dX10_worst_19 : decode cX10_worst 19 = .ok (.if_icmp .ge 39, 3) := by decide +kernel
theorem dX10_worst_22 : decode cX10_worst 22 = .ok (.aload_n 0, 1) := by decide +kernel
theorem dX10_worst_23 : decode cX10_worst 23 = .ok (.iload_n 3, 1) := by decide +kernel
theorem dX10_worst_24 : decode cX10_worst 24 = .ok (.iconst 1, 1) := by decide +kernel
theorem dX10_worst_25 : decode cX10_worst 25 = .ok (.invokevirtual 164, 3) := by decide +kernel
theorem dX10_worst_28 : decode cX10_worst 28 = .ok (.aload_n 0, 1) := by decide +kernel
theorem dX10_worst_29 : decode cX10_worst 29 = .ok (.invokevirtual 318, 3) := by decide +kernel
theorem dX10_worst_32 : decode cX10_worst 32 = .ok (.istore 4, 2) := by decide +kernel
theorem dX10_worst_34 : decode cX10_worst 34 = .ok (.aload_n 0, 1) := by decide +kernel
theorem dX10_worst_35 : decode cX10_worst 35 = .ok (.invokevirtual 321, 3) := by decide +kernel
theorem dX10_worst_38 : decode cX10_worst 38 = .ok (.iload 4, 2) := by decide +kernel
theorem dX10_worst_40 : decode cX10_worst 40 = .ok (.iload_n 2, 1) := by decide +kernel
theorem dX10_worst_41 : decode cX10_worst 41 = .ok (.if_icmp .lt 6, 3) := by decide +kernel
theorem dX10_worst_44 : decode cX10_worst 44 = .ok (.goto 8, 3) := by decide +kernel
theorem dX10_worst_47 : decode cX10_worst 47 = .ok (.iload 4, 2) := by decide +kernel
theorem dX10_worst_49 : decode cX10_worst 49 = .ok (.istore_n 2, 1) := by decide +kernel
theorem dX10_worst_50 : decode cX10_worst 50 = .ok (.iload_n 3, 1) := by decide +kernel
theorem dX10_worst_51 : decode cX10_worst 51 = .ok (.istore_n 1, 1) := by decide +kernel
theorem dX10_worst_52 : decode cX10_worst 52 = .ok (.iinc 3 1, 3) := by decide +kernel
theorem dX10_worst_55 : decode cX10_worst 55 = .ok (.goto (-43), 3) := by decide +kernel
theorem dX10_worst_58 : decode cX10_worst 58 = .ok (.iload_n 1, 1) := by decide +kernel
theorem dX10_worst_59 : decode cX10_worst 59 = .ok (.ireturn, 1) := by decide +kernel
theorem ok_X10_worst : okY RX10 yX10_worst 0 := ⟨rfl, by decide, by decide, by decide +kernel⟩
def j_X10_worst_52_21 (M_17 : OV) (v3_9 : Int32) (v1_19 : Int32) (v2_20 : Int32) : Option ((Int32 × Int32 × Int32 × OV) ⊕ (Int32 × OV)) := bnd (v3_9 + 1) (fun v3_22 => some (.inl (v1_19, v2_20, v3_22, M_17)))
def s_X10_worst_12_6 : (Int32 × Int32 × Int32 × OV) → Option ((Int32 × Int32 × Int32 × OV) ⊕ (Int32 × OV)) := un4 (fun v1_7 v2_8 v3_9 M_10 => gd (ix (0 : Int32) 113) ((if (ar M_10 9 (0 : Int32).toNatClampNeg) ≤ v3_9 then some (.inr (v1_7, M_10)) else (f_X10_drops M_10 v3_9 (1 : Int32)).bind (un1 (fun M_11 => (f_X10_bestAsIs M_11).bind (un2 (fun r_13 M_14 => bnd r_13 (fun v4_16 => (f_X10_takesBack M_14).bind (un1 (fun M_17 => (if v4_16 < v2_8 then bnd v4_16 (fun v2_23 => bnd v3_9 (fun v1_24 => j_X10_worst_52_21 M_17 v3_9 v1_24 v2_23)) else j_X10_worst_52_21 M_17 v3_9 v1_7 v2_8)))))))))))
def f_X10_worst (M : OV) : Option (Int32 × OV) := (f_X10_putsAside M).bind (un1 (fun M_1 => bnd (-2 : Int32) (fun v1_3 => bnd (1000000000 : Int32) (fun v2_4 => bnd (0 : Int32) (fun v3_5 => ((lp (s_X10_worst_12_6) 5000 (v1_3, v2_4, v3_5, M_1)).bind (un2 (fun v1_25 M_26 => some (v1_25, M_26)))))))))
def r_X10_worst : Room := { frames := 6, cells := 0, slots := 0, locals := 140 }
set_option maxHeartbeats 4000000 in
set_option maxRecDepth 100000 in
theorem c_X10_worst (l : Launch) (D : va_G) (ev : EvT) (cy : Nat → ClassId) (oM : Nat) (aM : Nat → Nat) (M : OV) (o : Int32 × OV) (hf : f_X10_worst M = some o) : Fn l yX10_worst cX10_worst 5 (some .int) r_X10_worst D ev cy [.ref oM] [gX10 cy oM aM M] (fun v G => v = some (.int o.1) ∧ G = [gX10 cy oM aM o.2]) := by
  refine Fn_of (by decide) (Nat.le_of_ble_eq_true rfl) (fun X A Q h hQ _ => ?_)
  unfold f_X10_worst at hf
  show ww X D A 5 Q 0 0 0 [(0, .ref oM)] [] [gX10 cy oM aM M]
  refine ww_aload_n h dX10_worst_0 rfl 0 rfl 1 rfl ?_
  obtain ⟨M_1, hu2, hf⟩ := ob1 hf
  refine ww_cVv h (c_X10_putsAside l D ev cy oM aM M _ hu2) ⟨w_1377, w_1374, w_1376, w_45, w_111, ok_X10_putsAside⟩ ⟨by decide, by decide⟩ ⟨by decide, by decide⟩ ⟨rfl, rfl⟩ [0] rfl 0 rfl rfl rfl rfl (Nat.le_of_ble_eq_true rfl) dX10_worst_1 4 rfl (Gs' := [gX10 cy oM aM M_1]) rfl ?_
  clear hu2
  refine ww_bipush (v := (-2)) h dX10_worst_4 (by decide) 6 rfl ?_
  refine ww_ist_n h dX10_worst_6 rfl (by decide) (fun v1_3 => [(1, .int v1_3), (0, .ref oM)]) (fun _ => rfl) 7 rfl (fun v1_3 e => ?_)
  replace hf := bnd_at e hf
  clear e
  refine ww_ldc h w_1505 dX10_worst_7 9 rfl ?_
  refine ww_ist_n h dX10_worst_9 rfl (by decide) (fun v2_4 => [(2, .int v2_4), (1, .int v1_3), (0, .ref oM)]) (fun _ => rfl) 10 rfl (fun v2_4 e => ?_)
  replace hf := bnd_at e hf
  clear e
  refine ww_iconst (v := 0) h dX10_worst_10 (by decide) 11 rfl ?_
  refine ww_ist_n h dX10_worst_11 rfl (by decide) (fun v3_5 => [(3, .int v3_5), (2, .int v2_4), (1, .int v1_3), (0, .ref oM)]) (fun _ => rfl) 12 rfl (fun v3_5 e => ?_)
  replace hf := bnd_at e hf
  clear e
  refine ww_lo [3, 2, 1, 0] (lo' := [(0, .ref oM), (1, .int v1_3), (2, .int v2_4), (3, .int v3_5)]) rfl ?_
  obtain ⟨v1_25, M_26, h6, hf⟩ := ob2 hf
  refine lp_walk (un4 (fun v1_7 v2_8 v3_9 M_10 => ww X D A 5 Q 0 0 12 [(0, .ref oM), (1, .int v1_7), (2, .int v2_8), (3, .int v3_9)] [] [gX10 cy oM aM M_10])) (un2 (fun v1_25 M_26 => ww X D A 5 Q 0 0 58 [(1, .int v1_25)] [] [gX10 cy oM aM M_26])) ?_ _ _ _ h6 ?_
  · clear h6 hf
    intro s6 o6 hf hI6 hE6
    obtain ⟨v1_7, v2_8, v3_9, M_10⟩ := s6
    unfold s_X10_worst_12_6 at hf
    replace hf := un4_e hf
    show ww X D A 5 Q 0 0 12 [(0, .ref oM), (1, .int v1_7), (2, .int v2_8), (3, .int v3_9)] [] [gX10 cy oM aM M_10]
    refine ww_iload_n h dX10_worst_12 rfl 3 rfl 13 rfl ?_
    refine ww_aload_n h dX10_worst_13 rfl 0 rfl 14 rfl ?_
    refine ww_get h inG10 rfl 0 rfl rfl 9 (by decide) w_1166 rfl dX10_worst_14 17 rfl ?_
    refine ww_iconst (v := 0) h dX10_worst_17 (by decide) 18 rfl ?_
    have hi := (gd_some hf).1
    replace hf := (gd_some hf).2
    refine ww_iald h 0 rfl 9 rfl (ix_in hi) dX10_worst_18 19 rfl ?_
    clear hi
    refine ww_icmp_ge h dX10_worst_19 58 (by decide) 22 rfl (fun c => ?_) (fun c => ?_)
    · replace hf := ite_t c hf
      refine ww_lo [1] (lo' := [(1, .int v1_7)]) rfl ?_
      exact hE6 (v1_7, M_10) (Option.some.inj hf).symm
    · replace hf := ite_f c hf
      refine ww_aload_n h dX10_worst_22 rfl 0 rfl 23 rfl ?_
      refine ww_iload_n h dX10_worst_23 rfl 3 rfl 24 rfl ?_
      refine ww_iconst (v := 1) h dX10_worst_24 (by decide) 25 rfl ?_
      obtain ⟨M_11, hu12, hf⟩ := ob1 hf
      refine ww_cVv h (c_X10_drops l D ev cy oM aM M_10 v3_9 (1 : Int32) _ hu12) ⟨w_1361, w_1358, w_1360, w_43, w_111, ok_X10_drops⟩ ⟨by decide, by decide⟩ ⟨by decide, by decide⟩ ⟨rfl, rfl⟩ [0] rfl 0 rfl rfl rfl rfl (Nat.le_of_ble_eq_true rfl) dX10_worst_25 28 rfl (Gs' := [gX10 cy oM aM M_11]) rfl ?_
      clear hu12
      refine ww_aload_n h dX10_worst_28 rfl 0 rfl 29 rfl ?_
      obtain ⟨r_13, M_14, hu15, hf⟩ := ob2 hf
      refine ww_cVi h (c_X10_bestAsIs l D ev cy oM aM M_11 _ hu15) ⟨w_1654, w_1651, w_1653, w_80, w_111, ok_X10_bestAsIs⟩ ⟨by decide, by decide⟩ ⟨by decide, by decide⟩ ⟨rfl, rfl⟩ [0] rfl 0 rfl rfl rfl rfl (Nat.le_of_ble_eq_true rfl) dX10_worst_29 32 rfl (Gs' := [gX10 cy oM aM M_14]) rfl ?_
      clear hu15
      refine ww_ist h dX10_worst_32 (by decide) (fun v4_16 => [(4, .int v4_16), (0, .ref oM), (1, .int v1_7), (2, .int v2_8), (3, .int v3_9)]) (fun _ => rfl) 34 rfl (fun v4_16 e => ?_)
      replace hf := bnd_at e hf
      clear e
      refine ww_aload_n h dX10_worst_34 rfl 1 rfl 35 rfl ?_
      obtain ⟨M_17, hu18, hf⟩ := ob1 hf
      refine ww_cVv h (c_X10_takesBack l D ev cy oM aM M_14 _ hu18) ⟨w_1658, w_1655, w_1657, w_81, w_111, ok_X10_takesBack⟩ ⟨by decide, by decide⟩ ⟨by decide, by decide⟩ ⟨rfl, rfl⟩ [0] rfl 0 rfl rfl rfl rfl (Nat.le_of_ble_eq_true rfl) dX10_worst_35 38 rfl (Gs' := [gX10 cy oM aM M_17]) rfl ?_
      clear hu18
      refine ww_iload h dX10_worst_38 0 rfl 40 rfl ?_
      refine ww_iload_n h dX10_worst_40 rfl 3 rfl 41 rfl ?_
      have hJ52_21 : ∀ (v1_19 : Int32) (v2_20 : Int32), j_X10_worst_52_21 M_17 v3_9 v1_19 v2_20 = some o6 → ww X D A 5 Q 0 0 52 [(0, .ref oM), (1, .int v1_19), (2, .int v2_20), (3, .int v3_9)] [] [gX10 cy oM aM M_17] := by
        intro v1_19 v2_20 hf
        unfold j_X10_worst_52_21 at hf
        refine ww_inc (c := 1) h dX10_worst_52 3 rfl (by decide) (by decide) (fun v3_22 => [(3, .int v3_22), (0, .ref oM), (1, .int v1_19), (2, .int v2_20)]) (fun _ => rfl) 55 rfl (fun v3_22 e => ?_)
        replace hf := bnd_at e hf
        clear e
        refine ww_goto h dX10_worst_55 12 (by decide) ?_
        refine ww_lo [1, 2, 3, 0] (lo' := [(0, .ref oM), (1, .int v1_19), (2, .int v2_20), (3, .int v3_22)]) rfl ?_
        exact hI6 (v1_19, v2_20, v3_22, M_17) (Option.some.inj hf).symm
      refine ww_icmp_lt h dX10_worst_41 47 (by decide) 44 rfl (fun c => ?_) (fun c => ?_)
      · replace hf := ite_t c hf
        refine ww_iload h dX10_worst_47 0 rfl 49 rfl ?_
        refine ww_ist_n h dX10_worst_49 rfl (by decide) (fun v2_23 => [(2, .int v2_23), (4, .int v4_16), (0, .ref oM), (1, .int v1_7), (3, .int v3_9)]) (fun _ => rfl) 50 rfl (fun v2_23 e => ?_)
        replace hf := bnd_at e hf
        clear e
        refine ww_iload_n h dX10_worst_50 rfl 4 rfl 51 rfl ?_
        refine ww_ist_n h dX10_worst_51 rfl (by decide) (fun v1_24 => [(1, .int v1_24), (2, .int v2_23), (4, .int v4_16), (0, .ref oM), (3, .int v3_9)]) (fun _ => rfl) 52 rfl (fun v1_24 e => ?_)
        replace hf := bnd_at e hf
        clear e
        refine ww_lo [3, 0, 1, 4] (lo' := [(0, .ref oM), (1, .int v1_24), (2, .int v2_23), (3, .int v3_9)]) rfl ?_
        exact hJ52_21 v1_24 v2_23 hf
      · replace hf := ite_f c hf
        refine ww_goto h dX10_worst_44 52 (by decide) ?_
        refine ww_lo [1, 2, 3, 4] (lo' := [(0, .ref oM), (1, .int v1_7), (2, .int v2_8), (3, .int v3_9)]) rfl ?_
        exact hJ52_21 v1_7 v2_8 hf
  · clear h6
    show ww X D A 5 Q 0 0 58 [(1, .int v1_25)] [] [gX10 cy oM aM M_26]
    refine ww_iload_n h dX10_worst_58 rfl 0 rfl 59 rfl ?_
    obtain rfl := Option.some.inj hf
    exact ww_iret h dX10_worst_59 hQ ⟨rfl, rfl⟩
theorem dX10_costMarked_0 : decode cX10_costMarked 0 = .ok (.aload_n 0, 1) := by decide +kernel
theorem dX10_costMarked_1 : decode cX10_costMarked 1 = .ok (.iload_n 1, 1) := by decide +kernel
theorem dX10_costMarked_2 : decode cX10_costMarked 2 = .ok (.invokevirtual 161, 3) := by decide +kernel
theorem dX10_costMarked_5 : decode cX10_costMarked 5 = .ok (.ifCond .eq 12, 3) := by decide +kernel
theorem dX10_costMarked_8 : decode cX10_costMarked 8 = .ok (.iload_n 2, 1) := by decide +kernel
theorem dX10_costMarked_9 : decode cX10_costMarked 9 = .ok (.iconst 0, 1) := by decide +kernel
theorem dX10_costMarked_10 : decode cX10_costMarked 10 = .ok (.iconst 2, 1) := by decide +kernel
theorem dX10_costMarked_11 : decode cX10_costMarked 11 = .ok (.invokestatic 125, 3) := by decide +kernel
theorem dX10_costMarked_14 : decode cX10_costMarked 14 = .ok (.ifCond .ne 5, 3) := by decide +kernel
theorem dX10_costMarked_17 : decode cX10_costMarked 17 = .ok (.iconst (-1), 1) := by decide +kernel
theorem dX10_costMarked_18 : decode cX10_costMarked 18 = .ok (.ireturn, 1) := by decide +kernel
theorem dX10_costMarked_19 : decode cX10_costMarked 19 = .ok (.aload_n 0, 1) := by decide +kernel
theorem dX10_costMarked_20 : decode cX10_costMarked 20 = .ok (.invokevirtual 167, 3) := by decide +kernel
theorem dX10_costMarked_23 : decode cX10_costMarked 23 = .ok (.aload_n 0, 1) := by decide +kernel
theorem dX10_costMarked_24 : decode cX10_costMarked 24 = .ok (.getfield 36, 3) := by decide +kernel
theorem dX10_costMarked_27 : decode cX10_costMarked 27 = .ok (.bipush 41, 2) := by decide +kernel
theorem dX10_costMarked_29 : decode cX10_costMarked 29 = .ok (.iload_n 1, 1) := by decide +kernel
theorem dX10_costMarked_30 : decode cX10_costMarked 30 = .ok (.iadd, 1) := by decide +kernel
theorem dX10_costMarked_31 : decode cX10_costMarked 31 = .ok (.iload_n 2, 1) := by decide +kernel
theorem dX10_costMarked_32 : decode cX10_costMarked 32 = .ok (.iastore, 1) := by decide +kernel
theorem dX10_costMarked_33 : decode cX10_costMarked 33 = .ok (.aload_n 0, 1) := by decide +kernel
theorem dX10_costMarked_34 : decode cX10_costMarked 34 = .ok (.invokevirtual 318, 3) := by decide +kernel
theorem dX10_costMarked_37 : decode cX10_costMarked 37 = .ok (.istore_n 3, 1) := by decide +kernel
theorem dX10_costMarked_38 : decode cX10_costMarked 38 = .ok (.aload_n 0, 1) := by decide +kernel
theorem dX10_costMarked_39 : decode cX10_costMarked 39 = .ok (.invokevirtual 321, 3) := by decide +kernel
theorem dX10_costMarked_42 : decode cX10_costMarked 42 = .ok (.iload_n 3, 1) := by decide +kernel
theorem dX10_costMarked_43 : decode cX10_costMarked 43 = .ok (.ireturn, 1) := by decide +kernel
theorem ok_X10_costMarked : okY RX10 yX10_costMarked 2 := ⟨rfl, by decide, by decide, by decide +kernel⟩
def f_X10_costMarked (M : OV) (p0 : Int32) (p1 : Int32) : Option (Int32 × OV) := (f_X10_isSign M p0).bind (un1 (fun r_1 => (if r_1 = 0 then some ((-1 : Int32), M) else (f_X10_in p1 (0 : Int32) (2 : Int32)).bind (un1 (fun r_3 => (if r_3 = 0 then some ((-1 : Int32), M) else (f_X10_putsAside M).bind (un1 (fun M_5 => gd (ix ((41 : Int32) + p0) 113) (bnd (sA M_5 8 ((41 : Int32) + p0).toNatClampNeg p1) (fun M_7 => (f_X10_bestAsIs M_7).bind (un2 (fun r_8 M_9 => bnd r_8 (fun v3_11 => (f_X10_takesBack M_9).bind (un1 (fun M_12 => some (v3_11, M_12))))))))))))))))
def r_X10_costMarked : Room := { frames := 6, cells := 0, slots := 0, locals := 140 }
set_option maxHeartbeats 4000000 in
set_option maxRecDepth 100000 in
theorem c_X10_costMarked (l : Launch) (D : va_G) (ev : EvT) (cy : Nat → ClassId) (oM : Nat) (aM : Nat → Nat) (M : OV) (p0 : Int32) (p1 : Int32) (o : Int32 × OV) (hf : f_X10_costMarked M p0 p1 = some o) : Fn l yX10_costMarked cX10_costMarked 4 (some .int) r_X10_costMarked D ev cy [.ref oM, .int p0, .int p1] [gX10 cy oM aM M] (fun v G => v = some (.int o.1) ∧ G = [gX10 cy oM aM o.2]) := by
  refine Fn_of (by decide) (Nat.le_of_ble_eq_true rfl) (fun X A Q h hQ _ => ?_)
  unfold f_X10_costMarked at hf
  show ww X D A 4 Q 0 0 0 [(0, .ref oM), (1, .int p0), (2, .int p1)] [] [gX10 cy oM aM M]
  refine ww_aload_n h dX10_costMarked_0 rfl 0 rfl 1 rfl ?_
  refine ww_iload_n h dX10_costMarked_1 rfl 1 rfl 2 rfl ?_
  obtain ⟨r_1, hu2, hf⟩ := ob1 hf
  refine ww_cVi h (c_X10_isSign l D ev cy oM aM M p0 _ hu2) ⟨w_1357, w_1354, w_1356, w_42, w_111, ok_X10_isSign⟩ ⟨by decide, by decide⟩ ⟨by decide, by decide⟩ ⟨rfl, rfl⟩ [0] rfl 0 rfl rfl rfl rfl (Nat.le_of_ble_eq_true rfl) dX10_costMarked_2 5 rfl (Gs' := [gX10 cy oM aM M]) rfl ?_
  clear hu2
  refine ww_if_eq h dX10_costMarked_5 17 (by decide) 8 rfl (fun c => ?_) (fun c => ?_)
  · replace hf := ite_t c hf
    refine ww_iconst (v := (-1)) h dX10_costMarked_17 (by decide) 18 rfl ?_
    obtain rfl := Option.some.inj hf
    exact ww_iret h dX10_costMarked_18 hQ ⟨rfl, rfl⟩
  · replace hf := ite_f c hf
    refine ww_iload_n h dX10_costMarked_8 rfl 2 rfl 9 rfl ?_
    refine ww_iconst (v := 0) h dX10_costMarked_9 (by decide) 10 rfl ?_
    refine ww_iconst (v := 2) h dX10_costMarked_10 (by decide) 11 rfl ?_
    obtain ⟨r_3, hu4, hf⟩ := ob1 hf
    refine ww_cSi h (c_X10_in l D ev cy p1 (0 : Int32) (2 : Int32) _ hu4) ⟨w_1333, w_1331, w_1332, w_111, ok_X10_in⟩ ⟨by decide, by decide⟩ ⟨by decide, by decide⟩ ⟨rfl, rfl⟩ [] rfl rfl (Nat.le_of_ble_eq_true rfl) dX10_costMarked_11 14 rfl (Gs' := [gX10 cy oM aM M]) rfl ?_
    clear hu4
    refine ww_if_ne h dX10_costMarked_14 19 (by decide) 17 rfl (fun c => ?_) (fun c => ?_)
    · replace hf := ite_f c hf
      refine ww_aload_n h dX10_costMarked_19 rfl 0 rfl 20 rfl ?_
      obtain ⟨M_5, hu6, hf⟩ := ob1 hf
      refine ww_cVv h (c_X10_putsAside l D ev cy oM aM M _ hu6) ⟨w_1377, w_1374, w_1376, w_45, w_111, ok_X10_putsAside⟩ ⟨by decide, by decide⟩ ⟨by decide, by decide⟩ ⟨rfl, rfl⟩ [0] rfl 0 rfl rfl rfl rfl (Nat.le_of_ble_eq_true rfl) dX10_costMarked_20 23 rfl (Gs' := [gX10 cy oM aM M_5]) rfl ?_
      clear hu6
      refine ww_aload_n h dX10_costMarked_23 rfl 0 rfl 24 rfl ?_
      refine ww_get h inG10 rfl 0 rfl rfl 8 (by decide) w_1165 rfl dX10_costMarked_24 27 rfl ?_
      refine ww_bipush (v := 41) h dX10_costMarked_27 (by decide) 29 rfl ?_
      refine ww_iload_n h dX10_costMarked_29 rfl 1 rfl 30 rfl ?_
      refine ww_iadd h dX10_costMarked_30 31 rfl ?_
      refine ww_iload_n h dX10_costMarked_31 rfl 2 rfl 32 rfl ?_
      have hi := (gd_some hf).1
      replace hf := (gd_some hf).2
      refine ww_iast h 0 rfl 8 rfl (ix_in hi) dX10_costMarked_32 33 rfl ?_
      clear hi
      refine ww_nm (fun z => [gX10 cy oM aM z]) (sA M_5 8 ((41 : Int32) + p0).toNatClampNeg p1) (fun M_7 e => ?_)
      replace hf := bnd_at e hf
      clear e
      refine ww_aload_n h dX10_costMarked_33 rfl 0 rfl 34 rfl ?_
      obtain ⟨r_8, M_9, hu10, hf⟩ := ob2 hf
      refine ww_cVi h (c_X10_bestAsIs l D ev cy oM aM M_7 _ hu10) ⟨w_1654, w_1651, w_1653, w_80, w_111, ok_X10_bestAsIs⟩ ⟨by decide, by decide⟩ ⟨by decide, by decide⟩ ⟨rfl, rfl⟩ [0] rfl 0 rfl rfl rfl rfl (Nat.le_of_ble_eq_true rfl) dX10_costMarked_34 37 rfl (Gs' := [gX10 cy oM aM M_9]) rfl ?_
      clear hu10
      refine ww_ist_n h dX10_costMarked_37 rfl (by decide) (fun v3_11 => [(3, .int v3_11), (0, .ref oM), (1, .int p0), (2, .int p1)]) (fun _ => rfl) 38 rfl (fun v3_11 e => ?_)
      replace hf := bnd_at e hf
      clear e
      refine ww_aload_n h dX10_costMarked_38 rfl 1 rfl 39 rfl ?_
      obtain ⟨M_12, hu13, hf⟩ := ob1 hf
      refine ww_cVv h (c_X10_takesBack l D ev cy oM aM M_9 _ hu13) ⟨w_1658, w_1655, w_1657, w_81, w_111, ok_X10_takesBack⟩ ⟨by decide, by decide⟩ ⟨by decide, by decide⟩ ⟨rfl, rfl⟩ [0] rfl 0 rfl rfl rfl rfl (Nat.le_of_ble_eq_true rfl) dX10_costMarked_39 42 rfl (Gs' := [gX10 cy oM aM M_12]) rfl ?_
      clear hu13
      refine ww_iload_n h dX10_costMarked_42 rfl 0 rfl 43 rfl ?_
      obtain rfl := Option.some.inj hf
      exact ww_iret h dX10_costMarked_43 hQ ⟨rfl, rfl⟩
    · replace hf := ite_t c hf
      refine ww_iconst (v := (-1)) h dX10_costMarked_17 (by decide) 18 rfl ?_
      obtain rfl := Option.some.inj hf
      exact ww_iret h dX10_costMarked_18 hQ ⟨rfl, rfl⟩
theorem dX10_costAt_0 : decode cX10_costAt 0 = .ok (.aload_n 0, 1) := by decide +kernel
theorem dX10_costAt_1 : decode cX10_costAt 1 = .ok (.getfield 36, 3) := by decide +kernel
theorem dX10_costAt_4 : decode cX10_costAt 4 = .ok (.bipush 81, 2) := by decide +kernel
theorem dX10_costAt_6 : decode cX10_costAt 6 = .ok (.iaload, 1) := by decide +kernel
theorem dX10_costAt_7 : decode cX10_costAt 7 = .ok (.istore_n 2, 1) := by decide +kernel
theorem dX10_costAt_8 : decode cX10_costAt 8 = .ok (.aload_n 0, 1) := by decide +kernel
theorem dX10_costAt_9 : decode cX10_costAt 9 = .ok (.getfield 36, 3) := by decide +kernel
theorem dX10_costAt_12 : decode cX10_costAt 12 = .ok (.bipush 81, 2) := by decide +kernel
theorem dX10_costAt_14 : decode cX10_costAt 14 = .ok (.iload_n 1, 1) := by decide +kernel
theorem dX10_costAt_15 : decode cX10_costAt 15 = .ok (.iastore, 1) := by decide +kernel
theorem dX10_costAt_16 : decode cX10_costAt 16 = .ok (.aload_n 0, 1) := by decide +kernel
theorem dX10_costAt_17 : decode cX10_costAt 17 = .ok (.invokevirtual 318, 3) := by decide +kernel
theorem dX10_costAt_20 : decode cX10_costAt 20 = .ok (.istore_n 3, 1) := by decide +kernel
theorem dX10_costAt_21 : decode cX10_costAt 21 = .ok (.aload_n 0, 1) := by decide +kernel
theorem dX10_costAt_22 : decode cX10_costAt 22 = .ok (.getfield 36, 3) := by decide +kernel
theorem dX10_costAt_25 : decode cX10_costAt 25 = .ok (.bipush 81, 2) := by decide +kernel
theorem dX10_costAt_27 : decode cX10_costAt 27 = .ok (.iload_n 2, 1) := by decide +kernel
theorem dX10_costAt_28 : decode cX10_costAt 28 = .ok (.iastore, 1) := by decide +kernel
theorem dX10_costAt_29 : decode cX10_costAt 29 = .ok (.iload_n 3, 1) := by decide +kernel
theorem dX10_costAt_30 : decode cX10_costAt 30 = .ok (.ireturn, 1) := by decide +kernel
theorem ok_X10_costAt : okY RX10 yX10_costAt 1 := ⟨rfl, by decide, by decide, by decide +kernel⟩
def f_X10_costAt (M : OV) (p0 : Int32) : Option (Int32 × OV) := gd (ix (81 : Int32) 113) (bnd (ar M 8 (81 : Int32).toNatClampNeg) (fun v2_1 => gd (ix (81 : Int32) 113) (bnd (sA M 8 (81 : Int32).toNatClampNeg p0) (fun M_2 => (f_X10_bestAsIs M_2).bind (un2 (fun r_3 M_4 => bnd r_3 (fun v3_6 => gd (ix (81 : Int32) 113) (bnd (sA M_4 8 (81 : Int32).toNatClampNeg v2_1) (fun M_7 => some (v3_6, M_7))))))))))
def r_X10_costAt : Room := { frames := 6, cells := 0, slots := 0, locals := 140 }
set_option maxHeartbeats 4000000 in
set_option maxRecDepth 100000 in
theorem c_X10_costAt (l : Launch) (D : va_G) (ev : EvT) (cy : Nat → ClassId) (oM : Nat) (aM : Nat → Nat) (M : OV) (p0 : Int32) (o : Int32 × OV) (hf : f_X10_costAt M p0 = some o) : Fn l yX10_costAt cX10_costAt 4 (some .int) r_X10_costAt D ev cy [.ref oM, .int p0] [gX10 cy oM aM M] (fun v G => v = some (.int o.1) ∧ G = [gX10 cy oM aM o.2]) := by
  refine Fn_of (by decide) (Nat.le_of_ble_eq_true rfl) (fun X A Q h hQ _ => ?_)
  unfold f_X10_costAt at hf
  show ww X D A 4 Q 0 0 0 [(0, .ref oM), (1, .int p0)] [] [gX10 cy oM aM M]
  refine ww_aload_n h dX10_costAt_0 rfl 0 rfl 1 rfl ?_
  refine ww_get h inG10 rfl 0 rfl rfl 8 (by decide) w_1165 rfl dX10_costAt_1 4 rfl ?_
  refine ww_bipush (v := 81) h dX10_costAt_4 (by decide) 6 rfl ?_
  have hi := (gd_some hf).1
  replace hf := (gd_some hf).2
  refine ww_iald h 0 rfl 8 rfl (ix_in hi) dX10_costAt_6 7 rfl ?_
  clear hi
  refine ww_ist_n h dX10_costAt_7 rfl (by decide) (fun v2_1 => [(2, .int v2_1), (0, .ref oM), (1, .int p0)]) (fun _ => rfl) 8 rfl (fun v2_1 e => ?_)
  replace hf := bnd_at e hf
  clear e
  refine ww_aload_n h dX10_costAt_8 rfl 1 rfl 9 rfl ?_
  refine ww_get h inG10 rfl 0 rfl rfl 8 (by decide) w_1165 rfl dX10_costAt_9 12 rfl ?_
  refine ww_bipush (v := 81) h dX10_costAt_12 (by decide) 14 rfl ?_
  refine ww_iload_n h dX10_costAt_14 rfl 2 rfl 15 rfl ?_
  have hi := (gd_some hf).1
  replace hf := (gd_some hf).2
  refine ww_iast h 0 rfl 8 rfl (ix_in hi) dX10_costAt_15 16 rfl ?_
  clear hi
  refine ww_nm (fun z => [gX10 cy oM aM z]) (sA M 8 (81 : Int32).toNatClampNeg p0) (fun M_2 e => ?_)
  replace hf := bnd_at e hf
  clear e
  refine ww_aload_n h dX10_costAt_16 rfl 1 rfl 17 rfl ?_
  obtain ⟨r_3, M_4, hu5, hf⟩ := ob2 hf
  refine ww_cVi h (c_X10_bestAsIs l D ev cy oM aM M_2 _ hu5) ⟨w_1654, w_1651, w_1653, w_80, w_111, ok_X10_bestAsIs⟩ ⟨by decide, by decide⟩ ⟨by decide, by decide⟩ ⟨rfl, rfl⟩ [0] rfl 0 rfl rfl rfl rfl (Nat.le_of_ble_eq_true rfl) dX10_costAt_17 20 rfl (Gs' := [gX10 cy oM aM M_4]) rfl ?_
  clear hu5
  refine ww_ist_n h dX10_costAt_20 rfl (by decide) (fun v3_6 => [(3, .int v3_6), (2, .int v2_1), (0, .ref oM), (1, .int p0)]) (fun _ => rfl) 21 rfl (fun v3_6 e => ?_)
  replace hf := bnd_at e hf
  clear e
  refine ww_aload_n h dX10_costAt_21 rfl 2 rfl 22 rfl ?_
  refine ww_get h inG10 rfl 0 rfl rfl 8 (by decide) w_1165 rfl dX10_costAt_22 25 rfl ?_
  refine ww_bipush (v := 81) h dX10_costAt_25 (by decide) 27 rfl ?_
  refine ww_iload_n h dX10_costAt_27 rfl 1 rfl 28 rfl ?_
  have hi := (gd_some hf).1
  replace hf := (gd_some hf).2
  refine ww_iast h 0 rfl 8 rfl (ix_in hi) dX10_costAt_28 29 rfl ?_
  clear hi
  refine ww_nm (fun z => [gX10 cy oM aM z]) (sA M_4 8 (81 : Int32).toNatClampNeg v2_1) (fun M_7 e => ?_)
  replace hf := bnd_at e hf
  clear e
  refine ww_iload_n h dX10_costAt_29 rfl 0 rfl 30 rfl ?_
  obtain rfl := Option.some.inj hf
  exact ww_iret h dX10_costAt_30 hQ ⟨rfl, rfl⟩
theorem dX10_costBy_0 : decode cX10_costBy 0 = .ok (.iload_n 1, 1) := by decide +kernel
theorem dX10_costBy_1 : decode cX10_costBy 1 = .ok (.iconst 4, 1) := by decide +kernel
theorem dX10_costBy_2 : decode cX10_costBy 2 = .ok (.bipush 80, 2) := by decide +kernel
theorem dX10_costBy_4 : decode cX10_costBy 4 = .ok (.invokestatic 125, 3) := by decide +kernel
theorem dX10_costBy_7 : decode cX10_costBy 7 = .ok (.ifCond .eq 11, 3) := by decide +kernel
theorem dX10_costBy_10 : decode cX10_costBy 10 = .ok (.aload_n 0, 1) := by decide +kernel
theorem dX10_costBy_11 : decode cX10_costBy 11 = .ok (.iload_n 1, 1) := by decide +kernel
theorem dX10_costBy_12 : decode cX10_costBy 12 = .ok (.invokevirtual 324, 3) := by decide +kernel
theorem dX10_costBy_15 : decode cX10_costBy 15 = .ok (.goto 4, 3) := by decide +kernel
theorem dX10_costBy_18 : decode cX10_costBy 18 = .ok (.iconst (-1), 1) := by decide +kernel
theorem dX10_costBy_19 : decode cX10_costBy 19 = .ok (.ireturn, 1) := by decide +kernel
theorem ok_X10_costBy : okY RX10 yX10_costBy 1 := ⟨rfl, by decide, by decide, by decide +kernel⟩
def f_X10_costBy (M : OV) (p0 : Int32) : Option (Int32 × OV) := (f_X10_in p0 (4 : Int32) (80 : Int32)).bind (un1 (fun r_1 => (if r_1 = 0 then some ((-1 : Int32), M) else (f_X10_costAt M p0).bind (un2 (fun r_3 M_4 => some (r_3, M_4))))))
def r_X10_costBy : Room := { frames := 7, cells := 0, slots := 0, locals := 163 }
set_option maxHeartbeats 4000000 in
set_option maxRecDepth 100000 in
theorem c_X10_costBy (l : Launch) (D : va_G) (ev : EvT) (cy : Nat → ClassId) (oM : Nat) (aM : Nat → Nat) (M : OV) (p0 : Int32) (o : Int32 × OV) (hf : f_X10_costBy M p0 = some o) : Fn l yX10_costBy cX10_costBy 2 (some .int) r_X10_costBy D ev cy [.ref oM, .int p0] [gX10 cy oM aM M] (fun v G => v = some (.int o.1) ∧ G = [gX10 cy oM aM o.2]) := by
  refine Fn_of (by decide) (Nat.le_of_ble_eq_true rfl) (fun X A Q h hQ _ => ?_)
  unfold f_X10_costBy at hf
  show ww X D A 2 Q 0 0 0 [(0, .ref oM), (1, .int p0)] [] [gX10 cy oM aM M]
  refine ww_iload_n h dX10_costBy_0 rfl 1 rfl 1 rfl ?_
  refine ww_iconst (v := 4) h dX10_costBy_1 (by decide) 2 rfl ?_
  refine ww_bipush (v := 80) h dX10_costBy_2 (by decide) 4 rfl ?_
  obtain ⟨r_1, hu2, hf⟩ := ob1 hf
  refine ww_cSi h (c_X10_in l D ev cy p0 (4 : Int32) (80 : Int32) _ hu2) ⟨w_1333, w_1331, w_1332, w_111, ok_X10_in⟩ ⟨by decide, by decide⟩ ⟨by decide, by decide⟩ ⟨rfl, rfl⟩ [] rfl rfl (Nat.le_of_ble_eq_true rfl) dX10_costBy_4 7 rfl (Gs' := [gX10 cy oM aM M]) rfl ?_
  clear hu2
  refine ww_if_eq h dX10_costBy_7 18 (by decide) 10 rfl (fun c => ?_) (fun c => ?_)
  · replace hf := ite_t c hf
    refine ww_iconst (v := (-1)) h dX10_costBy_18 (by decide) 19 rfl ?_
    obtain rfl := Option.some.inj hf
    exact ww_iret h dX10_costBy_19 hQ ⟨rfl, rfl⟩
  · replace hf := ite_f c hf
    refine ww_aload_n h dX10_costBy_10 rfl 0 rfl 11 rfl ?_
    refine ww_iload_n h dX10_costBy_11 rfl 1 rfl 12 rfl ?_
    obtain ⟨r_3, M_4, hu5, hf⟩ := ob2 hf
    refine ww_cVi h (c_X10_costAt l D ev cy oM aM M p0 _ hu5) ⟨w_1670, w_1667, w_1669, w_82, w_111, ok_X10_costAt⟩ ⟨by decide, by decide⟩ ⟨by decide, by decide⟩ ⟨rfl, rfl⟩ [0] rfl 0 rfl rfl rfl rfl (Nat.le_of_ble_eq_true rfl) dX10_costBy_12 15 rfl (Gs' := [gX10 cy oM aM M_4]) rfl ?_
    clear hu5
    refine ww_goto h dX10_costBy_15 19 (by decide) ?_
    obtain rfl := Option.some.inj hf
    exact ww_iret h dX10_costBy_19 hQ ⟨rfl, rfl⟩
theorem dX10_widthFor_0 : decode cX10_widthFor 0 = .ok (.iload_n 1, 1) := by decide +kernel
theorem dX10_widthFor_1 : decode cX10_widthFor 1 = .ok (.iconst 1, 1) := by decide +kernel
theorem dX10_widthFor_2 : decode cX10_widthFor 2 = .ok (.if_icmp .ge 5, 3) := by decide +kernel
theorem dX10_widthFor_5 : decode cX10_widthFor 5 = .ok (.iconst (-1), 1) := by decide +kernel
theorem dX10_widthFor_6 : decode cX10_widthFor 6 = .ok (.ireturn, 1) := by decide +kernel
theorem dX10_widthFor_7 : decode cX10_widthFor 7 = .ok (.aload_n 0, 1) := by decide +kernel
theorem dX10_widthFor_8 : decode cX10_widthFor 8 = .ok (.invokevirtual 132, 3) := by decide +kernel
theorem dX10_widthFor_11 : decode cX10_widthFor 11 = .ok (.ifCond .ne 6, 3) := by decide +kernel
theorem dX10_widthFor_14 : decode cX10_widthFor 14 = .ok (.bipush (-2), 2) := by decide +kernel
theorem dX10_widthFor_16 : decode cX10_widthFor 16 = .ok (.ireturn, 1) := by decide +kernel
theorem dX10_widthFor_17 : decode cX10_widthFor 17 = .ok (.iconst 4, 1) := by decide +kernel
theorem dX10_widthFor_18 : decode cX10_widthFor 18 = .ok (.istore_n 2, 1) := by decide +kernel
theorem dX10_widthFor_19 : decode cX10_widthFor 19 = .ok (.iload_n 2, 1) := by decide +kernel
theorem dX10_widthFor_20 : decode cX10_widthFor 20 = .ok (.bipush 80, 2) := by decide +kernel
theorem dX10_widthFor_22 : decode cX10_widthFor 22 = .ok (.if_icmp .gt 27, 3) := by decide +kernel
theorem dX10_widthFor_25 : decode cX10_widthFor 25 = .ok (.aload_n 0, 1) := by decide +kernel
theorem dX10_widthFor_26 : decode cX10_widthFor 26 = .ok (.iload_n 2, 1) := by decide +kernel
theorem dX10_widthFor_27 : decode cX10_widthFor 27 = .ok (.invokevirtual 324, 3) := by decide +kernel
theorem dX10_widthFor_30 : decode cX10_widthFor 30 = .ok (.pop, 1) := by decide +kernel
theorem dX10_widthFor_31 : decode cX10_widthFor 31 = .ok (.aload_n 0, 1) := by decide +kernel
theorem dX10_widthFor_32 : decode cX10_widthFor 32 = .ok (.getfield 51, 3) := by decide +kernel
theorem dX10_widthFor_35 : decode cX10_widthFor 35 = .ok (.iconst 0, 1) := by decide +kernel
theorem dX10_widthFor_36 : decode cX10_widthFor 36 = .ok (.iaload, 1) := by decide +kernel
theorem dX10_widthFor_37 : decode cX10_widthFor 37 = .ok (.iload_n 1, 1) := by decide +kernel
theorem dX10_widthFor_38 : decode cX10_widthFor 38 = .ok (.if_icmp .gt 5, 3) := by decide +kernel
theorem dX10_widthFor_41 : decode cX10_widthFor 41 = .ok (.iload_n 2, 1) := by decide +kernel
theorem dX10_widthFor_42 : decode cX10_widthFor 42 = .ok (.ireturn, 1) := by decide +kernel
theorem dX10_widthFor_43 : decode cX10_widthFor 43 = .ok (.iinc 2 1, 3) := by decide +kernel
theorem dX10_widthFor_46 : decode cX10_widthFor 46 = .ok (.goto (-27), 3) := by decide +kernel
theorem dX10_widthFor_49 : decode cX10_widthFor 49 = .ok (.bipush (-2), 2) := by decide +kernel
theorem dX10_widthFor_51 : decode cX10_widthFor 51 = .ok (.ireturn, 1) := by decide +kernel
theorem ok_X10_widthFor : okY RX10 yX10_widthFor 1 := ⟨rfl, by decide, by decide, by decide +kernel⟩
def s_X10_widthFor_19_4 (p0 : Int32) : (Int32 × OV) → Option ((Int32 × OV) ⊕ ((OV) ⊕ (Int32 × OV))) := un2 (fun v2_5 M_6 => (if (80 : Int32) < v2_5 then some (.inr (.inl M_6)) else (f_X10_costAt M_6 v2_5).bind (un2 (fun r_7 M_8 => gd (ix (0 : Int32) 41) ((if p0 < (ar M_8 21 (0 : Int32).toNatClampNeg) then bnd (v2_5 + 1) (fun v2_10 => some (.inl (v2_10, M_8))) else some (.inr (.inr (v2_5, M_8)))))))))
def f_X10_widthFor (M : OV) (p0 : Int32) : Option (Int32 × OV) := (if (1 : Int32) ≤ p0 then (f_X10_many M).bind (un1 (fun r_1 => (if r_1 = 0 then some ((-2 : Int32), M) else bnd (4 : Int32) (fun v2_3 => ((lp (s_X10_widthFor_19_4 p0) 5000 (v2_3, M)).bind (Sum.elim (un1 (fun M_11 => some ((-2 : Int32), M_11))) (fun r => some r))))))) else some ((-1 : Int32), M))
def r_X10_widthFor : Room := { frames := 7, cells := 0, slots := 0, locals := 163 }
set_option maxHeartbeats 4000000 in
set_option maxRecDepth 100000 in
theorem c_X10_widthFor (l : Launch) (D : va_G) (ev : EvT) (cy : Nat → ClassId) (oM : Nat) (aM : Nat → Nat) (M : OV) (p0 : Int32) (o : Int32 × OV) (hf : f_X10_widthFor M p0 = some o) : Fn l yX10_widthFor cX10_widthFor 3 (some .int) r_X10_widthFor D ev cy [.ref oM, .int p0] [gX10 cy oM aM M] (fun v G => v = some (.int o.1) ∧ G = [gX10 cy oM aM o.2]) := by
  refine Fn_of (by decide) (Nat.le_of_ble_eq_true rfl) (fun X A Q h hQ _ => ?_)
  unfold f_X10_widthFor at hf
  show ww X D A 3 Q 0 0 0 [(0, .ref oM), (1, .int p0)] [] [gX10 cy oM aM M]
  refine ww_iload_n h dX10_widthFor_0 rfl 1 rfl 1 rfl ?_
  refine ww_iconst (v := 1) h dX10_widthFor_1 (by decide) 2 rfl ?_
  refine ww_icmp_ge h dX10_widthFor_2 7 (by decide) 5 rfl (fun c => ?_) (fun c => ?_)
  · replace hf := ite_t c hf
    refine ww_aload_n h dX10_widthFor_7 rfl 0 rfl 8 rfl ?_
    obtain ⟨r_1, hu2, hf⟩ := ob1 hf
    refine ww_cVi h (c_X10_many l D ev cy oM aM M _ hu2) ⟨w_1330, w_1327, w_1329, w_37, w_111, ok_X10_many⟩ ⟨by decide, by decide⟩ ⟨by decide, by decide⟩ ⟨rfl, rfl⟩ [0] rfl 0 rfl rfl rfl rfl (Nat.le_of_ble_eq_true rfl) dX10_widthFor_8 11 rfl (Gs' := [gX10 cy oM aM M]) rfl ?_
    clear hu2
    refine ww_if_ne h dX10_widthFor_11 17 (by decide) 14 rfl (fun c => ?_) (fun c => ?_)
    · replace hf := ite_f c hf
      refine ww_iconst (v := 4) h dX10_widthFor_17 (by decide) 18 rfl ?_
      refine ww_ist_n h dX10_widthFor_18 rfl (by decide) (fun v2_3 => [(2, .int v2_3), (0, .ref oM), (1, .int p0)]) (fun _ => rfl) 19 rfl (fun v2_3 e => ?_)
      replace hf := bnd_at e hf
      clear e
      refine ww_lo [1, 2, 0] (lo' := [(0, .ref oM), (1, .int p0), (2, .int v2_3)]) rfl ?_
      obtain ⟨x4, h4, hf⟩ := ob_some hf
      refine lp_walk (un2 (fun v2_5 M_6 => ww X D A 3 Q 0 0 19 [(0, .ref oM), (1, .int p0), (2, .int v2_5)] [] [gX10 cy oM aM M_6])) (Sum.elim (un1 (fun M_11 => ww X D A 3 Q 0 0 49 [] [] [gX10 cy oM aM M_11])) (fun r => r = o)) ?_ _ _ _ h4 ?_
      · clear h4 hf
        intro s4 o4 hf hI4 hE4
        obtain ⟨v2_5, M_6⟩ := s4
        unfold s_X10_widthFor_19_4 at hf
        replace hf := un2_e hf
        show ww X D A 3 Q 0 0 19 [(0, .ref oM), (1, .int p0), (2, .int v2_5)] [] [gX10 cy oM aM M_6]
        refine ww_iload_n h dX10_widthFor_19 rfl 2 rfl 20 rfl ?_
        refine ww_bipush (v := 80) h dX10_widthFor_20 (by decide) 22 rfl ?_
        refine ww_icmp_gt h dX10_widthFor_22 49 (by decide) 25 rfl (fun c => ?_) (fun c => ?_)
        · replace hf := ite_t c hf
          refine ww_lo [] (lo' := []) rfl ?_
          exact hE4 (.inl M_6) (Option.some.inj hf).symm
        · replace hf := ite_f c hf
          refine ww_aload_n h dX10_widthFor_25 rfl 0 rfl 26 rfl ?_
          refine ww_iload_n h dX10_widthFor_26 rfl 2 rfl 27 rfl ?_
          obtain ⟨r_7, M_8, hu9, hf⟩ := ob2 hf
          refine ww_cVi h (c_X10_costAt l D ev cy oM aM M_6 v2_5 _ hu9) ⟨w_1670, w_1667, w_1669, w_82, w_111, ok_X10_costAt⟩ ⟨by decide, by decide⟩ ⟨by decide, by decide⟩ ⟨rfl, rfl⟩ [0] rfl 0 rfl rfl rfl rfl (Nat.le_of_ble_eq_true rfl) dX10_widthFor_27 30 rfl (Gs' := [gX10 cy oM aM M_8]) rfl ?_
          clear hu9
          refine ww_pop h dX10_widthFor_30 rfl 31 rfl ?_
          refine ww_aload_n h dX10_widthFor_31 rfl 0 rfl 32 rfl ?_
          refine ww_get h inG10 rfl 0 rfl rfl 21 (by decide) w_1178 rfl dX10_widthFor_32 35 rfl ?_
          refine ww_iconst (v := 0) h dX10_widthFor_35 (by decide) 36 rfl ?_
          have hi := (gd_some hf).1
          replace hf := (gd_some hf).2
          refine ww_iald h 0 rfl 13 rfl (ix_in hi) dX10_widthFor_36 37 rfl ?_
          clear hi
          refine ww_iload_n h dX10_widthFor_37 rfl 1 rfl 38 rfl ?_
          refine ww_icmp_gt h dX10_widthFor_38 43 (by decide) 41 rfl (fun c => ?_) (fun c => ?_)
          · replace hf := ite_t c hf
            refine ww_inc (c := 1) h dX10_widthFor_43 2 rfl (by decide) (by decide) (fun v2_10 => [(2, .int v2_10), (0, .ref oM), (1, .int p0)]) (fun _ => rfl) 46 rfl (fun v2_10 e => ?_)
            replace hf := bnd_at e hf
            clear e
            refine ww_goto h dX10_widthFor_46 19 (by decide) ?_
            refine ww_lo [1, 2, 0] (lo' := [(0, .ref oM), (1, .int p0), (2, .int v2_10)]) rfl ?_
            exact hI4 (v2_10, M_8) (Option.some.inj hf).symm
          · replace hf := ite_f c hf
            refine ww_iload_n h dX10_widthFor_41 rfl 2 rfl 42 rfl ?_
            obtain rfl := hE4 (.inr (v2_5, M_8)) (Option.some.inj hf).symm
            exact ww_iret h dX10_widthFor_42 hQ ⟨rfl, rfl⟩
      · clear h4
        rcases x4 with x4 | x4
        · replace hf := sel_l hf
          obtain ⟨M_11, rfl⟩ : ∃ z, z = x4 := ⟨_, rfl⟩
          replace hf := un1_e hf
          show ww X D A 3 Q 0 0 49 [] [] [gX10 cy oM aM M_11]
          refine ww_bipush (v := (-2)) h dX10_widthFor_49 (by decide) 51 rfl ?_
          obtain rfl := Option.some.inj hf
          exact ww_iret h dX10_widthFor_51 hQ ⟨rfl, rfl⟩
        · replace hf := sel_r hf
          exact Option.some.inj hf
    · replace hf := ite_t c hf
      refine ww_bipush (v := (-2)) h dX10_widthFor_14 (by decide) 16 rfl ?_
      obtain rfl := Option.some.inj hf
      exact ww_iret h dX10_widthFor_16 hQ ⟨rfl, rfl⟩
  · replace hf := ite_f c hf
    refine ww_iconst (v := (-1)) h dX10_widthFor_5 (by decide) 6 rfl ?_
    obtain rfl := Option.some.inj hf
    exact ww_iret h dX10_widthFor_6 hQ ⟨rfl, rfl⟩
theorem dX10_bestWidth_0 : decode cX10_bestWidth 0 = .ok (.iconst 4, 1) := by decide +kernel
theorem dX10_bestWidth_1 : decode cX10_bestWidth 1 = .ok (.istore_n 1, 1) := by decide +kernel
theorem dX10_bestWidth_2 : decode cX10_bestWidth 2 = .ok (.ldc 237, 2) := by decide +kernel
theorem dX10_bestWidth_4 : decode cX10_bestWidth 4 = .ok (.istore_n 2, 1) := by decide +kernel
theorem dX10_bestWidth_5 : decode cX10_bestWidth 5 = .ok (.iconst 4, 1) := by decide +kernel
theorem dX10_bestWidth_6 : decode cX10_bestWidth 6 = .ok (.istore_n 3, 1) := by decide +kernel
theorem dX10_bestWidth_7 : decode cX10_bestWidth 7 = .ok (.iload_n 3, 1) := by decide +kernel
theorem dX10_bestWidth_8 : decode cX10_bestWidth 8 = .ok (.bipush 80, 2) := by decide +kernel
theorem dX10_bestWidth_10 : decode cX10_bestWidth 10 = .ok (.if_icmp .gt 30, 3) := by decide +kernel
theorem dX10_bestWidth_13 : decode cX10_bestWidth 13 = .ok (.aload_n 0, 1) := by decide +kernel
theorem dX10_bestWidth_14 : decode cX10_bestWidth 14 = .ok (.iload_n 3, 1) := by decide +kernel
theorem dX10_bestWidth_15 : decode cX10_bestWidth 15 = .ok (.invokevirtual 324, 3) := by decide +kernel
theorem dX10_bestWidth_18 : decode cX10_bestWidth 18 = .ok (.istore 4, 2) := by decide +kernel
theorem dX10_bestWidth_20 : decode cX10_bestWidth 20 = .ok (.iload 4, 2) := by decide +kernel
theorem dX10_bestWidth_22 : decode cX10_bestWidth 22 = .ok (.iload_n 2, 1) := by decide +kernel
theorem dX10_bestWidth_23 : decode cX10_bestWidth 23 = .ok (.if_icmp .lt 6, 3) := by decide +kernel
theorem dX10_bestWidth_26 : decode cX10_bestWidth 26 = .ok (.goto 8, 3) := by decide +kernel
theorem dX10_bestWidth_29 : decode cX10_bestWidth 29 = .ok (.iload 4, 2) := by decide +kernel
theorem dX10_bestWidth_31 : decode cX10_bestWidth 31 = .ok (.istore_n 2, 1) := by decide +kernel
theorem dX10_bestWidth_32 : decode cX10_bestWidth 32 = .ok (.iload_n 3, 1) := by decide +kernel
theorem dX10_bestWidth_33 : decode cX10_bestWidth 33 = .ok (.istore_n 1, 1) := by decide +kernel
theorem dX10_bestWidth_34 : decode cX10_bestWidth 34 = .ok (.iinc 3 1, 3) := by decide +kernel
theorem dX10_bestWidth_37 : decode cX10_bestWidth 37 = .ok (.goto (-30), 3) := by decide +kernel
theorem dX10_bestWidth_40 : decode cX10_bestWidth 40 = .ok (.iload_n 1, 1) := by decide +kernel
theorem dX10_bestWidth_41 : decode cX10_bestWidth 41 = .ok (.ireturn, 1) := by decide +kernel
theorem ok_X10_bestWidth : okY RX10 yX10_bestWidth 0 := ⟨rfl, by decide, by decide, by decide +kernel⟩
def j_X10_bestWidth_34_15 (M_10 : OV) (v3_7 : Int32) (v1_13 : Int32) (v2_14 : Int32) : Option ((Int32 × Int32 × Int32 × OV) ⊕ (Int32 × OV)) := bnd (v3_7 + 1) (fun v3_16 => some (.inl (v1_13, v2_14, v3_16, M_10)))
def s_X10_bestWidth_7_4 : (Int32 × Int32 × Int32 × OV) → Option ((Int32 × Int32 × Int32 × OV) ⊕ (Int32 × OV)) := un4 (fun v1_5 v2_6 v3_7 M_8 => (if (80 : Int32) < v3_7 then some (.inr (v1_5, M_8)) else (f_X10_costAt M_8 v3_7).bind (un2 (fun r_9 M_10 => bnd r_9 (fun v4_12 => (if v4_12 < v2_6 then bnd v4_12 (fun v2_17 => bnd v3_7 (fun v1_18 => j_X10_bestWidth_34_15 M_10 v3_7 v1_18 v2_17)) else j_X10_bestWidth_34_15 M_10 v3_7 v1_5 v2_6))))))
def f_X10_bestWidth (M : OV) : Option (Int32 × OV) := bnd (4 : Int32) (fun v1_1 => bnd (1000000000 : Int32) (fun v2_2 => bnd (4 : Int32) (fun v3_3 => ((lp (s_X10_bestWidth_7_4) 5000 (v1_1, v2_2, v3_3, M)).bind (un2 (fun v1_19 M_20 => some (v1_19, M_20)))))))
def r_X10_bestWidth : Room := { frames := 7, cells := 0, slots := 0, locals := 163 }
set_option maxHeartbeats 4000000 in
set_option maxRecDepth 100000 in
theorem c_X10_bestWidth (l : Launch) (D : va_G) (ev : EvT) (cy : Nat → ClassId) (oM : Nat) (aM : Nat → Nat) (M : OV) (o : Int32 × OV) (hf : f_X10_bestWidth M = some o) : Fn l yX10_bestWidth cX10_bestWidth 5 (some .int) r_X10_bestWidth D ev cy [.ref oM] [gX10 cy oM aM M] (fun v G => v = some (.int o.1) ∧ G = [gX10 cy oM aM o.2]) := by
  refine Fn_of (by decide) (Nat.le_of_ble_eq_true rfl) (fun X A Q h hQ _ => ?_)
  unfold f_X10_bestWidth at hf
  show ww X D A 5 Q 0 0 0 [(0, .ref oM)] [] [gX10 cy oM aM M]
  refine ww_iconst (v := 4) h dX10_bestWidth_0 (by decide) 1 rfl ?_
  refine ww_ist_n h dX10_bestWidth_1 rfl (by decide) (fun v1_1 => [(1, .int v1_1), (0, .ref oM)]) (fun _ => rfl) 2 rfl (fun v1_1 e => ?_)
  replace hf := bnd_at e hf
  clear e
  refine ww_ldc h w_1505 dX10_bestWidth_2 4 rfl ?_
  refine ww_ist_n h dX10_bestWidth_4 rfl (by decide) (fun v2_2 => [(2, .int v2_2), (1, .int v1_1), (0, .ref oM)]) (fun _ => rfl) 5 rfl (fun v2_2 e => ?_)
  replace hf := bnd_at e hf
  clear e
  refine ww_iconst (v := 4) h dX10_bestWidth_5 (by decide) 6 rfl ?_
  refine ww_ist_n h dX10_bestWidth_6 rfl (by decide) (fun v3_3 => [(3, .int v3_3), (2, .int v2_2), (1, .int v1_1), (0, .ref oM)]) (fun _ => rfl) 7 rfl (fun v3_3 e => ?_)
  replace hf := bnd_at e hf
  clear e
  refine ww_lo [3, 2, 1, 0] (lo' := [(0, .ref oM), (1, .int v1_1), (2, .int v2_2), (3, .int v3_3)]) rfl ?_
  obtain ⟨v1_19, M_20, h4, hf⟩ := ob2 hf
  refine lp_walk (un4 (fun v1_5 v2_6 v3_7 M_8 => ww X D A 5 Q 0 0 7 [(0, .ref oM), (1, .int v1_5), (2, .int v2_6), (3, .int v3_7)] [] [gX10 cy oM aM M_8])) (un2 (fun v1_19 M_20 => ww X D A 5 Q 0 0 40 [(1, .int v1_19)] [] [gX10 cy oM aM M_20])) ?_ _ _ _ h4 ?_
  · clear h4 hf
    intro s4 o4 hf hI4 hE4
    obtain ⟨v1_5, v2_6, v3_7, M_8⟩ := s4
    unfold s_X10_bestWidth_7_4 at hf
    replace hf := un4_e hf
    show ww X D A 5 Q 0 0 7 [(0, .ref oM), (1, .int v1_5), (2, .int v2_6), (3, .int v3_7)] [] [gX10 cy oM aM M_8]
    refine ww_iload_n h dX10_bestWidth_7 rfl 3 rfl 8 rfl ?_
    refine ww_bipush (v := 80) h dX10_bestWidth_8 (by decide) 10 rfl ?_
    refine ww_icmp_gt h dX10_bestWidth_10 40 (by decide) 13 rfl (fun c => ?_) (fun c => ?_)
    · replace hf := ite_t c hf
      refine ww_lo [1] (lo' := [(1, .int v1_5)]) rfl ?_
      exact hE4 (v1_5, M_8) (Option.some.inj hf).symm
    · replace hf := ite_f c hf
      refine ww_aload_n h dX10_bestWidth_13 rfl 0 rfl 14 rfl ?_
      refine ww_iload_n h dX10_bestWidth_14 rfl 3 rfl 15 rfl ?_
      obtain ⟨r_9, M_10, hu11, hf⟩ := ob2 hf
      refine ww_cVi h (c_X10_costAt l D ev cy oM aM M_8 v3_7 _ hu11) ⟨w_1670, w_1667, w_1669, w_82, w_111, ok_X10_costAt⟩ ⟨by decide, by decide⟩ ⟨by decide, by decide⟩ ⟨rfl, rfl⟩ [0] rfl 0 rfl rfl rfl rfl (Nat.le_of_ble_eq_true rfl) dX10_bestWidth_15 18 rfl (Gs' := [gX10 cy oM aM M_10]) rfl ?_
      clear hu11
      refine ww_ist h dX10_bestWidth_18 (by decide) (fun v4_12 => [(4, .int v4_12), (0, .ref oM), (1, .int v1_5), (2, .int v2_6), (3, .int v3_7)]) (fun _ => rfl) 20 rfl (fun v4_12 e => ?_)
      replace hf := bnd_at e hf
      clear e
      refine ww_iload h dX10_bestWidth_20 0 rfl 22 rfl ?_
      refine ww_iload_n h dX10_bestWidth_22 rfl 3 rfl 23 rfl ?_
      have hJ34_15 : ∀ (v1_13 : Int32) (v2_14 : Int32), j_X10_bestWidth_34_15 M_10 v3_7 v1_13 v2_14 = some o4 → ww X D A 5 Q 0 0 34 [(0, .ref oM), (1, .int v1_13), (2, .int v2_14), (3, .int v3_7)] [] [gX10 cy oM aM M_10] := by
        intro v1_13 v2_14 hf
        unfold j_X10_bestWidth_34_15 at hf
        refine ww_inc (c := 1) h dX10_bestWidth_34 3 rfl (by decide) (by decide) (fun v3_16 => [(3, .int v3_16), (0, .ref oM), (1, .int v1_13), (2, .int v2_14)]) (fun _ => rfl) 37 rfl (fun v3_16 e => ?_)
        replace hf := bnd_at e hf
        clear e
        refine ww_goto h dX10_bestWidth_37 7 (by decide) ?_
        refine ww_lo [1, 2, 3, 0] (lo' := [(0, .ref oM), (1, .int v1_13), (2, .int v2_14), (3, .int v3_16)]) rfl ?_
        exact hI4 (v1_13, v2_14, v3_16, M_10) (Option.some.inj hf).symm
      refine ww_icmp_lt h dX10_bestWidth_23 29 (by decide) 26 rfl (fun c => ?_) (fun c => ?_)
      · replace hf := ite_t c hf
        refine ww_iload h dX10_bestWidth_29 0 rfl 31 rfl ?_
        refine ww_ist_n h dX10_bestWidth_31 rfl (by decide) (fun v2_17 => [(2, .int v2_17), (4, .int v4_12), (0, .ref oM), (1, .int v1_5), (3, .int v3_7)]) (fun _ => rfl) 32 rfl (fun v2_17 e => ?_)
        replace hf := bnd_at e hf
        clear e
        refine ww_iload_n h dX10_bestWidth_32 rfl 4 rfl 33 rfl ?_
        refine ww_ist_n h dX10_bestWidth_33 rfl (by decide) (fun v1_18 => [(1, .int v1_18), (2, .int v2_17), (4, .int v4_12), (0, .ref oM), (3, .int v3_7)]) (fun _ => rfl) 34 rfl (fun v1_18 e => ?_)
        replace hf := bnd_at e hf
        clear e
        refine ww_lo [3, 0, 1, 4] (lo' := [(0, .ref oM), (1, .int v1_18), (2, .int v2_17), (3, .int v3_7)]) rfl ?_
        exact hJ34_15 v1_18 v2_17 hf
      · replace hf := ite_f c hf
        refine ww_goto h dX10_bestWidth_26 34 (by decide) ?_
        refine ww_lo [1, 2, 3, 4] (lo' := [(0, .ref oM), (1, .int v1_5), (2, .int v2_6), (3, .int v3_7)]) rfl ?_
        exact hJ34_15 v1_5 v2_6 hf
  · clear h4
    show ww X D A 5 Q 0 0 40 [(1, .int v1_19)] [] [gX10 cy oM aM M_20]
    refine ww_iload_n h dX10_bestWidth_40 rfl 0 rfl 41 rfl ?_
    obtain rfl := Option.some.inj hf
    exact ww_iret h dX10_bestWidth_41 hQ ⟨rfl, rfl⟩
theorem dX10_atEnds_0 : decode cX10_atEnds 0 = .ok (.iload_n 1, 1) := by decide +kernel
theorem dX10_atEnds_1 : decode cX10_atEnds 1 = .ok (.invokestatic 255, 3) := by decide +kernel
theorem dX10_atEnds_4 : decode cX10_atEnds 4 = .ok (.ifCond .eq 11, 3) := by decide +kernel
theorem dX10_atEnds_7 : decode cX10_atEnds 7 = .ok (.aload_n 0, 1) := by decide +kernel
theorem dX10_atEnds_8 : decode cX10_atEnds 8 = .ok (.iload_n 2, 1) := by decide +kernel
theorem dX10_atEnds_9 : decode cX10_atEnds 9 = .ok (.invokevirtual 151, 3) := by decide +kernel
theorem dX10_atEnds_12 : decode cX10_atEnds 12 = .ok (.ifCond .ne 5, 3) := by decide +kernel
theorem dX10_atEnds_15 : decode cX10_atEnds 15 = .ok (.iconst (-1), 1) := by decide +kernel
theorem dX10_atEnds_16 : decode cX10_atEnds 16 = .ok (.ireturn, 1) := by decide +kernel
theorem dX10_atEnds_17 : decode cX10_atEnds 17 = .ok (.aload_n 0, 1) := by decide +kernel
theorem dX10_atEnds_18 : decode cX10_atEnds 18 = .ok (.iload_n 1, 1) := by decide +kernel
theorem dX10_atEnds_19 : decode cX10_atEnds 19 = .ok (.invokevirtual 258, 3) := by decide +kernel
theorem dX10_atEnds_22 : decode cX10_atEnds 22 = .ok (.iconst 0, 1) := by decide +kernel
theorem dX10_atEnds_23 : decode cX10_atEnds 23 = .ok (.istore 4, 2) := by decide +kernel
theorem dX10_atEnds_25 : decode cX10_atEnds 25 = .ok (.iconst 0, 1) := by decide +kernel
theorem dX10_atEnds_26 : decode cX10_atEnds 26 = .ok (.istore 5, 2) := by decide +kernel
theorem dX10_atEnds_28 : decode cX10_atEnds 28 = .ok (.iload 5, 2) := by decide +kernel
theorem dX10_atEnds_30 : decode cX10_atEnds 30 = .ok (.aload_n 0, 1) := by decide +kernel
theorem dX10_atEnds_31 : decode cX10_atEnds 31 = .ok (.getfield 246, 3) := by decide +kernel
theorem dX10_atEnds_34 : decode cX10_atEnds 34 = .ok (.if_icmp .ge 40, 3) := by decide +kernel
theorem dX10_atEnds_37 : decode cX10_atEnds 37 = .ok (.aload_n 0, 1) := by decide +kernel
theorem dX10_atEnds_38 : decode cX10_atEnds 38 = .ok (.iload_n 3, 1) := by decide +kernel
theorem dX10_atEnds_39 : decode cX10_atEnds 39 = .ok (.ifCond .eq 13, 3) := by decide +kernel
theorem dX10_atEnds_42 : decode cX10_atEnds 42 = .ok (.aload_n 0, 1) := by decide +kernel
theorem dX10_atEnds_43 : decode cX10_atEnds 43 = .ok (.getfield 60, 3) := by decide +kernel
theorem dX10_atEnds_46 : decode cX10_atEnds 46 = .ok (.iload 5, 2) := by decide +kernel
theorem dX10_atEnds_48 : decode cX10_atEnds 48 = .ok (.iaload, 1) := by decide +kernel
theorem dX10_atEnds_49 : decode cX10_atEnds 49 = .ok (.goto 9, 3) := by decide +kernel
theorem dX10_atEnds_52 : decode cX10_atEnds 52 = .ok (.aload_n 0, 1) := by decide +kernel
theorem dX10_atEnds_53 : decode cX10_atEnds 53 = .ok (.iload 5, 2) := by decide +kernel
theorem dX10_atEnds_55 : decode cX10_atEnds 55 = .ok (.invokevirtual 261, 3) := by decide +kernel
theorem dX10_atEnds_58 : decode cX10_atEnds 58 = .ok (.invokevirtual 144, 3) := by decide +kernel
theorem dX10_atEnds_61 : decode cX10_atEnds 61 = .ok (.iload_n 2, 1) := by decide +kernel
theorem dX10_atEnds_62 : decode cX10_atEnds 62 = .ok (.if_icmp .ne 6, 3) := by decide +kernel
theorem dX10_atEnds_65 : decode cX10_atEnds 65 = .ok (.iinc 4 1, 3) := by decide +kernel
theorem dX10_atEnds_68 : decode cX10_atEnds 68 = .ok (.iinc 5 1, 3) := by decide +kernel
theorem dX10_atEnds_71 : decode cX10_atEnds 71 = .ok (.goto (-43), 3) := by decide +kernel
theorem dX10_atEnds_74 : decode cX10_atEnds 74 = .ok (.iload 4, 2) := by decide +kernel
theorem dX10_atEnds_76 : decode cX10_atEnds 76 = .ok (.ireturn, 1) := by decide +kernel
theorem ok_X10_atEnds : okY RX10 yX10_atEnds 3 := ⟨rfl, by decide, by decide, by decide +kernel⟩
def j_X10_atEnds_68_17 (v5_11 : Int32) (v4_16 : Int32) : Option ((Int32 × Int32) ⊕ (Int32)) := bnd (v5_11 + 1) (fun v5_18 => some (.inl (v4_16, v5_18)))
def j_X10_atEnds_58_13 (M_5 : OV) (p1 : Int32) (v4_10 : Int32) (v5_11 : Int32) (t_12 : Int32) : Option ((Int32 × Int32) ⊕ (Int32)) := (f_X10_classOf M_5 t_12).bind (un1 (fun r_14 => (if r_14 = p1 then bnd (v4_10 + 1) (fun v4_19 => j_X10_atEnds_68_17 v5_11 v4_19) else j_X10_atEnds_68_17 v5_11 v4_10)))
def s_X10_atEnds_28_9 (M_5 : OV) (p1 : Int32) (p2 : Int32) : (Int32 × Int32) → Option ((Int32 × Int32) ⊕ (Int32)) := un2 (fun v4_10 v5_11 => (if (iv M_5 25) ≤ v5_11 then some (.inr v4_10) else (if p2 = 0 then (f_X10_firstOf M_5 v5_11).bind (un1 (fun r_20 => j_X10_atEnds_58_13 M_5 p1 v4_10 v5_11 r_20)) else gd (ix v5_11 41) (j_X10_atEnds_58_13 M_5 p1 v4_10 v5_11 (ar M_5 24 v5_11.toNatClampNeg)))))
def f_X10_atEnds (M : OV) (p0 : Int32) (p1 : Int32) (p2 : Int32) : Option (Int32 × OV) := (f_X10_isKind p0).bind (un1 (fun r_1 => (if r_1 = 0 then some ((-1 : Int32), M) else (f_X10_isTold M p1).bind (un1 (fun r_3 => (if r_3 = 0 then some ((-1 : Int32), M) else (f_X10_laysLines M p0).bind (un1 (fun M_5 => bnd (0 : Int32) (fun v4_7 => bnd (0 : Int32) (fun v5_8 => ((lp (s_X10_atEnds_28_9 M_5 p1 p2) 5000 (v4_7, v5_8)).bind (un1 (fun v4_22 => some (v4_22, M_5))))))))))))))
def r_X10_atEnds : Room := { frames := 7, cells := 0, slots := 0, locals := 169 }
set_option maxHeartbeats 4000000 in
set_option maxRecDepth 100000 in
theorem c_X10_atEnds (l : Launch) (D : va_G) (ev : EvT) (cy : Nat → ClassId) (oM : Nat) (aM : Nat → Nat) (M : OV) (p0 : Int32) (p1 : Int32) (p2 : Int32) (o : Int32 × OV) (hf : f_X10_atEnds M p0 p1 p2 = some o) : Fn l yX10_atEnds cX10_atEnds 6 (some .int) r_X10_atEnds D ev cy [.ref oM, .int p0, .int p1, .int p2] [gX10 cy oM aM M] (fun v G => v = some (.int o.1) ∧ G = [gX10 cy oM aM o.2]) := by
  refine Fn_of (by decide) (Nat.le_of_ble_eq_true rfl) (fun X A Q h hQ _ => ?_)
  unfold f_X10_atEnds at hf
  show ww X D A 6 Q 0 0 0 [(0, .ref oM), (1, .int p0), (2, .int p1), (3, .int p2)] [] [gX10 cy oM aM M]
  refine ww_iload_n h dX10_atEnds_0 rfl 1 rfl 1 rfl ?_
  obtain ⟨r_1, hu2, hf⟩ := ob1 hf
  refine ww_cSi h (c_X10_isKind l D ev cy p0 _ hu2) ⟨w_1492, w_1490, w_1491, w_111, ok_X10_isKind⟩ ⟨by decide, by decide⟩ ⟨by decide, by decide⟩ ⟨rfl, rfl⟩ [] rfl rfl (Nat.le_of_ble_eq_true rfl) dX10_atEnds_1 4 rfl (Gs' := [gX10 cy oM aM M]) rfl ?_
  clear hu2
  refine ww_if_eq h dX10_atEnds_4 15 (by decide) 7 rfl (fun c => ?_) (fun c => ?_)
  · replace hf := ite_t c hf
    refine ww_iconst (v := (-1)) h dX10_atEnds_15 (by decide) 16 rfl ?_
    obtain rfl := Option.some.inj hf
    exact ww_iret h dX10_atEnds_16 hQ ⟨rfl, rfl⟩
  · replace hf := ite_f c hf
    refine ww_aload_n h dX10_atEnds_7 rfl 0 rfl 8 rfl ?_
    refine ww_iload_n h dX10_atEnds_8 rfl 2 rfl 9 rfl ?_
    obtain ⟨r_3, hu4, hf⟩ := ob1 hf
    refine ww_cVi h (c_X10_isTold l D ev cy oM aM M p1 _ hu4) ⟨w_1337, w_1334, w_1336, w_38, w_111, ok_X10_isTold⟩ ⟨by decide, by decide⟩ ⟨by decide, by decide⟩ ⟨rfl, rfl⟩ [0] rfl 0 rfl rfl rfl rfl (Nat.le_of_ble_eq_true rfl) dX10_atEnds_9 12 rfl (Gs' := [gX10 cy oM aM M]) rfl ?_
    clear hu4
    refine ww_if_ne h dX10_atEnds_12 17 (by decide) 15 rfl (fun c => ?_) (fun c => ?_)
    · replace hf := ite_f c hf
      refine ww_aload_n h dX10_atEnds_17 rfl 0 rfl 18 rfl ?_
      refine ww_iload_n h dX10_atEnds_18 rfl 1 rfl 19 rfl ?_
      obtain ⟨M_5, hu6, hf⟩ := ob1 hf
      refine ww_cVv h (c_X10_laysLines l D ev cy oM aM M p0 _ hu6) ⟨w_1496, w_1493, w_1495, w_56, w_111, ok_X10_laysLines⟩ ⟨by decide, by decide⟩ ⟨by decide, by decide⟩ ⟨rfl, rfl⟩ [0] rfl 0 rfl rfl rfl rfl (Nat.le_of_ble_eq_true rfl) dX10_atEnds_19 22 rfl (Gs' := [gX10 cy oM aM M_5]) rfl ?_
      clear hu6
      refine ww_iconst (v := 0) h dX10_atEnds_22 (by decide) 23 rfl ?_
      refine ww_ist h dX10_atEnds_23 (by decide) (fun v4_7 => [(4, .int v4_7), (0, .ref oM), (1, .int p0), (2, .int p1), (3, .int p2)]) (fun _ => rfl) 25 rfl (fun v4_7 e => ?_)
      replace hf := bnd_at e hf
      clear e
      refine ww_iconst (v := 0) h dX10_atEnds_25 (by decide) 26 rfl ?_
      refine ww_ist h dX10_atEnds_26 (by decide) (fun v5_8 => [(5, .int v5_8), (4, .int v4_7), (0, .ref oM), (1, .int p0), (2, .int p1), (3, .int p2)]) (fun _ => rfl) 28 rfl (fun v5_8 e => ?_)
      replace hf := bnd_at e hf
      clear e
      refine ww_lo [2, 4, 5, 1, 0] (lo' := [(0, .ref oM), (2, .int p1), (3, .int p2), (4, .int v4_7), (5, .int v5_8)]) rfl ?_
      obtain ⟨v4_22, h9, hf⟩ := ob1 hf
      refine lp_walk (un2 (fun v4_10 v5_11 => ww X D A 6 Q 0 0 28 [(0, .ref oM), (2, .int p1), (3, .int p2), (4, .int v4_10), (5, .int v5_11)] [] [gX10 cy oM aM M_5])) (un1 (fun v4_22 => ww X D A 6 Q 0 0 74 [(4, .int v4_22)] [] [gX10 cy oM aM M_5])) ?_ _ _ _ h9 ?_
      · clear h9 hf
        intro s9 o9 hf hI9 hE9
        obtain ⟨v4_10, v5_11⟩ := s9
        unfold s_X10_atEnds_28_9 at hf
        replace hf := un2_e hf
        show ww X D A 6 Q 0 0 28 [(0, .ref oM), (2, .int p1), (3, .int p2), (4, .int v4_10), (5, .int v5_11)] [] [gX10 cy oM aM M_5]
        refine ww_iload h dX10_atEnds_28 4 rfl 30 rfl ?_
        refine ww_aload_n h dX10_atEnds_30 rfl 0 rfl 31 rfl ?_
        refine ww_get h inG10 rfl 0 rfl rfl 25 (by decide) w_1182 rfl dX10_atEnds_31 34 rfl ?_
        refine ww_icmp_ge h dX10_atEnds_34 74 (by decide) 37 rfl (fun c => ?_) (fun c => ?_)
        · replace hf := ite_t c hf
          refine ww_lo [3] (lo' := [(4, .int v4_10)]) rfl ?_
          exact hE9 v4_10 (Option.some.inj hf).symm
        · replace hf := ite_f c hf
          refine ww_aload_n h dX10_atEnds_37 rfl 0 rfl 38 rfl ?_
          refine ww_iload_n h dX10_atEnds_38 rfl 2 rfl 39 rfl ?_
          have hJ58_13 : ∀ (t_12 : Int32), j_X10_atEnds_58_13 M_5 p1 v4_10 v5_11 t_12 = some o9 → ww X D A 6 Q 0 0 58 [(0, .ref oM), (2, .int p1), (3, .int p2), (4, .int v4_10), (5, .int v5_11)] [.int t_12, .ref oM] [gX10 cy oM aM M_5] := by
            intro t_12 hf
            unfold j_X10_atEnds_58_13 at hf
            obtain ⟨r_14, hu15, hf⟩ := ob1 hf
            refine ww_cVi h (c_X10_classOf l D ev cy oM aM M_5 t_12 _ hu15) ⟨w_1369, w_1366, w_1368, w_44, w_111, ok_X10_classOf⟩ ⟨by decide, by decide⟩ ⟨by decide, by decide⟩ ⟨rfl, rfl⟩ [0] rfl 0 rfl rfl rfl rfl (Nat.le_of_ble_eq_true rfl) dX10_atEnds_58 61 rfl (Gs' := [gX10 cy oM aM M_5]) rfl ?_
            clear hu15
            refine ww_iload_n h dX10_atEnds_61 rfl 1 rfl 62 rfl ?_
            have hJ68_17 : ∀ (v4_16 : Int32), j_X10_atEnds_68_17 v5_11 v4_16 = some o9 → ww X D A 6 Q 0 0 68 [(0, .ref oM), (2, .int p1), (3, .int p2), (4, .int v4_16), (5, .int v5_11)] [] [gX10 cy oM aM M_5] := by
              intro v4_16 hf
              unfold j_X10_atEnds_68_17 at hf
              refine ww_inc (c := 1) h dX10_atEnds_68 4 rfl (by decide) (by decide) (fun v5_18 => [(5, .int v5_18), (0, .ref oM), (2, .int p1), (3, .int p2), (4, .int v4_16)]) (fun _ => rfl) 71 rfl (fun v5_18 e => ?_)
              replace hf := bnd_at e hf
              clear e
              refine ww_goto h dX10_atEnds_71 28 (by decide) ?_
              refine ww_lo [1, 2, 3, 4, 0] (lo' := [(0, .ref oM), (2, .int p1), (3, .int p2), (4, .int v4_16), (5, .int v5_18)]) rfl ?_
              exact hI9 (v4_16, v5_18) (Option.some.inj hf).symm
            refine ww_icmp_ne h dX10_atEnds_62 68 (by decide) 65 rfl (fun c => ?_) (fun c => ?_)
            · replace hf := ite_f c hf
              exact hJ68_17 v4_10 hf
            · replace hf := ite_t c hf
              refine ww_inc (c := 1) h dX10_atEnds_65 3 rfl (by decide) (by decide) (fun v4_19 => [(4, .int v4_19), (0, .ref oM), (2, .int p1), (3, .int p2), (5, .int v5_11)]) (fun _ => rfl) 68 rfl (fun v4_19 e => ?_)
              replace hf := bnd_at e hf
              clear e
              refine ww_lo [1, 2, 3, 0, 4] (lo' := [(0, .ref oM), (2, .int p1), (3, .int p2), (4, .int v4_19), (5, .int v5_11)]) rfl ?_
              exact hJ68_17 v4_19 hf
          refine ww_if_eq h dX10_atEnds_39 52 (by decide) 42 rfl (fun c => ?_) (fun c => ?_)
          · replace hf := ite_t c hf
            refine ww_aload_n h dX10_atEnds_52 rfl 0 rfl 53 rfl ?_
            refine ww_iload h dX10_atEnds_53 4 rfl 55 rfl ?_
            obtain ⟨r_20, hu21, hf⟩ := ob1 hf
            refine ww_cVi h (c_X10_firstOf l D ev cy oM aM M_5 v5_11 _ hu21) ⟨w_1525, w_1522, w_1524, w_63, w_111, ok_X10_firstOf⟩ ⟨by decide, by decide⟩ ⟨by decide, by decide⟩ ⟨rfl, rfl⟩ [0] rfl 0 rfl rfl rfl rfl (Nat.le_of_ble_eq_true rfl) dX10_atEnds_55 58 rfl (Gs' := [gX10 cy oM aM M_5]) rfl ?_
            clear hu21
            exact hJ58_13 r_20 hf
          · replace hf := ite_f c hf
            refine ww_aload_n h dX10_atEnds_42 rfl 0 rfl 43 rfl ?_
            refine ww_get h inG10 rfl 0 rfl rfl 24 (by decide) w_1181 rfl dX10_atEnds_43 46 rfl ?_
            refine ww_iload h dX10_atEnds_46 4 rfl 48 rfl ?_
            have hi := (gd_some hf).1
            replace hf := (gd_some hf).2
            refine ww_iald h 0 rfl 16 rfl (ix_in hi) dX10_atEnds_48 49 rfl ?_
            clear hi
            refine ww_goto h dX10_atEnds_49 58 (by decide) ?_
            exact hJ58_13 (ar M_5 24 v5_11.toNatClampNeg) hf
      · clear h9
        show ww X D A 6 Q 0 0 74 [(4, .int v4_22)] [] [gX10 cy oM aM M_5]
        refine ww_iload h dX10_atEnds_74 0 rfl 76 rfl ?_
        obtain rfl := Option.some.inj hf
        exact ww_iret h dX10_atEnds_76 hQ ⟨rfl, rfl⟩
    · replace hf := ite_t c hf
      refine ww_iconst (v := (-1)) h dX10_atEnds_15 (by decide) 16 rfl ?_
      obtain rfl := Option.some.inj hf
      exact ww_iret h dX10_atEnds_16 hQ ⟨rfl, rfl⟩
theorem dX10_readsClass_0 : decode cX10_readsClass 0 = .ok (.aload_n 0, 1) := by decide +kernel
theorem dX10_readsClass_1 : decode cX10_readsClass 1 = .ok (.invokevirtual 369, 3) := by decide +kernel
theorem dX10_readsClass_4 : decode cX10_readsClass 4 = .ok (.istore_n 1, 1) := by decide +kernel
theorem dX10_readsClass_5 : decode cX10_readsClass 5 = .ok (.iload_n 1, 1) := by decide +kernel
theorem dX10_readsClass_6 : decode cX10_readsClass 6 = .ok (.iconst (-1), 1) := by decide +kernel
theorem dX10_readsClass_7 : decode cX10_readsClass 7 = .ok (.if_icmp .eq 21, 3) := by decide +kernel
theorem dX10_readsClass_10 : decode cX10_readsClass 10 = .ok (.aload_n 0, 1) := by decide +kernel
theorem dX10_readsClass_11 : decode cX10_readsClass 11 = .ok (.getfield 95, 3) := by decide +kernel
theorem dX10_readsClass_14 : decode cX10_readsClass 14 = .ok (.iload_n 1, 1) := by decide +kernel
theorem dX10_readsClass_15 : decode cX10_readsClass 15 = .ok (.iaload, 1) := by decide +kernel
theorem dX10_readsClass_16 : decode cX10_readsClass 16 = .ok (.ifCond .gt 12, 3) := by decide +kernel
theorem dX10_readsClass_19 : decode cX10_readsClass 19 = .ok (.aload_n 0, 1) := by decide +kernel
theorem dX10_readsClass_20 : decode cX10_readsClass 20 = .ok (.getfield 372, 3) := by decide +kernel
theorem dX10_readsClass_23 : decode cX10_readsClass 23 = .ok (.bipush 10, 2) := by decide +kernel
theorem dX10_readsClass_25 : decode cX10_readsClass 25 = .ok (.if_icmp .ne 9, 3) := by decide +kernel
theorem dX10_readsClass_28 : decode cX10_readsClass 28 = .ok (.aload_n 0, 1) := by decide +kernel
theorem dX10_readsClass_29 : decode cX10_readsClass 29 = .ok (.iconst 1, 1) := by decide +kernel
theorem dX10_readsClass_30 : decode cX10_readsClass 30 = .ok (.putfield 357, 3) := by decide +kernel
theorem dX10_readsClass_33 : decode cX10_readsClass 33 = .ok (.return_, 1) := by decide +kernel
theorem dX10_readsClass_34 : decode cX10_readsClass 34 = .ok (.aload_n 0, 1) := by decide +kernel
theorem dX10_readsClass_35 : decode cX10_readsClass 35 = .ok (.invokevirtual 363, 3) := by decide +kernel
theorem dX10_readsClass_38 : decode cX10_readsClass 38 = .ok (.aload_n 0, 1) := by decide +kernel
theorem dX10_readsClass_39 : decode cX10_readsClass 39 = .ok (.iconst 1, 1) := by decide +kernel
theorem dX10_readsClass_40 : decode cX10_readsClass 40 = .ok (.invokevirtual 375, 3) := by decide +kernel
theorem dX10_readsClass_43 : decode cX10_readsClass 43 = .ok (.aload_n 0, 1) := by decide +kernel
theorem dX10_readsClass_44 : decode cX10_readsClass 44 = .ok (.iconst 1, 1) := by decide +kernel
theorem dX10_readsClass_45 : decode cX10_readsClass 45 = .ok (.bipush 9, 2) := by decide +kernel
theorem dX10_readsClass_47 : decode cX10_readsClass 47 = .ok (.invokevirtual 378, 3) := by decide +kernel
theorem dX10_readsClass_50 : decode cX10_readsClass 50 = .ok (.istore_n 2, 1) := by decide +kernel
theorem dX10_readsClass_51 : decode cX10_readsClass 51 = .ok (.aload_n 0, 1) := by decide +kernel
theorem dX10_readsClass_52 : decode cX10_readsClass 52 = .ok (.iconst 2, 1) := by decide +kernel
theorem dX10_readsClass_53 : decode cX10_readsClass 53 = .ok (.invokevirtual 366, 3) := by decide +kernel
theorem dX10_readsClass_56 : decode cX10_readsClass 56 = .ok (.ifCond .eq 44, 3) := by decide +kernel
theorem dX10_readsClass_59 : decode cX10_readsClass 59 = .ok (.aload_n 0, 1) := by decide +kernel
theorem dX10_readsClass_60 : decode cX10_readsClass 60 = .ok (.iconst 3, 1) := by decide +kernel
theorem dX10_readsClass_61 : decode cX10_readsClass 61 = .ok (.invokevirtual 366, 3) := by decide +kernel
theorem dX10_readsClass_64 : decode cX10_readsClass 64 = .ok (.ifCond .eq 31, 3) := by decide +kernel
theorem dX10_readsClass_67 : decode cX10_readsClass 67 = .ok (.aload_n 0, 1) := by decide +kernel
theorem dX10_readsClass_68 : decode cX10_readsClass 68 = .ok (.getfield 119, 3) := by decide +kernel
theorem dX10_readsClass_71 : decode cX10_readsClass 71 = .ok (.iconst 0, 1) := by decide +kernel
theorem dX10_readsClass_72 : decode cX10_readsClass 72 = .ok (.dup2, 1) := by decide +kernel
theorem dX10_readsClass_73 : decode cX10_readsClass 73 = .ok (.iaload, 1) := by decide +kernel
theorem dX10_readsClass_74 : decode cX10_readsClass 74 = .ok (.iconst 1, 1) := by decide +kernel
theorem dX10_readsClass_75 : decode cX10_readsClass 75 = .ok (.iload_n 1, 1) := by decide +kernel
theorem dX10_readsClass_76 : decode cX10_readsClass 76 = .ok (.ishl, 1) := by decide +kernel
theorem dX10_readsClass_77 : decode cX10_readsClass 77 = .ok (.ior, 1) := by decide +kernel
theorem dX10_readsClass_78 : decode cX10_readsClass 78 = .ok (.iastore, 1) := by decide +kernel
theorem dX10_readsClass_79 : decode cX10_readsClass 79 = .ok (.aload_n 0, 1) := by decide +kernel
theorem dX10_readsClass_80 : decode cX10_readsClass 80 = .ok (.iconst 2, 1) := by decide +kernel
theorem dX10_readsClass_81 : decode cX10_readsClass 81 = .ok (.invokevirtual 366, 3) := by decide +kernel
theorem dX10_readsClass_84 : decode cX10_readsClass 84 = .ok (.ifCond .eq 16, 3) := by decide +kernel
theorem dX10_readsClass_87 : decode cX10_readsClass 87 = .ok (.aload_n 0, 1) := by decide +kernel
theorem dX10_readsClass_88 : decode cX10_readsClass 88 = .ok (.iload_n 1, 1) := by decide +kernel
theorem dX10_readsClass_89 : decode cX10_readsClass 89 = .ok (.invokevirtual 381, 3) := by decide +kernel
theorem dX10_readsClass_92 : decode cX10_readsClass 92 = .ok (.goto 8, 3) := by decide +kernel
theorem dX10_readsClass_95 : decode cX10_readsClass 95 = .ok (.aload_n 0, 1) := by decide +kernel
theorem dX10_readsClass_96 : decode cX10_readsClass 96 = .ok (.iload_n 1, 1) := by decide +kernel
theorem dX10_readsClass_97 : decode cX10_readsClass 97 = .ok (.invokevirtual 381, 3) := by decide +kernel
theorem dX10_readsClass_100 : decode cX10_readsClass 100 = .ok (.aload_n 0, 1) := by decide +kernel
theorem dX10_readsClass_101 : decode cX10_readsClass 101 = .ok (.getfield 98, 3) := by decide +kernel
theorem dX10_readsClass_104 : decode cX10_readsClass 104 = .ok (.iload_n 1, 1) := by decide +kernel
theorem dX10_readsClass_105 : decode cX10_readsClass 105 = .ok (.aload_n 0, 1) := by decide +kernel
theorem dX10_readsClass_106 : decode cX10_readsClass 106 = .ok (.iconst 5, 1) := by decide +kernel
theorem dX10_readsClass_107 : decode cX10_readsClass 107 = .ok (.invokevirtual 366, 3) := by decide +kernel
theorem dX10_readsClass_110 : decode cX10_readsClass 110 = .ok (.bastore, 1) := by decide +kernel
theorem dX10_readsClass_111 : decode cX10_readsClass 111 = .ok (.aload_n 0, 1) := by decide +kernel
theorem dX10_readsClass_112 : decode cX10_readsClass 112 = .ok (.getfield 101, 3) := by decide +kernel
theorem dX10_readsClass_115 : decode cX10_readsClass 115 = .ok (.iload_n 1, 1) := by decide +kernel
theorem dX10_readsClass_116 : decode cX10_readsClass 116 = .ok (.aload_n 0, 1) := by decide +kernel
theorem dX10_readsClass_117 : decode cX10_readsClass 117 = .ok (.bipush 6, 2) := by decide +kernel
theorem dX10_readsClass_119 : decode cX10_readsClass 119 = .ok (.invokevirtual 366, 3) := by decide +kernel
theorem dX10_readsClass_122 : decode cX10_readsClass 122 = .ok (.ifCond .eq 14, 3) := by decide +kernel
theorem dX10_readsClass_125 : decode cX10_readsClass 125 = .ok (.aload_n 0, 1) := by decide +kernel
theorem dX10_readsClass_126 : decode cX10_readsClass 126 = .ok (.iconst 0, 1) := by decide +kernel
theorem dX10_readsClass_127 : decode cX10_readsClass 127 = .ok (.iload_n 2, 1) := by decide +kernel
theorem dX10_readsClass_128 : decode cX10_readsClass 128 = .ok (.iconst 1, 1) := by decide +kernel
theorem dX10_readsClass_129 : decode cX10_readsClass 129 = .ok (.isub, 1) := by decide +kernel
theorem dX10_readsClass_130 : decode cX10_readsClass 130 = .ok (.invokevirtual 378, 3) := by decide +kernel
theorem dX10_readsClass_133 : decode cX10_readsClass 133 = .ok (.goto 4, 3) := by decide +kernel
theorem dX10_readsClass_136 : decode cX10_readsClass 136 = .ok (.iconst 0, 1) := by decide +kernel
theorem dX10_readsClass_137 : decode cX10_readsClass 137 = .ok (.iastore, 1) := by decide +kernel
theorem dX10_readsClass_138 : decode cX10_readsClass 138 = .ok (.aload_n 0, 1) := by decide +kernel
theorem dX10_readsClass_139 : decode cX10_readsClass 139 = .ok (.bipush 7, 2) := by decide +kernel
theorem dX10_readsClass_141 : decode cX10_readsClass 141 = .ok (.invokevirtual 366, 3) := by decide +kernel
theorem dX10_readsClass_144 : decode cX10_readsClass 144 = .ok (.istore_n 3, 1) := by decide +kernel
theorem dX10_readsClass_145 : decode cX10_readsClass 145 = .ok (.aload_n 0, 1) := by decide +kernel
theorem dX10_readsClass_146 : decode cX10_readsClass 146 = .ok (.getfield 104, 3) := by decide +kernel
theorem dX10_readsClass_149 : decode cX10_readsClass 149 = .ok (.iload_n 1, 1) := by decide +kernel
theorem dX10_readsClass_150 : decode cX10_readsClass 150 = .ok (.iload_n 3, 1) := by decide +kernel
theorem dX10_readsClass_151 : decode cX10_readsClass 151 = .ok (.ifCond .eq 14, 3) := by decide +kernel
theorem dX10_readsClass_154 : decode cX10_readsClass 154 = .ok (.aload_n 0, 1) := by decide +kernel
theorem dX10_readsClass_155 : decode cX10_readsClass 155 = .ok (.iconst 0, 1) := by decide +kernel
theorem dX10_readsClass_156 : decode cX10_readsClass 156 = .ok (.iload_n 2, 1) := by decide +kernel
theorem dX10_readsClass_157 : decode cX10_readsClass 157 = .ok (.iconst 1, 1) := by decide +kernel
theorem dX10_readsClass_158 : decode cX10_readsClass 158 = .ok (.isub, 1) := by decide +kernel
theorem dX10_readsClass_159 : decode cX10_readsClass 159 = .ok (.invokevirtual 378, 3) := by decide +kernel
theorem dX10_readsClass_162 : decode cX10_readsClass 162 = .ok (.goto 4, 3) := by decide +kernel
theorem dX10_readsClass_165 : decode cX10_readsClass 165 = .ok (.iconst 0, 1) := by decide +kernel
theorem dX10_readsClass_166 : decode cX10_readsClass 166 = .ok (.iastore, 1) := by decide +kernel
theorem dX10_readsClass_167 : decode cX10_readsClass 167 = .ok (.aload_n 0, 1) := by decide +kernel
theorem dX10_readsClass_168 : decode cX10_readsClass 168 = .ok (.getfield 107, 3) := by decide +kernel
theorem dX10_readsClass_171 : decode cX10_readsClass 171 = .ok (.iload_n 1, 1) := by decide +kernel
theorem dX10_readsClass_172 : decode cX10_readsClass 172 = .ok (.iload_n 3, 1) := by decide +kernel
theorem dX10_readsClass_173 : decode cX10_readsClass 173 = .ok (.ifCond .eq 10, 3) := by decide +kernel
theorem dX10_readsClass_176 : decode cX10_readsClass 176 = .ok (.aload_n 0, 1) := by decide +kernel
theorem dX10_readsClass_177 : decode cX10_readsClass 177 = .ok (.invokevirtual 384, 3) := by decide +kernel
theorem dX10_readsClass_180 : decode cX10_readsClass 180 = .ok (.goto 4, 3) := by decide +kernel
theorem dX10_readsClass_183 : decode cX10_readsClass 183 = .ok (.iconst 1, 1) := by decide +kernel
theorem dX10_readsClass_184 : decode cX10_readsClass 184 = .ok (.iastore, 1) := by decide +kernel
theorem dX10_readsClass_185 : decode cX10_readsClass 185 = .ok (.aload_n 0, 1) := by decide +kernel
theorem dX10_readsClass_186 : decode cX10_readsClass 186 = .ok (.bipush 9, 2) := by decide +kernel
theorem dX10_readsClass_188 : decode cX10_readsClass 188 = .ok (.invokevirtual 366, 3) := by decide +kernel
theorem dX10_readsClass_191 : decode cX10_readsClass 191 = .ok (.istore_n 3, 1) := by decide +kernel
theorem dX10_readsClass_192 : decode cX10_readsClass 192 = .ok (.aload_n 0, 1) := by decide +kernel
theorem dX10_readsClass_193 : decode cX10_readsClass 193 = .ok (.getfield 110, 3) := by decide +kernel
theorem dX10_readsClass_196 : decode cX10_readsClass 196 = .ok (.iload_n 1, 1) := by decide +kernel
theorem dX10_readsClass_197 : decode cX10_readsClass 197 = .ok (.iload_n 3, 1) := by decide +kernel
theorem dX10_readsClass_198 : decode cX10_readsClass 198 = .ok (.ifCond .eq 13, 3) := by decide +kernel
theorem dX10_readsClass_201 : decode cX10_readsClass 201 = .ok (.aload_n 0, 1) := by decide +kernel
theorem dX10_readsClass_202 : decode cX10_readsClass 202 = .ok (.iconst 0, 1) := by decide +kernel
theorem dX10_readsClass_203 : decode cX10_readsClass 203 = .ok (.bipush 9, 2) := by decide +kernel
theorem dX10_readsClass_205 : decode cX10_readsClass 205 = .ok (.invokevirtual 378, 3) := by decide +kernel
theorem dX10_readsClass_208 : decode cX10_readsClass 208 = .ok (.goto 4, 3) := by decide +kernel
theorem dX10_readsClass_211 : decode cX10_readsClass 211 = .ok (.iconst 0, 1) := by decide +kernel
theorem dX10_readsClass_212 : decode cX10_readsClass 212 = .ok (.iastore, 1) := by decide +kernel
theorem dX10_readsClass_213 : decode cX10_readsClass 213 = .ok (.aload_n 0, 1) := by decide +kernel
theorem dX10_readsClass_214 : decode cX10_readsClass 214 = .ok (.getfield 113, 3) := by decide +kernel
theorem dX10_readsClass_217 : decode cX10_readsClass 217 = .ok (.iload_n 1, 1) := by decide +kernel
theorem dX10_readsClass_218 : decode cX10_readsClass 218 = .ok (.iload_n 3, 1) := by decide +kernel
theorem dX10_readsClass_219 : decode cX10_readsClass 219 = .ok (.ifCond .eq 10, 3) := by decide +kernel
theorem dX10_readsClass_222 : decode cX10_readsClass 222 = .ok (.aload_n 0, 1) := by decide +kernel
theorem dX10_readsClass_223 : decode cX10_readsClass 223 = .ok (.invokevirtual 384, 3) := by decide +kernel
theorem dX10_readsClass_226 : decode cX10_readsClass 226 = .ok (.goto 4, 3) := by decide +kernel
theorem dX10_readsClass_229 : decode cX10_readsClass 229 = .ok (.iconst 1, 1) := by decide +kernel
theorem dX10_readsClass_230 : decode cX10_readsClass 230 = .ok (.iastore, 1) := by decide +kernel
theorem dX10_readsClass_231 : decode cX10_readsClass 231 = .ok (.aload_n 0, 1) := by decide +kernel
theorem dX10_readsClass_232 : decode cX10_readsClass 232 = .ok (.invokevirtual 387, 3) := by decide +kernel
theorem dX10_readsClass_235 : decode cX10_readsClass 235 = .ok (.aload_n 0, 1) := by decide +kernel
theorem dX10_readsClass_236 : decode cX10_readsClass 236 = .ok (.getfield 95, 3) := by decide +kernel
theorem dX10_readsClass_239 : decode cX10_readsClass 239 = .ok (.iload_n 1, 1) := by decide +kernel
theorem dX10_readsClass_240 : decode cX10_readsClass 240 = .ok (.iload_n 2, 1) := by decide +kernel
theorem dX10_readsClass_241 : decode cX10_readsClass 241 = .ok (.iastore, 1) := by decide +kernel
theorem dX10_readsClass_242 : decode cX10_readsClass 242 = .ok (.aload_n 0, 1) := by decide +kernel
theorem dX10_readsClass_243 : decode cX10_readsClass 243 = .ok (.dup, 1) := by decide +kernel
theorem dX10_readsClass_244 : decode cX10_readsClass 244 = .ok (.getfield 372, 3) := by decide +kernel
theorem dX10_readsClass_247 : decode cX10_readsClass 247 = .ok (.iconst 1, 1) := by decide +kernel
theorem dX10_readsClass_248 : decode cX10_readsClass 248 = .ok (.iadd, 1) := by decide +kernel
theorem dX10_readsClass_249 : decode cX10_readsClass 249 = .ok (.putfield 372, 3) := by decide +kernel
theorem dX10_readsClass_252 : decode cX10_readsClass 252 = .ok (.return_, 1) := by decide +kernel
theorem ok_X10_readsClass : okY RX10 yX10_readsClass 0 := ⟨rfl, by decide, by decide, by decide +kernel⟩
def j_X10_readsClass_230_52 (v1_3 : Int32) (v2_13 : Int32) (t_50 : Int32) (M_51 : OV) : Option (OV) := gd (ix v1_3 26) (bnd (sA M_51 49 v1_3.toNatClampNeg t_50) (fun M_53 => (f_X10_needsClose M_53).bind (un1 (fun M_54 => gd (ix v1_3 26) (bnd (sA M_54 43 v1_3.toNatClampNeg v2_13) (fun M_56 => bnd (sI M_56 52 ((iv M_56 52) + (1 : Int32))) (fun M_57 => some M_57)))))))
def j_X10_readsClass_212_48 (v1_3 : Int32) (v2_13 : Int32) (v3_45 : Int32) (t_46 : Int32) (M_47 : OV) : Option (OV) := gd (ix v1_3 26) (bnd (sA M_47 48 v1_3.toNatClampNeg t_46) (fun M_49 => (if v3_45 = 0 then j_X10_readsClass_230_52 v1_3 v2_13 (1 : Int32) M_49 else (f_X10_readsRank M_49).bind (un2 (fun r_58 M_59 => j_X10_readsClass_230_52 v1_3 v2_13 r_58 M_59)))))
def j_X10_readsClass_184_40 (v1_3 : Int32) (v2_13 : Int32) (t_38 : Int32) (M_39 : OV) : Option (OV) := gd (ix v1_3 26) (bnd (sA M_39 47 v1_3.toNatClampNeg t_38) (fun M_41 => (f_X10_takesWord M_41 (9 : Int32)).bind (un2 (fun r_42 M_43 => bnd r_42 (fun v3_45 => (if v3_45 = 0 then j_X10_readsClass_212_48 v1_3 v2_13 v3_45 (0 : Int32) M_43 else (f_X10_needsNumber M_43 (0 : Int32) (9 : Int32)).bind (un2 (fun r_61 M_62 => j_X10_readsClass_212_48 v1_3 v2_13 v3_45 r_61 M_62))))))))
def j_X10_readsClass_166_36 (v1_3 : Int32) (v2_13 : Int32) (v3_33 : Int32) (t_34 : Int32) (M_35 : OV) : Option (OV) := gd (ix v1_3 26) (bnd (sA M_35 46 v1_3.toNatClampNeg t_34) (fun M_37 => (if v3_33 = 0 then j_X10_readsClass_184_40 v1_3 v2_13 (1 : Int32) M_37 else (f_X10_readsRank M_37).bind (un2 (fun r_64 M_65 => j_X10_readsClass_184_40 v1_3 v2_13 r_64 M_65)))))
def j_X10_readsClass_137_28 (v1_3 : Int32) (v2_13 : Int32) (t_26 : Int32) (M_27 : OV) : Option (OV) := gd (ix v1_3 26) (bnd (sA M_27 45 v1_3.toNatClampNeg t_26) (fun M_29 => (f_X10_takesWord M_29 (7 : Int32)).bind (un2 (fun r_30 M_31 => bnd r_30 (fun v3_33 => (if v3_33 = 0 then j_X10_readsClass_166_36 v1_3 v2_13 v3_33 (0 : Int32) M_31 else (f_X10_needsNumber M_31 (0 : Int32) (v2_13 - (1 : Int32))).bind (un2 (fun r_67 M_68 => j_X10_readsClass_166_36 v1_3 v2_13 v3_33 r_67 M_68))))))))
def j_X10_readsClass_100_18 (v1_3 : Int32) (v2_13 : Int32) (M_17 : OV) : Option (OV) := (f_X10_takesWord M_17 (5 : Int32)).bind (un2 (fun r_19 M_20 => gd (ix v1_3 26) (bnd (sA M_20 44 v1_3.toNatClampNeg (vp_nar .boolean r_19)) (fun M_22 => (f_X10_takesWord M_22 (6 : Int32)).bind (un2 (fun r_23 M_24 => (if r_23 = 0 then j_X10_readsClass_137_28 v1_3 v2_13 (0 : Int32) M_24 else (f_X10_needsNumber M_24 (0 : Int32) (v2_13 - (1 : Int32))).bind (un2 (fun r_70 M_71 => j_X10_readsClass_137_28 v1_3 v2_13 r_70 M_71)))))))))
def f_X10_readsClass (M : OV) : Option (OV) := (f_X10_letterHere M).bind (un1 (fun r_1 => bnd r_1 (fun v1_3 => (if v1_3 = (-1 : Int32) then bnd (sI M 42 (1 : Int32)) (fun M_4 => some M_4) else gd (ix v1_3 26) ((if 0 < (ar M 43 v1_3.toNatClampNeg) then bnd (sI M 42 (1 : Int32)) (fun M_5 => some M_5) else (if (iv M 52) = (10 : Int32) then bnd (sI M 42 (1 : Int32)) (fun M_84 => some M_84) else (f_X10_goesOn M).bind (un1 (fun M_6 => (f_X10_needs M_6 (1 : Int32)).bind (un1 (fun M_8 => (f_X10_needsNumber M_8 (1 : Int32) (9 : Int32)).bind (un2 (fun r_10 M_11 => bnd r_10 (fun v2_13 => (f_X10_takesWord M_11 (2 : Int32)).bind (un2 (fun r_14 M_15 => (if r_14 = 0 then j_X10_readsClass_100_18 v1_3 v2_13 M_15 else (f_X10_takesWord M_15 (3 : Int32)).bind (un2 (fun r_73 M_74 => (if r_73 = 0 then (f_X10_readsShyEnd M_74 v1_3).bind (un1 (fun M_76 => j_X10_readsClass_100_18 v1_3 v2_13 M_76)) else gd (ix (0 : Int32) 2) (gd (ix (0 : Int32) 2) (bnd (sA M_74 51 (0 : Int32).toNatClampNeg ((ar M_74 51 (0 : Int32).toNatClampNeg) ||| ((1 : Int32) <<< (v1_3 &&& 31)))) (fun M_78 => (f_X10_takesWord M_78 (2 : Int32)).bind (un2 (fun r_79 M_80 => (if r_79 = 0 then j_X10_readsClass_100_18 v1_3 v2_13 M_80 else (f_X10_readsShyEnd M_80 v1_3).bind (un1 (fun M_82 => j_X10_readsClass_100_18 v1_3 v2_13 M_82))))))))))))))))))))))))))))
def r_X10_readsClass : Room := { frames := 5, cells := 0, slots := 0, locals := 109 }
set_option maxHeartbeats 4000000 in
set_option maxRecDepth 100000 in
theorem c_X10_readsClass (l : Launch) (D : va_G) (ev : EvT) (cy : Nat → ClassId) (oM : Nat) (aM : Nat → Nat) (M : OV) (o : OV) (hf : f_X10_readsClass M = some o) : Fn l yX10_readsClass cX10_readsClass 4 none r_X10_readsClass D ev cy [.ref oM] [gX10 cy oM aM M] (fun v G => v = none ∧ G = [gX10 cy oM aM o]) := by
  refine Fn_of (by decide) (Nat.le_of_ble_eq_true rfl) (fun X A Q h hQ _ => ?_)
  unfold f_X10_readsClass at hf
  show ww X D A 4 Q 0 0 0 [(0, .ref oM)] [] [gX10 cy oM aM M]
  refine ww_aload_n h dX10_readsClass_0 rfl 0 rfl 1 rfl ?_
  obtain ⟨r_1, hu2, hf⟩ := ob1 hf
  refine ww_cVi h (c_X10_letterHere l D ev cy oM aM M _ hu2) ⟨w_1738, w_1735, w_1737, w_92, w_111, ok_X10_letterHere⟩ ⟨by decide, by decide⟩ ⟨by decide, by decide⟩ ⟨rfl, rfl⟩ [0] rfl 0 rfl rfl rfl rfl (Nat.le_of_ble_eq_true rfl) dX10_readsClass_1 4 rfl (Gs' := [gX10 cy oM aM M]) rfl ?_
  clear hu2
  refine ww_ist_n h dX10_readsClass_4 rfl (by decide) (fun v1_3 => [(1, .int v1_3), (0, .ref oM)]) (fun _ => rfl) 5 rfl (fun v1_3 e => ?_)
  replace hf := bnd_at e hf
  clear e
  refine ww_iload_n h dX10_readsClass_5 rfl 0 rfl 6 rfl ?_
  refine ww_iconst (v := (-1)) h dX10_readsClass_6 (by decide) 7 rfl ?_
  refine ww_icmp_eq h dX10_readsClass_7 28 (by decide) 10 rfl (fun c => ?_) (fun c => ?_)
  · replace hf := ite_t c hf
    refine ww_aload_n h dX10_readsClass_28 rfl 1 rfl 29 rfl ?_
    refine ww_iconst (v := 1) h dX10_readsClass_29 (by decide) 30 rfl ?_
    refine ww_put (ty := .boolean) h inG10 tyX10_ok nmX10 rfl 0 rfl rfl 42 (by decide) w_1199 rfl (by decide +kernel) (by decide) (by decide) (Nat.le_of_ble_eq_true rfl) (Nat.le_of_ble_eq_true rfl) dX10_readsClass_30 33 rfl ?_
    refine ww_nm (fun z => [gX10 cy oM aM z]) (sI M 42 (1 : Int32)) (fun M_4 e => ?_)
    replace hf := bnd_at e hf
    clear e
    obtain rfl := Option.some.inj hf
    exact ww_vret h dX10_readsClass_33 hQ ⟨rfl, rfl⟩
  · replace hf := ite_f c hf
    refine ww_aload_n h dX10_readsClass_10 rfl 1 rfl 11 rfl ?_
    refine ww_get h inG10 rfl 0 rfl rfl 43 (by decide) w_1200 rfl dX10_readsClass_11 14 rfl ?_
    refine ww_iload_n h dX10_readsClass_14 rfl 0 rfl 15 rfl ?_
    have hi := (gd_some hf).1
    replace hf := (gd_some hf).2
    refine ww_iald h 0 rfl 27 rfl (ix_in hi) dX10_readsClass_15 16 rfl ?_
    clear hi
    refine ww_if_gt h dX10_readsClass_16 28 (by decide) 19 rfl (fun c => ?_) (fun c => ?_)
    · replace hf := ite_t c hf
      refine ww_aload_n h dX10_readsClass_28 rfl 1 rfl 29 rfl ?_
      refine ww_iconst (v := 1) h dX10_readsClass_29 (by decide) 30 rfl ?_
      refine ww_put (ty := .boolean) h inG10 tyX10_ok nmX10 rfl 0 rfl rfl 42 (by decide) w_1199 rfl (by decide +kernel) (by decide) (by decide) (Nat.le_of_ble_eq_true rfl) (Nat.le_of_ble_eq_true rfl) dX10_readsClass_30 33 rfl ?_
      refine ww_nm (fun z => [gX10 cy oM aM z]) (sI M 42 (1 : Int32)) (fun M_5 e => ?_)
      replace hf := bnd_at e hf
      clear e
      obtain rfl := Option.some.inj hf
      exact ww_vret h dX10_readsClass_33 hQ ⟨rfl, rfl⟩
    · replace hf := ite_f c hf
      refine ww_aload_n h dX10_readsClass_19 rfl 1 rfl 20 rfl ?_
      refine ww_get h inG10 rfl 0 rfl rfl 52 (by decide) w_1209 rfl dX10_readsClass_20 23 rfl ?_
      refine ww_bipush (v := 10) h dX10_readsClass_23 (by decide) 25 rfl ?_
      refine ww_icmp_ne h dX10_readsClass_25 34 (by decide) 28 rfl (fun c => ?_) (fun c => ?_)
      · replace hf := ite_f c hf
        refine ww_aload_n h dX10_readsClass_34 rfl 1 rfl 35 rfl ?_
        obtain ⟨M_6, hu7, hf⟩ := ob1 hf
        refine ww_cVv h (c_X10_goesOn l D ev cy oM aM M _ hu7) ⟨w_1718, w_1715, w_1717, w_87, w_111, ok_X10_goesOn⟩ ⟨by decide, by decide⟩ ⟨by decide, by decide⟩ ⟨rfl, rfl⟩ [0] rfl 0 rfl rfl rfl rfl (Nat.le_of_ble_eq_true rfl) dX10_readsClass_35 38 rfl (Gs' := [gX10 cy oM aM M_6]) rfl ?_
        clear hu7
        refine ww_aload_n h dX10_readsClass_38 rfl 1 rfl 39 rfl ?_
        refine ww_iconst (v := 1) h dX10_readsClass_39 (by decide) 40 rfl ?_
        obtain ⟨M_8, hu9, hf⟩ := ob1 hf
        refine ww_cVv h (c_X10_needs l D ev cy oM aM M_6 (1 : Int32) _ hu9) ⟨w_1742, w_1739, w_1741, w_93, w_111, ok_X10_needs⟩ ⟨by decide, by decide⟩ ⟨by decide, by decide⟩ ⟨rfl, rfl⟩ [0] rfl 0 rfl rfl rfl rfl (Nat.le_of_ble_eq_true rfl) dX10_readsClass_40 43 rfl (Gs' := [gX10 cy oM aM M_8]) rfl ?_
        clear hu9
        refine ww_aload_n h dX10_readsClass_43 rfl 1 rfl 44 rfl ?_
        refine ww_iconst (v := 1) h dX10_readsClass_44 (by decide) 45 rfl ?_
        refine ww_bipush (v := 9) h dX10_readsClass_45 (by decide) 47 rfl ?_
        obtain ⟨r_10, M_11, hu12, hf⟩ := ob2 hf
        refine ww_cVi h (c_X10_needsNumber l D ev cy oM aM M_8 (1 : Int32) (9 : Int32) _ hu12) ⟨w_1746, w_1743, w_1745, w_94, w_111, ok_X10_needsNumber⟩ ⟨by decide, by decide⟩ ⟨by decide, by decide⟩ ⟨rfl, rfl⟩ [0] rfl 0 rfl rfl rfl rfl (Nat.le_of_ble_eq_true rfl) dX10_readsClass_47 50 rfl (Gs' := [gX10 cy oM aM M_11]) rfl ?_
        clear hu12
        refine ww_ist_n h dX10_readsClass_50 rfl (by decide) (fun v2_13 => [(2, .int v2_13), (1, .int v1_3), (0, .ref oM)]) (fun _ => rfl) 51 rfl (fun v2_13 e => ?_)
        replace hf := bnd_at e hf
        clear e
        refine ww_aload_n h dX10_readsClass_51 rfl 2 rfl 52 rfl ?_
        refine ww_iconst (v := 2) h dX10_readsClass_52 (by decide) 53 rfl ?_
        obtain ⟨r_14, M_15, hu16, hf⟩ := ob2 hf
        refine ww_cVi h (c_X10_takesWord l D ev cy oM aM M_11 (2 : Int32) _ hu16) ⟨w_1726, w_1723, w_1725, w_89, w_111, ok_X10_takesWord⟩ ⟨by decide, by decide⟩ ⟨by decide, by decide⟩ ⟨rfl, rfl⟩ [0] rfl 0 rfl rfl rfl rfl (Nat.le_of_ble_eq_true rfl) dX10_readsClass_53 56 rfl (Gs' := [gX10 cy oM aM M_15]) rfl ?_
        clear hu16
        have hJ100_18 : ∀ (M_17 : OV), j_X10_readsClass_100_18 v1_3 v2_13 M_17 = some o → ww X D A 4 Q 0 0 100 [(0, .ref oM), (1, .int v1_3), (2, .int v2_13)] [] [gX10 cy oM aM M_17] := by
          intro M_17 hf
          unfold j_X10_readsClass_100_18 at hf
          refine ww_aload_n h dX10_readsClass_100 rfl 0 rfl 101 rfl ?_
          refine ww_get h inG10 rfl 0 rfl rfl 44 (by decide) w_1201 rfl dX10_readsClass_101 104 rfl ?_
          refine ww_iload_n h dX10_readsClass_104 rfl 1 rfl 105 rfl ?_
          refine ww_aload_n h dX10_readsClass_105 rfl 0 rfl 106 rfl ?_
          refine ww_iconst (v := 5) h dX10_readsClass_106 (by decide) 107 rfl ?_
          obtain ⟨r_19, M_20, hu21, hf⟩ := ob2 hf
          refine ww_cVi h (c_X10_takesWord l D ev cy oM aM M_17 (5 : Int32) _ hu21) ⟨w_1726, w_1723, w_1725, w_89, w_111, ok_X10_takesWord⟩ ⟨by decide, by decide⟩ ⟨by decide, by decide⟩ ⟨rfl, rfl⟩ [0] rfl 0 rfl rfl rfl rfl (Nat.le_of_ble_eq_true rfl) dX10_readsClass_107 110 rfl (Gs' := [gX10 cy oM aM M_20]) rfl ?_
          clear hu21
          have hi := (gd_some hf).1
          replace hf := (gd_some hf).2
          refine ww_zast h 0 rfl 28 rfl (ix_in hi) dX10_readsClass_110 111 rfl ?_
          clear hi
          refine ww_nm (fun z => [gX10 cy oM aM z]) (sA M_20 44 v1_3.toNatClampNeg (vp_nar .boolean r_19)) (fun M_22 e => ?_)
          replace hf := bnd_at e hf
          clear e
          refine ww_aload_n h dX10_readsClass_111 rfl 0 rfl 112 rfl ?_
          refine ww_get h inG10 rfl 0 rfl rfl 45 (by decide) w_1202 rfl dX10_readsClass_112 115 rfl ?_
          refine ww_iload_n h dX10_readsClass_115 rfl 1 rfl 116 rfl ?_
          refine ww_aload_n h dX10_readsClass_116 rfl 0 rfl 117 rfl ?_
          refine ww_bipush (v := 6) h dX10_readsClass_117 (by decide) 119 rfl ?_
          obtain ⟨r_23, M_24, hu25, hf⟩ := ob2 hf
          refine ww_cVi h (c_X10_takesWord l D ev cy oM aM M_22 (6 : Int32) _ hu25) ⟨w_1726, w_1723, w_1725, w_89, w_111, ok_X10_takesWord⟩ ⟨by decide, by decide⟩ ⟨by decide, by decide⟩ ⟨rfl, rfl⟩ [0] rfl 0 rfl rfl rfl rfl (Nat.le_of_ble_eq_true rfl) dX10_readsClass_119 122 rfl (Gs' := [gX10 cy oM aM M_24]) rfl ?_
          clear hu25
          have hJ137_28 : ∀ (t_26 : Int32) (M_27 : OV), j_X10_readsClass_137_28 v1_3 v2_13 t_26 M_27 = some o → ww X D A 4 Q 0 0 137 [(0, .ref oM), (1, .int v1_3), (2, .int v2_13)] [.int t_26, .int v1_3, .ref (aM 45)] [gX10 cy oM aM M_27] := by
            intro t_26 M_27 hf
            unfold j_X10_readsClass_137_28 at hf
            have hi := (gd_some hf).1
            replace hf := (gd_some hf).2
            refine ww_iast h 0 rfl 29 rfl (ix_in hi) dX10_readsClass_137 138 rfl ?_
            clear hi
            refine ww_nm (fun z => [gX10 cy oM aM z]) (sA M_27 45 v1_3.toNatClampNeg t_26) (fun M_29 e => ?_)
            replace hf := bnd_at e hf
            clear e
            refine ww_aload_n h dX10_readsClass_138 rfl 0 rfl 139 rfl ?_
            refine ww_bipush (v := 7) h dX10_readsClass_139 (by decide) 141 rfl ?_
            obtain ⟨r_30, M_31, hu32, hf⟩ := ob2 hf
            refine ww_cVi h (c_X10_takesWord l D ev cy oM aM M_29 (7 : Int32) _ hu32) ⟨w_1726, w_1723, w_1725, w_89, w_111, ok_X10_takesWord⟩ ⟨by decide, by decide⟩ ⟨by decide, by decide⟩ ⟨rfl, rfl⟩ [0] rfl 0 rfl rfl rfl rfl (Nat.le_of_ble_eq_true rfl) dX10_readsClass_141 144 rfl (Gs' := [gX10 cy oM aM M_31]) rfl ?_
            clear hu32
            refine ww_ist_n h dX10_readsClass_144 rfl (by decide) (fun v3_33 => [(3, .int v3_33), (0, .ref oM), (1, .int v1_3), (2, .int v2_13)]) (fun _ => rfl) 145 rfl (fun v3_33 e => ?_)
            replace hf := bnd_at e hf
            clear e
            refine ww_aload_n h dX10_readsClass_145 rfl 1 rfl 146 rfl ?_
            refine ww_get h inG10 rfl 0 rfl rfl 46 (by decide) w_1203 rfl dX10_readsClass_146 149 rfl ?_
            refine ww_iload_n h dX10_readsClass_149 rfl 2 rfl 150 rfl ?_
            refine ww_iload_n h dX10_readsClass_150 rfl 0 rfl 151 rfl ?_
            have hJ166_36 : ∀ (t_34 : Int32) (M_35 : OV), j_X10_readsClass_166_36 v1_3 v2_13 v3_33 t_34 M_35 = some o → ww X D A 4 Q 0 0 166 [(0, .ref oM), (1, .int v1_3), (2, .int v2_13), (3, .int v3_33)] [.int t_34, .int v1_3, .ref (aM 46)] [gX10 cy oM aM M_35] := by
              intro t_34 M_35 hf
              unfold j_X10_readsClass_166_36 at hf
              have hi := (gd_some hf).1
              replace hf := (gd_some hf).2
              refine ww_iast h 0 rfl 30 rfl (ix_in hi) dX10_readsClass_166 167 rfl ?_
              clear hi
              refine ww_nm (fun z => [gX10 cy oM aM z]) (sA M_35 46 v1_3.toNatClampNeg t_34) (fun M_37 e => ?_)
              replace hf := bnd_at e hf
              clear e
              refine ww_aload_n h dX10_readsClass_167 rfl 0 rfl 168 rfl ?_
              refine ww_get h inG10 rfl 0 rfl rfl 47 (by decide) w_1204 rfl dX10_readsClass_168 171 rfl ?_
              refine ww_iload_n h dX10_readsClass_171 rfl 1 rfl 172 rfl ?_
              refine ww_iload_n h dX10_readsClass_172 rfl 3 rfl 173 rfl ?_
              have hJ184_40 : ∀ (t_38 : Int32) (M_39 : OV), j_X10_readsClass_184_40 v1_3 v2_13 t_38 M_39 = some o → ww X D A 4 Q 0 0 184 [(0, .ref oM), (1, .int v1_3), (2, .int v2_13)] [.int t_38, .int v1_3, .ref (aM 47)] [gX10 cy oM aM M_39] := by
                intro t_38 M_39 hf
                unfold j_X10_readsClass_184_40 at hf
                have hi := (gd_some hf).1
                replace hf := (gd_some hf).2
                refine ww_iast h 0 rfl 31 rfl (ix_in hi) dX10_readsClass_184 185 rfl ?_
                clear hi
                refine ww_nm (fun z => [gX10 cy oM aM z]) (sA M_39 47 v1_3.toNatClampNeg t_38) (fun M_41 e => ?_)
                replace hf := bnd_at e hf
                clear e
                refine ww_aload_n h dX10_readsClass_185 rfl 0 rfl 186 rfl ?_
                refine ww_bipush (v := 9) h dX10_readsClass_186 (by decide) 188 rfl ?_
                obtain ⟨r_42, M_43, hu44, hf⟩ := ob2 hf
                refine ww_cVi h (c_X10_takesWord l D ev cy oM aM M_41 (9 : Int32) _ hu44) ⟨w_1726, w_1723, w_1725, w_89, w_111, ok_X10_takesWord⟩ ⟨by decide, by decide⟩ ⟨by decide, by decide⟩ ⟨rfl, rfl⟩ [0] rfl 0 rfl rfl rfl rfl (Nat.le_of_ble_eq_true rfl) dX10_readsClass_188 191 rfl (Gs' := [gX10 cy oM aM M_43]) rfl ?_
                clear hu44
                refine ww_ist_n h dX10_readsClass_191 rfl (by decide) (fun v3_45 => [(3, .int v3_45), (0, .ref oM), (1, .int v1_3), (2, .int v2_13)]) (fun _ => rfl) 192 rfl (fun v3_45 e => ?_)
                replace hf := bnd_at e hf
                clear e
                refine ww_aload_n h dX10_readsClass_192 rfl 1 rfl 193 rfl ?_
                refine ww_get h inG10 rfl 0 rfl rfl 48 (by decide) w_1205 rfl dX10_readsClass_193 196 rfl ?_
                refine ww_iload_n h dX10_readsClass_196 rfl 2 rfl 197 rfl ?_
                refine ww_iload_n h dX10_readsClass_197 rfl 0 rfl 198 rfl ?_
                have hJ212_48 : ∀ (t_46 : Int32) (M_47 : OV), j_X10_readsClass_212_48 v1_3 v2_13 v3_45 t_46 M_47 = some o → ww X D A 4 Q 0 0 212 [(0, .ref oM), (1, .int v1_3), (2, .int v2_13), (3, .int v3_45)] [.int t_46, .int v1_3, .ref (aM 48)] [gX10 cy oM aM M_47] := by
                  intro t_46 M_47 hf
                  unfold j_X10_readsClass_212_48 at hf
                  have hi := (gd_some hf).1
                  replace hf := (gd_some hf).2
                  refine ww_iast h 0 rfl 32 rfl (ix_in hi) dX10_readsClass_212 213 rfl ?_
                  clear hi
                  refine ww_nm (fun z => [gX10 cy oM aM z]) (sA M_47 48 v1_3.toNatClampNeg t_46) (fun M_49 e => ?_)
                  replace hf := bnd_at e hf
                  clear e
                  refine ww_aload_n h dX10_readsClass_213 rfl 0 rfl 214 rfl ?_
                  refine ww_get h inG10 rfl 0 rfl rfl 49 (by decide) w_1206 rfl dX10_readsClass_214 217 rfl ?_
                  refine ww_iload_n h dX10_readsClass_217 rfl 1 rfl 218 rfl ?_
                  refine ww_iload_n h dX10_readsClass_218 rfl 3 rfl 219 rfl ?_
                  have hJ230_52 : ∀ (t_50 : Int32) (M_51 : OV), j_X10_readsClass_230_52 v1_3 v2_13 t_50 M_51 = some o → ww X D A 4 Q 0 0 230 [(0, .ref oM), (1, .int v1_3), (2, .int v2_13)] [.int t_50, .int v1_3, .ref (aM 49)] [gX10 cy oM aM M_51] := by
                    intro t_50 M_51 hf
                    unfold j_X10_readsClass_230_52 at hf
                    have hi := (gd_some hf).1
                    replace hf := (gd_some hf).2
                    refine ww_iast h 0 rfl 33 rfl (ix_in hi) dX10_readsClass_230 231 rfl ?_
                    clear hi
                    refine ww_nm (fun z => [gX10 cy oM aM z]) (sA M_51 49 v1_3.toNatClampNeg t_50) (fun M_53 e => ?_)
                    replace hf := bnd_at e hf
                    clear e
                    refine ww_aload_n h dX10_readsClass_231 rfl 0 rfl 232 rfl ?_
                    obtain ⟨M_54, hu55, hf⟩ := ob1 hf
                    refine ww_cVv h (c_X10_needsClose l D ev cy oM aM M_53 _ hu55) ⟨w_1758, w_1755, w_1757, w_97, w_111, ok_X10_needsClose⟩ ⟨by decide, by decide⟩ ⟨by decide, by decide⟩ ⟨rfl, rfl⟩ [0] rfl 0 rfl rfl rfl rfl (Nat.le_of_ble_eq_true rfl) dX10_readsClass_232 235 rfl (Gs' := [gX10 cy oM aM M_54]) rfl ?_
                    clear hu55
                    refine ww_aload_n h dX10_readsClass_235 rfl 0 rfl 236 rfl ?_
                    refine ww_get h inG10 rfl 0 rfl rfl 43 (by decide) w_1200 rfl dX10_readsClass_236 239 rfl ?_
                    refine ww_iload_n h dX10_readsClass_239 rfl 1 rfl 240 rfl ?_
                    refine ww_iload_n h dX10_readsClass_240 rfl 2 rfl 241 rfl ?_
                    have hi := (gd_some hf).1
                    replace hf := (gd_some hf).2
                    refine ww_iast h 0 rfl 27 rfl (ix_in hi) dX10_readsClass_241 242 rfl ?_
                    clear hi
                    refine ww_nm (fun z => [gX10 cy oM aM z]) (sA M_54 43 v1_3.toNatClampNeg v2_13) (fun M_56 e => ?_)
                    replace hf := bnd_at e hf
                    clear e
                    refine ww_aload_n h dX10_readsClass_242 rfl 0 rfl 243 rfl ?_
                    refine ww_dup h dX10_readsClass_243 rfl 244 rfl ?_
                    refine ww_get h inG10 rfl 0 rfl rfl 52 (by decide) w_1209 rfl dX10_readsClass_244 247 rfl ?_
                    refine ww_iconst (v := 1) h dX10_readsClass_247 (by decide) 248 rfl ?_
                    refine ww_iadd h dX10_readsClass_248 249 rfl ?_
                    refine ww_put (ty := .int) h inG10 tyX10_ok nmX10 rfl 0 rfl rfl 52 (by decide) w_1209 rfl (by decide +kernel) rfl rfl (Nat.le_of_ble_eq_true rfl) (Nat.le_of_ble_eq_true rfl) dX10_readsClass_249 252 rfl ?_
                    refine ww_nm (fun z => [gX10 cy oM aM z]) (sI M_56 52 ((iv M_56 52) + (1 : Int32))) (fun M_57 e => ?_)
                    replace hf := bnd_at e hf
                    clear e
                    obtain rfl := Option.some.inj hf
                    exact ww_vret h dX10_readsClass_252 hQ ⟨rfl, rfl⟩
                  refine ww_if_eq h dX10_readsClass_219 229 (by decide) 222 rfl (fun c => ?_) (fun c => ?_)
                  · replace hf := ite_t c hf
                    refine ww_iconst (v := 1) h dX10_readsClass_229 (by decide) 230 rfl ?_
                    refine ww_lo [0, 1, 2] (lo' := [(0, .ref oM), (1, .int v1_3), (2, .int v2_13)]) rfl ?_
                    exact hJ230_52 (1 : Int32) M_49 hf
                  · replace hf := ite_f c hf
                    refine ww_aload_n h dX10_readsClass_222 rfl 0 rfl 223 rfl ?_
                    obtain ⟨r_58, M_59, hu60, hf⟩ := ob2 hf
                    refine ww_cVi h (c_X10_readsRank l D ev cy oM aM M_49 _ hu60) ⟨w_1754, w_1751, w_1753, w_96, w_111, ok_X10_readsRank⟩ ⟨by decide, by decide⟩ ⟨by decide, by decide⟩ ⟨rfl, rfl⟩ [0] rfl 0 rfl rfl rfl rfl (Nat.le_of_ble_eq_true rfl) dX10_readsClass_223 226 rfl (Gs' := [gX10 cy oM aM M_59]) rfl ?_
                    clear hu60
                    refine ww_goto h dX10_readsClass_226 230 (by decide) ?_
                    refine ww_lo [0, 1, 2] (lo' := [(0, .ref oM), (1, .int v1_3), (2, .int v2_13)]) rfl ?_
                    exact hJ230_52 r_58 M_59 hf
                refine ww_if_eq h dX10_readsClass_198 211 (by decide) 201 rfl (fun c => ?_) (fun c => ?_)
                · replace hf := ite_t c hf
                  refine ww_iconst (v := 0) h dX10_readsClass_211 (by decide) 212 rfl ?_
                  refine ww_lo [1, 2, 3, 0] (lo' := [(0, .ref oM), (1, .int v1_3), (2, .int v2_13), (3, .int v3_45)]) rfl ?_
                  exact hJ212_48 (0 : Int32) M_43 hf
                · replace hf := ite_f c hf
                  refine ww_aload_n h dX10_readsClass_201 rfl 1 rfl 202 rfl ?_
                  refine ww_iconst (v := 0) h dX10_readsClass_202 (by decide) 203 rfl ?_
                  refine ww_bipush (v := 9) h dX10_readsClass_203 (by decide) 205 rfl ?_
                  obtain ⟨r_61, M_62, hu63, hf⟩ := ob2 hf
                  refine ww_cVi h (c_X10_needsNumber l D ev cy oM aM M_43 (0 : Int32) (9 : Int32) _ hu63) ⟨w_1746, w_1743, w_1745, w_94, w_111, ok_X10_needsNumber⟩ ⟨by decide, by decide⟩ ⟨by decide, by decide⟩ ⟨rfl, rfl⟩ [0] rfl 0 rfl rfl rfl rfl (Nat.le_of_ble_eq_true rfl) dX10_readsClass_205 208 rfl (Gs' := [gX10 cy oM aM M_62]) rfl ?_
                  clear hu63
                  refine ww_goto h dX10_readsClass_208 212 (by decide) ?_
                  refine ww_lo [1, 2, 3, 0] (lo' := [(0, .ref oM), (1, .int v1_3), (2, .int v2_13), (3, .int v3_45)]) rfl ?_
                  exact hJ212_48 r_61 M_62 hf
              refine ww_if_eq h dX10_readsClass_173 183 (by decide) 176 rfl (fun c => ?_) (fun c => ?_)
              · replace hf := ite_t c hf
                refine ww_iconst (v := 1) h dX10_readsClass_183 (by decide) 184 rfl ?_
                refine ww_lo [0, 1, 2] (lo' := [(0, .ref oM), (1, .int v1_3), (2, .int v2_13)]) rfl ?_
                exact hJ184_40 (1 : Int32) M_37 hf
              · replace hf := ite_f c hf
                refine ww_aload_n h dX10_readsClass_176 rfl 0 rfl 177 rfl ?_
                obtain ⟨r_64, M_65, hu66, hf⟩ := ob2 hf
                refine ww_cVi h (c_X10_readsRank l D ev cy oM aM M_37 _ hu66) ⟨w_1754, w_1751, w_1753, w_96, w_111, ok_X10_readsRank⟩ ⟨by decide, by decide⟩ ⟨by decide, by decide⟩ ⟨rfl, rfl⟩ [0] rfl 0 rfl rfl rfl rfl (Nat.le_of_ble_eq_true rfl) dX10_readsClass_177 180 rfl (Gs' := [gX10 cy oM aM M_65]) rfl ?_
                clear hu66
                refine ww_goto h dX10_readsClass_180 184 (by decide) ?_
                refine ww_lo [0, 1, 2] (lo' := [(0, .ref oM), (1, .int v1_3), (2, .int v2_13)]) rfl ?_
                exact hJ184_40 r_64 M_65 hf
            refine ww_if_eq h dX10_readsClass_151 165 (by decide) 154 rfl (fun c => ?_) (fun c => ?_)
            · replace hf := ite_t c hf
              refine ww_iconst (v := 0) h dX10_readsClass_165 (by decide) 166 rfl ?_
              refine ww_lo [1, 2, 3, 0] (lo' := [(0, .ref oM), (1, .int v1_3), (2, .int v2_13), (3, .int v3_33)]) rfl ?_
              exact hJ166_36 (0 : Int32) M_31 hf
            · replace hf := ite_f c hf
              refine ww_aload_n h dX10_readsClass_154 rfl 1 rfl 155 rfl ?_
              refine ww_iconst (v := 0) h dX10_readsClass_155 (by decide) 156 rfl ?_
              refine ww_iload_n h dX10_readsClass_156 rfl 3 rfl 157 rfl ?_
              refine ww_iconst (v := 1) h dX10_readsClass_157 (by decide) 158 rfl ?_
              refine ww_isub h dX10_readsClass_158 159 rfl ?_
              obtain ⟨r_67, M_68, hu69, hf⟩ := ob2 hf
              refine ww_cVi h (c_X10_needsNumber l D ev cy oM aM M_31 (0 : Int32) (v2_13 - (1 : Int32)) _ hu69) ⟨w_1746, w_1743, w_1745, w_94, w_111, ok_X10_needsNumber⟩ ⟨by decide, by decide⟩ ⟨by decide, by decide⟩ ⟨rfl, rfl⟩ [0] rfl 0 rfl rfl rfl rfl (Nat.le_of_ble_eq_true rfl) dX10_readsClass_159 162 rfl (Gs' := [gX10 cy oM aM M_68]) rfl ?_
              clear hu69
              refine ww_goto h dX10_readsClass_162 166 (by decide) ?_
              refine ww_lo [1, 2, 3, 0] (lo' := [(0, .ref oM), (1, .int v1_3), (2, .int v2_13), (3, .int v3_33)]) rfl ?_
              exact hJ166_36 r_67 M_68 hf
          refine ww_if_eq h dX10_readsClass_122 136 (by decide) 125 rfl (fun c => ?_) (fun c => ?_)
          · replace hf := ite_t c hf
            refine ww_iconst (v := 0) h dX10_readsClass_136 (by decide) 137 rfl ?_
            exact hJ137_28 (0 : Int32) M_24 hf
          · replace hf := ite_f c hf
            refine ww_aload_n h dX10_readsClass_125 rfl 0 rfl 126 rfl ?_
            refine ww_iconst (v := 0) h dX10_readsClass_126 (by decide) 127 rfl ?_
            refine ww_iload_n h dX10_readsClass_127 rfl 2 rfl 128 rfl ?_
            refine ww_iconst (v := 1) h dX10_readsClass_128 (by decide) 129 rfl ?_
            refine ww_isub h dX10_readsClass_129 130 rfl ?_
            obtain ⟨r_70, M_71, hu72, hf⟩ := ob2 hf
            refine ww_cVi h (c_X10_needsNumber l D ev cy oM aM M_24 (0 : Int32) (v2_13 - (1 : Int32)) _ hu72) ⟨w_1746, w_1743, w_1745, w_94, w_111, ok_X10_needsNumber⟩ ⟨by decide, by decide⟩ ⟨by decide, by decide⟩ ⟨rfl, rfl⟩ [0] rfl 0 rfl rfl rfl rfl (Nat.le_of_ble_eq_true rfl) dX10_readsClass_130 133 rfl (Gs' := [gX10 cy oM aM M_71]) rfl ?_
            clear hu72
            refine ww_goto h dX10_readsClass_133 137 (by decide) ?_
            exact hJ137_28 r_70 M_71 hf
        refine ww_if_eq h dX10_readsClass_56 100 (by decide) 59 rfl (fun c => ?_) (fun c => ?_)
        · replace hf := ite_t c hf
          refine ww_lo [2, 1, 0] (lo' := [(0, .ref oM), (1, .int v1_3), (2, .int v2_13)]) rfl ?_
          exact hJ100_18 M_15 hf
        · replace hf := ite_f c hf
          refine ww_aload_n h dX10_readsClass_59 rfl 2 rfl 60 rfl ?_
          refine ww_iconst (v := 3) h dX10_readsClass_60 (by decide) 61 rfl ?_
          obtain ⟨r_73, M_74, hu75, hf⟩ := ob2 hf
          refine ww_cVi h (c_X10_takesWord l D ev cy oM aM M_15 (3 : Int32) _ hu75) ⟨w_1726, w_1723, w_1725, w_89, w_111, ok_X10_takesWord⟩ ⟨by decide, by decide⟩ ⟨by decide, by decide⟩ ⟨rfl, rfl⟩ [0] rfl 0 rfl rfl rfl rfl (Nat.le_of_ble_eq_true rfl) dX10_readsClass_61 64 rfl (Gs' := [gX10 cy oM aM M_74]) rfl ?_
          clear hu75
          refine ww_if_eq h dX10_readsClass_64 95 (by decide) 67 rfl (fun c => ?_) (fun c => ?_)
          · replace hf := ite_t c hf
            refine ww_aload_n h dX10_readsClass_95 rfl 2 rfl 96 rfl ?_
            refine ww_iload_n h dX10_readsClass_96 rfl 1 rfl 97 rfl ?_
            obtain ⟨M_76, hu77, hf⟩ := ob1 hf
            refine ww_cVv h (c_X10_readsShyEnd l D ev cy oM aM M_74 v1_3 _ hu77) ⟨w_1750, w_1747, w_1749, w_95, w_111, ok_X10_readsShyEnd⟩ ⟨by decide, by decide⟩ ⟨by decide, by decide⟩ ⟨rfl, rfl⟩ [0] rfl 0 rfl rfl rfl rfl (Nat.le_of_ble_eq_true rfl) dX10_readsClass_97 100 rfl (Gs' := [gX10 cy oM aM M_76]) rfl ?_
            clear hu77
            refine ww_lo [2, 1, 0] (lo' := [(0, .ref oM), (1, .int v1_3), (2, .int v2_13)]) rfl ?_
            exact hJ100_18 M_76 hf
          · replace hf := ite_f c hf
            refine ww_aload_n h dX10_readsClass_67 rfl 2 rfl 68 rfl ?_
            refine ww_get h inG10 rfl 0 rfl rfl 51 (by decide) w_1208 rfl dX10_readsClass_68 71 rfl ?_
            refine ww_iconst (v := 0) h dX10_readsClass_71 (by decide) 72 rfl ?_
            refine ww_dup2 h dX10_readsClass_72 rfl rfl 73 rfl ?_
            have hi := (gd_some hf).1
            replace hf := (gd_some hf).2
            refine ww_iald h 0 rfl 35 rfl (ix_in hi) dX10_readsClass_73 74 rfl ?_
            clear hi
            refine ww_iconst (v := 1) h dX10_readsClass_74 (by decide) 75 rfl ?_
            refine ww_iload_n h dX10_readsClass_75 rfl 1 rfl 76 rfl ?_
            refine ww_ishl h dX10_readsClass_76 77 rfl ?_
            refine ww_ior h dX10_readsClass_77 78 rfl ?_
            have hi := (gd_some hf).1
            replace hf := (gd_some hf).2
            refine ww_iast h 0 rfl 35 rfl (ix_in hi) dX10_readsClass_78 79 rfl ?_
            clear hi
            refine ww_nm (fun z => [gX10 cy oM aM z]) (sA M_74 51 (0 : Int32).toNatClampNeg ((ar M_74 51 (0 : Int32).toNatClampNeg) ||| ((1 : Int32) <<< (v1_3 &&& 31)))) (fun M_78 e => ?_)
            replace hf := bnd_at e hf
            clear e
            refine ww_aload_n h dX10_readsClass_79 rfl 2 rfl 80 rfl ?_
            refine ww_iconst (v := 2) h dX10_readsClass_80 (by decide) 81 rfl ?_
            obtain ⟨r_79, M_80, hu81, hf⟩ := ob2 hf
            refine ww_cVi h (c_X10_takesWord l D ev cy oM aM M_78 (2 : Int32) _ hu81) ⟨w_1726, w_1723, w_1725, w_89, w_111, ok_X10_takesWord⟩ ⟨by decide, by decide⟩ ⟨by decide, by decide⟩ ⟨rfl, rfl⟩ [0] rfl 0 rfl rfl rfl rfl (Nat.le_of_ble_eq_true rfl) dX10_readsClass_81 84 rfl (Gs' := [gX10 cy oM aM M_80]) rfl ?_
            clear hu81
            refine ww_if_eq h dX10_readsClass_84 100 (by decide) 87 rfl (fun c => ?_) (fun c => ?_)
            · replace hf := ite_t c hf
              refine ww_lo [2, 1, 0] (lo' := [(0, .ref oM), (1, .int v1_3), (2, .int v2_13)]) rfl ?_
              exact hJ100_18 M_80 hf
            · replace hf := ite_f c hf
              refine ww_aload_n h dX10_readsClass_87 rfl 2 rfl 88 rfl ?_
              refine ww_iload_n h dX10_readsClass_88 rfl 1 rfl 89 rfl ?_
              obtain ⟨M_82, hu83, hf⟩ := ob1 hf
              refine ww_cVv h (c_X10_readsShyEnd l D ev cy oM aM M_80 v1_3 _ hu83) ⟨w_1750, w_1747, w_1749, w_95, w_111, ok_X10_readsShyEnd⟩ ⟨by decide, by decide⟩ ⟨by decide, by decide⟩ ⟨rfl, rfl⟩ [0] rfl 0 rfl rfl rfl rfl (Nat.le_of_ble_eq_true rfl) dX10_readsClass_89 92 rfl (Gs' := [gX10 cy oM aM M_82]) rfl ?_
              clear hu83
              refine ww_goto h dX10_readsClass_92 100 (by decide) ?_
              refine ww_lo [2, 1, 0] (lo' := [(0, .ref oM), (1, .int v1_3), (2, .int v2_13)]) rfl ?_
              exact hJ100_18 M_82 hf
      · replace hf := ite_t c hf
        refine ww_aload_n h dX10_readsClass_28 rfl 1 rfl 29 rfl ?_
        refine ww_iconst (v := 1) h dX10_readsClass_29 (by decide) 30 rfl ?_
        refine ww_put (ty := .boolean) h inG10 tyX10_ok nmX10 rfl 0 rfl rfl 42 (by decide) w_1199 rfl (by decide +kernel) (by decide) (by decide) (Nat.le_of_ble_eq_true rfl) (Nat.le_of_ble_eq_true rfl) dX10_readsClass_30 33 rfl ?_
        refine ww_nm (fun z => [gX10 cy oM aM z]) (sI M 42 (1 : Int32)) (fun M_84 e => ?_)
        replace hf := bnd_at e hf
        clear e
        obtain rfl := Option.some.inj hf
        exact ww_vret h dX10_readsClass_33 hQ ⟨rfl, rfl⟩
theorem dX10_table_0 : decode cX10_table 0 = .ok (.iconst 0, 1) := by decide +kernel
theorem dX10_table_1 : decode cX10_table 1 = .ok (.istore_n 1, 1) := by decide +kernel
theorem dX10_table_2 : decode cX10_table 2 = .ok (.iload_n 1, 1) := by decide +kernel
theorem dX10_table_3 : decode cX10_table 3 = .ok (.bipush 26, 2) := by decide +kernel
theorem dX10_table_5 : decode cX10_table 5 = .ok (.if_icmp .ge 23, 3) := by decide +kernel
theorem dX10_table_8 : decode cX10_table 8 = .ok (.aload_n 0, 1) := by decide +kernel
theorem dX10_table_9 : decode cX10_table 9 = .ok (.getfield 95, 3) := by decide +kernel
theorem dX10_table_12 : decode cX10_table 12 = .ok (.iload_n 1, 1) := by decide +kernel
theorem dX10_table_13 : decode cX10_table 13 = .ok (.iconst 0, 1) := by decide +kernel
theorem dX10_table_14 : decode cX10_table 14 = .ok (.iastore, 1) := by decide +kernel
theorem dX10_table_15 : decode cX10_table 15 = .ok (.aload_n 0, 1) := by decide +kernel
theorem dX10_table_16 : decode cX10_table 16 = .ok (.getfield 116, 3) := by decide +kernel
theorem dX10_table_19 : decode cX10_table 19 = .ok (.iload_n 1, 1) := by decide +kernel
theorem dX10_table_20 : decode cX10_table 20 = .ok (.iconst 0, 1) := by decide +kernel
theorem dX10_table_21 : decode cX10_table 21 = .ok (.iastore, 1) := by decide +kernel
theorem dX10_table_22 : decode cX10_table 22 = .ok (.iinc 1 1, 3) := by decide +kernel
theorem dX10_table_25 : decode cX10_table 25 = .ok (.goto (-23), 3) := by decide +kernel
theorem dX10_table_28 : decode cX10_table 28 = .ok (.aload_n 0, 1) := by decide +kernel
theorem dX10_table_29 : decode cX10_table 29 = .ok (.getfield 119, 3) := by decide +kernel
theorem dX10_table_32 : decode cX10_table 32 = .ok (.iconst 0, 1) := by decide +kernel
theorem dX10_table_33 : decode cX10_table 33 = .ok (.iconst 0, 1) := by decide +kernel
theorem dX10_table_34 : decode cX10_table 34 = .ok (.iastore, 1) := by decide +kernel
theorem dX10_table_35 : decode cX10_table 35 = .ok (.aload_n 0, 1) := by decide +kernel
theorem dX10_table_36 : decode cX10_table 36 = .ok (.getfield 119, 3) := by decide +kernel
theorem dX10_table_39 : decode cX10_table 39 = .ok (.iconst 1, 1) := by decide +kernel
theorem dX10_table_40 : decode cX10_table 40 = .ok (.iconst 0, 1) := by decide +kernel
theorem dX10_table_41 : decode cX10_table 41 = .ok (.iastore, 1) := by decide +kernel
theorem dX10_table_42 : decode cX10_table 42 = .ok (.aload_n 0, 1) := by decide +kernel
theorem dX10_table_43 : decode cX10_table 43 = .ok (.iconst 0, 1) := by decide +kernel
theorem dX10_table_44 : decode cX10_table 44 = .ok (.putfield 372, 3) := by decide +kernel
theorem dX10_table_47 : decode cX10_table 47 = .ok (.aload_n 0, 1) := by decide +kernel
theorem dX10_table_48 : decode cX10_table 48 = .ok (.iconst 0, 1) := by decide +kernel
theorem dX10_table_49 : decode cX10_table 49 = .ok (.putfield 393, 3) := by decide +kernel
theorem dX10_table_52 : decode cX10_table 52 = .ok (.aload_n 0, 1) := by decide +kernel
theorem dX10_table_53 : decode cX10_table 53 = .ok (.iconst 0, 1) := by decide +kernel
theorem dX10_table_54 : decode cX10_table 54 = .ok (.putfield 342, 3) := by decide +kernel
theorem dX10_table_57 : decode cX10_table 57 = .ok (.aload_n 0, 1) := by decide +kernel
theorem dX10_table_58 : decode cX10_table 58 = .ok (.iconst 3, 1) := by decide +kernel
theorem dX10_table_59 : decode cX10_table 59 = .ok (.putfield 345, 3) := by decide +kernel
theorem dX10_table_62 : decode cX10_table 62 = .ok (.aload_n 0, 1) := by decide +kernel
theorem dX10_table_63 : decode cX10_table 63 = .ok (.iconst 0, 1) := by decide +kernel
theorem dX10_table_64 : decode cX10_table 64 = .ok (.putfield 357, 3) := by decide +kernel
theorem dX10_table_67 : decode cX10_table 67 = .ok (.aload_n 0, 1) := by decide +kernel
theorem dX10_table_68 : decode cX10_table 68 = .ok (.invokevirtual 363, 3) := by decide +kernel
theorem dX10_table_71 : decode cX10_table 71 = .ok (.aload_n 0, 1) := by decide +kernel
theorem dX10_table_72 : decode cX10_table 72 = .ok (.getfield 357, 3) := by decide +kernel
theorem dX10_table_75 : decode cX10_table 75 = .ok (.ifCond .ne 45, 3) := by decide +kernel
theorem dX10_table_78 : decode cX10_table 78 = .ok (.aload_n 0, 1) := by decide +kernel
theorem dX10_table_79 : decode cX10_table 79 = .ok (.getfield 345, 3) := by decide +kernel
theorem dX10_table_82 : decode cX10_table 82 = .ok (.ifCond .eq 38, 3) := by decide +kernel
theorem dX10_table_85 : decode cX10_table 85 = .ok (.aload_n 0, 1) := by decide +kernel
theorem dX10_table_86 : decode cX10_table 86 = .ok (.iconst 0, 1) := by decide +kernel
theorem dX10_table_87 : decode cX10_table 87 = .ok (.invokevirtual 366, 3) := by decide +kernel
theorem dX10_table_90 : decode cX10_table 90 = .ok (.ifCond .eq 10, 3) := by decide +kernel
theorem dX10_table_93 : decode cX10_table 93 = .ok (.aload_n 0, 1) := by decide +kernel
theorem dX10_table_94 : decode cX10_table 94 = .ok (.invokevirtual 396, 3) := by decide +kernel
theorem dX10_table_97 : decode cX10_table 97 = .ok (.goto (-26), 3) := by decide +kernel
theorem dX10_table_100 : decode cX10_table 100 = .ok (.aload_n 0, 1) := by decide +kernel
theorem dX10_table_101 : decode cX10_table 101 = .ok (.bipush 10, 2) := by decide +kernel
theorem dX10_table_103 : decode cX10_table 103 = .ok (.invokevirtual 375, 3) := by decide +kernel
theorem dX10_table_106 : decode cX10_table 106 = .ok (.aload_n 0, 1) := by decide +kernel
theorem dX10_table_107 : decode cX10_table 107 = .ok (.getfield 357, 3) := by decide +kernel
theorem dX10_table_110 : decode cX10_table 110 = .ok (.ifCond .ne (-39), 3) := by decide +kernel
theorem dX10_table_113 : decode cX10_table 113 = .ok (.aload_n 0, 1) := by decide +kernel
theorem dX10_table_114 : decode cX10_table 114 = .ok (.invokevirtual 399, 3) := by decide +kernel
theorem dX10_table_117 : decode cX10_table 117 = .ok (.goto (-46), 3) := by decide +kernel
theorem dX10_table_120 : decode cX10_table 120 = .ok (.aload_n 0, 1) := by decide +kernel
theorem dX10_table_121 : decode cX10_table 121 = .ok (.iconst 0, 1) := by decide +kernel
theorem dX10_table_122 : decode cX10_table 122 = .ok (.putfield 330, 3) := by decide +kernel
theorem dX10_table_125 : decode cX10_table 125 = .ok (.aload_n 0, 1) := by decide +kernel
theorem dX10_table_126 : decode cX10_table 126 = .ok (.getfield 357, 3) := by decide +kernel
theorem dX10_table_129 : decode cX10_table 129 = .ok (.ifCond .eq 11, 3) := by decide +kernel
theorem dX10_table_132 : decode cX10_table 132 = .ok (.bipush (-4), 2) := by decide +kernel
theorem dX10_table_134 : decode cX10_table 134 = .ok (.aload_n 0, 1) := by decide +kernel
theorem dX10_table_135 : decode cX10_table 135 = .ok (.getfield 351, 3) := by decide +kernel
theorem dX10_table_138 : decode cX10_table 138 = .ok (.isub, 1) := by decide +kernel
theorem dX10_table_139 : decode cX10_table 139 = .ok (.ireturn, 1) := by decide +kernel
theorem dX10_table_140 : decode cX10_table 140 = .ok (.iconst 0, 1) := by decide +kernel
theorem dX10_table_141 : decode cX10_table 141 = .ok (.istore_n 1, 1) := by decide +kernel
theorem dX10_table_142 : decode cX10_table 142 = .ok (.iload_n 1, 1) := by decide +kernel
theorem dX10_table_143 : decode cX10_table 143 = .ok (.bipush 26, 2) := by decide +kernel
theorem dX10_table_145 : decode cX10_table 145 = .ok (.if_icmp .ge 108, 3) := by decide +kernel
theorem dX10_table_148 : decode cX10_table 148 = .ok (.aload_n 0, 1) := by decide +kernel
theorem dX10_table_149 : decode cX10_table 149 = .ok (.getfield 13, 3) := by decide +kernel
theorem dX10_table_152 : decode cX10_table 152 = .ok (.iload_n 1, 1) := by decide +kernel
theorem dX10_table_153 : decode cX10_table 153 = .ok (.aload_n 0, 1) := by decide +kernel
theorem dX10_table_154 : decode cX10_table 154 = .ok (.getfield 95, 3) := by decide +kernel
theorem dX10_table_157 : decode cX10_table 157 = .ok (.iload_n 1, 1) := by decide +kernel
theorem dX10_table_158 : decode cX10_table 158 = .ok (.iaload, 1) := by decide +kernel
theorem dX10_table_159 : decode cX10_table 159 = .ok (.iastore, 1) := by decide +kernel
theorem dX10_table_160 : decode cX10_table 160 = .ok (.aload_n 0, 1) := by decide +kernel
theorem dX10_table_161 : decode cX10_table 161 = .ok (.getfield 17, 3) := by decide +kernel
theorem dX10_table_164 : decode cX10_table 164 = .ok (.iload_n 1, 1) := by decide +kernel
theorem dX10_table_165 : decode cX10_table 165 = .ok (.aload_n 0, 1) := by decide +kernel
theorem dX10_table_166 : decode cX10_table 166 = .ok (.getfield 98, 3) := by decide +kernel
theorem dX10_table_169 : decode cX10_table 169 = .ok (.iload_n 1, 1) := by decide +kernel
theorem dX10_table_170 : decode cX10_table 170 = .ok (.baload, 1) := by decide +kernel
theorem dX10_table_171 : decode cX10_table 171 = .ok (.bastore, 1) := by decide +kernel
theorem dX10_table_172 : decode cX10_table 172 = .ok (.aload_n 0, 1) := by decide +kernel
theorem dX10_table_173 : decode cX10_table 173 = .ok (.getfield 21, 3) := by decide +kernel
theorem dX10_table_176 : decode cX10_table 176 = .ok (.iload_n 1, 1) := by decide +kernel
theorem dX10_table_177 : decode cX10_table 177 = .ok (.aload_n 0, 1) := by decide +kernel
theorem dX10_table_178 : decode cX10_table 178 = .ok (.getfield 101, 3) := by decide +kernel
theorem dX10_table_181 : decode cX10_table 181 = .ok (.iload_n 1, 1) := by decide +kernel
theorem dX10_table_182 : decode cX10_table 182 = .ok (.iaload, 1) := by decide +kernel
theorem dX10_table_183 : decode cX10_table 183 = .ok (.iastore, 1) := by decide +kernel
theorem dX10_table_184 : decode cX10_table 184 = .ok (.aload_n 0, 1) := by decide +kernel
theorem dX10_table_185 : decode cX10_table 185 = .ok (.getfield 24, 3) := by decide +kernel
theorem dX10_table_188 : decode cX10_table 188 = .ok (.iload_n 1, 1) := by decide +kernel
theorem dX10_table_189 : decode cX10_table 189 = .ok (.aload_n 0, 1) := by decide +kernel
theorem dX10_table_190 : decode cX10_table 190 = .ok (.getfield 104, 3) := by decide +kernel
theorem dX10_table_193 : decode cX10_table 193 = .ok (.iload_n 1, 1) := by decide +kernel
theorem dX10_table_194 : decode cX10_table 194 = .ok (.iaload, 1) := by decide +kernel
theorem dX10_table_195 : decode cX10_table 195 = .ok (.iastore, 1) := by decide +kernel
theorem dX10_table_196 : decode cX10_table 196 = .ok (.aload_n 0, 1) := by decide +kernel
theorem dX10_table_197 : decode cX10_table 197 = .ok (.getfield 27, 3) := by decide +kernel
theorem dX10_table_200 : decode cX10_table 200 = .ok (.iload_n 1, 1) := by decide +kernel
theorem dX10_table_201 : decode cX10_table 201 = .ok (.aload_n 0, 1) := by decide +kernel
theorem dX10_table_202 : decode cX10_table 202 = .ok (.getfield 107, 3) := by decide +kernel
theorem dX10_table_205 : decode cX10_table 205 = .ok (.iload_n 1, 1) := by decide +kernel
theorem dX10_table_206 : decode cX10_table 206 = .ok (.iaload, 1) := by decide +kernel
theorem dX10_table_207 : decode cX10_table 207 = .ok (.iastore, 1) := by decide +kernel
theorem dX10_table_208 : decode cX10_table 208 = .ok (.aload_n 0, 1) := by decide +kernel
theorem dX10_table_209 : decode cX10_table 209 = .ok (.getfield 30, 3) := by decide +kernel
theorem dX10_table_212 : decode cX10_table 212 = .ok (.iload_n 1, 1) := by decide +kernel
theorem dX10_table_213 : decode cX10_table 213 = .ok (.aload_n 0, 1) := by decide +kernel
theorem dX10_table_214 : decode cX10_table 214 = .ok (.getfield 110, 3) := by decide +kernel
theorem dX10_table_217 : decode cX10_table 217 = .ok (.iload_n 1, 1) := by decide +kernel
theorem dX10_table_218 : decode cX10_table 218 = .ok (.iaload, 1) := by decide +kernel
theorem dX10_table_219 : decode cX10_table 219 = .ok (.iastore, 1) := by decide +kernel
theorem dX10_table_220 : decode cX10_table 220 = .ok (.aload_n 0, 1) := by decide +kernel
theorem dX10_table_221 : decode cX10_table 221 = .ok (.getfield 33, 3) := by decide +kernel
theorem dX10_table_224 : decode cX10_table 224 = .ok (.iload_n 1, 1) := by decide +kernel
theorem dX10_table_225 : decode cX10_table 225 = .ok (.aload_n 0, 1) := by decide +kernel
theorem dX10_table_226 : decode cX10_table 226 = .ok (.getfield 113, 3) := by decide +kernel
theorem dX10_table_229 : decode cX10_table 229 = .ok (.iload_n 1, 1) := by decide +kernel
theorem dX10_table_230 : decode cX10_table 230 = .ok (.iaload, 1) := by decide +kernel
theorem dX10_table_231 : decode cX10_table 231 = .ok (.iastore, 1) := by decide +kernel
theorem dX10_table_232 : decode cX10_table 232 = .ok (.aload_n 0, 1) := by decide +kernel
theorem dX10_table_233 : decode cX10_table 233 = .ok (.getfield 36, 3) := by decide +kernel
theorem dX10_table_236 : decode cX10_table 236 = .ok (.bipush 87, 2) := by decide +kernel
theorem dX10_table_238 : decode cX10_table 238 = .ok (.iload_n 1, 1) := by decide +kernel
theorem dX10_table_239 : decode cX10_table 239 = .ok (.iadd, 1) := by decide +kernel
theorem dX10_table_240 : decode cX10_table 240 = .ok (.aload_n 0, 1) := by decide +kernel
theorem dX10_table_241 : decode cX10_table 241 = .ok (.getfield 116, 3) := by decide +kernel
theorem dX10_table_244 : decode cX10_table 244 = .ok (.iload_n 1, 1) := by decide +kernel
theorem dX10_table_245 : decode cX10_table 245 = .ok (.iaload, 1) := by decide +kernel
theorem dX10_table_246 : decode cX10_table 246 = .ok (.iastore, 1) := by decide +kernel
theorem dX10_table_247 : decode cX10_table 247 = .ok (.iinc 1 1, 3) := by decide +kernel
theorem dX10_table_250 : decode cX10_table 250 = .ok (.goto (-108), 3) := by decide +kernel
theorem dX10_table_253 : decode cX10_table 253 = .ok (.aload_n 0, 1) := by decide +kernel
theorem dX10_table_254 : decode cX10_table 254 = .ok (.getfield 36, 3) := by decide +kernel
theorem dX10_table_257 : decode cX10_table 257 = .ok (.bipush 82, 2) := by decide +kernel
theorem dX10_table_259 : decode cX10_table 259 = .ok (.aload_n 0, 1) := by decide +kernel
theorem dX10_table_260 : decode cX10_table 260 = .ok (.getfield 119, 3) := by decide +kernel
theorem dX10_table_263 : decode cX10_table 263 = .ok (.iconst 0, 1) := by decide +kernel
theorem dX10_table_264 : decode cX10_table 264 = .ok (.iaload, 1) := by decide +kernel
theorem dX10_table_265 : decode cX10_table 265 = .ok (.iastore, 1) := by decide +kernel
theorem dX10_table_266 : decode cX10_table 266 = .ok (.aload_n 0, 1) := by decide +kernel
theorem dX10_table_267 : decode cX10_table 267 = .ok (.getfield 36, 3) := by decide +kernel
theorem dX10_table_270 : decode cX10_table 270 = .ok (.bipush 83, 2) := by decide +kernel
theorem dX10_table_272 : decode cX10_table 272 = .ok (.aload_n 0, 1) := by decide +kernel
theorem dX10_table_273 : decode cX10_table 273 = .ok (.getfield 119, 3) := by decide +kernel
theorem dX10_table_276 : decode cX10_table 276 = .ok (.iconst 1, 1) := by decide +kernel
theorem dX10_table_277 : decode cX10_table 277 = .ok (.iaload, 1) := by decide +kernel
theorem dX10_table_278 : decode cX10_table 278 = .ok (.iastore, 1) := by decide +kernel
theorem dX10_table_279 : decode cX10_table 279 = .ok (.aload_n 0, 1) := by decide +kernel
theorem dX10_table_280 : decode cX10_table 280 = .ok (.getfield 36, 3) := by decide +kernel
theorem dX10_table_283 : decode cX10_table 283 = .ok (.iconst 0, 1) := by decide +kernel
theorem dX10_table_284 : decode cX10_table 284 = .ok (.iconst 0, 1) := by decide +kernel
theorem dX10_table_285 : decode cX10_table 285 = .ok (.iastore, 1) := by decide +kernel
theorem dX10_table_286 : decode cX10_table 286 = .ok (.aload_n 0, 1) := by decide +kernel
theorem dX10_table_287 : decode cX10_table 287 = .ok (.iconst 0, 1) := by decide +kernel
theorem dX10_table_288 : decode cX10_table 288 = .ok (.putfield 129, 3) := by decide +kernel
theorem dX10_table_291 : decode cX10_table 291 = .ok (.aload_n 0, 1) := by decide +kernel
theorem dX10_table_292 : decode cX10_table 292 = .ok (.getfield 372, 3) := by decide +kernel
theorem dX10_table_295 : decode cX10_table 295 = .ok (.ireturn, 1) := by decide +kernel
theorem ok_X10_table : okY RX10 yX10_table 0 := ⟨rfl, by decide, by decide, by decide +kernel⟩
def s_X10_table_2_2 : (Int32 × OV) → Option ((Int32 × OV) ⊕ (OV)) := un2 (fun v1_3 M_4 => (if (26 : Int32) ≤ v1_3 then some (.inr M_4) else gd (ix v1_3 26) (bnd (sA M_4 43 v1_3.toNatClampNeg (0 : Int32)) (fun M_5 => gd (ix v1_3 26) (bnd (sA M_5 50 v1_3.toNatClampNeg (0 : Int32)) (fun M_6 => bnd (v1_3 + 1) (fun v1_7 => some (.inl (v1_7, M_6)))))))))
def s_X10_table_71_18 : (OV) → Option ((OV) ⊕ (OV)) := un1 (fun M_19 => (if (iv M_19 42) = 0 then (if (iv M_19 39) = 0 then some (.inr M_19) else (f_X10_takesWord M_19 (0 : Int32)).bind (un2 (fun r_20 M_21 => (if r_20 = 0 then (f_X10_needs M_21 (10 : Int32)).bind (un1 (fun M_23 => (if (iv M_23 42) = 0 then (f_X10_readsKeep M_23).bind (un1 (fun M_25 => some (.inl M_25))) else some (.inl M_23)))) else (f_X10_readsClass M_21).bind (un1 (fun M_27 => some (.inl M_27))))))) else some (.inr M_19)))
def s_X10_table_142_32 : (Int32 × OV) → Option ((Int32 × OV) ⊕ (OV)) := un2 (fun v1_33 M_34 => (if (26 : Int32) ≤ v1_33 then some (.inr M_34) else gd (ix v1_33 26) (gd (ix v1_33 26) (bnd (sA M_34 1 v1_33.toNatClampNeg (ar M_34 43 v1_33.toNatClampNeg)) (fun M_35 => gd (ix v1_33 26) (gd (ix v1_33 26) (bnd (sA M_35 2 v1_33.toNatClampNeg (vp_nar .boolean (ar M_35 44 v1_33.toNatClampNeg))) (fun M_36 => gd (ix v1_33 26) (gd (ix v1_33 26) (bnd (sA M_36 3 v1_33.toNatClampNeg (ar M_36 45 v1_33.toNatClampNeg)) (fun M_37 => gd (ix v1_33 26) (gd (ix v1_33 26) (bnd (sA M_37 4 v1_33.toNatClampNeg (ar M_37 46 v1_33.toNatClampNeg)) (fun M_38 => gd (ix v1_33 26) (gd (ix v1_33 26) (bnd (sA M_38 5 v1_33.toNatClampNeg (ar M_38 47 v1_33.toNatClampNeg)) (fun M_39 => gd (ix v1_33 26) (gd (ix v1_33 26) (bnd (sA M_39 6 v1_33.toNatClampNeg (ar M_39 48 v1_33.toNatClampNeg)) (fun M_40 => gd (ix v1_33 26) (gd (ix v1_33 26) (bnd (sA M_40 7 v1_33.toNatClampNeg (ar M_40 49 v1_33.toNatClampNeg)) (fun M_41 => gd (ix v1_33 26) (gd (ix ((87 : Int32) + v1_33) 113) (bnd (sA M_41 8 ((87 : Int32) + v1_33).toNatClampNeg (ar M_41 50 v1_33.toNatClampNeg)) (fun M_42 => bnd (v1_33 + 1) (fun v1_43 => some (.inl (v1_43, M_42)))))))))))))))))))))))))))))
def f_X10_table (M : OV) : Option (Int32 × OV) := bnd (0 : Int32) (fun v1_1 => ((lp (s_X10_table_2_2) 5000 (v1_1, M)).bind (un1 (fun M_8 => gd (ix (0 : Int32) 2) (bnd (sA M_8 51 (0 : Int32).toNatClampNeg (0 : Int32)) (fun M_9 => gd (ix (1 : Int32) 2) (bnd (sA M_9 51 (1 : Int32).toNatClampNeg (0 : Int32)) (fun M_10 => bnd (sI M_10 52 (0 : Int32)) (fun M_11 => bnd (sI M_11 53 (0 : Int32)) (fun M_12 => bnd (sI M_12 38 (0 : Int32)) (fun M_13 => bnd (sI M_13 39 (3 : Int32)) (fun M_14 => bnd (sI M_14 42 (0 : Int32)) (fun M_15 => (f_X10_goesOn M_15).bind (un1 (fun M_16 => ((lp (s_X10_table_71_18) 5000 M_16).bind (un1 (fun M_29 => bnd (sI M_29 36 (0 : Int32)) (fun M_30 => (if (iv M_30 42) = 0 then bnd (0 : Int32) (fun v1_31 => ((lp (s_X10_table_142_32) 5000 (v1_31, M_30)).bind (un1 (fun M_44 => gd (ix (0 : Int32) 2) (gd (ix (82 : Int32) 113) (bnd (sA M_44 8 (82 : Int32).toNatClampNeg (ar M_44 51 (0 : Int32).toNatClampNeg)) (fun M_45 => gd (ix (1 : Int32) 2) (gd (ix (83 : Int32) 113) (bnd (sA M_45 8 (83 : Int32).toNatClampNeg (ar M_45 51 (1 : Int32).toNatClampNeg)) (fun M_46 => gd (ix (0 : Int32) 113) (bnd (sA M_46 8 (0 : Int32).toNatClampNeg (0 : Int32)) (fun M_47 => bnd (sI M_47 11 (0 : Int32)) (fun M_48 => some ((iv M_48 52), M_48)))))))))))))) else some (((-4 : Int32) - (iv M_30 40)), M_30)))))))))))))))))))))
def r_X10_table : Room := { frames := 6, cells := 0, slots := 0, locals := 132 }
set_option maxHeartbeats 4000000 in
set_option maxRecDepth 100000 in
theorem c_X10_table (l : Launch) (D : va_G) (ev : EvT) (cy : Nat → ClassId) (oM : Nat) (aM : Nat → Nat) (M : OV) (o : Int32 × OV) (hf : f_X10_table M = some o) : Fn l yX10_table cX10_table 2 (some .int) r_X10_table D ev cy [.ref oM] [gX10 cy oM aM M] (fun v G => v = some (.int o.1) ∧ G = [gX10 cy oM aM o.2]) := by
  refine Fn_of (by decide) (Nat.le_of_ble_eq_true rfl) (fun X A Q h hQ _ => ?_)
  unfold f_X10_table at hf
  show ww X D A 2 Q 0 0 0 [(0, .ref oM)] [] [gX10 cy oM aM M]
  refine ww_iconst (v := 0) h dX10_table_0 (by decide) 1 rfl ?_
  refine ww_ist_n h dX10_table_1 rfl (by decide) (fun v1_1 => [(1, .int v1_1), (0, .ref oM)]) (fun _ => rfl) 2 rfl (fun v1_1 e => ?_)
  replace hf := bnd_at e hf
  clear e
  refine ww_lo [1, 0] (lo' := [(0, .ref oM), (1, .int v1_1)]) rfl ?_
  obtain ⟨M_8, h2, hf⟩ := ob1 hf
  refine lp_walk (un2 (fun v1_3 M_4 => ww X D A 2 Q 0 0 2 [(0, .ref oM), (1, .int v1_3)] [] [gX10 cy oM aM M_4])) (un1 (fun M_8 => ww X D A 2 Q 0 0 28 [(0, .ref oM)] [] [gX10 cy oM aM M_8])) ?_ _ _ _ h2 ?_
  · clear h2 hf
    intro s2 o2 hf hI2 hE2
    obtain ⟨v1_3, M_4⟩ := s2
    unfold s_X10_table_2_2 at hf
    replace hf := un2_e hf
    show ww X D A 2 Q 0 0 2 [(0, .ref oM), (1, .int v1_3)] [] [gX10 cy oM aM M_4]
    refine ww_iload_n h dX10_table_2 rfl 1 rfl 3 rfl ?_
    refine ww_bipush (v := 26) h dX10_table_3 (by decide) 5 rfl ?_
    refine ww_icmp_ge h dX10_table_5 28 (by decide) 8 rfl (fun c => ?_) (fun c => ?_)
    · replace hf := ite_t c hf
      refine ww_lo [0] (lo' := [(0, .ref oM)]) rfl ?_
      exact hE2 M_4 (Option.some.inj hf).symm
    · replace hf := ite_f c hf
      refine ww_aload_n h dX10_table_8 rfl 0 rfl 9 rfl ?_
      refine ww_get h inG10 rfl 0 rfl rfl 43 (by decide) w_1200 rfl dX10_table_9 12 rfl ?_
      refine ww_iload_n h dX10_table_12 rfl 1 rfl 13 rfl ?_
      refine ww_iconst (v := 0) h dX10_table_13 (by decide) 14 rfl ?_
      have hi := (gd_some hf).1
      replace hf := (gd_some hf).2
      refine ww_iast h 0 rfl 27 rfl (ix_in hi) dX10_table_14 15 rfl ?_
      clear hi
      refine ww_nm (fun z => [gX10 cy oM aM z]) (sA M_4 43 v1_3.toNatClampNeg (0 : Int32)) (fun M_5 e => ?_)
      replace hf := bnd_at e hf
      clear e
      refine ww_aload_n h dX10_table_15 rfl 0 rfl 16 rfl ?_
      refine ww_get h inG10 rfl 0 rfl rfl 50 (by decide) w_1207 rfl dX10_table_16 19 rfl ?_
      refine ww_iload_n h dX10_table_19 rfl 1 rfl 20 rfl ?_
      refine ww_iconst (v := 0) h dX10_table_20 (by decide) 21 rfl ?_
      have hi := (gd_some hf).1
      replace hf := (gd_some hf).2
      refine ww_iast h 0 rfl 34 rfl (ix_in hi) dX10_table_21 22 rfl ?_
      clear hi
      refine ww_nm (fun z => [gX10 cy oM aM z]) (sA M_5 50 v1_3.toNatClampNeg (0 : Int32)) (fun M_6 e => ?_)
      replace hf := bnd_at e hf
      clear e
      refine ww_inc (c := 1) h dX10_table_22 1 rfl (by decide) (by decide) (fun v1_7 => [(1, .int v1_7), (0, .ref oM)]) (fun _ => rfl) 25 rfl (fun v1_7 e => ?_)
      replace hf := bnd_at e hf
      clear e
      refine ww_goto h dX10_table_25 2 (by decide) ?_
      refine ww_lo [1, 0] (lo' := [(0, .ref oM), (1, .int v1_7)]) rfl ?_
      exact hI2 (v1_7, M_6) (Option.some.inj hf).symm
  · clear h2
    show ww X D A 2 Q 0 0 28 [(0, .ref oM)] [] [gX10 cy oM aM M_8]
    refine ww_aload_n h dX10_table_28 rfl 0 rfl 29 rfl ?_
    refine ww_get h inG10 rfl 0 rfl rfl 51 (by decide) w_1208 rfl dX10_table_29 32 rfl ?_
    refine ww_iconst (v := 0) h dX10_table_32 (by decide) 33 rfl ?_
    refine ww_iconst (v := 0) h dX10_table_33 (by decide) 34 rfl ?_
    have hi := (gd_some hf).1
    replace hf := (gd_some hf).2
    refine ww_iast h 0 rfl 35 rfl (ix_in hi) dX10_table_34 35 rfl ?_
    clear hi
    refine ww_nm (fun z => [gX10 cy oM aM z]) (sA M_8 51 (0 : Int32).toNatClampNeg (0 : Int32)) (fun M_9 e => ?_)
    replace hf := bnd_at e hf
    clear e
    refine ww_aload_n h dX10_table_35 rfl 0 rfl 36 rfl ?_
    refine ww_get h inG10 rfl 0 rfl rfl 51 (by decide) w_1208 rfl dX10_table_36 39 rfl ?_
    refine ww_iconst (v := 1) h dX10_table_39 (by decide) 40 rfl ?_
    refine ww_iconst (v := 0) h dX10_table_40 (by decide) 41 rfl ?_
    have hi := (gd_some hf).1
    replace hf := (gd_some hf).2
    refine ww_iast h 0 rfl 35 rfl (ix_in hi) dX10_table_41 42 rfl ?_
    clear hi
    refine ww_nm (fun z => [gX10 cy oM aM z]) (sA M_9 51 (1 : Int32).toNatClampNeg (0 : Int32)) (fun M_10 e => ?_)
    replace hf := bnd_at e hf
    clear e
    refine ww_aload_n h dX10_table_42 rfl 0 rfl 43 rfl ?_
    refine ww_iconst (v := 0) h dX10_table_43 (by decide) 44 rfl ?_
    refine ww_put (ty := .int) h inG10 tyX10_ok nmX10 rfl 0 rfl rfl 52 (by decide) w_1209 rfl (by decide +kernel) rfl rfl (Nat.le_of_ble_eq_true rfl) (Nat.le_of_ble_eq_true rfl) dX10_table_44 47 rfl ?_
    refine ww_nm (fun z => [gX10 cy oM aM z]) (sI M_10 52 (0 : Int32)) (fun M_11 e => ?_)
    replace hf := bnd_at e hf
    clear e
    refine ww_aload_n h dX10_table_47 rfl 0 rfl 48 rfl ?_
    refine ww_iconst (v := 0) h dX10_table_48 (by decide) 49 rfl ?_
    refine ww_put (ty := .int) h inG10 tyX10_ok nmX10 rfl 0 rfl rfl 53 (by decide) w_1210 rfl (by decide +kernel) rfl rfl (Nat.le_of_ble_eq_true rfl) (Nat.le_of_ble_eq_true rfl) dX10_table_49 52 rfl ?_
    refine ww_nm (fun z => [gX10 cy oM aM z]) (sI M_11 53 (0 : Int32)) (fun M_12 e => ?_)
    replace hf := bnd_at e hf
    clear e
    refine ww_aload_n h dX10_table_52 rfl 0 rfl 53 rfl ?_
    refine ww_iconst (v := 0) h dX10_table_53 (by decide) 54 rfl ?_
    refine ww_put (ty := .int) h inG10 tyX10_ok nmX10 rfl 0 rfl rfl 38 (by decide) w_1195 rfl (by decide +kernel) rfl rfl (Nat.le_of_ble_eq_true rfl) (Nat.le_of_ble_eq_true rfl) dX10_table_54 57 rfl ?_
    refine ww_nm (fun z => [gX10 cy oM aM z]) (sI M_12 38 (0 : Int32)) (fun M_13 e => ?_)
    replace hf := bnd_at e hf
    clear e
    refine ww_aload_n h dX10_table_57 rfl 0 rfl 58 rfl ?_
    refine ww_iconst (v := 3) h dX10_table_58 (by decide) 59 rfl ?_
    refine ww_put (ty := .int) h inG10 tyX10_ok nmX10 rfl 0 rfl rfl 39 (by decide) w_1196 rfl (by decide +kernel) rfl rfl (Nat.le_of_ble_eq_true rfl) (Nat.le_of_ble_eq_true rfl) dX10_table_59 62 rfl ?_
    refine ww_nm (fun z => [gX10 cy oM aM z]) (sI M_13 39 (3 : Int32)) (fun M_14 e => ?_)
    replace hf := bnd_at e hf
    clear e
    refine ww_aload_n h dX10_table_62 rfl 0 rfl 63 rfl ?_
    refine ww_iconst (v := 0) h dX10_table_63 (by decide) 64 rfl ?_
    refine ww_put (ty := .boolean) h inG10 tyX10_ok nmX10 rfl 0 rfl rfl 42 (by decide) w_1199 rfl (by decide +kernel) (by decide) (by decide) (Nat.le_of_ble_eq_true rfl) (Nat.le_of_ble_eq_true rfl) dX10_table_64 67 rfl ?_
    refine ww_nm (fun z => [gX10 cy oM aM z]) (sI M_14 42 (0 : Int32)) (fun M_15 e => ?_)
    replace hf := bnd_at e hf
    clear e
    refine ww_aload_n h dX10_table_67 rfl 0 rfl 68 rfl ?_
    obtain ⟨M_16, hu17, hf⟩ := ob1 hf
    refine ww_cVv h (c_X10_goesOn l D ev cy oM aM M_15 _ hu17) ⟨w_1718, w_1715, w_1717, w_87, w_111, ok_X10_goesOn⟩ ⟨by decide, by decide⟩ ⟨by decide, by decide⟩ ⟨rfl, rfl⟩ [0] rfl 0 rfl rfl rfl rfl (Nat.le_of_ble_eq_true rfl) dX10_table_68 71 rfl (Gs' := [gX10 cy oM aM M_16]) rfl ?_
    clear hu17
    obtain ⟨M_29, h18, hf⟩ := ob1 hf
    refine lp_walk (un1 (fun M_19 => ww X D A 2 Q 0 0 71 [(0, .ref oM)] [] [gX10 cy oM aM M_19])) (un1 (fun M_29 => ww X D A 2 Q 0 0 120 [(0, .ref oM)] [] [gX10 cy oM aM M_29])) ?_ _ _ _ h18 ?_
    · clear h18 hf
      intro s18 o18 hf hI18 hE18
      obtain ⟨M_19, rfl⟩ : ∃ z, z = s18 := ⟨_, rfl⟩
      unfold s_X10_table_71_18 at hf
      replace hf := un1_e hf
      show ww X D A 2 Q 0 0 71 [(0, .ref oM)] [] [gX10 cy oM aM M_19]
      refine ww_aload_n h dX10_table_71 rfl 0 rfl 72 rfl ?_
      refine ww_get h inG10 rfl 0 rfl rfl 42 (by decide) w_1199 rfl dX10_table_72 75 rfl ?_
      refine ww_if_ne h dX10_table_75 120 (by decide) 78 rfl (fun c => ?_) (fun c => ?_)
      · replace hf := ite_f c hf
        exact hE18 M_19 (Option.some.inj hf).symm
      · replace hf := ite_t c hf
        refine ww_aload_n h dX10_table_78 rfl 0 rfl 79 rfl ?_
        refine ww_get h inG10 rfl 0 rfl rfl 39 (by decide) w_1196 rfl dX10_table_79 82 rfl ?_
        refine ww_if_eq h dX10_table_82 120 (by decide) 85 rfl (fun c => ?_) (fun c => ?_)
        · replace hf := ite_t c hf
          exact hE18 M_19 (Option.some.inj hf).symm
        · replace hf := ite_f c hf
          refine ww_aload_n h dX10_table_85 rfl 0 rfl 86 rfl ?_
          refine ww_iconst (v := 0) h dX10_table_86 (by decide) 87 rfl ?_
          obtain ⟨r_20, M_21, hu22, hf⟩ := ob2 hf
          refine ww_cVi h (c_X10_takesWord l D ev cy oM aM M_19 (0 : Int32) _ hu22) ⟨w_1726, w_1723, w_1725, w_89, w_111, ok_X10_takesWord⟩ ⟨by decide, by decide⟩ ⟨by decide, by decide⟩ ⟨rfl, rfl⟩ [0] rfl 0 rfl rfl rfl rfl (Nat.le_of_ble_eq_true rfl) dX10_table_87 90 rfl (Gs' := [gX10 cy oM aM M_21]) rfl ?_
          clear hu22
          refine ww_if_eq h dX10_table_90 100 (by decide) 93 rfl (fun c => ?_) (fun c => ?_)
          · replace hf := ite_t c hf
            refine ww_aload_n h dX10_table_100 rfl 0 rfl 101 rfl ?_
            refine ww_bipush (v := 10) h dX10_table_101 (by decide) 103 rfl ?_
            obtain ⟨M_23, hu24, hf⟩ := ob1 hf
            refine ww_cVv h (c_X10_needs l D ev cy oM aM M_21 (10 : Int32) _ hu24) ⟨w_1742, w_1739, w_1741, w_93, w_111, ok_X10_needs⟩ ⟨by decide, by decide⟩ ⟨by decide, by decide⟩ ⟨rfl, rfl⟩ [0] rfl 0 rfl rfl rfl rfl (Nat.le_of_ble_eq_true rfl) dX10_table_103 106 rfl (Gs' := [gX10 cy oM aM M_23]) rfl ?_
            clear hu24
            refine ww_aload_n h dX10_table_106 rfl 0 rfl 107 rfl ?_
            refine ww_get h inG10 rfl 0 rfl rfl 42 (by decide) w_1199 rfl dX10_table_107 110 rfl ?_
            refine ww_if_ne h dX10_table_110 71 (by decide) 113 rfl (fun c => ?_) (fun c => ?_)
            · replace hf := ite_f c hf
              exact hI18 M_23 (Option.some.inj hf).symm
            · replace hf := ite_t c hf
              refine ww_aload_n h dX10_table_113 rfl 0 rfl 114 rfl ?_
              obtain ⟨M_25, hu26, hf⟩ := ob1 hf
              refine ww_cVv h (c_X10_readsKeep l D ev cy oM aM M_23 _ hu26) ⟨w_1762, w_1759, w_1761, w_98, w_111, ok_X10_readsKeep⟩ ⟨by decide, by decide⟩ ⟨by decide, by decide⟩ ⟨rfl, rfl⟩ [0] rfl 0 rfl rfl rfl rfl (Nat.le_of_ble_eq_true rfl) dX10_table_114 117 rfl (Gs' := [gX10 cy oM aM M_25]) rfl ?_
              clear hu26
              refine ww_goto h dX10_table_117 71 (by decide) ?_
              exact hI18 M_25 (Option.some.inj hf).symm
          · replace hf := ite_f c hf
            refine ww_aload_n h dX10_table_93 rfl 0 rfl 94 rfl ?_
            obtain ⟨M_27, hu28, hf⟩ := ob1 hf
            refine ww_cVv h (c_X10_readsClass l D ev cy oM aM M_21 _ hu28) ⟨w_1734, w_1731, w_1733, w_91, w_111, ok_X10_readsClass⟩ ⟨by decide, by decide⟩ ⟨by decide, by decide⟩ ⟨rfl, rfl⟩ [0] rfl 0 rfl rfl rfl rfl (Nat.le_of_ble_eq_true rfl) dX10_table_94 97 rfl (Gs' := [gX10 cy oM aM M_27]) rfl ?_
            clear hu28
            refine ww_goto h dX10_table_97 71 (by decide) ?_
            exact hI18 M_27 (Option.some.inj hf).symm
    · clear h18
      show ww X D A 2 Q 0 0 120 [(0, .ref oM)] [] [gX10 cy oM aM M_29]
      refine ww_aload_n h dX10_table_120 rfl 0 rfl 121 rfl ?_
      refine ww_iconst (v := 0) h dX10_table_121 (by decide) 122 rfl ?_
      refine ww_put (ty := .int) h inG10 tyX10_ok nmX10 rfl 0 rfl rfl 36 (by decide) w_1193 rfl (by decide +kernel) rfl rfl (Nat.le_of_ble_eq_true rfl) (Nat.le_of_ble_eq_true rfl) dX10_table_122 125 rfl ?_
      refine ww_nm (fun z => [gX10 cy oM aM z]) (sI M_29 36 (0 : Int32)) (fun M_30 e => ?_)
      replace hf := bnd_at e hf
      clear e
      refine ww_aload_n h dX10_table_125 rfl 0 rfl 126 rfl ?_
      refine ww_get h inG10 rfl 0 rfl rfl 42 (by decide) w_1199 rfl dX10_table_126 129 rfl ?_
      refine ww_if_eq h dX10_table_129 140 (by decide) 132 rfl (fun c => ?_) (fun c => ?_)
      · replace hf := ite_t c hf
        refine ww_iconst (v := 0) h dX10_table_140 (by decide) 141 rfl ?_
        refine ww_ist_n h dX10_table_141 rfl (by decide) (fun v1_31 => [(1, .int v1_31), (0, .ref oM)]) (fun _ => rfl) 142 rfl (fun v1_31 e => ?_)
        replace hf := bnd_at e hf
        clear e
        refine ww_lo [1, 0] (lo' := [(0, .ref oM), (1, .int v1_31)]) rfl ?_
        obtain ⟨M_44, h32, hf⟩ := ob1 hf
        refine lp_walk (un2 (fun v1_33 M_34 => ww X D A 2 Q 0 0 142 [(0, .ref oM), (1, .int v1_33)] [] [gX10 cy oM aM M_34])) (un1 (fun M_44 => ww X D A 2 Q 0 0 253 [(0, .ref oM)] [] [gX10 cy oM aM M_44])) ?_ _ _ _ h32 ?_
        · clear h32 hf
          intro s32 o32 hf hI32 hE32
          obtain ⟨v1_33, M_34⟩ := s32
          unfold s_X10_table_142_32 at hf
          replace hf := un2_e hf
          show ww X D A 2 Q 0 0 142 [(0, .ref oM), (1, .int v1_33)] [] [gX10 cy oM aM M_34]
          refine ww_iload_n h dX10_table_142 rfl 1 rfl 143 rfl ?_
          refine ww_bipush (v := 26) h dX10_table_143 (by decide) 145 rfl ?_
          refine ww_icmp_ge h dX10_table_145 253 (by decide) 148 rfl (fun c => ?_) (fun c => ?_)
          · replace hf := ite_t c hf
            refine ww_lo [0] (lo' := [(0, .ref oM)]) rfl ?_
            exact hE32 M_34 (Option.some.inj hf).symm
          · replace hf := ite_f c hf
            refine ww_aload_n h dX10_table_148 rfl 0 rfl 149 rfl ?_
            refine ww_get h inG10 rfl 0 rfl rfl 1 (by decide) w_1158 rfl dX10_table_149 152 rfl ?_
            refine ww_iload_n h dX10_table_152 rfl 1 rfl 153 rfl ?_
            refine ww_aload_n h dX10_table_153 rfl 0 rfl 154 rfl ?_
            refine ww_get h inG10 rfl 0 rfl rfl 43 (by decide) w_1200 rfl dX10_table_154 157 rfl ?_
            refine ww_iload_n h dX10_table_157 rfl 1 rfl 158 rfl ?_
            have hi := (gd_some hf).1
            replace hf := (gd_some hf).2
            refine ww_iald h 0 rfl 27 rfl (ix_in hi) dX10_table_158 159 rfl ?_
            clear hi
            have hi := (gd_some hf).1
            replace hf := (gd_some hf).2
            refine ww_iast h 0 rfl 1 rfl (ix_in hi) dX10_table_159 160 rfl ?_
            clear hi
            refine ww_nm (fun z => [gX10 cy oM aM z]) (sA M_34 1 v1_33.toNatClampNeg (ar M_34 43 v1_33.toNatClampNeg)) (fun M_35 e => ?_)
            replace hf := bnd_at e hf
            clear e
            refine ww_aload_n h dX10_table_160 rfl 0 rfl 161 rfl ?_
            refine ww_get h inG10 rfl 0 rfl rfl 2 (by decide) w_1159 rfl dX10_table_161 164 rfl ?_
            refine ww_iload_n h dX10_table_164 rfl 1 rfl 165 rfl ?_
            refine ww_aload_n h dX10_table_165 rfl 0 rfl 166 rfl ?_
            refine ww_get h inG10 rfl 0 rfl rfl 44 (by decide) w_1201 rfl dX10_table_166 169 rfl ?_
            refine ww_iload_n h dX10_table_169 rfl 1 rfl 170 rfl ?_
            have hi := (gd_some hf).1
            replace hf := (gd_some hf).2
            refine ww_zald h 0 rfl 28 rfl (ix_in hi) dX10_table_170 171 rfl ?_
            clear hi
            have hi := (gd_some hf).1
            replace hf := (gd_some hf).2
            refine ww_zast h 0 rfl 2 rfl (ix_in hi) dX10_table_171 172 rfl ?_
            clear hi
            refine ww_nm (fun z => [gX10 cy oM aM z]) (sA M_35 2 v1_33.toNatClampNeg (vp_nar .boolean (ar M_35 44 v1_33.toNatClampNeg))) (fun M_36 e => ?_)
            replace hf := bnd_at e hf
            clear e
            refine ww_aload_n h dX10_table_172 rfl 0 rfl 173 rfl ?_
            refine ww_get h inG10 rfl 0 rfl rfl 3 (by decide) w_1160 rfl dX10_table_173 176 rfl ?_
            refine ww_iload_n h dX10_table_176 rfl 1 rfl 177 rfl ?_
            refine ww_aload_n h dX10_table_177 rfl 0 rfl 178 rfl ?_
            refine ww_get h inG10 rfl 0 rfl rfl 45 (by decide) w_1202 rfl dX10_table_178 181 rfl ?_
            refine ww_iload_n h dX10_table_181 rfl 1 rfl 182 rfl ?_
            have hi := (gd_some hf).1
            replace hf := (gd_some hf).2
            refine ww_iald h 0 rfl 29 rfl (ix_in hi) dX10_table_182 183 rfl ?_
            clear hi
            have hi := (gd_some hf).1
            replace hf := (gd_some hf).2
            refine ww_iast h 0 rfl 3 rfl (ix_in hi) dX10_table_183 184 rfl ?_
            clear hi
            refine ww_nm (fun z => [gX10 cy oM aM z]) (sA M_36 3 v1_33.toNatClampNeg (ar M_36 45 v1_33.toNatClampNeg)) (fun M_37 e => ?_)
            replace hf := bnd_at e hf
            clear e
            refine ww_aload_n h dX10_table_184 rfl 0 rfl 185 rfl ?_
            refine ww_get h inG10 rfl 0 rfl rfl 4 (by decide) w_1161 rfl dX10_table_185 188 rfl ?_
            refine ww_iload_n h dX10_table_188 rfl 1 rfl 189 rfl ?_
            refine ww_aload_n h dX10_table_189 rfl 0 rfl 190 rfl ?_
            refine ww_get h inG10 rfl 0 rfl rfl 46 (by decide) w_1203 rfl dX10_table_190 193 rfl ?_
            refine ww_iload_n h dX10_table_193 rfl 1 rfl 194 rfl ?_
            have hi := (gd_some hf).1
            replace hf := (gd_some hf).2
            refine ww_iald h 0 rfl 30 rfl (ix_in hi) dX10_table_194 195 rfl ?_
            clear hi
            have hi := (gd_some hf).1
            replace hf := (gd_some hf).2
            refine ww_iast h 0 rfl 4 rfl (ix_in hi) dX10_table_195 196 rfl ?_
            clear hi
            refine ww_nm (fun z => [gX10 cy oM aM z]) (sA M_37 4 v1_33.toNatClampNeg (ar M_37 46 v1_33.toNatClampNeg)) (fun M_38 e => ?_)
            replace hf := bnd_at e hf
            clear e
            refine ww_aload_n h dX10_table_196 rfl 0 rfl 197 rfl ?_
            refine ww_get h inG10 rfl 0 rfl rfl 5 (by decide) w_1162 rfl dX10_table_197 200 rfl ?_
            refine ww_iload_n h dX10_table_200 rfl 1 rfl 201 rfl ?_
            refine ww_aload_n h dX10_table_201 rfl 0 rfl 202 rfl ?_
            refine ww_get h inG10 rfl 0 rfl rfl 47 (by decide) w_1204 rfl dX10_table_202 205 rfl ?_
            refine ww_iload_n h dX10_table_205 rfl 1 rfl 206 rfl ?_
            have hi := (gd_some hf).1
            replace hf := (gd_some hf).2
            refine ww_iald h 0 rfl 31 rfl (ix_in hi) dX10_table_206 207 rfl ?_
            clear hi
            have hi := (gd_some hf).1
            replace hf := (gd_some hf).2
            refine ww_iast h 0 rfl 5 rfl (ix_in hi) dX10_table_207 208 rfl ?_
            clear hi
            refine ww_nm (fun z => [gX10 cy oM aM z]) (sA M_38 5 v1_33.toNatClampNeg (ar M_38 47 v1_33.toNatClampNeg)) (fun M_39 e => ?_)
            replace hf := bnd_at e hf
            clear e
            refine ww_aload_n h dX10_table_208 rfl 0 rfl 209 rfl ?_
            refine ww_get h inG10 rfl 0 rfl rfl 6 (by decide) w_1163 rfl dX10_table_209 212 rfl ?_
            refine ww_iload_n h dX10_table_212 rfl 1 rfl 213 rfl ?_
            refine ww_aload_n h dX10_table_213 rfl 0 rfl 214 rfl ?_
            refine ww_get h inG10 rfl 0 rfl rfl 48 (by decide) w_1205 rfl dX10_table_214 217 rfl ?_
            refine ww_iload_n h dX10_table_217 rfl 1 rfl 218 rfl ?_
            have hi := (gd_some hf).1
            replace hf := (gd_some hf).2
            refine ww_iald h 0 rfl 32 rfl (ix_in hi) dX10_table_218 219 rfl ?_
            clear hi
            have hi := (gd_some hf).1
            replace hf := (gd_some hf).2
            refine ww_iast h 0 rfl 6 rfl (ix_in hi) dX10_table_219 220 rfl ?_
            clear hi
            refine ww_nm (fun z => [gX10 cy oM aM z]) (sA M_39 6 v1_33.toNatClampNeg (ar M_39 48 v1_33.toNatClampNeg)) (fun M_40 e => ?_)
            replace hf := bnd_at e hf
            clear e
            refine ww_aload_n h dX10_table_220 rfl 0 rfl 221 rfl ?_
            refine ww_get h inG10 rfl 0 rfl rfl 7 (by decide) w_1164 rfl dX10_table_221 224 rfl ?_
            refine ww_iload_n h dX10_table_224 rfl 1 rfl 225 rfl ?_
            refine ww_aload_n h dX10_table_225 rfl 0 rfl 226 rfl ?_
            refine ww_get h inG10 rfl 0 rfl rfl 49 (by decide) w_1206 rfl dX10_table_226 229 rfl ?_
            refine ww_iload_n h dX10_table_229 rfl 1 rfl 230 rfl ?_
            have hi := (gd_some hf).1
            replace hf := (gd_some hf).2
            refine ww_iald h 0 rfl 33 rfl (ix_in hi) dX10_table_230 231 rfl ?_
            clear hi
            have hi := (gd_some hf).1
            replace hf := (gd_some hf).2
            refine ww_iast h 0 rfl 7 rfl (ix_in hi) dX10_table_231 232 rfl ?_
            clear hi
            refine ww_nm (fun z => [gX10 cy oM aM z]) (sA M_40 7 v1_33.toNatClampNeg (ar M_40 49 v1_33.toNatClampNeg)) (fun M_41 e => ?_)
            replace hf := bnd_at e hf
            clear e
            refine ww_aload_n h dX10_table_232 rfl 0 rfl 233 rfl ?_
            refine ww_get h inG10 rfl 0 rfl rfl 8 (by decide) w_1165 rfl dX10_table_233 236 rfl ?_
            refine ww_bipush (v := 87) h dX10_table_236 (by decide) 238 rfl ?_
            refine ww_iload_n h dX10_table_238 rfl 1 rfl 239 rfl ?_
            refine ww_iadd h dX10_table_239 240 rfl ?_
            refine ww_aload_n h dX10_table_240 rfl 0 rfl 241 rfl ?_
            refine ww_get h inG10 rfl 0 rfl rfl 50 (by decide) w_1207 rfl dX10_table_241 244 rfl ?_
            refine ww_iload_n h dX10_table_244 rfl 1 rfl 245 rfl ?_
            have hi := (gd_some hf).1
            replace hf := (gd_some hf).2
            refine ww_iald h 0 rfl 34 rfl (ix_in hi) dX10_table_245 246 rfl ?_
            clear hi
            have hi := (gd_some hf).1
            replace hf := (gd_some hf).2
            refine ww_iast h 0 rfl 8 rfl (ix_in hi) dX10_table_246 247 rfl ?_
            clear hi
            refine ww_nm (fun z => [gX10 cy oM aM z]) (sA M_41 8 ((87 : Int32) + v1_33).toNatClampNeg (ar M_41 50 v1_33.toNatClampNeg)) (fun M_42 e => ?_)
            replace hf := bnd_at e hf
            clear e
            refine ww_inc (c := 1) h dX10_table_247 1 rfl (by decide) (by decide) (fun v1_43 => [(1, .int v1_43), (0, .ref oM)]) (fun _ => rfl) 250 rfl (fun v1_43 e => ?_)
            replace hf := bnd_at e hf
            clear e
            refine ww_goto h dX10_table_250 142 (by decide) ?_
            refine ww_lo [1, 0] (lo' := [(0, .ref oM), (1, .int v1_43)]) rfl ?_
            exact hI32 (v1_43, M_42) (Option.some.inj hf).symm
        · clear h32
          show ww X D A 2 Q 0 0 253 [(0, .ref oM)] [] [gX10 cy oM aM M_44]
          refine ww_aload_n h dX10_table_253 rfl 0 rfl 254 rfl ?_
          refine ww_get h inG10 rfl 0 rfl rfl 8 (by decide) w_1165 rfl dX10_table_254 257 rfl ?_
          refine ww_bipush (v := 82) h dX10_table_257 (by decide) 259 rfl ?_
          refine ww_aload_n h dX10_table_259 rfl 0 rfl 260 rfl ?_
          refine ww_get h inG10 rfl 0 rfl rfl 51 (by decide) w_1208 rfl dX10_table_260 263 rfl ?_
          refine ww_iconst (v := 0) h dX10_table_263 (by decide) 264 rfl ?_
          have hi := (gd_some hf).1
          replace hf := (gd_some hf).2
          refine ww_iald h 0 rfl 35 rfl (ix_in hi) dX10_table_264 265 rfl ?_
          clear hi
          have hi := (gd_some hf).1
          replace hf := (gd_some hf).2
          refine ww_iast h 0 rfl 8 rfl (ix_in hi) dX10_table_265 266 rfl ?_
          clear hi
          refine ww_nm (fun z => [gX10 cy oM aM z]) (sA M_44 8 (82 : Int32).toNatClampNeg (ar M_44 51 (0 : Int32).toNatClampNeg)) (fun M_45 e => ?_)
          replace hf := bnd_at e hf
          clear e
          refine ww_aload_n h dX10_table_266 rfl 0 rfl 267 rfl ?_
          refine ww_get h inG10 rfl 0 rfl rfl 8 (by decide) w_1165 rfl dX10_table_267 270 rfl ?_
          refine ww_bipush (v := 83) h dX10_table_270 (by decide) 272 rfl ?_
          refine ww_aload_n h dX10_table_272 rfl 0 rfl 273 rfl ?_
          refine ww_get h inG10 rfl 0 rfl rfl 51 (by decide) w_1208 rfl dX10_table_273 276 rfl ?_
          refine ww_iconst (v := 1) h dX10_table_276 (by decide) 277 rfl ?_
          have hi := (gd_some hf).1
          replace hf := (gd_some hf).2
          refine ww_iald h 0 rfl 35 rfl (ix_in hi) dX10_table_277 278 rfl ?_
          clear hi
          have hi := (gd_some hf).1
          replace hf := (gd_some hf).2
          refine ww_iast h 0 rfl 8 rfl (ix_in hi) dX10_table_278 279 rfl ?_
          clear hi
          refine ww_nm (fun z => [gX10 cy oM aM z]) (sA M_45 8 (83 : Int32).toNatClampNeg (ar M_45 51 (1 : Int32).toNatClampNeg)) (fun M_46 e => ?_)
          replace hf := bnd_at e hf
          clear e
          refine ww_aload_n h dX10_table_279 rfl 0 rfl 280 rfl ?_
          refine ww_get h inG10 rfl 0 rfl rfl 8 (by decide) w_1165 rfl dX10_table_280 283 rfl ?_
          refine ww_iconst (v := 0) h dX10_table_283 (by decide) 284 rfl ?_
          refine ww_iconst (v := 0) h dX10_table_284 (by decide) 285 rfl ?_
          have hi := (gd_some hf).1
          replace hf := (gd_some hf).2
          refine ww_iast h 0 rfl 8 rfl (ix_in hi) dX10_table_285 286 rfl ?_
          clear hi
          refine ww_nm (fun z => [gX10 cy oM aM z]) (sA M_46 8 (0 : Int32).toNatClampNeg (0 : Int32)) (fun M_47 e => ?_)
          replace hf := bnd_at e hf
          clear e
          refine ww_aload_n h dX10_table_286 rfl 0 rfl 287 rfl ?_
          refine ww_iconst (v := 0) h dX10_table_287 (by decide) 288 rfl ?_
          refine ww_put (ty := .int) h inG10 tyX10_ok nmX10 rfl 0 rfl rfl 11 (by decide) w_1168 rfl (by decide +kernel) rfl rfl (Nat.le_of_ble_eq_true rfl) (Nat.le_of_ble_eq_true rfl) dX10_table_288 291 rfl ?_
          refine ww_nm (fun z => [gX10 cy oM aM z]) (sI M_47 11 (0 : Int32)) (fun M_48 e => ?_)
          replace hf := bnd_at e hf
          clear e
          refine ww_aload_n h dX10_table_291 rfl 0 rfl 292 rfl ?_
          refine ww_get h inG10 rfl 0 rfl rfl 52 (by decide) w_1209 rfl dX10_table_292 295 rfl ?_
          obtain rfl := Option.some.inj hf
          exact ww_iret h dX10_table_295 hQ ⟨rfl, rfl⟩
      · replace hf := ite_f c hf
        refine ww_bipush (v := (-4)) h dX10_table_132 (by decide) 134 rfl ?_
        refine ww_aload_n h dX10_table_134 rfl 0 rfl 135 rfl ?_
        refine ww_get h inG10 rfl 0 rfl rfl 40 (by decide) w_1197 rfl dX10_table_135 138 rfl ?_
        refine ww_isub h dX10_table_138 139 rfl ?_
        obtain rfl := Option.some.inj hf
        exact ww_iret h dX10_table_139 hQ ⟨rfl, rfl⟩
