theorem dX10_limitOf_0 : decode cX10_limitOf 0 = .ok (.iload_n 1, 1) := by decide +kernel
theorem dX10_limitOf_1 : decode cX10_limitOf 1 = .ok (.istore_n 2, 1) := by decide +kernel
theorem dX10_limitOf_2 : decode cX10_limitOf 2 = .ok (.iload_n 2, 1) := by decide +kernel
theorem dX10_limitOf_3 : decode cX10_limitOf 3 = .ok (.aload_n 0, 1) := by decide +kernel
theorem dX10_limitOf_4 : decode cX10_limitOf 4 = .ok (.invokevirtual 132, 3) := by decide +kernel
theorem dX10_limitOf_7 : decode cX10_limitOf 7 = .ok (.iconst 1, 1) := by decide +kernel
theorem dX10_limitOf_8 : decode cX10_limitOf 8 = .ok (.isub, 1) := by decide +kernel
theorem dX10_limitOf_9 : decode cX10_limitOf 9 = .ok (.if_icmp .ge 18, 3) := by decide +kernel
theorem dX10_limitOf_12 : decode cX10_limitOf 12 = .ok (.aload_n 0, 1) := by decide +kernel
theorem dX10_limitOf_13 : decode cX10_limitOf 13 = .ok (.iload_n 2, 1) := by decide +kernel
theorem dX10_limitOf_14 : decode cX10_limitOf 14 = .ok (.invokevirtual 173, 3) := by decide +kernel
theorem dX10_limitOf_17 : decode cX10_limitOf 17 = .ok (.iconst 1, 1) := by decide +kernel
theorem dX10_limitOf_18 : decode cX10_limitOf 18 = .ok (.if_icmp .eq 9, 3) := by decide +kernel
theorem dX10_limitOf_21 : decode cX10_limitOf 21 = .ok (.iinc 2 1, 3) := by decide +kernel
theorem dX10_limitOf_24 : decode cX10_limitOf 24 = .ok (.goto (-22), 3) := by decide +kernel
theorem dX10_limitOf_27 : decode cX10_limitOf 27 = .ok (.iload_n 2, 1) := by decide +kernel
theorem dX10_limitOf_28 : decode cX10_limitOf 28 = .ok (.ireturn, 1) := by decide +kernel
theorem ok_X10_limitOf : okY RX10 yX10_limitOf 1 := ⟨rfl, by decide, by decide, by decide +kernel⟩
def s_X10_limitOf_2_2 (M : OV) : (Int32) → Option ((Int32) ⊕ (Int32)) := un1 (fun v2_3 => (f_X10_many M).bind (un1 (fun r_4 => (if (r_4 - (1 : Int32)) ≤ v2_3 then some (.inr v2_3) else (f_X10_markOf M v2_3).bind (un1 (fun r_6 => (if r_6 = (1 : Int32) then some (.inr v2_3) else bnd (v2_3 + 1) (fun v2_8 => some (.inl v2_8)))))))))
def f_X10_limitOf (M : OV) (p0 : Int32) : Option (Int32) := bnd p0 (fun v2_1 => ((lp (s_X10_limitOf_2_2 M) 5000 v2_1).bind (un1 (fun v2_9 => some v2_9))))
def r_X10_limitOf : Room := { frames := 1, cells := 0, slots := 0, locals := 21 }
set_option maxHeartbeats 4000000 in
set_option maxRecDepth 100000 in
theorem c_X10_limitOf (l : Launch) (D : va_G) (ev : EvT) (cy : Nat → ClassId) (oM : Nat) (aM : Nat → Nat) (M : OV) (p0 : Int32) (o : Int32) (hf : f_X10_limitOf M p0 = some o) : Fn l yX10_limitOf cX10_limitOf 3 (some .int) r_X10_limitOf D ev cy [.ref oM, .int p0] [gX10 cy oM aM M] (fun v G => v = some (.int o) ∧ G = [gX10 cy oM aM M]) := by
  refine Fn_of (by decide) (Nat.le_of_ble_eq_true rfl) (fun X A Q h hQ _ => ?_)
  unfold f_X10_limitOf at hf
  show ww X D A 3 Q 0 0 0 [(0, .ref oM), (1, .int p0)] [] [gX10 cy oM aM M]
  refine ww_iload_n h dX10_limitOf_0 rfl 1 rfl 1 rfl ?_
  refine ww_ist_n h dX10_limitOf_1 rfl (by decide) (fun v2_1 => [(2, .int v2_1), (0, .ref oM), (1, .int p0)]) (fun _ => rfl) 2 rfl (fun v2_1 e => ?_)
  replace hf := bnd_at e hf
  clear e
  refine ww_lo [1, 0] (lo' := [(0, .ref oM), (2, .int v2_1)]) rfl ?_
  obtain ⟨v2_9, h2, hf⟩ := ob1 hf
  refine lp_walk (un1 (fun v2_3 => ww X D A 3 Q 0 0 2 [(0, .ref oM), (2, .int v2_3)] [] [gX10 cy oM aM M])) (un1 (fun v2_9 => ww X D A 3 Q 0 0 27 [(2, .int v2_9)] [] [gX10 cy oM aM M])) ?_ _ _ _ h2 ?_
  · clear h2 hf
    intro s2 o2 hf hI2 hE2
    obtain ⟨v2_3, rfl⟩ : ∃ z, z = s2 := ⟨_, rfl⟩
    unfold s_X10_limitOf_2_2 at hf
    replace hf := un1_e hf
    show ww X D A 3 Q 0 0 2 [(0, .ref oM), (2, .int v2_3)] [] [gX10 cy oM aM M]
    refine ww_iload_n h dX10_limitOf_2 rfl 1 rfl 3 rfl ?_
    refine ww_aload_n h dX10_limitOf_3 rfl 0 rfl 4 rfl ?_
    obtain ⟨r_4, hu5, hf⟩ := ob1 hf
    refine ww_cVi h (c_X10_many l D ev cy oM aM M _ hu5) ⟨w_1330, w_1327, w_1329, w_37, w_111, ok_X10_many⟩ ⟨by decide, by decide⟩ ⟨by decide, by decide⟩ ⟨rfl, rfl⟩ [0] rfl 0 rfl rfl rfl rfl (Nat.le_of_ble_eq_true rfl) dX10_limitOf_4 7 rfl (Gs' := [gX10 cy oM aM M]) rfl ?_
    clear hu5
    refine ww_iconst (v := 1) h dX10_limitOf_7 (by decide) 8 rfl ?_
    refine ww_isub h dX10_limitOf_8 9 rfl ?_
    refine ww_icmp_ge h dX10_limitOf_9 27 (by decide) 12 rfl (fun c => ?_) (fun c => ?_)
    · replace hf := ite_t c hf
      refine ww_lo [1] (lo' := [(2, .int v2_3)]) rfl ?_
      exact hE2 v2_3 (Option.some.inj hf).symm
    · replace hf := ite_f c hf
      refine ww_aload_n h dX10_limitOf_12 rfl 0 rfl 13 rfl ?_
      refine ww_iload_n h dX10_limitOf_13 rfl 1 rfl 14 rfl ?_
      obtain ⟨r_6, hu7, hf⟩ := ob1 hf
      refine ww_cVi h (c_X10_markOf l D ev cy oM aM M v2_3 _ hu7) ⟨w_1393, w_1390, w_1392, w_47, w_111, ok_X10_markOf⟩ ⟨by decide, by decide⟩ ⟨by decide, by decide⟩ ⟨rfl, rfl⟩ [0] rfl 0 rfl rfl rfl rfl (Nat.le_of_ble_eq_true rfl) dX10_limitOf_14 17 rfl (Gs' := [gX10 cy oM aM M]) rfl ?_
      clear hu7
      refine ww_iconst (v := 1) h dX10_limitOf_17 (by decide) 18 rfl ?_
      refine ww_icmp_eq h dX10_limitOf_18 27 (by decide) 21 rfl (fun c => ?_) (fun c => ?_)
      · replace hf := ite_t c hf
        refine ww_lo [1] (lo' := [(2, .int v2_3)]) rfl ?_
        exact hE2 v2_3 (Option.some.inj hf).symm
      · replace hf := ite_f c hf
        refine ww_inc (c := 1) h dX10_limitOf_21 1 rfl (by decide) (by decide) (fun v2_8 => [(2, .int v2_8), (0, .ref oM)]) (fun _ => rfl) 24 rfl (fun v2_8 e => ?_)
        replace hf := bnd_at e hf
        clear e
        refine ww_goto h dX10_limitOf_24 2 (by decide) ?_
        refine ww_lo [1, 0] (lo' := [(0, .ref oM), (2, .int v2_8)]) rfl ?_
        exact hI2 v2_8 (Option.some.inj hf).symm
  · clear h2
    show ww X D A 3 Q 0 0 27 [(2, .int v2_9)] [] [gX10 cy oM aM M]
    refine ww_iload_n h dX10_limitOf_27 rfl 0 rfl 28 rfl ?_
    obtain rfl := Option.some.inj hf
    exact ww_iret h dX10_limitOf_28 hQ ⟨rfl, rfl⟩
theorem dX10_laysBest_0 : decode cX10_laysBest 0 = .ok (.aload_n 0, 1) := by decide +kernel
theorem dX10_laysBest_1 : decode cX10_laysBest 1 = .ok (.getfield 48, 3) := by decide +kernel
theorem dX10_laysBest_4 : decode cX10_laysBest 4 = .ok (.aload_n 0, 1) := by decide +kernel
theorem dX10_laysBest_5 : decode cX10_laysBest 5 = .ok (.invokevirtual 132, 3) := by decide +kernel
theorem dX10_laysBest_8 : decode cX10_laysBest 8 = .ok (.iconst 0, 1) := by decide +kernel
theorem dX10_laysBest_9 : decode cX10_laysBest 9 = .ok (.iastore, 1) := by decide +kernel
theorem dX10_laysBest_10 : decode cX10_laysBest 10 = .ok (.aload_n 0, 1) := by decide +kernel
theorem dX10_laysBest_11 : decode cX10_laysBest 11 = .ok (.getfield 51, 3) := by decide +kernel
theorem dX10_laysBest_14 : decode cX10_laysBest 14 = .ok (.aload_n 0, 1) := by decide +kernel
theorem dX10_laysBest_15 : decode cX10_laysBest 15 = .ok (.invokevirtual 132, 3) := by decide +kernel
theorem dX10_laysBest_18 : decode cX10_laysBest 18 = .ok (.iconst 0, 1) := by decide +kernel
theorem dX10_laysBest_19 : decode cX10_laysBest 19 = .ok (.iastore, 1) := by decide +kernel
theorem dX10_laysBest_20 : decode cX10_laysBest 20 = .ok (.aload_n 0, 1) := by decide +kernel
theorem dX10_laysBest_21 : decode cX10_laysBest 21 = .ok (.invokevirtual 132, 3) := by decide +kernel
theorem dX10_laysBest_24 : decode cX10_laysBest 24 = .ok (.iconst 1, 1) := by decide +kernel
theorem dX10_laysBest_25 : decode cX10_laysBest 25 = .ok (.isub, 1) := by decide +kernel
theorem dX10_laysBest_26 : decode cX10_laysBest 26 = .ok (.istore_n 2, 1) := by decide +kernel
theorem dX10_laysBest_27 : decode cX10_laysBest 27 = .ok (.iload_n 2, 1) := by decide +kernel
theorem dX10_laysBest_28 : decode cX10_laysBest 28 = .ok (.ifCond .lt 188, 3) := by decide +kernel
theorem dX10_laysBest_31 : decode cX10_laysBest 31 = .ok (.aload_n 0, 1) := by decide +kernel
theorem dX10_laysBest_32 : decode cX10_laysBest 32 = .ok (.getfield 48, 3) := by decide +kernel
theorem dX10_laysBest_35 : decode cX10_laysBest 35 = .ok (.iload_n 2, 1) := by decide +kernel
theorem dX10_laysBest_36 : decode cX10_laysBest 36 = .ok (.iconst (-1), 1) := by decide +kernel
theorem dX10_laysBest_37 : decode cX10_laysBest 37 = .ok (.iastore, 1) := by decide +kernel
theorem dX10_laysBest_38 : decode cX10_laysBest 38 = .ok (.aload_n 0, 1) := by decide +kernel
theorem dX10_laysBest_39 : decode cX10_laysBest 39 = .ok (.iload_n 2, 1) := by decide +kernel
theorem dX10_laysBest_40 : decode cX10_laysBest 40 = .ok (.invokevirtual 228, 3) := by decide +kernel
theorem dX10_laysBest_43 : decode cX10_laysBest 43 = .ok (.istore_n 3, 1) := by decide +kernel
theorem dX10_laysBest_44 : decode cX10_laysBest 44 = .ok (.iload_n 2, 1) := by decide +kernel
theorem dX10_laysBest_45 : decode cX10_laysBest 45 = .ok (.istore 4, 2) := by decide +kernel
theorem dX10_laysBest_47 : decode cX10_laysBest 47 = .ok (.iload 4, 2) := by decide +kernel
theorem dX10_laysBest_49 : decode cX10_laysBest 49 = .ok (.iload_n 3, 1) := by decide +kernel
theorem dX10_laysBest_50 : decode cX10_laysBest 50 = .ok (.if_icmp .gt 160, 3) := by decide +kernel
theorem dX10_laysBest_53 : decode cX10_laysBest 53 = .ok (.aload_n 0, 1) := by decide +kernel
theorem dX10_laysBest_54 : decode cX10_laysBest 54 = .ok (.getfield 45, 3) := by decide +kernel
theorem dX10_laysBest_57 : decode cX10_laysBest 57 = .ok (.bipush 40, 2) := by decide +kernel
theorem dX10_laysBest_59 : decode cX10_laysBest 59 = .ok (.iload_n 2, 1) := by decide +kernel
theorem dX10_laysBest_60 : decode cX10_laysBest 60 = .ok (.imul, 1) := by decide +kernel
theorem dX10_laysBest_61 : decode cX10_laysBest 61 = .ok (.iload 4, 2) := by decide +kernel
theorem dX10_laysBest_63 : decode cX10_laysBest 63 = .ok (.iadd, 1) := by decide +kernel
theorem dX10_laysBest_64 : decode cX10_laysBest 64 = .ok (.iaload, 1) := by decide +kernel
theorem dX10_laysBest_65 : decode cX10_laysBest 65 = .ok (.istore 5, 2) := by decide +kernel
theorem dX10_laysBest_67 : decode cX10_laysBest 67 = .ok (.iload 5, 2) := by decide +kernel
theorem dX10_laysBest_69 : decode cX10_laysBest 69 = .ok (.iconst (-1), 1) := by decide +kernel
theorem dX10_laysBest_70 : decode cX10_laysBest 70 = .ok (.if_icmp .eq 134, 3) := by decide +kernel
theorem dX10_laysBest_73 : decode cX10_laysBest 73 = .ok (.iload 5, 2) := by decide +kernel
theorem dX10_laysBest_75 : decode cX10_laysBest 75 = .ok (.iload_n 1, 1) := by decide +kernel
theorem dX10_laysBest_76 : decode cX10_laysBest 76 = .ok (.if_icmp .gt 128, 3) := by decide +kernel
theorem dX10_laysBest_79 : decode cX10_laysBest 79 = .ok (.aload_n 0, 1) := by decide +kernel
theorem dX10_laysBest_80 : decode cX10_laysBest 80 = .ok (.getfield 48, 3) := by decide +kernel
theorem dX10_laysBest_83 : decode cX10_laysBest 83 = .ok (.iload 4, 2) := by decide +kernel
theorem dX10_laysBest_85 : decode cX10_laysBest 85 = .ok (.iconst 1, 1) := by decide +kernel
theorem dX10_laysBest_86 : decode cX10_laysBest 86 = .ok (.iadd, 1) := by decide +kernel
theorem dX10_laysBest_87 : decode cX10_laysBest 87 = .ok (.iaload, 1) := by decide +kernel
theorem dX10_laysBest_88 : decode cX10_laysBest 88 = .ok (.iconst (-1), 1) := by decide +kernel
theorem dX10_laysBest_89 : decode cX10_laysBest 89 = .ok (.if_icmp .ne 6, 3) := by decide +kernel
theorem dX10_laysBest_92 : decode cX10_laysBest 92 = .ok (.goto 112, 3) := by decide +kernel
theorem dX10_laysBest_95 : decode cX10_laysBest 95 = .ok (.iload 5, 2) := by decide +kernel
theorem dX10_laysBest_97 : decode cX10_laysBest 97 = .ok (.aload_n 0, 1) := by decide +kernel
theorem dX10_laysBest_98 : decode cX10_laysBest 98 = .ok (.getfield 48, 3) := by decide +kernel
theorem dX10_laysBest_101 : decode cX10_laysBest 101 = .ok (.iload 4, 2) := by decide +kernel
theorem dX10_laysBest_103 : decode cX10_laysBest 103 = .ok (.iconst 1, 1) := by decide +kernel
theorem dX10_laysBest_104 : decode cX10_laysBest 104 = .ok (.iadd, 1) := by decide +kernel
theorem dX10_laysBest_105 : decode cX10_laysBest 105 = .ok (.iaload, 1) := by decide +kernel
theorem dX10_laysBest_106 : decode cX10_laysBest 106 = .ok (.iadd, 1) := by decide +kernel
theorem dX10_laysBest_107 : decode cX10_laysBest 107 = .ok (.istore 6, 2) := by decide +kernel
theorem dX10_laysBest_109 : decode cX10_laysBest 109 = .ok (.iconst 1, 1) := by decide +kernel
theorem dX10_laysBest_110 : decode cX10_laysBest 110 = .ok (.aload_n 0, 1) := by decide +kernel
theorem dX10_laysBest_111 : decode cX10_laysBest 111 = .ok (.getfield 51, 3) := by decide +kernel
theorem dX10_laysBest_114 : decode cX10_laysBest 114 = .ok (.iload 4, 2) := by decide +kernel
theorem dX10_laysBest_116 : decode cX10_laysBest 116 = .ok (.iconst 1, 1) := by decide +kernel
theorem dX10_laysBest_117 : decode cX10_laysBest 117 = .ok (.iadd, 1) := by decide +kernel
theorem dX10_laysBest_118 : decode cX10_laysBest 118 = .ok (.iaload, 1) := by decide +kernel
theorem dX10_laysBest_119 : decode cX10_laysBest 119 = .ok (.iadd, 1) := by decide +kernel
theorem dX10_laysBest_120 : decode cX10_laysBest 120 = .ok (.istore 7, 2) := by decide +kernel
theorem dX10_laysBest_122 : decode cX10_laysBest 122 = .ok (.aload_n 0, 1) := by decide +kernel
theorem dX10_laysBest_123 : decode cX10_laysBest 123 = .ok (.getfield 48, 3) := by decide +kernel
theorem dX10_laysBest_126 : decode cX10_laysBest 126 = .ok (.iload_n 2, 1) := by decide +kernel
theorem dX10_laysBest_127 : decode cX10_laysBest 127 = .ok (.iaload, 1) := by decide +kernel
theorem dX10_laysBest_128 : decode cX10_laysBest 128 = .ok (.iconst (-1), 1) := by decide +kernel
theorem dX10_laysBest_129 : decode cX10_laysBest 129 = .ok (.if_icmp .eq 40, 3) := by decide +kernel
theorem dX10_laysBest_132 : decode cX10_laysBest 132 = .ok (.iload 6, 2) := by decide +kernel
theorem dX10_laysBest_134 : decode cX10_laysBest 134 = .ok (.aload_n 0, 1) := by decide +kernel
theorem dX10_laysBest_135 : decode cX10_laysBest 135 = .ok (.getfield 48, 3) := by decide +kernel
theorem dX10_laysBest_138 : decode cX10_laysBest 138 = .ok (.iload_n 2, 1) := by decide +kernel
theorem dX10_laysBest_139 : decode cX10_laysBest 139 = .ok (.iaload, 1) := by decide +kernel
theorem dX10_laysBest_140 : decode cX10_laysBest 140 = .ok (.if_icmp .gt 25, 3) := by decide +kernel
theorem dX10_laysBest_143 : decode cX10_laysBest 143 = .ok (.iload 6, 2) := by decide +kernel
theorem dX10_laysBest_145 : decode cX10_laysBest 145 = .ok (.aload_n 0, 1) := by decide +kernel
theorem dX10_laysBest_146 : decode cX10_laysBest 146 = .ok (.getfield 48, 3) := by decide +kernel
theorem dX10_laysBest_149 : decode cX10_laysBest 149 = .ok (.iload_n 2, 1) := by decide +kernel
theorem dX10_laysBest_150 : decode cX10_laysBest 150 = .ok (.iaload, 1) := by decide +kernel
theorem dX10_laysBest_151 : decode cX10_laysBest 151 = .ok (.if_icmp .ne 18, 3) := by decide +kernel
theorem dX10_laysBest_154 : decode cX10_laysBest 154 = .ok (.iload 7, 2) := by decide +kernel
theorem dX10_laysBest_156 : decode cX10_laysBest 156 = .ok (.aload_n 0, 1) := by decide +kernel
theorem dX10_laysBest_157 : decode cX10_laysBest 157 = .ok (.getfield 51, 3) := by decide +kernel
theorem dX10_laysBest_160 : decode cX10_laysBest 160 = .ok (.iload_n 2, 1) := by decide +kernel
theorem dX10_laysBest_161 : decode cX10_laysBest 161 = .ok (.iaload, 1) := by decide +kernel
theorem dX10_laysBest_162 : decode cX10_laysBest 162 = .ok (.if_icmp .le 7, 3) := by decide +kernel
theorem dX10_laysBest_165 : decode cX10_laysBest 165 = .ok (.iconst 1, 1) := by decide +kernel
theorem dX10_laysBest_166 : decode cX10_laysBest 166 = .ok (.goto 4, 3) := by decide +kernel
theorem dX10_laysBest_169 : decode cX10_laysBest 169 = .ok (.iconst 0, 1) := by decide +kernel
theorem dX10_laysBest_170 : decode cX10_laysBest 170 = .ok (.istore 8, 2) := by decide +kernel
theorem dX10_laysBest_172 : decode cX10_laysBest 172 = .ok (.iload 8, 2) := by decide +kernel
theorem dX10_laysBest_174 : decode cX10_laysBest 174 = .ok (.ifCond .eq 6, 3) := by decide +kernel
theorem dX10_laysBest_177 : decode cX10_laysBest 177 = .ok (.goto 27, 3) := by decide +kernel
theorem dX10_laysBest_180 : decode cX10_laysBest 180 = .ok (.aload_n 0, 1) := by decide +kernel
theorem dX10_laysBest_181 : decode cX10_laysBest 181 = .ok (.getfield 48, 3) := by decide +kernel
theorem dX10_laysBest_184 : decode cX10_laysBest 184 = .ok (.iload_n 2, 1) := by decide +kernel
theorem dX10_laysBest_185 : decode cX10_laysBest 185 = .ok (.iload 6, 2) := by decide +kernel
theorem dX10_laysBest_187 : decode cX10_laysBest 187 = .ok (.iastore, 1) := by decide +kernel
theorem dX10_laysBest_188 : decode cX10_laysBest 188 = .ok (.aload_n 0, 1) := by decide +kernel
theorem dX10_laysBest_189 : decode cX10_laysBest 189 = .ok (.getfield 51, 3) := by decide +kernel
theorem dX10_laysBest_192 : decode cX10_laysBest 192 = .ok (.iload_n 2, 1) := by decide +kernel
theorem dX10_laysBest_193 : decode cX10_laysBest 193 = .ok (.iload 7, 2) := by decide +kernel
theorem dX10_laysBest_195 : decode cX10_laysBest 195 = .ok (.iastore, 1) := by decide +kernel
theorem dX10_laysBest_196 : decode cX10_laysBest 196 = .ok (.aload_n 0, 1) := by decide +kernel
theorem dX10_laysBest_197 : decode cX10_laysBest 197 = .ok (.getfield 54, 3) := by decide +kernel
theorem dX10_laysBest_200 : decode cX10_laysBest 200 = .ok (.iload_n 2, 1) := by decide +kernel
theorem dX10_laysBest_201 : decode cX10_laysBest 201 = .ok (.iload 4, 2) := by decide +kernel
theorem dX10_laysBest_203 : decode cX10_laysBest 203 = .ok (.iastore, 1) := by decide +kernel
theorem dX10_laysBest_204 : decode cX10_laysBest 204 = .ok (.iinc 4 1, 3) := by decide +kernel
theorem dX10_laysBest_207 : decode cX10_laysBest 207 = .ok (.goto (-160), 3) := by decide +kernel
theorem dX10_laysBest_210 : decode cX10_laysBest 210 = .ok (.iinc 2 (-1), 3) := by decide +kernel
theorem dX10_laysBest_213 : decode cX10_laysBest 213 = .ok (.goto (-186), 3) := by decide +kernel
theorem dX10_laysBest_216 : decode cX10_laysBest 216 = .ok (.return_, 1) := by decide +kernel
theorem ok_X10_laysBest : okY RX10 yX10_laysBest 1 := ⟨rfl, by decide, by decide, by decide +kernel⟩
def j_X10_laysBest_204_23 (v4_19 : Int32) (M_22 : OV) : Option ((Int32 × OV) ⊕ (OV)) := bnd (v4_19 + 1) (fun v4_24 => some (.inl (v4_24, M_22)))
def j_X10_laysBest_170_28 (M_20 : OV) (v2_11 : Int32) (v4_19 : Int32) (v6_25 : Int32) (v7_26 : Int32) (t_27 : Int32) : Option ((Int32 × OV) ⊕ (OV)) := bnd t_27 (fun v8_29 => (if v8_29 = 0 then gd (ix v2_11 41) (bnd (sA M_20 20 v2_11.toNatClampNeg v6_25) (fun M_30 => gd (ix v2_11 41) (bnd (sA M_30 21 v2_11.toNatClampNeg v7_26) (fun M_31 => gd (ix v2_11 41) (bnd (sA M_31 22 v2_11.toNatClampNeg v4_19) (fun M_32 => j_X10_laysBest_204_23 v4_19 M_32)))))) else j_X10_laysBest_204_23 v4_19 M_20))
def j_X10_laysBest_169_33 (M_20 : OV) (v2_11 : Int32) (v4_19 : Int32) (v6_25 : Int32) (v7_26 : Int32) : Option ((Int32 × OV) ⊕ (OV)) := j_X10_laysBest_170_28 M_20 v2_11 v4_19 v6_25 v7_26 (0 : Int32)
def j_X10_laysBest_165_34 (M_20 : OV) (v2_11 : Int32) (v4_19 : Int32) (v6_25 : Int32) (v7_26 : Int32) : Option ((Int32 × OV) ⊕ (OV)) := j_X10_laysBest_170_28 M_20 v2_11 v4_19 v6_25 v7_26 (1 : Int32)
def s_X10_laysBest_47_18 (p0 : Int32) (v2_11 : Int32) (v3_16 : Int32) : (Int32 × OV) → Option ((Int32 × OV) ⊕ (OV)) := un2 (fun v4_19 M_20 => (if v3_16 < v4_19 then some (.inr M_20) else gd (ix (((40 : Int32) * v2_11) + v4_19) 1640) (bnd (ar M_20 19 (((40 : Int32) * v2_11) + v4_19).toNatClampNeg) (fun v5_21 => (if v5_21 = (-1 : Int32) then j_X10_laysBest_204_23 v4_19 M_20 else (if p0 < v5_21 then j_X10_laysBest_204_23 v4_19 M_20 else gd (ix (v4_19 + (1 : Int32)) 41) ((if (ar M_20 20 (v4_19 + (1 : Int32)).toNatClampNeg) = (-1 : Int32) then j_X10_laysBest_204_23 v4_19 M_20 else gd (ix (v4_19 + (1 : Int32)) 41) (bnd (v5_21 + (ar M_20 20 (v4_19 + (1 : Int32)).toNatClampNeg)) (fun v6_25 => gd (ix (v4_19 + (1 : Int32)) 41) (bnd ((1 : Int32) + (ar M_20 21 (v4_19 + (1 : Int32)).toNatClampNeg)) (fun v7_26 => gd (ix v2_11 41) ((if (ar M_20 20 v2_11.toNatClampNeg) = (-1 : Int32) then j_X10_laysBest_169_33 M_20 v2_11 v4_19 v6_25 v7_26 else gd (ix v2_11 41) ((if (ar M_20 20 v2_11.toNatClampNeg) < v6_25 then j_X10_laysBest_165_34 M_20 v2_11 v4_19 v6_25 v7_26 else gd (ix v2_11 41) ((if v6_25 = (ar M_20 20 v2_11.toNatClampNeg) then gd (ix v2_11 41) ((if v7_26 ≤ (ar M_20 21 v2_11.toNatClampNeg) then j_X10_laysBest_169_33 M_20 v2_11 v4_19 v6_25 v7_26 else j_X10_laysBest_165_34 M_20 v2_11 v4_19 v6_25 v7_26)) else j_X10_laysBest_169_33 M_20 v2_11 v4_19 v6_25 v7_26))))))))))))))))))
def s_X10_laysBest_27_10 (p0 : Int32) : (Int32 × OV) → Option ((Int32 × OV) ⊕ (OV)) := un2 (fun v2_11 M_12 => (if v2_11 < 0 then some (.inr M_12) else gd (ix v2_11 41) (bnd (sA M_12 20 v2_11.toNatClampNeg (-1 : Int32)) (fun M_13 => (f_X10_limitOf M_13 v2_11).bind (un1 (fun r_14 => bnd r_14 (fun v3_16 => bnd v2_11 (fun v4_17 => ((lp (s_X10_laysBest_47_18 p0 v2_11 v3_16) 5000 (v4_17, M_13)).bind (un1 (fun M_35 => bnd (v2_11 + (-1)) (fun v2_36 => some (.inl (v2_36, M_35))))))))))))))
def f_X10_laysBest (M : OV) (p0 : Int32) : Option (OV) := (f_X10_many M).bind (un1 (fun r_1 => gd (ix r_1 41) (bnd (sA M 20 r_1.toNatClampNeg (0 : Int32)) (fun M_3 => (f_X10_many M_3).bind (un1 (fun r_4 => gd (ix r_4 41) (bnd (sA M_3 21 r_4.toNatClampNeg (0 : Int32)) (fun M_6 => (f_X10_many M_6).bind (un1 (fun r_7 => bnd (r_7 - (1 : Int32)) (fun v2_9 => ((lp (s_X10_laysBest_27_10 p0) 5000 (v2_9, M_6)).bind (un1 (fun M_37 => some M_37))))))))))))))
def r_X10_laysBest : Room := { frames := 2, cells := 0, slots := 0, locals := 43 }
set_option maxHeartbeats 4000000 in
set_option maxRecDepth 100000 in
theorem c_X10_laysBest (l : Launch) (D : va_G) (ev : EvT) (cy : Nat → ClassId) (oM : Nat) (aM : Nat → Nat) (M : OV) (p0 : Int32) (o : OV) (hf : f_X10_laysBest M p0 = some o) : Fn l yX10_laysBest cX10_laysBest 9 none r_X10_laysBest D ev cy [.ref oM, .int p0] [gX10 cy oM aM M] (fun v G => v = none ∧ G = [gX10 cy oM aM o]) := by
  refine Fn_of (by decide) (Nat.le_of_ble_eq_true rfl) (fun X A Q h hQ _ => ?_)
  unfold f_X10_laysBest at hf
  show ww X D A 9 Q 0 0 0 [(0, .ref oM), (1, .int p0)] [] [gX10 cy oM aM M]
  refine ww_aload_n h dX10_laysBest_0 rfl 0 rfl 1 rfl ?_
  refine ww_get h inG10 rfl 0 rfl rfl 20 (by decide) w_1177 rfl dX10_laysBest_1 4 rfl ?_
  refine ww_aload_n h dX10_laysBest_4 rfl 0 rfl 5 rfl ?_
  obtain ⟨r_1, hu2, hf⟩ := ob1 hf
  refine ww_cVi h (c_X10_many l D ev cy oM aM M _ hu2) ⟨w_1330, w_1327, w_1329, w_37, w_111, ok_X10_many⟩ ⟨by decide, by decide⟩ ⟨by decide, by decide⟩ ⟨rfl, rfl⟩ [0] rfl 0 rfl rfl rfl rfl (Nat.le_of_ble_eq_true rfl) dX10_laysBest_5 8 rfl (Gs' := [gX10 cy oM aM M]) rfl ?_
  clear hu2
  refine ww_iconst (v := 0) h dX10_laysBest_8 (by decide) 9 rfl ?_
  have hi := (gd_some hf).1
  replace hf := (gd_some hf).2
  refine ww_iast h 0 rfl 12 rfl (ix_in hi) dX10_laysBest_9 10 rfl ?_
  clear hi
  refine ww_nm (fun z => [gX10 cy oM aM z]) (sA M 20 r_1.toNatClampNeg (0 : Int32)) (fun M_3 e => ?_)
  replace hf := bnd_at e hf
  clear e
  refine ww_aload_n h dX10_laysBest_10 rfl 0 rfl 11 rfl ?_
  refine ww_get h inG10 rfl 0 rfl rfl 21 (by decide) w_1178 rfl dX10_laysBest_11 14 rfl ?_
  refine ww_aload_n h dX10_laysBest_14 rfl 0 rfl 15 rfl ?_
  obtain ⟨r_4, hu5, hf⟩ := ob1 hf
  refine ww_cVi h (c_X10_many l D ev cy oM aM M_3 _ hu5) ⟨w_1330, w_1327, w_1329, w_37, w_111, ok_X10_many⟩ ⟨by decide, by decide⟩ ⟨by decide, by decide⟩ ⟨rfl, rfl⟩ [0] rfl 0 rfl rfl rfl rfl (Nat.le_of_ble_eq_true rfl) dX10_laysBest_15 18 rfl (Gs' := [gX10 cy oM aM M_3]) rfl ?_
  clear hu5
  refine ww_iconst (v := 0) h dX10_laysBest_18 (by decide) 19 rfl ?_
  have hi := (gd_some hf).1
  replace hf := (gd_some hf).2
  refine ww_iast h 0 rfl 13 rfl (ix_in hi) dX10_laysBest_19 20 rfl ?_
  clear hi
  refine ww_nm (fun z => [gX10 cy oM aM z]) (sA M_3 21 r_4.toNatClampNeg (0 : Int32)) (fun M_6 e => ?_)
  replace hf := bnd_at e hf
  clear e
  refine ww_aload_n h dX10_laysBest_20 rfl 0 rfl 21 rfl ?_
  obtain ⟨r_7, hu8, hf⟩ := ob1 hf
  refine ww_cVi h (c_X10_many l D ev cy oM aM M_6 _ hu8) ⟨w_1330, w_1327, w_1329, w_37, w_111, ok_X10_many⟩ ⟨by decide, by decide⟩ ⟨by decide, by decide⟩ ⟨rfl, rfl⟩ [0] rfl 0 rfl rfl rfl rfl (Nat.le_of_ble_eq_true rfl) dX10_laysBest_21 24 rfl (Gs' := [gX10 cy oM aM M_6]) rfl ?_
  clear hu8
  refine ww_iconst (v := 1) h dX10_laysBest_24 (by decide) 25 rfl ?_
  refine ww_isub h dX10_laysBest_25 26 rfl ?_
  refine ww_ist_n h dX10_laysBest_26 rfl (by decide) (fun v2_9 => [(2, .int v2_9), (0, .ref oM), (1, .int p0)]) (fun _ => rfl) 27 rfl (fun v2_9 e => ?_)
  replace hf := bnd_at e hf
  clear e
  refine ww_lo [1, 2, 0] (lo' := [(0, .ref oM), (1, .int p0), (2, .int v2_9)]) rfl ?_
  obtain ⟨M_37, h10, hf⟩ := ob1 hf
  refine lp_walk (un2 (fun v2_11 M_12 => ww X D A 9 Q 0 0 27 [(0, .ref oM), (1, .int p0), (2, .int v2_11)] [] [gX10 cy oM aM M_12])) (un1 (fun M_37 => ww X D A 9 Q 0 0 216 [] [] [gX10 cy oM aM M_37])) ?_ _ _ _ h10 ?_
  · clear h10 hf
    intro s10 o10 hf hI10 hE10
    obtain ⟨v2_11, M_12⟩ := s10
    unfold s_X10_laysBest_27_10 at hf
    replace hf := un2_e hf
    show ww X D A 9 Q 0 0 27 [(0, .ref oM), (1, .int p0), (2, .int v2_11)] [] [gX10 cy oM aM M_12]
    refine ww_iload_n h dX10_laysBest_27 rfl 2 rfl 28 rfl ?_
    refine ww_if_lt h dX10_laysBest_28 216 (by decide) 31 rfl (fun c => ?_) (fun c => ?_)
    · replace hf := ite_t c hf
      refine ww_lo [] (lo' := []) rfl ?_
      exact hE10 M_12 (Option.some.inj hf).symm
    · replace hf := ite_f c hf
      refine ww_aload_n h dX10_laysBest_31 rfl 0 rfl 32 rfl ?_
      refine ww_get h inG10 rfl 0 rfl rfl 20 (by decide) w_1177 rfl dX10_laysBest_32 35 rfl ?_
      refine ww_iload_n h dX10_laysBest_35 rfl 2 rfl 36 rfl ?_
      refine ww_iconst (v := (-1)) h dX10_laysBest_36 (by decide) 37 rfl ?_
      have hi := (gd_some hf).1
      replace hf := (gd_some hf).2
      refine ww_iast h 0 rfl 12 rfl (ix_in hi) dX10_laysBest_37 38 rfl ?_
      clear hi
      refine ww_nm (fun z => [gX10 cy oM aM z]) (sA M_12 20 v2_11.toNatClampNeg (-1 : Int32)) (fun M_13 e => ?_)
      replace hf := bnd_at e hf
      clear e
      refine ww_aload_n h dX10_laysBest_38 rfl 0 rfl 39 rfl ?_
      refine ww_iload_n h dX10_laysBest_39 rfl 2 rfl 40 rfl ?_
      obtain ⟨r_14, hu15, hf⟩ := ob1 hf
      refine ww_cVi h (c_X10_limitOf l D ev cy oM aM M_13 v2_11 _ hu15) ⟨w_1504, w_1501, w_1503, w_58, w_111, ok_X10_limitOf⟩ ⟨by decide, by decide⟩ ⟨by decide, by decide⟩ ⟨rfl, rfl⟩ [0] rfl 0 rfl rfl rfl rfl (Nat.le_of_ble_eq_true rfl) dX10_laysBest_40 43 rfl (Gs' := [gX10 cy oM aM M_13]) rfl ?_
      clear hu15
      refine ww_ist_n h dX10_laysBest_43 rfl (by decide) (fun v3_16 => [(3, .int v3_16), (0, .ref oM), (1, .int p0), (2, .int v2_11)]) (fun _ => rfl) 44 rfl (fun v3_16 e => ?_)
      replace hf := bnd_at e hf
      clear e
      refine ww_iload_n h dX10_laysBest_44 rfl 3 rfl 45 rfl ?_
      refine ww_ist h dX10_laysBest_45 (by decide) (fun v4_17 => [(4, .int v4_17), (3, .int v3_16), (0, .ref oM), (1, .int p0), (2, .int v2_11)]) (fun _ => rfl) 47 rfl (fun v4_17 e => ?_)
      replace hf := bnd_at e hf
      clear e
      refine ww_lo [2, 3, 4, 1, 0] (lo' := [(0, .ref oM), (1, .int p0), (2, .int v2_11), (3, .int v3_16), (4, .int v4_17)]) rfl ?_
      obtain ⟨M_35, h18, hf⟩ := ob1 hf
      refine lp_walk (un2 (fun v4_19 M_20 => ww X D A 9 Q 0 0 47 [(0, .ref oM), (1, .int p0), (2, .int v2_11), (3, .int v3_16), (4, .int v4_19)] [] [gX10 cy oM aM M_20])) (un1 (fun M_35 => ww X D A 9 Q 0 0 210 [(0, .ref oM), (1, .int p0), (2, .int v2_11)] [] [gX10 cy oM aM M_35])) ?_ _ _ _ h18 ?_
      · clear h18 hf
        intro s18 o18 hf hI18 hE18
        obtain ⟨v4_19, M_20⟩ := s18
        unfold s_X10_laysBest_47_18 at hf
        replace hf := un2_e hf
        show ww X D A 9 Q 0 0 47 [(0, .ref oM), (1, .int p0), (2, .int v2_11), (3, .int v3_16), (4, .int v4_19)] [] [gX10 cy oM aM M_20]
        refine ww_iload h dX10_laysBest_47 4 rfl 49 rfl ?_
        refine ww_iload_n h dX10_laysBest_49 rfl 3 rfl 50 rfl ?_
        refine ww_icmp_gt h dX10_laysBest_50 210 (by decide) 53 rfl (fun c => ?_) (fun c => ?_)
        · replace hf := ite_t c hf
          refine ww_lo [0, 1, 2] (lo' := [(0, .ref oM), (1, .int p0), (2, .int v2_11)]) rfl ?_
          exact hE18 M_20 (Option.some.inj hf).symm
        · replace hf := ite_f c hf
          refine ww_aload_n h dX10_laysBest_53 rfl 0 rfl 54 rfl ?_
          refine ww_get h inG10 rfl 0 rfl rfl 19 (by decide) w_1176 rfl dX10_laysBest_54 57 rfl ?_
          refine ww_bipush (v := 40) h dX10_laysBest_57 (by decide) 59 rfl ?_
          refine ww_iload_n h dX10_laysBest_59 rfl 2 rfl 60 rfl ?_
          refine ww_imul h dX10_laysBest_60 61 rfl ?_
          refine ww_iload h dX10_laysBest_61 4 rfl 63 rfl ?_
          refine ww_iadd h dX10_laysBest_63 64 rfl ?_
          have hi := (gd_some hf).1
          replace hf := (gd_some hf).2
          refine ww_iald h 0 rfl 11 rfl (ix_in hi) dX10_laysBest_64 65 rfl ?_
          clear hi
          refine ww_ist h dX10_laysBest_65 (by decide) (fun v5_21 => [(5, .int v5_21), (0, .ref oM), (1, .int p0), (2, .int v2_11), (3, .int v3_16), (4, .int v4_19)]) (fun _ => rfl) 67 rfl (fun v5_21 e => ?_)
          replace hf := bnd_at e hf
          clear e
          refine ww_iload h dX10_laysBest_67 0 rfl 69 rfl ?_
          refine ww_iconst (v := (-1)) h dX10_laysBest_69 (by decide) 70 rfl ?_
          have hJ204_23 : ∀ (M_22 : OV), j_X10_laysBest_204_23 v4_19 M_22 = some o18 → ww X D A 9 Q 0 0 204 [(0, .ref oM), (1, .int p0), (2, .int v2_11), (3, .int v3_16), (4, .int v4_19)] [] [gX10 cy oM aM M_22] := by
            intro M_22 hf
            unfold j_X10_laysBest_204_23 at hf
            refine ww_inc (c := 1) h dX10_laysBest_204 4 rfl (by decide) (by decide) (fun v4_24 => [(4, .int v4_24), (0, .ref oM), (1, .int p0), (2, .int v2_11), (3, .int v3_16)]) (fun _ => rfl) 207 rfl (fun v4_24 e => ?_)
            replace hf := bnd_at e hf
            clear e
            refine ww_goto h dX10_laysBest_207 47 (by decide) ?_
            refine ww_lo [1, 2, 3, 4, 0] (lo' := [(0, .ref oM), (1, .int p0), (2, .int v2_11), (3, .int v3_16), (4, .int v4_24)]) rfl ?_
            exact hI18 (v4_24, M_22) (Option.some.inj hf).symm
          refine ww_icmp_eq h dX10_laysBest_70 204 (by decide) 73 rfl (fun c => ?_) (fun c => ?_)
          · replace hf := ite_t c hf
            refine ww_lo [1, 2, 3, 4, 5] (lo' := [(0, .ref oM), (1, .int p0), (2, .int v2_11), (3, .int v3_16), (4, .int v4_19)]) rfl ?_
            exact hJ204_23 M_20 hf
          · replace hf := ite_f c hf
            refine ww_iload h dX10_laysBest_73 0 rfl 75 rfl ?_
            refine ww_iload_n h dX10_laysBest_75 rfl 2 rfl 76 rfl ?_
            refine ww_icmp_gt h dX10_laysBest_76 204 (by decide) 79 rfl (fun c => ?_) (fun c => ?_)
            · replace hf := ite_t c hf
              refine ww_lo [1, 2, 3, 4, 5] (lo' := [(0, .ref oM), (1, .int p0), (2, .int v2_11), (3, .int v3_16), (4, .int v4_19)]) rfl ?_
              exact hJ204_23 M_20 hf
            · replace hf := ite_f c hf
              refine ww_aload_n h dX10_laysBest_79 rfl 1 rfl 80 rfl ?_
              refine ww_get h inG10 rfl 0 rfl rfl 20 (by decide) w_1177 rfl dX10_laysBest_80 83 rfl ?_
              refine ww_iload h dX10_laysBest_83 5 rfl 85 rfl ?_
              refine ww_iconst (v := 1) h dX10_laysBest_85 (by decide) 86 rfl ?_
              refine ww_iadd h dX10_laysBest_86 87 rfl ?_
              have hi := (gd_some hf).1
              replace hf := (gd_some hf).2
              refine ww_iald h 0 rfl 12 rfl (ix_in hi) dX10_laysBest_87 88 rfl ?_
              clear hi
              refine ww_iconst (v := (-1)) h dX10_laysBest_88 (by decide) 89 rfl ?_
              refine ww_icmp_ne h dX10_laysBest_89 95 (by decide) 92 rfl (fun c => ?_) (fun c => ?_)
              · replace hf := ite_f c hf
                refine ww_iload h dX10_laysBest_95 0 rfl 97 rfl ?_
                refine ww_aload_n h dX10_laysBest_97 rfl 1 rfl 98 rfl ?_
                refine ww_get h inG10 rfl 0 rfl rfl 20 (by decide) w_1177 rfl dX10_laysBest_98 101 rfl ?_
                refine ww_iload h dX10_laysBest_101 5 rfl 103 rfl ?_
                refine ww_iconst (v := 1) h dX10_laysBest_103 (by decide) 104 rfl ?_
                refine ww_iadd h dX10_laysBest_104 105 rfl ?_
                have hi := (gd_some hf).1
                replace hf := (gd_some hf).2
                refine ww_iald h 0 rfl 12 rfl (ix_in hi) dX10_laysBest_105 106 rfl ?_
                clear hi
                refine ww_iadd h dX10_laysBest_106 107 rfl ?_
                refine ww_ist h dX10_laysBest_107 (by decide) (fun v6_25 => [(6, .int v6_25), (5, .int v5_21), (0, .ref oM), (1, .int p0), (2, .int v2_11), (3, .int v3_16), (4, .int v4_19)]) (fun _ => rfl) 109 rfl (fun v6_25 e => ?_)
                replace hf := bnd_at e hf
                clear e
                refine ww_iconst (v := 1) h dX10_laysBest_109 (by decide) 110 rfl ?_
                refine ww_aload_n h dX10_laysBest_110 rfl 2 rfl 111 rfl ?_
                refine ww_get h inG10 rfl 0 rfl rfl 21 (by decide) w_1178 rfl dX10_laysBest_111 114 rfl ?_
                refine ww_iload h dX10_laysBest_114 6 rfl 116 rfl ?_
                refine ww_iconst (v := 1) h dX10_laysBest_116 (by decide) 117 rfl ?_
                refine ww_iadd h dX10_laysBest_117 118 rfl ?_
                have hi := (gd_some hf).1
                replace hf := (gd_some hf).2
                refine ww_iald h 0 rfl 13 rfl (ix_in hi) dX10_laysBest_118 119 rfl ?_
                clear hi
                refine ww_iadd h dX10_laysBest_119 120 rfl ?_
                refine ww_ist h dX10_laysBest_120 (by decide) (fun v7_26 => [(7, .int v7_26), (6, .int v6_25), (5, .int v5_21), (0, .ref oM), (1, .int p0), (2, .int v2_11), (3, .int v3_16), (4, .int v4_19)]) (fun _ => rfl) 122 rfl (fun v7_26 e => ?_)
                replace hf := bnd_at e hf
                clear e
                refine ww_aload_n h dX10_laysBest_122 rfl 3 rfl 123 rfl ?_
                refine ww_get h inG10 rfl 0 rfl rfl 20 (by decide) w_1177 rfl dX10_laysBest_123 126 rfl ?_
                refine ww_iload_n h dX10_laysBest_126 rfl 5 rfl 127 rfl ?_
                have hi := (gd_some hf).1
                replace hf := (gd_some hf).2
                refine ww_iald h 0 rfl 12 rfl (ix_in hi) dX10_laysBest_127 128 rfl ?_
                clear hi
                refine ww_iconst (v := (-1)) h dX10_laysBest_128 (by decide) 129 rfl ?_
                have hJ170_28 : ∀ (t_27 : Int32), j_X10_laysBest_170_28 M_20 v2_11 v4_19 v6_25 v7_26 t_27 = some o18 → ww X D A 9 Q 0 0 170 [(0, .ref oM), (1, .int p0), (2, .int v2_11), (3, .int v3_16), (4, .int v4_19), (6, .int v6_25), (7, .int v7_26)] [.int t_27] [gX10 cy oM aM M_20] := by
                  intro t_27 hf
                  unfold j_X10_laysBest_170_28 at hf
                  refine ww_ist h dX10_laysBest_170 (by decide) (fun v8_29 => [(8, .int v8_29), (0, .ref oM), (1, .int p0), (2, .int v2_11), (3, .int v3_16), (4, .int v4_19), (6, .int v6_25), (7, .int v7_26)]) (fun _ => rfl) 172 rfl (fun v8_29 e => ?_)
                  replace hf := bnd_at e hf
                  clear e
                  refine ww_iload h dX10_laysBest_172 0 rfl 174 rfl ?_
                  refine ww_if_eq h dX10_laysBest_174 180 (by decide) 177 rfl (fun c => ?_) (fun c => ?_)
                  · replace hf := ite_t c hf
                    refine ww_aload_n h dX10_laysBest_180 rfl 1 rfl 181 rfl ?_
                    refine ww_get h inG10 rfl 0 rfl rfl 20 (by decide) w_1177 rfl dX10_laysBest_181 184 rfl ?_
                    refine ww_iload_n h dX10_laysBest_184 rfl 3 rfl 185 rfl ?_
                    refine ww_iload h dX10_laysBest_185 6 rfl 187 rfl ?_
                    have hi := (gd_some hf).1
                    replace hf := (gd_some hf).2
                    refine ww_iast h 0 rfl 12 rfl (ix_in hi) dX10_laysBest_187 188 rfl ?_
                    clear hi
                    refine ww_nm (fun z => [gX10 cy oM aM z]) (sA M_20 20 v2_11.toNatClampNeg v6_25) (fun M_30 e => ?_)
                    replace hf := bnd_at e hf
                    clear e
                    refine ww_aload_n h dX10_laysBest_188 rfl 1 rfl 189 rfl ?_
                    refine ww_get h inG10 rfl 0 rfl rfl 21 (by decide) w_1178 rfl dX10_laysBest_189 192 rfl ?_
                    refine ww_iload_n h dX10_laysBest_192 rfl 3 rfl 193 rfl ?_
                    refine ww_iload h dX10_laysBest_193 7 rfl 195 rfl ?_
                    have hi := (gd_some hf).1
                    replace hf := (gd_some hf).2
                    refine ww_iast h 0 rfl 13 rfl (ix_in hi) dX10_laysBest_195 196 rfl ?_
                    clear hi
                    refine ww_nm (fun z => [gX10 cy oM aM z]) (sA M_30 21 v2_11.toNatClampNeg v7_26) (fun M_31 e => ?_)
                    replace hf := bnd_at e hf
                    clear e
                    refine ww_aload_n h dX10_laysBest_196 rfl 1 rfl 197 rfl ?_
                    refine ww_get h inG10 rfl 0 rfl rfl 22 (by decide) w_1179 rfl dX10_laysBest_197 200 rfl ?_
                    refine ww_iload_n h dX10_laysBest_200 rfl 3 rfl 201 rfl ?_
                    refine ww_iload h dX10_laysBest_201 5 rfl 203 rfl ?_
                    have hi := (gd_some hf).1
                    replace hf := (gd_some hf).2
                    refine ww_iast h 0 rfl 14 rfl (ix_in hi) dX10_laysBest_203 204 rfl ?_
                    clear hi
                    refine ww_nm (fun z => [gX10 cy oM aM z]) (sA M_31 22 v2_11.toNatClampNeg v4_19) (fun M_32 e => ?_)
                    replace hf := bnd_at e hf
                    clear e
                    refine ww_lo [1, 2, 3, 4, 5] (lo' := [(0, .ref oM), (1, .int p0), (2, .int v2_11), (3, .int v3_16), (4, .int v4_19)]) rfl ?_
                    exact hJ204_23 M_32 hf
                  · replace hf := ite_f c hf
                    refine ww_goto h dX10_laysBest_177 204 (by decide) ?_
                    refine ww_lo [1, 2, 3, 4, 5] (lo' := [(0, .ref oM), (1, .int p0), (2, .int v2_11), (3, .int v3_16), (4, .int v4_19)]) rfl ?_
                    exact hJ204_23 M_20 hf
                have hJ169_33 : ∀ (_ : Unit), j_X10_laysBest_169_33 M_20 v2_11 v4_19 v6_25 v7_26 = some o18 → ww X D A 9 Q 0 0 169 [(0, .ref oM), (1, .int p0), (2, .int v2_11), (3, .int v3_16), (4, .int v4_19), (6, .int v6_25), (7, .int v7_26)] [] [gX10 cy oM aM M_20] := by
                  intro _ hf
                  unfold j_X10_laysBest_169_33 at hf
                  refine ww_iconst (v := 0) h dX10_laysBest_169 (by decide) 170 rfl ?_
                  exact hJ170_28 (0 : Int32) hf
                refine ww_icmp_eq h dX10_laysBest_129 169 (by decide) 132 rfl (fun c => ?_) (fun c => ?_)
                · replace hf := ite_t c hf
                  refine ww_lo [3, 4, 5, 6, 7, 1, 0] (lo' := [(0, .ref oM), (1, .int p0), (2, .int v2_11), (3, .int v3_16), (4, .int v4_19), (6, .int v6_25), (7, .int v7_26)]) rfl ?_
                  exact hJ169_33 () hf
                · replace hf := ite_f c hf
                  refine ww_iload h dX10_laysBest_132 1 rfl 134 rfl ?_
                  refine ww_aload_n h dX10_laysBest_134 rfl 3 rfl 135 rfl ?_
                  refine ww_get h inG10 rfl 0 rfl rfl 20 (by decide) w_1177 rfl dX10_laysBest_135 138 rfl ?_
                  refine ww_iload_n h dX10_laysBest_138 rfl 5 rfl 139 rfl ?_
                  have hi := (gd_some hf).1
                  replace hf := (gd_some hf).2
                  refine ww_iald h 0 rfl 12 rfl (ix_in hi) dX10_laysBest_139 140 rfl ?_
                  clear hi
                  have hJ165_34 : ∀ (_ : Unit), j_X10_laysBest_165_34 M_20 v2_11 v4_19 v6_25 v7_26 = some o18 → ww X D A 9 Q 0 0 165 [(0, .ref oM), (1, .int p0), (2, .int v2_11), (3, .int v3_16), (4, .int v4_19), (6, .int v6_25), (7, .int v7_26)] [] [gX10 cy oM aM M_20] := by
                    intro _ hf
                    unfold j_X10_laysBest_165_34 at hf
                    refine ww_iconst (v := 1) h dX10_laysBest_165 (by decide) 166 rfl ?_
                    refine ww_goto h dX10_laysBest_166 170 (by decide) ?_
                    exact hJ170_28 (1 : Int32) hf
                  refine ww_icmp_gt h dX10_laysBest_140 165 (by decide) 143 rfl (fun c => ?_) (fun c => ?_)
                  · replace hf := ite_t c hf
                    refine ww_lo [3, 4, 5, 6, 7, 1, 0] (lo' := [(0, .ref oM), (1, .int p0), (2, .int v2_11), (3, .int v3_16), (4, .int v4_19), (6, .int v6_25), (7, .int v7_26)]) rfl ?_
                    exact hJ165_34 () hf
                  · replace hf := ite_f c hf
                    refine ww_iload h dX10_laysBest_143 1 rfl 145 rfl ?_
                    refine ww_aload_n h dX10_laysBest_145 rfl 3 rfl 146 rfl ?_
                    refine ww_get h inG10 rfl 0 rfl rfl 20 (by decide) w_1177 rfl dX10_laysBest_146 149 rfl ?_
                    refine ww_iload_n h dX10_laysBest_149 rfl 5 rfl 150 rfl ?_
                    have hi := (gd_some hf).1
                    replace hf := (gd_some hf).2
                    refine ww_iald h 0 rfl 12 rfl (ix_in hi) dX10_laysBest_150 151 rfl ?_
                    clear hi
                    refine ww_icmp_ne h dX10_laysBest_151 169 (by decide) 154 rfl (fun c => ?_) (fun c => ?_)
                    · replace hf := ite_f c hf
                      refine ww_lo [3, 4, 5, 6, 7, 1, 0] (lo' := [(0, .ref oM), (1, .int p0), (2, .int v2_11), (3, .int v3_16), (4, .int v4_19), (6, .int v6_25), (7, .int v7_26)]) rfl ?_
                      exact hJ169_33 () hf
                    · replace hf := ite_t c hf
                      refine ww_iload h dX10_laysBest_154 0 rfl 156 rfl ?_
                      refine ww_aload_n h dX10_laysBest_156 rfl 3 rfl 157 rfl ?_
                      refine ww_get h inG10 rfl 0 rfl rfl 21 (by decide) w_1178 rfl dX10_laysBest_157 160 rfl ?_
                      refine ww_iload_n h dX10_laysBest_160 rfl 5 rfl 161 rfl ?_
                      have hi := (gd_some hf).1
                      replace hf := (gd_some hf).2
                      refine ww_iald h 0 rfl 13 rfl (ix_in hi) dX10_laysBest_161 162 rfl ?_
                      clear hi
                      refine ww_icmp_le h dX10_laysBest_162 169 (by decide) 165 rfl (fun c => ?_) (fun c => ?_)
                      · replace hf := ite_t c hf
                        refine ww_lo [3, 4, 5, 6, 7, 1, 0] (lo' := [(0, .ref oM), (1, .int p0), (2, .int v2_11), (3, .int v3_16), (4, .int v4_19), (6, .int v6_25), (7, .int v7_26)]) rfl ?_
                        exact hJ169_33 () hf
                      · replace hf := ite_f c hf
                        refine ww_lo [3, 4, 5, 6, 7, 1, 0] (lo' := [(0, .ref oM), (1, .int p0), (2, .int v2_11), (3, .int v3_16), (4, .int v4_19), (6, .int v6_25), (7, .int v7_26)]) rfl ?_
                        exact hJ165_34 () hf
              · replace hf := ite_t c hf
                refine ww_goto h dX10_laysBest_92 204 (by decide) ?_
                refine ww_lo [1, 2, 3, 4, 5] (lo' := [(0, .ref oM), (1, .int p0), (2, .int v2_11), (3, .int v3_16), (4, .int v4_19)]) rfl ?_
                exact hJ204_23 M_20 hf
      · clear h18
        show ww X D A 9 Q 0 0 210 [(0, .ref oM), (1, .int p0), (2, .int v2_11)] [] [gX10 cy oM aM M_35]
        refine ww_inc (c := (-1)) h dX10_laysBest_210 2 rfl (by decide) (by decide) (fun v2_36 => [(2, .int v2_36), (0, .ref oM), (1, .int p0)]) (fun _ => rfl) 213 rfl (fun v2_36 e => ?_)
        replace hf := bnd_at e hf
        clear e
        refine ww_goto h dX10_laysBest_213 27 (by decide) ?_
        refine ww_lo [1, 2, 0] (lo' := [(0, .ref oM), (1, .int p0), (2, .int v2_36)]) rfl ?_
        exact hI10 (v2_36, M_35) (Option.some.inj hf).symm
  · clear h10
    show ww X D A 9 Q 0 0 216 [] [] [gX10 cy oM aM M_37]
    obtain rfl := Option.some.inj hf
    exact ww_vret h dX10_laysBest_216 hQ ⟨rfl, rfl⟩
theorem dX10_leastGreatest_0 : decode cX10_leastGreatest 0 = .ok (.aload_n 0, 1) := by decide +kernel
theorem dX10_leastGreatest_1 : decode cX10_leastGreatest 1 = .ok (.getfield 57, 3) := by decide +kernel
theorem dX10_leastGreatest_4 : decode cX10_leastGreatest 4 = .ok (.aload_n 0, 1) := by decide +kernel
theorem dX10_leastGreatest_5 : decode cX10_leastGreatest 5 = .ok (.invokevirtual 132, 3) := by decide +kernel
theorem dX10_leastGreatest_8 : decode cX10_leastGreatest 8 = .ok (.iconst 0, 1) := by decide +kernel
theorem dX10_leastGreatest_9 : decode cX10_leastGreatest 9 = .ok (.iastore, 1) := by decide +kernel
theorem dX10_leastGreatest_10 : decode cX10_leastGreatest 10 = .ok (.aload_n 0, 1) := by decide +kernel
theorem dX10_leastGreatest_11 : decode cX10_leastGreatest 11 = .ok (.invokevirtual 132, 3) := by decide +kernel
theorem dX10_leastGreatest_14 : decode cX10_leastGreatest 14 = .ok (.iconst 1, 1) := by decide +kernel
theorem dX10_leastGreatest_15 : decode cX10_leastGreatest 15 = .ok (.isub, 1) := by decide +kernel
theorem dX10_leastGreatest_16 : decode cX10_leastGreatest 16 = .ok (.istore_n 1, 1) := by decide +kernel
theorem dX10_leastGreatest_17 : decode cX10_leastGreatest 17 = .ok (.iload_n 1, 1) := by decide +kernel
theorem dX10_leastGreatest_18 : decode cX10_leastGreatest 18 = .ok (.ifCond .lt 105, 3) := by decide +kernel
theorem dX10_leastGreatest_21 : decode cX10_leastGreatest 21 = .ok (.aload_n 0, 1) := by decide +kernel
theorem dX10_leastGreatest_22 : decode cX10_leastGreatest 22 = .ok (.getfield 57, 3) := by decide +kernel
theorem dX10_leastGreatest_25 : decode cX10_leastGreatest 25 = .ok (.iload_n 1, 1) := by decide +kernel
theorem dX10_leastGreatest_26 : decode cX10_leastGreatest 26 = .ok (.ldc 237, 2) := by decide +kernel
theorem dX10_leastGreatest_28 : decode cX10_leastGreatest 28 = .ok (.iastore, 1) := by decide +kernel
theorem dX10_leastGreatest_29 : decode cX10_leastGreatest 29 = .ok (.aload_n 0, 1) := by decide +kernel
theorem dX10_leastGreatest_30 : decode cX10_leastGreatest 30 = .ok (.iload_n 1, 1) := by decide +kernel
theorem dX10_leastGreatest_31 : decode cX10_leastGreatest 31 = .ok (.invokevirtual 228, 3) := by decide +kernel
theorem dX10_leastGreatest_34 : decode cX10_leastGreatest 34 = .ok (.istore_n 2, 1) := by decide +kernel
theorem dX10_leastGreatest_35 : decode cX10_leastGreatest 35 = .ok (.iload_n 1, 1) := by decide +kernel
theorem dX10_leastGreatest_36 : decode cX10_leastGreatest 36 = .ok (.istore_n 3, 1) := by decide +kernel
theorem dX10_leastGreatest_37 : decode cX10_leastGreatest 37 = .ok (.iload_n 3, 1) := by decide +kernel
theorem dX10_leastGreatest_38 : decode cX10_leastGreatest 38 = .ok (.iload_n 2, 1) := by decide +kernel
theorem dX10_leastGreatest_39 : decode cX10_leastGreatest 39 = .ok (.if_icmp .gt 78, 3) := by decide +kernel
theorem dX10_leastGreatest_42 : decode cX10_leastGreatest 42 = .ok (.aload_n 0, 1) := by decide +kernel
theorem dX10_leastGreatest_43 : decode cX10_leastGreatest 43 = .ok (.getfield 45, 3) := by decide +kernel
theorem dX10_leastGreatest_46 : decode cX10_leastGreatest 46 = .ok (.bipush 40, 2) := by decide +kernel
theorem dX10_leastGreatest_48 : decode cX10_leastGreatest 48 = .ok (.iload_n 1, 1) := by decide +kernel
theorem dX10_leastGreatest_49 : decode cX10_leastGreatest 49 = .ok (.imul, 1) := by decide +kernel
theorem dX10_leastGreatest_50 : decode cX10_leastGreatest 50 = .ok (.iload_n 3, 1) := by decide +kernel
theorem dX10_leastGreatest_51 : decode cX10_leastGreatest 51 = .ok (.iadd, 1) := by decide +kernel
theorem dX10_leastGreatest_52 : decode cX10_leastGreatest 52 = .ok (.iaload, 1) := by decide +kernel
theorem dX10_leastGreatest_53 : decode cX10_leastGreatest 53 = .ok (.istore 4, 2) := by decide +kernel
theorem dX10_leastGreatest_55 : decode cX10_leastGreatest 55 = .ok (.iload 4, 2) := by decide +kernel
theorem dX10_leastGreatest_57 : decode cX10_leastGreatest 57 = .ok (.iconst (-1), 1) := by decide +kernel
theorem dX10_leastGreatest_58 : decode cX10_leastGreatest 58 = .ok (.if_icmp .ne 6, 3) := by decide +kernel
theorem dX10_leastGreatest_61 : decode cX10_leastGreatest 61 = .ok (.goto 50, 3) := by decide +kernel
theorem dX10_leastGreatest_64 : decode cX10_leastGreatest 64 = .ok (.iload 4, 2) := by decide +kernel
theorem dX10_leastGreatest_66 : decode cX10_leastGreatest 66 = .ok (.aload_n 0, 1) := by decide +kernel
theorem dX10_leastGreatest_67 : decode cX10_leastGreatest 67 = .ok (.getfield 57, 3) := by decide +kernel
theorem dX10_leastGreatest_70 : decode cX10_leastGreatest 70 = .ok (.iload_n 3, 1) := by decide +kernel
theorem dX10_leastGreatest_71 : decode cX10_leastGreatest 71 = .ok (.iconst 1, 1) := by decide +kernel
theorem dX10_leastGreatest_72 : decode cX10_leastGreatest 72 = .ok (.iadd, 1) := by decide +kernel
theorem dX10_leastGreatest_73 : decode cX10_leastGreatest 73 = .ok (.iaload, 1) := by decide +kernel
theorem dX10_leastGreatest_74 : decode cX10_leastGreatest 74 = .ok (.if_icmp .le 8, 3) := by decide +kernel
theorem dX10_leastGreatest_77 : decode cX10_leastGreatest 77 = .ok (.iload 4, 2) := by decide +kernel
theorem dX10_leastGreatest_79 : decode cX10_leastGreatest 79 = .ok (.goto 11, 3) := by decide +kernel
theorem dX10_leastGreatest_82 : decode cX10_leastGreatest 82 = .ok (.aload_n 0, 1) := by decide +kernel
theorem dX10_leastGreatest_83 : decode cX10_leastGreatest 83 = .ok (.getfield 57, 3) := by decide +kernel
theorem dX10_leastGreatest_86 : decode cX10_leastGreatest 86 = .ok (.iload_n 3, 1) := by decide +kernel
theorem dX10_leastGreatest_87 : decode cX10_leastGreatest 87 = .ok (.iconst 1, 1) := by decide +kernel
theorem dX10_leastGreatest_88 : decode cX10_leastGreatest 88 = .ok (.iadd, 1) := by decide +kernel
theorem dX10_leastGreatest_89 : decode cX10_leastGreatest 89 = .ok (.iaload, 1) := by decide +kernel
theorem dX10_leastGreatest_90 : decode cX10_leastGreatest 90 = .ok (.istore 5, 2) := by decide +kernel
theorem dX10_leastGreatest_92 : decode cX10_leastGreatest 92 = .ok (.iload 5, 2) := by decide +kernel
theorem dX10_leastGreatest_94 : decode cX10_leastGreatest 94 = .ok (.aload_n 0, 1) := by decide +kernel
theorem dX10_leastGreatest_95 : decode cX10_leastGreatest 95 = .ok (.getfield 57, 3) := by decide +kernel
theorem dX10_leastGreatest_98 : decode cX10_leastGreatest 98 = .ok (.iload_n 1, 1) := by decide +kernel
theorem dX10_leastGreatest_99 : decode cX10_leastGreatest 99 = .ok (.iaload, 1) := by decide +kernel
theorem dX10_leastGreatest_100 : decode cX10_leastGreatest 100 = .ok (.if_icmp .ge 11, 3) := by decide +kernel
theorem dX10_leastGreatest_103 : decode cX10_leastGreatest 103 = .ok (.aload_n 0, 1) := by decide +kernel
theorem dX10_leastGreatest_104 : decode cX10_leastGreatest 104 = .ok (.getfield 57, 3) := by decide +kernel
theorem dX10_leastGreatest_107 : decode cX10_leastGreatest 107 = .ok (.iload_n 1, 1) := by decide +kernel
theorem dX10_leastGreatest_108 : decode cX10_leastGreatest 108 = .ok (.iload 5, 2) := by decide +kernel
theorem dX10_leastGreatest_110 : decode cX10_leastGreatest 110 = .ok (.iastore, 1) := by decide +kernel
theorem dX10_leastGreatest_111 : decode cX10_leastGreatest 111 = .ok (.iinc 3 1, 3) := by decide +kernel
theorem dX10_leastGreatest_114 : decode cX10_leastGreatest 114 = .ok (.goto (-77), 3) := by decide +kernel
theorem dX10_leastGreatest_117 : decode cX10_leastGreatest 117 = .ok (.iinc 1 (-1), 3) := by decide +kernel
theorem dX10_leastGreatest_120 : decode cX10_leastGreatest 120 = .ok (.goto (-103), 3) := by decide +kernel
theorem dX10_leastGreatest_123 : decode cX10_leastGreatest 123 = .ok (.aload_n 0, 1) := by decide +kernel
theorem dX10_leastGreatest_124 : decode cX10_leastGreatest 124 = .ok (.getfield 57, 3) := by decide +kernel
theorem dX10_leastGreatest_127 : decode cX10_leastGreatest 127 = .ok (.iconst 0, 1) := by decide +kernel
theorem dX10_leastGreatest_128 : decode cX10_leastGreatest 128 = .ok (.iaload, 1) := by decide +kernel
theorem dX10_leastGreatest_129 : decode cX10_leastGreatest 129 = .ok (.ireturn, 1) := by decide +kernel
theorem ok_X10_leastGreatest : okY RX10 yX10_leastGreatest 0 := ⟨rfl, by decide, by decide, by decide +kernel⟩
def j_X10_leastGreatest_111_20 (v3_16 : Int32) (M_19 : OV) : Option ((Int32 × OV) ⊕ (OV)) := bnd (v3_16 + 1) (fun v3_21 => some (.inl (v3_21, M_19)))
def j_X10_leastGreatest_90_23 (M_17 : OV) (v1_8 : Int32) (v3_16 : Int32) (t_22 : Int32) : Option ((Int32 × OV) ⊕ (OV)) := bnd t_22 (fun v5_24 => gd (ix v1_8 41) ((if (ar M_17 23 v1_8.toNatClampNeg) ≤ v5_24 then j_X10_leastGreatest_111_20 v3_16 M_17 else gd (ix v1_8 41) (bnd (sA M_17 23 v1_8.toNatClampNeg v5_24) (fun M_25 => j_X10_leastGreatest_111_20 v3_16 M_25)))))
def s_X10_leastGreatest_37_15 (v1_8 : Int32) (v2_13 : Int32) : (Int32 × OV) → Option ((Int32 × OV) ⊕ (OV)) := un2 (fun v3_16 M_17 => (if v2_13 < v3_16 then some (.inr M_17) else gd (ix (((40 : Int32) * v1_8) + v3_16) 1640) (bnd (ar M_17 19 (((40 : Int32) * v1_8) + v3_16).toNatClampNeg) (fun v4_18 => (if v4_18 = (-1 : Int32) then j_X10_leastGreatest_111_20 v3_16 M_17 else gd (ix (v3_16 + (1 : Int32)) 41) ((if v4_18 ≤ (ar M_17 23 (v3_16 + (1 : Int32)).toNatClampNeg) then gd (ix (v3_16 + (1 : Int32)) 41) (j_X10_leastGreatest_90_23 M_17 v1_8 v3_16 (ar M_17 23 (v3_16 + (1 : Int32)).toNatClampNeg)) else j_X10_leastGreatest_90_23 M_17 v1_8 v3_16 v4_18)))))))
def s_X10_leastGreatest_17_7 : (Int32 × OV) → Option ((Int32 × OV) ⊕ (OV)) := un2 (fun v1_8 M_9 => (if v1_8 < 0 then some (.inr M_9) else gd (ix v1_8 41) (bnd (sA M_9 23 v1_8.toNatClampNeg (1000000000 : Int32)) (fun M_10 => (f_X10_limitOf M_10 v1_8).bind (un1 (fun r_11 => bnd r_11 (fun v2_13 => bnd v1_8 (fun v3_14 => ((lp (s_X10_leastGreatest_37_15 v1_8 v2_13) 5000 (v3_14, M_10)).bind (un1 (fun M_26 => bnd (v1_8 + (-1)) (fun v1_27 => some (.inl (v1_27, M_26))))))))))))))
def f_X10_leastGreatest (M : OV) : Option (Int32 × OV) := (f_X10_many M).bind (un1 (fun r_1 => gd (ix r_1 41) (bnd (sA M 23 r_1.toNatClampNeg (0 : Int32)) (fun M_3 => (f_X10_many M_3).bind (un1 (fun r_4 => bnd (r_4 - (1 : Int32)) (fun v1_6 => ((lp (s_X10_leastGreatest_17_7) 5000 (v1_6, M_3)).bind (un1 (fun M_28 => gd (ix (0 : Int32) 41) (some ((ar M_28 23 (0 : Int32).toNatClampNeg), M_28))))))))))))
def r_X10_leastGreatest : Room := { frames := 2, cells := 0, slots := 0, locals := 43 }
set_option maxHeartbeats 4000000 in
set_option maxRecDepth 100000 in
theorem c_X10_leastGreatest (l : Launch) (D : va_G) (ev : EvT) (cy : Nat → ClassId) (oM : Nat) (aM : Nat → Nat) (M : OV) (o : Int32 × OV) (hf : f_X10_leastGreatest M = some o) : Fn l yX10_leastGreatest cX10_leastGreatest 6 (some .int) r_X10_leastGreatest D ev cy [.ref oM] [gX10 cy oM aM M] (fun v G => v = some (.int o.1) ∧ G = [gX10 cy oM aM o.2]) := by
  refine Fn_of (by decide) (Nat.le_of_ble_eq_true rfl) (fun X A Q h hQ _ => ?_)
  unfold f_X10_leastGreatest at hf
  show ww X D A 6 Q 0 0 0 [(0, .ref oM)] [] [gX10 cy oM aM M]
  refine ww_aload_n h dX10_leastGreatest_0 rfl 0 rfl 1 rfl ?_
  refine ww_get h inG10 rfl 0 rfl rfl 23 (by decide) w_1180 rfl dX10_leastGreatest_1 4 rfl ?_
  refine ww_aload_n h dX10_leastGreatest_4 rfl 0 rfl 5 rfl ?_
  obtain ⟨r_1, hu2, hf⟩ := ob1 hf
  refine ww_cVi h (c_X10_many l D ev cy oM aM M _ hu2) ⟨w_1330, w_1327, w_1329, w_37, w_111, ok_X10_many⟩ ⟨by decide, by decide⟩ ⟨by decide, by decide⟩ ⟨rfl, rfl⟩ [0] rfl 0 rfl rfl rfl rfl (Nat.le_of_ble_eq_true rfl) dX10_leastGreatest_5 8 rfl (Gs' := [gX10 cy oM aM M]) rfl ?_
  clear hu2
  refine ww_iconst (v := 0) h dX10_leastGreatest_8 (by decide) 9 rfl ?_
  have hi := (gd_some hf).1
  replace hf := (gd_some hf).2
  refine ww_iast h 0 rfl 15 rfl (ix_in hi) dX10_leastGreatest_9 10 rfl ?_
  clear hi
  refine ww_nm (fun z => [gX10 cy oM aM z]) (sA M 23 r_1.toNatClampNeg (0 : Int32)) (fun M_3 e => ?_)
  replace hf := bnd_at e hf
  clear e
  refine ww_aload_n h dX10_leastGreatest_10 rfl 0 rfl 11 rfl ?_
  obtain ⟨r_4, hu5, hf⟩ := ob1 hf
  refine ww_cVi h (c_X10_many l D ev cy oM aM M_3 _ hu5) ⟨w_1330, w_1327, w_1329, w_37, w_111, ok_X10_many⟩ ⟨by decide, by decide⟩ ⟨by decide, by decide⟩ ⟨rfl, rfl⟩ [0] rfl 0 rfl rfl rfl rfl (Nat.le_of_ble_eq_true rfl) dX10_leastGreatest_11 14 rfl (Gs' := [gX10 cy oM aM M_3]) rfl ?_
  clear hu5
  refine ww_iconst (v := 1) h dX10_leastGreatest_14 (by decide) 15 rfl ?_
  refine ww_isub h dX10_leastGreatest_15 16 rfl ?_
  refine ww_ist_n h dX10_leastGreatest_16 rfl (by decide) (fun v1_6 => [(1, .int v1_6), (0, .ref oM)]) (fun _ => rfl) 17 rfl (fun v1_6 e => ?_)
  replace hf := bnd_at e hf
  clear e
  refine ww_lo [1, 0] (lo' := [(0, .ref oM), (1, .int v1_6)]) rfl ?_
  obtain ⟨M_28, h7, hf⟩ := ob1 hf
  refine lp_walk (un2 (fun v1_8 M_9 => ww X D A 6 Q 0 0 17 [(0, .ref oM), (1, .int v1_8)] [] [gX10 cy oM aM M_9])) (un1 (fun M_28 => ww X D A 6 Q 0 0 123 [(0, .ref oM)] [] [gX10 cy oM aM M_28])) ?_ _ _ _ h7 ?_
  · clear h7 hf
    intro s7 o7 hf hI7 hE7
    obtain ⟨v1_8, M_9⟩ := s7
    unfold s_X10_leastGreatest_17_7 at hf
    replace hf := un2_e hf
    show ww X D A 6 Q 0 0 17 [(0, .ref oM), (1, .int v1_8)] [] [gX10 cy oM aM M_9]
    refine ww_iload_n h dX10_leastGreatest_17 rfl 1 rfl 18 rfl ?_
    refine ww_if_lt h dX10_leastGreatest_18 123 (by decide) 21 rfl (fun c => ?_) (fun c => ?_)
    · replace hf := ite_t c hf
      refine ww_lo [0] (lo' := [(0, .ref oM)]) rfl ?_
      exact hE7 M_9 (Option.some.inj hf).symm
    · replace hf := ite_f c hf
      refine ww_aload_n h dX10_leastGreatest_21 rfl 0 rfl 22 rfl ?_
      refine ww_get h inG10 rfl 0 rfl rfl 23 (by decide) w_1180 rfl dX10_leastGreatest_22 25 rfl ?_
      refine ww_iload_n h dX10_leastGreatest_25 rfl 1 rfl 26 rfl ?_
      refine ww_ldc h w_1505 dX10_leastGreatest_26 28 rfl ?_
      have hi := (gd_some hf).1
      replace hf := (gd_some hf).2
      refine ww_iast h 0 rfl 15 rfl (ix_in hi) dX10_leastGreatest_28 29 rfl ?_
      clear hi
      refine ww_nm (fun z => [gX10 cy oM aM z]) (sA M_9 23 v1_8.toNatClampNeg (1000000000 : Int32)) (fun M_10 e => ?_)
      replace hf := bnd_at e hf
      clear e
      refine ww_aload_n h dX10_leastGreatest_29 rfl 0 rfl 30 rfl ?_
      refine ww_iload_n h dX10_leastGreatest_30 rfl 1 rfl 31 rfl ?_
      obtain ⟨r_11, hu12, hf⟩ := ob1 hf
      refine ww_cVi h (c_X10_limitOf l D ev cy oM aM M_10 v1_8 _ hu12) ⟨w_1504, w_1501, w_1503, w_58, w_111, ok_X10_limitOf⟩ ⟨by decide, by decide⟩ ⟨by decide, by decide⟩ ⟨rfl, rfl⟩ [0] rfl 0 rfl rfl rfl rfl (Nat.le_of_ble_eq_true rfl) dX10_leastGreatest_31 34 rfl (Gs' := [gX10 cy oM aM M_10]) rfl ?_
      clear hu12
      refine ww_ist_n h dX10_leastGreatest_34 rfl (by decide) (fun v2_13 => [(2, .int v2_13), (0, .ref oM), (1, .int v1_8)]) (fun _ => rfl) 35 rfl (fun v2_13 e => ?_)
      replace hf := bnd_at e hf
      clear e
      refine ww_iload_n h dX10_leastGreatest_35 rfl 2 rfl 36 rfl ?_
      refine ww_ist_n h dX10_leastGreatest_36 rfl (by decide) (fun v3_14 => [(3, .int v3_14), (2, .int v2_13), (0, .ref oM), (1, .int v1_8)]) (fun _ => rfl) 37 rfl (fun v3_14 e => ?_)
      replace hf := bnd_at e hf
      clear e
      refine ww_lo [2, 3, 1, 0] (lo' := [(0, .ref oM), (1, .int v1_8), (2, .int v2_13), (3, .int v3_14)]) rfl ?_
      obtain ⟨M_26, h15, hf⟩ := ob1 hf
      refine lp_walk (un2 (fun v3_16 M_17 => ww X D A 6 Q 0 0 37 [(0, .ref oM), (1, .int v1_8), (2, .int v2_13), (3, .int v3_16)] [] [gX10 cy oM aM M_17])) (un1 (fun M_26 => ww X D A 6 Q 0 0 117 [(0, .ref oM), (1, .int v1_8)] [] [gX10 cy oM aM M_26])) ?_ _ _ _ h15 ?_
      · clear h15 hf
        intro s15 o15 hf hI15 hE15
        obtain ⟨v3_16, M_17⟩ := s15
        unfold s_X10_leastGreatest_37_15 at hf
        replace hf := un2_e hf
        show ww X D A 6 Q 0 0 37 [(0, .ref oM), (1, .int v1_8), (2, .int v2_13), (3, .int v3_16)] [] [gX10 cy oM aM M_17]
        refine ww_iload_n h dX10_leastGreatest_37 rfl 3 rfl 38 rfl ?_
        refine ww_iload_n h dX10_leastGreatest_38 rfl 2 rfl 39 rfl ?_
        refine ww_icmp_gt h dX10_leastGreatest_39 117 (by decide) 42 rfl (fun c => ?_) (fun c => ?_)
        · replace hf := ite_t c hf
          refine ww_lo [0, 1] (lo' := [(0, .ref oM), (1, .int v1_8)]) rfl ?_
          exact hE15 M_17 (Option.some.inj hf).symm
        · replace hf := ite_f c hf
          refine ww_aload_n h dX10_leastGreatest_42 rfl 0 rfl 43 rfl ?_
          refine ww_get h inG10 rfl 0 rfl rfl 19 (by decide) w_1176 rfl dX10_leastGreatest_43 46 rfl ?_
          refine ww_bipush (v := 40) h dX10_leastGreatest_46 (by decide) 48 rfl ?_
          refine ww_iload_n h dX10_leastGreatest_48 rfl 1 rfl 49 rfl ?_
          refine ww_imul h dX10_leastGreatest_49 50 rfl ?_
          refine ww_iload_n h dX10_leastGreatest_50 rfl 3 rfl 51 rfl ?_
          refine ww_iadd h dX10_leastGreatest_51 52 rfl ?_
          have hi := (gd_some hf).1
          replace hf := (gd_some hf).2
          refine ww_iald h 0 rfl 11 rfl (ix_in hi) dX10_leastGreatest_52 53 rfl ?_
          clear hi
          refine ww_ist h dX10_leastGreatest_53 (by decide) (fun v4_18 => [(4, .int v4_18), (0, .ref oM), (1, .int v1_8), (2, .int v2_13), (3, .int v3_16)]) (fun _ => rfl) 55 rfl (fun v4_18 e => ?_)
          replace hf := bnd_at e hf
          clear e
          refine ww_iload h dX10_leastGreatest_55 0 rfl 57 rfl ?_
          refine ww_iconst (v := (-1)) h dX10_leastGreatest_57 (by decide) 58 rfl ?_
          have hJ111_20 : ∀ (M_19 : OV), j_X10_leastGreatest_111_20 v3_16 M_19 = some o15 → ww X D A 6 Q 0 0 111 [(0, .ref oM), (1, .int v1_8), (2, .int v2_13), (3, .int v3_16)] [] [gX10 cy oM aM M_19] := by
            intro M_19 hf
            unfold j_X10_leastGreatest_111_20 at hf
            refine ww_inc (c := 1) h dX10_leastGreatest_111 3 rfl (by decide) (by decide) (fun v3_21 => [(3, .int v3_21), (0, .ref oM), (1, .int v1_8), (2, .int v2_13)]) (fun _ => rfl) 114 rfl (fun v3_21 e => ?_)
            replace hf := bnd_at e hf
            clear e
            refine ww_goto h dX10_leastGreatest_114 37 (by decide) ?_
            refine ww_lo [1, 2, 3, 0] (lo' := [(0, .ref oM), (1, .int v1_8), (2, .int v2_13), (3, .int v3_21)]) rfl ?_
            exact hI15 (v3_21, M_19) (Option.some.inj hf).symm
          refine ww_icmp_ne h dX10_leastGreatest_58 64 (by decide) 61 rfl (fun c => ?_) (fun c => ?_)
          · replace hf := ite_f c hf
            refine ww_iload h dX10_leastGreatest_64 0 rfl 66 rfl ?_
            refine ww_aload_n h dX10_leastGreatest_66 rfl 1 rfl 67 rfl ?_
            refine ww_get h inG10 rfl 0 rfl rfl 23 (by decide) w_1180 rfl dX10_leastGreatest_67 70 rfl ?_
            refine ww_iload_n h dX10_leastGreatest_70 rfl 4 rfl 71 rfl ?_
            refine ww_iconst (v := 1) h dX10_leastGreatest_71 (by decide) 72 rfl ?_
            refine ww_iadd h dX10_leastGreatest_72 73 rfl ?_
            have hi := (gd_some hf).1
            replace hf := (gd_some hf).2
            refine ww_iald h 0 rfl 15 rfl (ix_in hi) dX10_leastGreatest_73 74 rfl ?_
            clear hi
            have hJ90_23 : ∀ (t_22 : Int32), j_X10_leastGreatest_90_23 M_17 v1_8 v3_16 t_22 = some o15 → ww X D A 6 Q 0 0 90 [(0, .ref oM), (1, .int v1_8), (2, .int v2_13), (3, .int v3_16)] [.int t_22] [gX10 cy oM aM M_17] := by
              intro t_22 hf
              unfold j_X10_leastGreatest_90_23 at hf
              refine ww_ist h dX10_leastGreatest_90 (by decide) (fun v5_24 => [(5, .int v5_24), (0, .ref oM), (1, .int v1_8), (2, .int v2_13), (3, .int v3_16)]) (fun _ => rfl) 92 rfl (fun v5_24 e => ?_)
              replace hf := bnd_at e hf
              clear e
              refine ww_iload h dX10_leastGreatest_92 0 rfl 94 rfl ?_
              refine ww_aload_n h dX10_leastGreatest_94 rfl 1 rfl 95 rfl ?_
              refine ww_get h inG10 rfl 0 rfl rfl 23 (by decide) w_1180 rfl dX10_leastGreatest_95 98 rfl ?_
              refine ww_iload_n h dX10_leastGreatest_98 rfl 2 rfl 99 rfl ?_
              have hi := (gd_some hf).1
              replace hf := (gd_some hf).2
              refine ww_iald h 0 rfl 15 rfl (ix_in hi) dX10_leastGreatest_99 100 rfl ?_
              clear hi
              refine ww_icmp_ge h dX10_leastGreatest_100 111 (by decide) 103 rfl (fun c => ?_) (fun c => ?_)
              · replace hf := ite_t c hf
                refine ww_lo [1, 2, 3, 4] (lo' := [(0, .ref oM), (1, .int v1_8), (2, .int v2_13), (3, .int v3_16)]) rfl ?_
                exact hJ111_20 M_17 hf
              · replace hf := ite_f c hf
                refine ww_aload_n h dX10_leastGreatest_103 rfl 1 rfl 104 rfl ?_
                refine ww_get h inG10 rfl 0 rfl rfl 23 (by decide) w_1180 rfl dX10_leastGreatest_104 107 rfl ?_
                refine ww_iload_n h dX10_leastGreatest_107 rfl 2 rfl 108 rfl ?_
                refine ww_iload h dX10_leastGreatest_108 0 rfl 110 rfl ?_
                have hi := (gd_some hf).1
                replace hf := (gd_some hf).2
                refine ww_iast h 0 rfl 15 rfl (ix_in hi) dX10_leastGreatest_110 111 rfl ?_
                clear hi
                refine ww_nm (fun z => [gX10 cy oM aM z]) (sA M_17 23 v1_8.toNatClampNeg v5_24) (fun M_25 e => ?_)
                replace hf := bnd_at e hf
                clear e
                refine ww_lo [1, 2, 3, 4] (lo' := [(0, .ref oM), (1, .int v1_8), (2, .int v2_13), (3, .int v3_16)]) rfl ?_
                exact hJ111_20 M_25 hf
            refine ww_icmp_le h dX10_leastGreatest_74 82 (by decide) 77 rfl (fun c => ?_) (fun c => ?_)
            · replace hf := ite_t c hf
              refine ww_aload_n h dX10_leastGreatest_82 rfl 1 rfl 83 rfl ?_
              refine ww_get h inG10 rfl 0 rfl rfl 23 (by decide) w_1180 rfl dX10_leastGreatest_83 86 rfl ?_
              refine ww_iload_n h dX10_leastGreatest_86 rfl 4 rfl 87 rfl ?_
              refine ww_iconst (v := 1) h dX10_leastGreatest_87 (by decide) 88 rfl ?_
              refine ww_iadd h dX10_leastGreatest_88 89 rfl ?_
              have hi := (gd_some hf).1
              replace hf := (gd_some hf).2
              refine ww_iald h 0 rfl 15 rfl (ix_in hi) dX10_leastGreatest_89 90 rfl ?_
              clear hi
              refine ww_lo [1, 2, 3, 4] (lo' := [(0, .ref oM), (1, .int v1_8), (2, .int v2_13), (3, .int v3_16)]) rfl ?_
              exact hJ90_23 (ar M_17 23 (v3_16 + (1 : Int32)).toNatClampNeg) hf
            · replace hf := ite_f c hf
              refine ww_iload h dX10_leastGreatest_77 0 rfl 79 rfl ?_
              refine ww_goto h dX10_leastGreatest_79 90 (by decide) ?_
              refine ww_lo [1, 2, 3, 4] (lo' := [(0, .ref oM), (1, .int v1_8), (2, .int v2_13), (3, .int v3_16)]) rfl ?_
              exact hJ90_23 v4_18 hf
          · replace hf := ite_t c hf
            refine ww_goto h dX10_leastGreatest_61 111 (by decide) ?_
            refine ww_lo [1, 2, 3, 4] (lo' := [(0, .ref oM), (1, .int v1_8), (2, .int v2_13), (3, .int v3_16)]) rfl ?_
            exact hJ111_20 M_17 hf
      · clear h15
        show ww X D A 6 Q 0 0 117 [(0, .ref oM), (1, .int v1_8)] [] [gX10 cy oM aM M_26]
        refine ww_inc (c := (-1)) h dX10_leastGreatest_117 1 rfl (by decide) (by decide) (fun v1_27 => [(1, .int v1_27), (0, .ref oM)]) (fun _ => rfl) 120 rfl (fun v1_27 e => ?_)
        replace hf := bnd_at e hf
        clear e
        refine ww_goto h dX10_leastGreatest_120 17 (by decide) ?_
        refine ww_lo [1, 0] (lo' := [(0, .ref oM), (1, .int v1_27)]) rfl ?_
        exact hI7 (v1_27, M_26) (Option.some.inj hf).symm
  · clear h7
    show ww X D A 6 Q 0 0 123 [(0, .ref oM)] [] [gX10 cy oM aM M_28]
    refine ww_aload_n h dX10_leastGreatest_123 rfl 0 rfl 124 rfl ?_
    refine ww_get h inG10 rfl 0 rfl rfl 23 (by decide) w_1180 rfl dX10_leastGreatest_124 127 rfl ?_
    refine ww_iconst (v := 0) h dX10_leastGreatest_127 (by decide) 128 rfl ?_
    have hi := (gd_some hf).1
    replace hf := (gd_some hf).2
    refine ww_iald h 0 rfl 15 rfl (ix_in hi) dX10_leastGreatest_128 129 rfl ?_
    clear hi
    obtain rfl := Option.some.inj hf
    exact ww_iret h dX10_leastGreatest_129 hQ ⟨rfl, rfl⟩
theorem dX10_isKind_0 : decode cX10_isKind 0 = .ok (.iload_n 0, 1) := by decide +kernel
theorem dX10_isKind_1 : decode cX10_isKind 1 = .ok (.iconst 0, 1) := by decide +kernel
theorem dX10_isKind_2 : decode cX10_isKind 2 = .ok (.iconst 3, 1) := by decide +kernel
theorem dX10_isKind_3 : decode cX10_isKind 3 = .ok (.invokestatic 125, 3) := by decide +kernel
theorem dX10_isKind_6 : decode cX10_isKind 6 = .ok (.ireturn, 1) := by decide +kernel
theorem ok_X10_isKind : okY RX10 yX10_isKind 1 := ⟨rfl, by decide, by decide, by decide +kernel⟩
def f_X10_isKind (p0 : Int32) : Option (Int32) := (f_X10_in p0 (0 : Int32) (3 : Int32)).bind (un1 (fun r_1 => gd (b01 r_1) (some r_1)))
def r_X10_isKind : Room := { frames := 1, cells := 0, slots := 0, locals := 22 }
set_option maxHeartbeats 4000000 in
set_option maxRecDepth 100000 in
theorem c_X10_isKind (l : Launch) (D : va_G) (ev : EvT) (cy : Nat → ClassId) (p0 : Int32) (o : Int32) (hf : f_X10_isKind p0 = some o) : Fn l yX10_isKind cX10_isKind 1 (some .boolean) r_X10_isKind D ev cy [.int p0] [] (fun v G => v = some (.int o) ∧ G = []) := by
  refine Fn_of (by decide) (Nat.le_of_ble_eq_true rfl) (fun X A Q h hQ _ => ?_)
  unfold f_X10_isKind at hf
  show ww X D A 1 Q 0 0 0 [(0, .int p0)] [] []
  refine ww_iload_n h dX10_isKind_0 rfl 0 rfl 1 rfl ?_
  refine ww_iconst (v := 0) h dX10_isKind_1 (by decide) 2 rfl ?_
  refine ww_iconst (v := 3) h dX10_isKind_2 (by decide) 3 rfl ?_
  obtain ⟨r_1, hu2, hf⟩ := ob1 hf
  refine ww_cSi h (c_X10_in l D ev cy p0 (0 : Int32) (3 : Int32) _ hu2) ⟨w_1333, w_1331, w_1332, w_111, ok_X10_in⟩ ⟨by decide, by decide⟩ ⟨by decide, by decide⟩ ⟨rfl, rfl⟩ [] rfl rfl (Nat.le_of_ble_eq_true rfl) dX10_isKind_3 6 rfl (Gs' := []) rfl ?_
  clear hu2
  have hb := (gd_some hf).1
  replace hf := (gd_some hf).2
  obtain rfl := Option.some.inj hf
  exact ww_zret h (b01_or hb) dX10_isKind_6 hQ ⟨rfl, rfl⟩
theorem dX10_firstOf_0 : decode cX10_firstOf 0 = .ok (.iload_n 1, 1) := by decide +kernel
theorem dX10_firstOf_1 : decode cX10_firstOf 1 = .ok (.ifCond .ne 7, 3) := by decide +kernel
theorem dX10_firstOf_4 : decode cX10_firstOf 4 = .ok (.iconst 0, 1) := by decide +kernel
theorem dX10_firstOf_5 : decode cX10_firstOf 5 = .ok (.goto 13, 3) := by decide +kernel
theorem dX10_firstOf_8 : decode cX10_firstOf 8 = .ok (.aload_n 0, 1) := by decide +kernel
theorem dX10_firstOf_9 : decode cX10_firstOf 9 = .ok (.getfield 60, 3) := by decide +kernel
theorem dX10_firstOf_12 : decode cX10_firstOf 12 = .ok (.iload_n 1, 1) := by decide +kernel
theorem dX10_firstOf_13 : decode cX10_firstOf 13 = .ok (.iconst 1, 1) := by decide +kernel
theorem dX10_firstOf_14 : decode cX10_firstOf 14 = .ok (.isub, 1) := by decide +kernel
theorem dX10_firstOf_15 : decode cX10_firstOf 15 = .ok (.iaload, 1) := by decide +kernel
theorem dX10_firstOf_16 : decode cX10_firstOf 16 = .ok (.iconst 1, 1) := by decide +kernel
theorem dX10_firstOf_17 : decode cX10_firstOf 17 = .ok (.iadd, 1) := by decide +kernel
theorem dX10_firstOf_18 : decode cX10_firstOf 18 = .ok (.ireturn, 1) := by decide +kernel
theorem ok_X10_firstOf : okY RX10 yX10_firstOf 1 := ⟨rfl, by decide, by decide, by decide +kernel⟩
def f_X10_firstOf (M : OV) (p0 : Int32) : Option (Int32) := (if p0 = 0 then some (0 : Int32) else gd (ix (p0 - (1 : Int32)) 41) (some ((ar M 24 (p0 - (1 : Int32)).toNatClampNeg) + (1 : Int32))))
def r_X10_firstOf : Room := { frames := 0, cells := 0, slots := 0, locals := 0 }
set_option maxHeartbeats 4000000 in
set_option maxRecDepth 100000 in
theorem c_X10_firstOf (l : Launch) (D : va_G) (ev : EvT) (cy : Nat → ClassId) (oM : Nat) (aM : Nat → Nat) (M : OV) (p0 : Int32) (o : Int32) (hf : f_X10_firstOf M p0 = some o) : Fn l yX10_firstOf cX10_firstOf 2 (some .int) r_X10_firstOf D ev cy [.ref oM, .int p0] [gX10 cy oM aM M] (fun v G => v = some (.int o) ∧ G = [gX10 cy oM aM M]) := by
  refine Fn_of (by decide) (Nat.le_of_ble_eq_true rfl) (fun X A Q h hQ _ => ?_)
  unfold f_X10_firstOf at hf
  show ww X D A 2 Q 0 0 0 [(0, .ref oM), (1, .int p0)] [] [gX10 cy oM aM M]
  refine ww_iload_n h dX10_firstOf_0 rfl 1 rfl 1 rfl ?_
  refine ww_if_ne h dX10_firstOf_1 8 (by decide) 4 rfl (fun c => ?_) (fun c => ?_)
  · replace hf := ite_f c hf
    refine ww_aload_n h dX10_firstOf_8 rfl 0 rfl 9 rfl ?_
    refine ww_get h inG10 rfl 0 rfl rfl 24 (by decide) w_1181 rfl dX10_firstOf_9 12 rfl ?_
    refine ww_iload_n h dX10_firstOf_12 rfl 1 rfl 13 rfl ?_
    refine ww_iconst (v := 1) h dX10_firstOf_13 (by decide) 14 rfl ?_
    refine ww_isub h dX10_firstOf_14 15 rfl ?_
    have hi := (gd_some hf).1
    replace hf := (gd_some hf).2
    refine ww_iald h 0 rfl 16 rfl (ix_in hi) dX10_firstOf_15 16 rfl ?_
    clear hi
    refine ww_iconst (v := 1) h dX10_firstOf_16 (by decide) 17 rfl ?_
    refine ww_iadd h dX10_firstOf_17 18 rfl ?_
    obtain rfl := Option.some.inj hf
    exact ww_iret h dX10_firstOf_18 hQ ⟨rfl, rfl⟩
  · replace hf := ite_t c hf
    refine ww_iconst (v := 0) h dX10_firstOf_4 (by decide) 5 rfl ?_
    refine ww_goto h dX10_firstOf_5 18 (by decide) ?_
    obtain rfl := Option.some.inj hf
    exact ww_iret h dX10_firstOf_18 hQ ⟨rfl, rfl⟩
theorem dX10_leastTaken_0 : decode cX10_leastTaken 0 = .ok (.iconst (-1), 1) := by decide +kernel
theorem dX10_leastTaken_1 : decode cX10_leastTaken 1 = .ok (.istore 4, 2) := by decide +kernel
theorem dX10_leastTaken_3 : decode cX10_leastTaken 3 = .ok (.iload_n 1, 1) := by decide +kernel
theorem dX10_leastTaken_4 : decode cX10_leastTaken 4 = .ok (.istore 5, 2) := by decide +kernel
theorem dX10_leastTaken_6 : decode cX10_leastTaken 6 = .ok (.iload 5, 2) := by decide +kernel
theorem dX10_leastTaken_8 : decode cX10_leastTaken 8 = .ok (.iload_n 2, 1) := by decide +kernel
theorem dX10_leastTaken_9 : decode cX10_leastTaken 9 = .ok (.if_icmp .gt 72, 3) := by decide +kernel
theorem dX10_leastTaken_12 : decode cX10_leastTaken 12 = .ok (.aload_n 0, 1) := by decide +kernel
theorem dX10_leastTaken_13 : decode cX10_leastTaken 13 = .ok (.getfield 27, 3) := by decide +kernel
theorem dX10_leastTaken_16 : decode cX10_leastTaken 16 = .ok (.aload_n 0, 1) := by decide +kernel
theorem dX10_leastTaken_17 : decode cX10_leastTaken 17 = .ok (.iload 5, 2) := by decide +kernel
theorem dX10_leastTaken_19 : decode cX10_leastTaken 19 = .ok (.invokevirtual 144, 3) := by decide +kernel
theorem dX10_leastTaken_22 : decode cX10_leastTaken 22 = .ok (.iaload, 1) := by decide +kernel
theorem dX10_leastTaken_23 : decode cX10_leastTaken 23 = .ok (.iload_n 3, 1) := by decide +kernel
theorem dX10_leastTaken_24 : decode cX10_leastTaken 24 = .ok (.if_icmp .ne 51, 3) := by decide +kernel
theorem dX10_leastTaken_27 : decode cX10_leastTaken 27 = .ok (.aload_n 0, 1) := by decide +kernel
theorem dX10_leastTaken_28 : decode cX10_leastTaken 28 = .ok (.getfield 63, 3) := by decide +kernel
theorem dX10_leastTaken_31 : decode cX10_leastTaken 31 = .ok (.iload 5, 2) := by decide +kernel
theorem dX10_leastTaken_33 : decode cX10_leastTaken 33 = .ok (.iaload, 1) := by decide +kernel
theorem dX10_leastTaken_34 : decode cX10_leastTaken 34 = .ok (.aload_n 0, 1) := by decide +kernel
theorem dX10_leastTaken_35 : decode cX10_leastTaken 35 = .ok (.iload 5, 2) := by decide +kernel
theorem dX10_leastTaken_37 : decode cX10_leastTaken 37 = .ok (.iload_n 2, 1) := by decide +kernel
theorem dX10_leastTaken_38 : decode cX10_leastTaken 38 = .ok (.aload_n 0, 1) := by decide +kernel
theorem dX10_leastTaken_39 : decode cX10_leastTaken 39 = .ok (.getfield 195, 3) := by decide +kernel
theorem dX10_leastTaken_42 : decode cX10_leastTaken 42 = .ok (.invokevirtual 224, 3) := by decide +kernel
theorem dX10_leastTaken_45 : decode cX10_leastTaken 45 = .ok (.if_icmp .ge 30, 3) := by decide +kernel
theorem dX10_leastTaken_48 : decode cX10_leastTaken 48 = .ok (.iload 4, 2) := by decide +kernel
theorem dX10_leastTaken_50 : decode cX10_leastTaken 50 = .ok (.iconst (-1), 1) := by decide +kernel
theorem dX10_leastTaken_51 : decode cX10_leastTaken 51 = .ok (.if_icmp .eq 20, 3) := by decide +kernel
theorem dX10_leastTaken_54 : decode cX10_leastTaken 54 = .ok (.aload_n 0, 1) := by decide +kernel
theorem dX10_leastTaken_55 : decode cX10_leastTaken 55 = .ok (.getfield 63, 3) := by decide +kernel
theorem dX10_leastTaken_58 : decode cX10_leastTaken 58 = .ok (.iload 5, 2) := by decide +kernel
theorem dX10_leastTaken_60 : decode cX10_leastTaken 60 = .ok (.iaload, 1) := by decide +kernel
theorem dX10_leastTaken_61 : decode cX10_leastTaken 61 = .ok (.aload_n 0, 1) := by decide +kernel
theorem dX10_leastTaken_62 : decode cX10_leastTaken 62 = .ok (.getfield 63, 3) := by decide +kernel
theorem dX10_leastTaken_65 : decode cX10_leastTaken 65 = .ok (.iload 4, 2) := by decide +kernel
theorem dX10_leastTaken_67 : decode cX10_leastTaken 67 = .ok (.iaload, 1) := by decide +kernel
theorem dX10_leastTaken_68 : decode cX10_leastTaken 68 = .ok (.if_icmp .ge 7, 3) := by decide +kernel
theorem dX10_leastTaken_71 : decode cX10_leastTaken 71 = .ok (.iload 5, 2) := by decide +kernel
theorem dX10_leastTaken_73 : decode cX10_leastTaken 73 = .ok (.istore 4, 2) := by decide +kernel
theorem dX10_leastTaken_75 : decode cX10_leastTaken 75 = .ok (.iinc 5 1, 3) := by decide +kernel
theorem dX10_leastTaken_78 : decode cX10_leastTaken 78 = .ok (.goto (-72), 3) := by decide +kernel
theorem dX10_leastTaken_81 : decode cX10_leastTaken 81 = .ok (.iload 4, 2) := by decide +kernel
theorem dX10_leastTaken_83 : decode cX10_leastTaken 83 = .ok (.ireturn, 1) := by decide +kernel
theorem ok_X10_leastTaken : okY RX10 yX10_leastTaken 3 := ⟨rfl, by decide, by decide, by decide +kernel⟩
def j_X10_leastTaken_75_9 (v5_5 : Int32) (v4_8 : Int32) : Option ((Int32 × Int32) ⊕ (Int32)) := bnd (v5_5 + 1) (fun v5_10 => some (.inl (v4_8, v5_10)))
def j_X10_leastTaken_71_13 (v5_5 : Int32) : Option ((Int32 × Int32) ⊕ (Int32)) := bnd v5_5 (fun v4_14 => j_X10_leastTaken_75_9 v5_5 v4_14)
def s_X10_leastTaken_6_3 (M : OV) (p1 : Int32) (p2 : Int32) : (Int32 × Int32) → Option ((Int32 × Int32) ⊕ (Int32)) := un2 (fun v4_4 v5_5 => (if p1 < v5_5 then some (.inr v4_4) else (f_X10_classOf M v5_5).bind (un1 (fun r_6 => gd (ix r_6 26) ((if (ar M 5 r_6.toNatClampNeg) = p2 then gd (ix v5_5 40) ((f_X10_squeezeOf M v5_5 p1 (iv M 13)).bind (un1 (fun r_11 => (if r_11 ≤ (ar M 26 v5_5.toNatClampNeg) then j_X10_leastTaken_75_9 v5_5 v4_4 else (if v4_4 = (-1 : Int32) then j_X10_leastTaken_71_13 v5_5 else gd (ix v5_5 40) (gd (ix v4_4 40) ((if (ar M 26 v4_4.toNatClampNeg) ≤ (ar M 26 v5_5.toNatClampNeg) then j_X10_leastTaken_75_9 v5_5 v4_4 else j_X10_leastTaken_71_13 v5_5)))))))) else j_X10_leastTaken_75_9 v5_5 v4_4))))))
def f_X10_leastTaken (M : OV) (p0 : Int32) (p1 : Int32) (p2 : Int32) : Option (Int32) := bnd (-1 : Int32) (fun v4_1 => bnd p0 (fun v5_2 => ((lp (s_X10_leastTaken_6_3 M p1 p2) 5000 (v4_1, v5_2)).bind (un1 (fun v4_15 => some v4_15)))))
def r_X10_leastTaken : Room := { frames := 2, cells := 0, slots := 0, locals := 45 }
set_option maxHeartbeats 4000000 in
set_option maxRecDepth 100000 in
theorem c_X10_leastTaken (l : Launch) (D : va_G) (ev : EvT) (cy : Nat → ClassId) (oM : Nat) (aM : Nat → Nat) (M : OV) (p0 : Int32) (p1 : Int32) (p2 : Int32) (o : Int32) (hf : f_X10_leastTaken M p0 p1 p2 = some o) : Fn l yX10_leastTaken cX10_leastTaken 6 (some .int) r_X10_leastTaken D ev cy [.ref oM, .int p0, .int p1, .int p2] [gX10 cy oM aM M] (fun v G => v = some (.int o) ∧ G = [gX10 cy oM aM M]) := by
  refine Fn_of (by decide) (Nat.le_of_ble_eq_true rfl) (fun X A Q h hQ _ => ?_)
  unfold f_X10_leastTaken at hf
  show ww X D A 6 Q 0 0 0 [(0, .ref oM), (1, .int p0), (2, .int p1), (3, .int p2)] [] [gX10 cy oM aM M]
  refine ww_iconst (v := (-1)) h dX10_leastTaken_0 (by decide) 1 rfl ?_
  refine ww_ist h dX10_leastTaken_1 (by decide) (fun v4_1 => [(4, .int v4_1), (0, .ref oM), (1, .int p0), (2, .int p1), (3, .int p2)]) (fun _ => rfl) 3 rfl (fun v4_1 e => ?_)
  replace hf := bnd_at e hf
  clear e
  refine ww_iload_n h dX10_leastTaken_3 rfl 2 rfl 4 rfl ?_
  refine ww_ist h dX10_leastTaken_4 (by decide) (fun v5_2 => [(5, .int v5_2), (4, .int v4_1), (0, .ref oM), (1, .int p0), (2, .int p1), (3, .int p2)]) (fun _ => rfl) 6 rfl (fun v5_2 e => ?_)
  replace hf := bnd_at e hf
  clear e
  refine ww_lo [2, 4, 5, 1, 0] (lo' := [(0, .ref oM), (2, .int p1), (3, .int p2), (4, .int v4_1), (5, .int v5_2)]) rfl ?_
  obtain ⟨v4_15, h3, hf⟩ := ob1 hf
  refine lp_walk (un2 (fun v4_4 v5_5 => ww X D A 6 Q 0 0 6 [(0, .ref oM), (2, .int p1), (3, .int p2), (4, .int v4_4), (5, .int v5_5)] [] [gX10 cy oM aM M])) (un1 (fun v4_15 => ww X D A 6 Q 0 0 81 [(4, .int v4_15)] [] [gX10 cy oM aM M])) ?_ _ _ _ h3 ?_
  · clear h3 hf
    intro s3 o3 hf hI3 hE3
    obtain ⟨v4_4, v5_5⟩ := s3
    unfold s_X10_leastTaken_6_3 at hf
    replace hf := un2_e hf
    show ww X D A 6 Q 0 0 6 [(0, .ref oM), (2, .int p1), (3, .int p2), (4, .int v4_4), (5, .int v5_5)] [] [gX10 cy oM aM M]
    refine ww_iload h dX10_leastTaken_6 4 rfl 8 rfl ?_
    refine ww_iload_n h dX10_leastTaken_8 rfl 1 rfl 9 rfl ?_
    refine ww_icmp_gt h dX10_leastTaken_9 81 (by decide) 12 rfl (fun c => ?_) (fun c => ?_)
    · replace hf := ite_t c hf
      refine ww_lo [3] (lo' := [(4, .int v4_4)]) rfl ?_
      exact hE3 v4_4 (Option.some.inj hf).symm
    · replace hf := ite_f c hf
      refine ww_aload_n h dX10_leastTaken_12 rfl 0 rfl 13 rfl ?_
      refine ww_get h inG10 rfl 0 rfl rfl 5 (by decide) w_1162 rfl dX10_leastTaken_13 16 rfl ?_
      refine ww_aload_n h dX10_leastTaken_16 rfl 0 rfl 17 rfl ?_
      refine ww_iload h dX10_leastTaken_17 4 rfl 19 rfl ?_
      obtain ⟨r_6, hu7, hf⟩ := ob1 hf
      refine ww_cVi h (c_X10_classOf l D ev cy oM aM M v5_5 _ hu7) ⟨w_1369, w_1366, w_1368, w_44, w_111, ok_X10_classOf⟩ ⟨by decide, by decide⟩ ⟨by decide, by decide⟩ ⟨rfl, rfl⟩ [0] rfl 0 rfl rfl rfl rfl (Nat.le_of_ble_eq_true rfl) dX10_leastTaken_19 22 rfl (Gs' := [gX10 cy oM aM M]) rfl ?_
      clear hu7
      have hi := (gd_some hf).1
      replace hf := (gd_some hf).2
      refine ww_iald h 0 rfl 5 rfl (ix_in hi) dX10_leastTaken_22 23 rfl ?_
      clear hi
      refine ww_iload_n h dX10_leastTaken_23 rfl 2 rfl 24 rfl ?_
      have hJ75_9 : ∀ (v4_8 : Int32), j_X10_leastTaken_75_9 v5_5 v4_8 = some o3 → ww X D A 6 Q 0 0 75 [(0, .ref oM), (2, .int p1), (3, .int p2), (4, .int v4_8), (5, .int v5_5)] [] [gX10 cy oM aM M] := by
        intro v4_8 hf
        unfold j_X10_leastTaken_75_9 at hf
        refine ww_inc (c := 1) h dX10_leastTaken_75 4 rfl (by decide) (by decide) (fun v5_10 => [(5, .int v5_10), (0, .ref oM), (2, .int p1), (3, .int p2), (4, .int v4_8)]) (fun _ => rfl) 78 rfl (fun v5_10 e => ?_)
        replace hf := bnd_at e hf
        clear e
        refine ww_goto h dX10_leastTaken_78 6 (by decide) ?_
        refine ww_lo [1, 2, 3, 4, 0] (lo' := [(0, .ref oM), (2, .int p1), (3, .int p2), (4, .int v4_8), (5, .int v5_10)]) rfl ?_
        exact hI3 (v4_8, v5_10) (Option.some.inj hf).symm
      refine ww_icmp_ne h dX10_leastTaken_24 75 (by decide) 27 rfl (fun c => ?_) (fun c => ?_)
      · replace hf := ite_f c hf
        exact hJ75_9 v4_4 hf
      · replace hf := ite_t c hf
        refine ww_aload_n h dX10_leastTaken_27 rfl 0 rfl 28 rfl ?_
        refine ww_get h inG10 rfl 0 rfl rfl 26 (by decide) w_1183 rfl dX10_leastTaken_28 31 rfl ?_
        refine ww_iload h dX10_leastTaken_31 4 rfl 33 rfl ?_
        have hi := (gd_some hf).1
        replace hf := (gd_some hf).2
        refine ww_iald h 0 rfl 17 rfl (ix_in hi) dX10_leastTaken_33 34 rfl ?_
        clear hi
        refine ww_aload_n h dX10_leastTaken_34 rfl 0 rfl 35 rfl ?_
        refine ww_iload h dX10_leastTaken_35 4 rfl 37 rfl ?_
        refine ww_iload_n h dX10_leastTaken_37 rfl 1 rfl 38 rfl ?_
        refine ww_aload_n h dX10_leastTaken_38 rfl 0 rfl 39 rfl ?_
        refine ww_get h inG10 rfl 0 rfl rfl 13 (by decide) w_1170 rfl dX10_leastTaken_39 42 rfl ?_
        obtain ⟨r_11, hu12, hf⟩ := ob1 hf
        refine ww_cVi h (c_X10_squeezeOf l D ev cy oM aM M v5_5 p1 (iv M 13) _ hu12) ⟨w_1477, w_1474, w_1476, w_54, w_111, ok_X10_squeezeOf⟩ ⟨by decide, by decide⟩ ⟨by decide, by decide⟩ ⟨rfl, rfl⟩ [0] rfl 0 rfl rfl rfl rfl (Nat.le_of_ble_eq_true rfl) dX10_leastTaken_42 45 rfl (Gs' := [gX10 cy oM aM M]) rfl ?_
        clear hu12
        refine ww_icmp_ge h dX10_leastTaken_45 75 (by decide) 48 rfl (fun c => ?_) (fun c => ?_)
        · replace hf := ite_t c hf
          exact hJ75_9 v4_4 hf
        · replace hf := ite_f c hf
          refine ww_iload h dX10_leastTaken_48 3 rfl 50 rfl ?_
          refine ww_iconst (v := (-1)) h dX10_leastTaken_50 (by decide) 51 rfl ?_
          have hJ71_13 : ∀ (_ : Unit), j_X10_leastTaken_71_13 v5_5 = some o3 → ww X D A 6 Q 0 0 71 [(0, .ref oM), (2, .int p1), (3, .int p2), (5, .int v5_5)] [] [gX10 cy oM aM M] := by
            intro _ hf
            unfold j_X10_leastTaken_71_13 at hf
            refine ww_iload h dX10_leastTaken_71 3 rfl 73 rfl ?_
            refine ww_ist h dX10_leastTaken_73 (by decide) (fun v4_14 => [(4, .int v4_14), (0, .ref oM), (2, .int p1), (3, .int p2), (5, .int v5_5)]) (fun _ => rfl) 75 rfl (fun v4_14 e => ?_)
            replace hf := bnd_at e hf
            clear e
            refine ww_lo [1, 2, 3, 0, 4] (lo' := [(0, .ref oM), (2, .int p1), (3, .int p2), (4, .int v4_14), (5, .int v5_5)]) rfl ?_
            exact hJ75_9 v4_14 hf
          refine ww_icmp_eq h dX10_leastTaken_51 71 (by decide) 54 rfl (fun c => ?_) (fun c => ?_)
          · replace hf := ite_t c hf
            refine ww_lo [0, 1, 2, 4] (lo' := [(0, .ref oM), (2, .int p1), (3, .int p2), (5, .int v5_5)]) rfl ?_
            exact hJ71_13 () hf
          · replace hf := ite_f c hf
            refine ww_aload_n h dX10_leastTaken_54 rfl 0 rfl 55 rfl ?_
            refine ww_get h inG10 rfl 0 rfl rfl 26 (by decide) w_1183 rfl dX10_leastTaken_55 58 rfl ?_
            refine ww_iload h dX10_leastTaken_58 4 rfl 60 rfl ?_
            have hi := (gd_some hf).1
            replace hf := (gd_some hf).2
            refine ww_iald h 0 rfl 17 rfl (ix_in hi) dX10_leastTaken_60 61 rfl ?_
            clear hi
            refine ww_aload_n h dX10_leastTaken_61 rfl 0 rfl 62 rfl ?_
            refine ww_get h inG10 rfl 0 rfl rfl 26 (by decide) w_1183 rfl dX10_leastTaken_62 65 rfl ?_
            refine ww_iload h dX10_leastTaken_65 3 rfl 67 rfl ?_
            have hi := (gd_some hf).1
            replace hf := (gd_some hf).2
            refine ww_iald h 0 rfl 17 rfl (ix_in hi) dX10_leastTaken_67 68 rfl ?_
            clear hi
            refine ww_icmp_ge h dX10_leastTaken_68 75 (by decide) 71 rfl (fun c => ?_) (fun c => ?_)
            · replace hf := ite_t c hf
              exact hJ75_9 v4_4 hf
            · replace hf := ite_f c hf
              refine ww_lo [0, 1, 2, 4] (lo' := [(0, .ref oM), (2, .int p1), (3, .int p2), (5, .int v5_5)]) rfl ?_
              exact hJ71_13 () hf
  · clear h3
    show ww X D A 6 Q 0 0 81 [(4, .int v4_15)] [] [gX10 cy oM aM M]
    refine ww_iload h dX10_leastTaken_81 0 rfl 83 rfl ?_
    obtain rfl := Option.some.inj hf
    exact ww_iret h dX10_leastTaken_83 hQ ⟨rfl, rfl⟩
theorem dX10_leastPut_0 : decode cX10_leastPut 0 = .ok (.iconst (-1), 1) := by decide +kernel
theorem dX10_leastPut_1 : decode cX10_leastPut 1 = .ok (.istore 4, 2) := by decide +kernel
theorem dX10_leastPut_3 : decode cX10_leastPut 3 = .ok (.iload_n 1, 1) := by decide +kernel
theorem dX10_leastPut_4 : decode cX10_leastPut 4 = .ok (.istore 5, 2) := by decide +kernel
theorem dX10_leastPut_6 : decode cX10_leastPut 6 = .ok (.iload 5, 2) := by decide +kernel
theorem dX10_leastPut_8 : decode cX10_leastPut 8 = .ok (.iload_n 2, 1) := by decide +kernel
theorem dX10_leastPut_9 : decode cX10_leastPut 9 = .ok (.if_icmp .ge 72, 3) := by decide +kernel
theorem dX10_leastPut_12 : decode cX10_leastPut 12 = .ok (.aload_n 0, 1) := by decide +kernel
theorem dX10_leastPut_13 : decode cX10_leastPut 13 = .ok (.getfield 33, 3) := by decide +kernel
theorem dX10_leastPut_16 : decode cX10_leastPut 16 = .ok (.aload_n 0, 1) := by decide +kernel
theorem dX10_leastPut_17 : decode cX10_leastPut 17 = .ok (.iload 5, 2) := by decide +kernel
theorem dX10_leastPut_19 : decode cX10_leastPut 19 = .ok (.invokevirtual 144, 3) := by decide +kernel
theorem dX10_leastPut_22 : decode cX10_leastPut 22 = .ok (.iaload, 1) := by decide +kernel
theorem dX10_leastPut_23 : decode cX10_leastPut 23 = .ok (.iload_n 3, 1) := by decide +kernel
theorem dX10_leastPut_24 : decode cX10_leastPut 24 = .ok (.if_icmp .ne 51, 3) := by decide +kernel
theorem dX10_leastPut_27 : decode cX10_leastPut 27 = .ok (.aload_n 0, 1) := by decide +kernel
theorem dX10_leastPut_28 : decode cX10_leastPut 28 = .ok (.getfield 66, 3) := by decide +kernel
theorem dX10_leastPut_31 : decode cX10_leastPut 31 = .ok (.iload 5, 2) := by decide +kernel
theorem dX10_leastPut_33 : decode cX10_leastPut 33 = .ok (.iaload, 1) := by decide +kernel
theorem dX10_leastPut_34 : decode cX10_leastPut 34 = .ok (.aload_n 0, 1) := by decide +kernel
theorem dX10_leastPut_35 : decode cX10_leastPut 35 = .ok (.getfield 30, 3) := by decide +kernel
theorem dX10_leastPut_38 : decode cX10_leastPut 38 = .ok (.aload_n 0, 1) := by decide +kernel
theorem dX10_leastPut_39 : decode cX10_leastPut 39 = .ok (.iload 5, 2) := by decide +kernel
theorem dX10_leastPut_41 : decode cX10_leastPut 41 = .ok (.invokevirtual 144, 3) := by decide +kernel
theorem dX10_leastPut_44 : decode cX10_leastPut 44 = .ok (.iaload, 1) := by decide +kernel
theorem dX10_leastPut_45 : decode cX10_leastPut 45 = .ok (.if_icmp .ge 30, 3) := by decide +kernel
theorem dX10_leastPut_48 : decode cX10_leastPut 48 = .ok (.iload 4, 2) := by decide +kernel
theorem dX10_leastPut_50 : decode cX10_leastPut 50 = .ok (.iconst (-1), 1) := by decide +kernel
theorem dX10_leastPut_51 : decode cX10_leastPut 51 = .ok (.if_icmp .eq 20, 3) := by decide +kernel
theorem dX10_leastPut_54 : decode cX10_leastPut 54 = .ok (.aload_n 0, 1) := by decide +kernel
theorem dX10_leastPut_55 : decode cX10_leastPut 55 = .ok (.getfield 66, 3) := by decide +kernel
theorem dX10_leastPut_58 : decode cX10_leastPut 58 = .ok (.iload 5, 2) := by decide +kernel
theorem dX10_leastPut_60 : decode cX10_leastPut 60 = .ok (.iaload, 1) := by decide +kernel
theorem dX10_leastPut_61 : decode cX10_leastPut 61 = .ok (.aload_n 0, 1) := by decide +kernel
theorem dX10_leastPut_62 : decode cX10_leastPut 62 = .ok (.getfield 66, 3) := by decide +kernel
theorem dX10_leastPut_65 : decode cX10_leastPut 65 = .ok (.iload 4, 2) := by decide +kernel
theorem dX10_leastPut_67 : decode cX10_leastPut 67 = .ok (.iaload, 1) := by decide +kernel
theorem dX10_leastPut_68 : decode cX10_leastPut 68 = .ok (.if_icmp .ge 7, 3) := by decide +kernel
theorem dX10_leastPut_71 : decode cX10_leastPut 71 = .ok (.iload 5, 2) := by decide +kernel
theorem dX10_leastPut_73 : decode cX10_leastPut 73 = .ok (.istore 4, 2) := by decide +kernel
theorem dX10_leastPut_75 : decode cX10_leastPut 75 = .ok (.iinc 5 1, 3) := by decide +kernel
theorem dX10_leastPut_78 : decode cX10_leastPut 78 = .ok (.goto (-72), 3) := by decide +kernel
theorem dX10_leastPut_81 : decode cX10_leastPut 81 = .ok (.iload 4, 2) := by decide +kernel
theorem dX10_leastPut_83 : decode cX10_leastPut 83 = .ok (.ireturn, 1) := by decide +kernel
theorem ok_X10_leastPut : okY RX10 yX10_leastPut 3 := ⟨rfl, by decide, by decide, by decide +kernel⟩
def j_X10_leastPut_75_9 (v5_5 : Int32) (v4_8 : Int32) : Option ((Int32 × Int32) ⊕ (Int32)) := bnd (v5_5 + 1) (fun v5_10 => some (.inl (v4_8, v5_10)))
def j_X10_leastPut_71_13 (v5_5 : Int32) : Option ((Int32 × Int32) ⊕ (Int32)) := bnd v5_5 (fun v4_14 => j_X10_leastPut_75_9 v5_5 v4_14)
def s_X10_leastPut_6_3 (M : OV) (p1 : Int32) (p2 : Int32) : (Int32 × Int32) → Option ((Int32 × Int32) ⊕ (Int32)) := un2 (fun v4_4 v5_5 => (if p1 ≤ v5_5 then some (.inr v4_4) else (f_X10_classOf M v5_5).bind (un1 (fun r_6 => gd (ix r_6 26) ((if (ar M 7 r_6.toNatClampNeg) = p2 then gd (ix v5_5 40) ((f_X10_classOf M v5_5).bind (un1 (fun r_11 => gd (ix r_11 26) ((if (ar M 6 r_11.toNatClampNeg) ≤ (ar M 27 v5_5.toNatClampNeg) then j_X10_leastPut_75_9 v5_5 v4_4 else (if v4_4 = (-1 : Int32) then j_X10_leastPut_71_13 v5_5 else gd (ix v5_5 40) (gd (ix v4_4 40) ((if (ar M 27 v4_4.toNatClampNeg) ≤ (ar M 27 v5_5.toNatClampNeg) then j_X10_leastPut_75_9 v5_5 v4_4 else j_X10_leastPut_71_13 v5_5))))))))) else j_X10_leastPut_75_9 v5_5 v4_4))))))
def f_X10_leastPut (M : OV) (p0 : Int32) (p1 : Int32) (p2 : Int32) : Option (Int32) := bnd (-1 : Int32) (fun v4_1 => bnd p0 (fun v5_2 => ((lp (s_X10_leastPut_6_3 M p1 p2) 5000 (v4_1, v5_2)).bind (un1 (fun v4_15 => some v4_15)))))
def r_X10_leastPut : Room := { frames := 1, cells := 0, slots := 0, locals := 21 }
set_option maxHeartbeats 4000000 in
set_option maxRecDepth 100000 in
theorem c_X10_leastPut (l : Launch) (D : va_G) (ev : EvT) (cy : Nat → ClassId) (oM : Nat) (aM : Nat → Nat) (M : OV) (p0 : Int32) (p1 : Int32) (p2 : Int32) (o : Int32) (hf : f_X10_leastPut M p0 p1 p2 = some o) : Fn l yX10_leastPut cX10_leastPut 6 (some .int) r_X10_leastPut D ev cy [.ref oM, .int p0, .int p1, .int p2] [gX10 cy oM aM M] (fun v G => v = some (.int o) ∧ G = [gX10 cy oM aM M]) := by
  refine Fn_of (by decide) (Nat.le_of_ble_eq_true rfl) (fun X A Q h hQ _ => ?_)
  unfold f_X10_leastPut at hf
  show ww X D A 6 Q 0 0 0 [(0, .ref oM), (1, .int p0), (2, .int p1), (3, .int p2)] [] [gX10 cy oM aM M]
  refine ww_iconst (v := (-1)) h dX10_leastPut_0 (by decide) 1 rfl ?_
  refine ww_ist h dX10_leastPut_1 (by decide) (fun v4_1 => [(4, .int v4_1), (0, .ref oM), (1, .int p0), (2, .int p1), (3, .int p2)]) (fun _ => rfl) 3 rfl (fun v4_1 e => ?_)
  replace hf := bnd_at e hf
  clear e
  refine ww_iload_n h dX10_leastPut_3 rfl 2 rfl 4 rfl ?_
  refine ww_ist h dX10_leastPut_4 (by decide) (fun v5_2 => [(5, .int v5_2), (4, .int v4_1), (0, .ref oM), (1, .int p0), (2, .int p1), (3, .int p2)]) (fun _ => rfl) 6 rfl (fun v5_2 e => ?_)
  replace hf := bnd_at e hf
  clear e
  refine ww_lo [2, 4, 5, 1, 0] (lo' := [(0, .ref oM), (2, .int p1), (3, .int p2), (4, .int v4_1), (5, .int v5_2)]) rfl ?_
  obtain ⟨v4_15, h3, hf⟩ := ob1 hf
  refine lp_walk (un2 (fun v4_4 v5_5 => ww X D A 6 Q 0 0 6 [(0, .ref oM), (2, .int p1), (3, .int p2), (4, .int v4_4), (5, .int v5_5)] [] [gX10 cy oM aM M])) (un1 (fun v4_15 => ww X D A 6 Q 0 0 81 [(4, .int v4_15)] [] [gX10 cy oM aM M])) ?_ _ _ _ h3 ?_
  · clear h3 hf
    intro s3 o3 hf hI3 hE3
    obtain ⟨v4_4, v5_5⟩ := s3
    unfold s_X10_leastPut_6_3 at hf
    replace hf := un2_e hf
    show ww X D A 6 Q 0 0 6 [(0, .ref oM), (2, .int p1), (3, .int p2), (4, .int v4_4), (5, .int v5_5)] [] [gX10 cy oM aM M]
    refine ww_iload h dX10_leastPut_6 4 rfl 8 rfl ?_
    refine ww_iload_n h dX10_leastPut_8 rfl 1 rfl 9 rfl ?_
    refine ww_icmp_ge h dX10_leastPut_9 81 (by decide) 12 rfl (fun c => ?_) (fun c => ?_)
    · replace hf := ite_t c hf
      refine ww_lo [3] (lo' := [(4, .int v4_4)]) rfl ?_
      exact hE3 v4_4 (Option.some.inj hf).symm
    · replace hf := ite_f c hf
      refine ww_aload_n h dX10_leastPut_12 rfl 0 rfl 13 rfl ?_
      refine ww_get h inG10 rfl 0 rfl rfl 7 (by decide) w_1164 rfl dX10_leastPut_13 16 rfl ?_
      refine ww_aload_n h dX10_leastPut_16 rfl 0 rfl 17 rfl ?_
      refine ww_iload h dX10_leastPut_17 4 rfl 19 rfl ?_
      obtain ⟨r_6, hu7, hf⟩ := ob1 hf
      refine ww_cVi h (c_X10_classOf l D ev cy oM aM M v5_5 _ hu7) ⟨w_1369, w_1366, w_1368, w_44, w_111, ok_X10_classOf⟩ ⟨by decide, by decide⟩ ⟨by decide, by decide⟩ ⟨rfl, rfl⟩ [0] rfl 0 rfl rfl rfl rfl (Nat.le_of_ble_eq_true rfl) dX10_leastPut_19 22 rfl (Gs' := [gX10 cy oM aM M]) rfl ?_
      clear hu7
      have hi := (gd_some hf).1
      replace hf := (gd_some hf).2
      refine ww_iald h 0 rfl 7 rfl (ix_in hi) dX10_leastPut_22 23 rfl ?_
      clear hi
      refine ww_iload_n h dX10_leastPut_23 rfl 2 rfl 24 rfl ?_
      have hJ75_9 : ∀ (v4_8 : Int32), j_X10_leastPut_75_9 v5_5 v4_8 = some o3 → ww X D A 6 Q 0 0 75 [(0, .ref oM), (2, .int p1), (3, .int p2), (4, .int v4_8), (5, .int v5_5)] [] [gX10 cy oM aM M] := by
        intro v4_8 hf
        unfold j_X10_leastPut_75_9 at hf
        refine ww_inc (c := 1) h dX10_leastPut_75 4 rfl (by decide) (by decide) (fun v5_10 => [(5, .int v5_10), (0, .ref oM), (2, .int p1), (3, .int p2), (4, .int v4_8)]) (fun _ => rfl) 78 rfl (fun v5_10 e => ?_)
        replace hf := bnd_at e hf
        clear e
        refine ww_goto h dX10_leastPut_78 6 (by decide) ?_
        refine ww_lo [1, 2, 3, 4, 0] (lo' := [(0, .ref oM), (2, .int p1), (3, .int p2), (4, .int v4_8), (5, .int v5_10)]) rfl ?_
        exact hI3 (v4_8, v5_10) (Option.some.inj hf).symm
      refine ww_icmp_ne h dX10_leastPut_24 75 (by decide) 27 rfl (fun c => ?_) (fun c => ?_)
      · replace hf := ite_f c hf
        exact hJ75_9 v4_4 hf
      · replace hf := ite_t c hf
        refine ww_aload_n h dX10_leastPut_27 rfl 0 rfl 28 rfl ?_
        refine ww_get h inG10 rfl 0 rfl rfl 27 (by decide) w_1184 rfl dX10_leastPut_28 31 rfl ?_
        refine ww_iload h dX10_leastPut_31 4 rfl 33 rfl ?_
        have hi := (gd_some hf).1
        replace hf := (gd_some hf).2
        refine ww_iald h 0 rfl 18 rfl (ix_in hi) dX10_leastPut_33 34 rfl ?_
        clear hi
        refine ww_aload_n h dX10_leastPut_34 rfl 0 rfl 35 rfl ?_
        refine ww_get h inG10 rfl 0 rfl rfl 6 (by decide) w_1163 rfl dX10_leastPut_35 38 rfl ?_
        refine ww_aload_n h dX10_leastPut_38 rfl 0 rfl 39 rfl ?_
        refine ww_iload h dX10_leastPut_39 4 rfl 41 rfl ?_
        obtain ⟨r_11, hu12, hf⟩ := ob1 hf
        refine ww_cVi h (c_X10_classOf l D ev cy oM aM M v5_5 _ hu12) ⟨w_1369, w_1366, w_1368, w_44, w_111, ok_X10_classOf⟩ ⟨by decide, by decide⟩ ⟨by decide, by decide⟩ ⟨rfl, rfl⟩ [0] rfl 0 rfl rfl rfl rfl (Nat.le_of_ble_eq_true rfl) dX10_leastPut_41 44 rfl (Gs' := [gX10 cy oM aM M]) rfl ?_
        clear hu12
        have hi := (gd_some hf).1
        replace hf := (gd_some hf).2
        refine ww_iald h 0 rfl 6 rfl (ix_in hi) dX10_leastPut_44 45 rfl ?_
        clear hi
        refine ww_icmp_ge h dX10_leastPut_45 75 (by decide) 48 rfl (fun c => ?_) (fun c => ?_)
        · replace hf := ite_t c hf
          exact hJ75_9 v4_4 hf
        · replace hf := ite_f c hf
          refine ww_iload h dX10_leastPut_48 3 rfl 50 rfl ?_
          refine ww_iconst (v := (-1)) h dX10_leastPut_50 (by decide) 51 rfl ?_
          have hJ71_13 : ∀ (_ : Unit), j_X10_leastPut_71_13 v5_5 = some o3 → ww X D A 6 Q 0 0 71 [(0, .ref oM), (2, .int p1), (3, .int p2), (5, .int v5_5)] [] [gX10 cy oM aM M] := by
            intro _ hf
            unfold j_X10_leastPut_71_13 at hf
            refine ww_iload h dX10_leastPut_71 3 rfl 73 rfl ?_
            refine ww_ist h dX10_leastPut_73 (by decide) (fun v4_14 => [(4, .int v4_14), (0, .ref oM), (2, .int p1), (3, .int p2), (5, .int v5_5)]) (fun _ => rfl) 75 rfl (fun v4_14 e => ?_)
            replace hf := bnd_at e hf
            clear e
            refine ww_lo [1, 2, 3, 0, 4] (lo' := [(0, .ref oM), (2, .int p1), (3, .int p2), (4, .int v4_14), (5, .int v5_5)]) rfl ?_
            exact hJ75_9 v4_14 hf
          refine ww_icmp_eq h dX10_leastPut_51 71 (by decide) 54 rfl (fun c => ?_) (fun c => ?_)
          · replace hf := ite_t c hf
            refine ww_lo [0, 1, 2, 4] (lo' := [(0, .ref oM), (2, .int p1), (3, .int p2), (5, .int v5_5)]) rfl ?_
            exact hJ71_13 () hf
          · replace hf := ite_f c hf
            refine ww_aload_n h dX10_leastPut_54 rfl 0 rfl 55 rfl ?_
            refine ww_get h inG10 rfl 0 rfl rfl 27 (by decide) w_1184 rfl dX10_leastPut_55 58 rfl ?_
            refine ww_iload h dX10_leastPut_58 4 rfl 60 rfl ?_
            have hi := (gd_some hf).1
            replace hf := (gd_some hf).2
            refine ww_iald h 0 rfl 18 rfl (ix_in hi) dX10_leastPut_60 61 rfl ?_
            clear hi
            refine ww_aload_n h dX10_leastPut_61 rfl 0 rfl 62 rfl ?_
            refine ww_get h inG10 rfl 0 rfl rfl 27 (by decide) w_1184 rfl dX10_leastPut_62 65 rfl ?_
            refine ww_iload h dX10_leastPut_65 3 rfl 67 rfl ?_
            have hi := (gd_some hf).1
            replace hf := (gd_some hf).2
            refine ww_iald h 0 rfl 18 rfl (ix_in hi) dX10_leastPut_67 68 rfl ?_
            clear hi
            refine ww_icmp_ge h dX10_leastPut_68 75 (by decide) 71 rfl (fun c => ?_) (fun c => ?_)
            · replace hf := ite_t c hf
              exact hJ75_9 v4_4 hf
            · replace hf := ite_f c hf
              refine ww_lo [0, 1, 2, 4] (lo' := [(0, .ref oM), (2, .int p1), (3, .int p2), (5, .int v5_5)]) rfl ?_
              exact hJ71_13 () hf
  · clear h3
    show ww X D A 6 Q 0 0 81 [(4, .int v4_15)] [] [gX10 cy oM aM M]
    refine ww_iload h dX10_leastPut_81 0 rfl 83 rfl ?_
    obtain rfl := Option.some.inj hf
    exact ww_iret h dX10_leastPut_83 hQ ⟨rfl, rfl⟩
theorem dX10_edgeOf_0 : decode cX10_edgeOf 0 = .ok (.iconst 0, 1) := by decide +kernel
theorem dX10_edgeOf_1 : decode cX10_edgeOf 1 = .ok (.istore_n 3, 1) := by decide +kernel
theorem dX10_edgeOf_2 : decode cX10_edgeOf 2 = .ok (.iload_n 1, 1) := by decide +kernel
theorem dX10_edgeOf_3 : decode cX10_edgeOf 3 = .ok (.istore 4, 2) := by decide +kernel
theorem dX10_edgeOf_5 : decode cX10_edgeOf 5 = .ok (.iload 4, 2) := by decide +kernel
theorem dX10_edgeOf_7 : decode cX10_edgeOf 7 = .ok (.iload_n 2, 1) := by decide +kernel
theorem dX10_edgeOf_8 : decode cX10_edgeOf 8 = .ok (.if_icmp .ge 39, 3) := by decide +kernel
theorem dX10_edgeOf_11 : decode cX10_edgeOf 11 = .ok (.iload_n 3, 1) := by decide +kernel
theorem dX10_edgeOf_12 : decode cX10_edgeOf 12 = .ok (.aload_n 0, 1) := by decide +kernel
theorem dX10_edgeOf_13 : decode cX10_edgeOf 13 = .ok (.getfield 13, 3) := by decide +kernel
theorem dX10_edgeOf_16 : decode cX10_edgeOf 16 = .ok (.aload_n 0, 1) := by decide +kernel
theorem dX10_edgeOf_17 : decode cX10_edgeOf 17 = .ok (.iload 4, 2) := by decide +kernel
theorem dX10_edgeOf_19 : decode cX10_edgeOf 19 = .ok (.invokevirtual 144, 3) := by decide +kernel
theorem dX10_edgeOf_22 : decode cX10_edgeOf 22 = .ok (.iaload, 1) := by decide +kernel
theorem dX10_edgeOf_23 : decode cX10_edgeOf 23 = .ok (.aload_n 0, 1) := by decide +kernel
theorem dX10_edgeOf_24 : decode cX10_edgeOf 24 = .ok (.getfield 63, 3) := by decide +kernel
theorem dX10_edgeOf_27 : decode cX10_edgeOf 27 = .ok (.iload 4, 2) := by decide +kernel
theorem dX10_edgeOf_29 : decode cX10_edgeOf 29 = .ok (.iaload, 1) := by decide +kernel
theorem dX10_edgeOf_30 : decode cX10_edgeOf 30 = .ok (.isub, 1) := by decide +kernel
theorem dX10_edgeOf_31 : decode cX10_edgeOf 31 = .ok (.aload_n 0, 1) := by decide +kernel
theorem dX10_edgeOf_32 : decode cX10_edgeOf 32 = .ok (.getfield 66, 3) := by decide +kernel
theorem dX10_edgeOf_35 : decode cX10_edgeOf 35 = .ok (.iload 4, 2) := by decide +kernel
theorem dX10_edgeOf_37 : decode cX10_edgeOf 37 = .ok (.iaload, 1) := by decide +kernel
theorem dX10_edgeOf_38 : decode cX10_edgeOf 38 = .ok (.iadd, 1) := by decide +kernel
theorem dX10_edgeOf_39 : decode cX10_edgeOf 39 = .ok (.iadd, 1) := by decide +kernel
theorem dX10_edgeOf_40 : decode cX10_edgeOf 40 = .ok (.istore_n 3, 1) := by decide +kernel
theorem dX10_edgeOf_41 : decode cX10_edgeOf 41 = .ok (.iinc 4 1, 3) := by decide +kernel
theorem dX10_edgeOf_44 : decode cX10_edgeOf 44 = .ok (.goto (-39), 3) := by decide +kernel
theorem dX10_edgeOf_47 : decode cX10_edgeOf 47 = .ok (.iload_n 3, 1) := by decide +kernel
theorem dX10_edgeOf_48 : decode cX10_edgeOf 48 = .ok (.ireturn, 1) := by decide +kernel
theorem ok_X10_edgeOf : okY RX10 yX10_edgeOf 2 := ⟨rfl, by decide, by decide, by decide +kernel⟩
def s_X10_edgeOf_5_3 (M : OV) (p1 : Int32) : (Int32 × Int32) → Option ((Int32 × Int32) ⊕ (Int32)) := un2 (fun v3_4 v4_5 => (if p1 ≤ v4_5 then some (.inr v3_4) else (f_X10_classOf M v4_5).bind (un1 (fun r_6 => gd (ix r_6 26) (gd (ix v4_5 40) (gd (ix v4_5 40) (bnd (v3_4 + (((ar M 1 r_6.toNatClampNeg) - (ar M 26 v4_5.toNatClampNeg)) + (ar M 27 v4_5.toNatClampNeg))) (fun v3_8 => bnd (v4_5 + 1) (fun v4_9 => some (.inl (v3_8, v4_9)))))))))))
def f_X10_edgeOf (M : OV) (p0 : Int32) (p1 : Int32) : Option (Int32) := bnd (0 : Int32) (fun v3_1 => bnd p0 (fun v4_2 => ((lp (s_X10_edgeOf_5_3 M p1) 5000 (v3_1, v4_2)).bind (un1 (fun v3_10 => some v3_10)))))
def r_X10_edgeOf : Room := { frames := 1, cells := 0, slots := 0, locals := 21 }
set_option maxHeartbeats 4000000 in
set_option maxRecDepth 100000 in
theorem c_X10_edgeOf (l : Launch) (D : va_G) (ev : EvT) (cy : Nat → ClassId) (oM : Nat) (aM : Nat → Nat) (M : OV) (p0 : Int32) (p1 : Int32) (o : Int32) (hf : f_X10_edgeOf M p0 p1 = some o) : Fn l yX10_edgeOf cX10_edgeOf 5 (some .int) r_X10_edgeOf D ev cy [.ref oM, .int p0, .int p1] [gX10 cy oM aM M] (fun v G => v = some (.int o) ∧ G = [gX10 cy oM aM M]) := by
  refine Fn_of (by decide) (Nat.le_of_ble_eq_true rfl) (fun X A Q h hQ _ => ?_)
  unfold f_X10_edgeOf at hf
  show ww X D A 5 Q 0 0 0 [(0, .ref oM), (1, .int p0), (2, .int p1)] [] [gX10 cy oM aM M]
  refine ww_iconst (v := 0) h dX10_edgeOf_0 (by decide) 1 rfl ?_
  refine ww_ist_n h dX10_edgeOf_1 rfl (by decide) (fun v3_1 => [(3, .int v3_1), (0, .ref oM), (1, .int p0), (2, .int p1)]) (fun _ => rfl) 2 rfl (fun v3_1 e => ?_)
  replace hf := bnd_at e hf
  clear e
  refine ww_iload_n h dX10_edgeOf_2 rfl 2 rfl 3 rfl ?_
  refine ww_ist h dX10_edgeOf_3 (by decide) (fun v4_2 => [(4, .int v4_2), (3, .int v3_1), (0, .ref oM), (1, .int p0), (2, .int p1)]) (fun _ => rfl) 5 rfl (fun v4_2 e => ?_)
  replace hf := bnd_at e hf
  clear e
  refine ww_lo [2, 4, 1, 0] (lo' := [(0, .ref oM), (2, .int p1), (3, .int v3_1), (4, .int v4_2)]) rfl ?_
  obtain ⟨v3_10, h3, hf⟩ := ob1 hf
  refine lp_walk (un2 (fun v3_4 v4_5 => ww X D A 5 Q 0 0 5 [(0, .ref oM), (2, .int p1), (3, .int v3_4), (4, .int v4_5)] [] [gX10 cy oM aM M])) (un1 (fun v3_10 => ww X D A 5 Q 0 0 47 [(3, .int v3_10)] [] [gX10 cy oM aM M])) ?_ _ _ _ h3 ?_
  · clear h3 hf
    intro s3 o3 hf hI3 hE3
    obtain ⟨v3_4, v4_5⟩ := s3
    unfold s_X10_edgeOf_5_3 at hf
    replace hf := un2_e hf
    show ww X D A 5 Q 0 0 5 [(0, .ref oM), (2, .int p1), (3, .int v3_4), (4, .int v4_5)] [] [gX10 cy oM aM M]
    refine ww_iload h dX10_edgeOf_5 3 rfl 7 rfl ?_
    refine ww_iload_n h dX10_edgeOf_7 rfl 1 rfl 8 rfl ?_
    refine ww_icmp_ge h dX10_edgeOf_8 47 (by decide) 11 rfl (fun c => ?_) (fun c => ?_)
    · replace hf := ite_t c hf
      refine ww_lo [2] (lo' := [(3, .int v3_4)]) rfl ?_
      exact hE3 v3_4 (Option.some.inj hf).symm
    · replace hf := ite_f c hf
      refine ww_iload_n h dX10_edgeOf_11 rfl 2 rfl 12 rfl ?_
      refine ww_aload_n h dX10_edgeOf_12 rfl 0 rfl 13 rfl ?_
      refine ww_get h inG10 rfl 0 rfl rfl 1 (by decide) w_1158 rfl dX10_edgeOf_13 16 rfl ?_
      refine ww_aload_n h dX10_edgeOf_16 rfl 0 rfl 17 rfl ?_
      refine ww_iload h dX10_edgeOf_17 3 rfl 19 rfl ?_
      obtain ⟨r_6, hu7, hf⟩ := ob1 hf
      refine ww_cVi h (c_X10_classOf l D ev cy oM aM M v4_5 _ hu7) ⟨w_1369, w_1366, w_1368, w_44, w_111, ok_X10_classOf⟩ ⟨by decide, by decide⟩ ⟨by decide, by decide⟩ ⟨rfl, rfl⟩ [0] rfl 0 rfl rfl rfl rfl (Nat.le_of_ble_eq_true rfl) dX10_edgeOf_19 22 rfl (Gs' := [gX10 cy oM aM M]) rfl ?_
      clear hu7
      have hi := (gd_some hf).1
      replace hf := (gd_some hf).2
      refine ww_iald h 0 rfl 1 rfl (ix_in hi) dX10_edgeOf_22 23 rfl ?_
      clear hi
      refine ww_aload_n h dX10_edgeOf_23 rfl 0 rfl 24 rfl ?_
      refine ww_get h inG10 rfl 0 rfl rfl 26 (by decide) w_1183 rfl dX10_edgeOf_24 27 rfl ?_
      refine ww_iload h dX10_edgeOf_27 3 rfl 29 rfl ?_
      have hi := (gd_some hf).1
      replace hf := (gd_some hf).2
      refine ww_iald h 0 rfl 17 rfl (ix_in hi) dX10_edgeOf_29 30 rfl ?_
      clear hi
      refine ww_isub h dX10_edgeOf_30 31 rfl ?_
      refine ww_aload_n h dX10_edgeOf_31 rfl 0 rfl 32 rfl ?_
      refine ww_get h inG10 rfl 0 rfl rfl 27 (by decide) w_1184 rfl dX10_edgeOf_32 35 rfl ?_
      refine ww_iload h dX10_edgeOf_35 3 rfl 37 rfl ?_
      have hi := (gd_some hf).1
      replace hf := (gd_some hf).2
      refine ww_iald h 0 rfl 18 rfl (ix_in hi) dX10_edgeOf_37 38 rfl ?_
      clear hi
      refine ww_iadd h dX10_edgeOf_38 39 rfl ?_
      refine ww_iadd h dX10_edgeOf_39 40 rfl ?_
      refine ww_ist_n h dX10_edgeOf_40 rfl (by decide) (fun v3_8 => [(3, .int v3_8), (0, .ref oM), (2, .int p1), (4, .int v4_5)]) (fun _ => rfl) 41 rfl (fun v3_8 e => ?_)
      replace hf := bnd_at e hf
      clear e
      refine ww_inc (c := 1) h dX10_edgeOf_41 3 rfl (by decide) (by decide) (fun v4_9 => [(4, .int v4_9), (3, .int v3_8), (0, .ref oM), (2, .int p1)]) (fun _ => rfl) 44 rfl (fun v4_9 e => ?_)
      replace hf := bnd_at e hf
      clear e
      refine ww_goto h dX10_edgeOf_44 5 (by decide) ?_
      refine ww_lo [2, 3, 1, 0] (lo' := [(0, .ref oM), (2, .int p1), (3, .int v3_8), (4, .int v4_9)]) rfl ?_
      exact hI3 (v3_8, v4_9) (Option.some.inj hf).symm
  · clear h3
    show ww X D A 5 Q 0 0 47 [(3, .int v3_10)] [] [gX10 cy oM aM M]
    refine ww_iload_n h dX10_edgeOf_47 rfl 0 rfl 48 rfl ?_
    obtain rfl := Option.some.inj hf
    exact ww_iret h dX10_edgeOf_48 hQ ⟨rfl, rfl⟩
theorem dX10_of_0 : decode cX10_of 0 = .ok (.aload_n 0, 1) := by decide +kernel
theorem dX10_of_1 : decode cX10_of 1 = .ok (.iload_n 1, 1) := by decide +kernel
theorem dX10_of_2 : decode cX10_of 2 = .ok (.invokevirtual 151, 3) := by decide +kernel
theorem dX10_of_5 : decode cX10_of 5 = .ok (.ifCond .ne 5, 3) := by decide +kernel
theorem dX10_of_8 : decode cX10_of 8 = .ok (.iconst (-1), 1) := by decide +kernel
theorem dX10_of_9 : decode cX10_of 9 = .ok (.ireturn, 1) := by decide +kernel
theorem dX10_of_10 : decode cX10_of 10 = .ok (.iload_n 2, 1) := by decide +kernel
theorem dX10_of_11 : decode cX10_of 11 = .ok (.tableswitch 156 0 9 #[53, 60, 80, 100, 115, 122, 129, 136, 143, 150], 53) := by decide +kernel
theorem dX10_of_64 : decode cX10_of 64 = .ok (.aload_n 0, 1) := by decide +kernel
theorem dX10_of_65 : decode cX10_of 65 = .ok (.getfield 13, 3) := by decide +kernel
theorem dX10_of_68 : decode cX10_of 68 = .ok (.iload_n 1, 1) := by decide +kernel
theorem dX10_of_69 : decode cX10_of 69 = .ok (.iaload, 1) := by decide +kernel
theorem dX10_of_70 : decode cX10_of 70 = .ok (.ireturn, 1) := by decide +kernel
theorem dX10_of_71 : decode cX10_of 71 = .ok (.aload_n 0, 1) := by decide +kernel
theorem dX10_of_72 : decode cX10_of 72 = .ok (.getfield 36, 3) := by decide +kernel
theorem dX10_of_75 : decode cX10_of 75 = .ok (.bipush 82, 2) := by decide +kernel
theorem dX10_of_77 : decode cX10_of 77 = .ok (.iaload, 1) := by decide +kernel
theorem dX10_of_78 : decode cX10_of 78 = .ok (.iload_n 1, 1) := by decide +kernel
theorem dX10_of_79 : decode cX10_of 79 = .ok (.invokestatic 136, 3) := by decide +kernel
theorem dX10_of_82 : decode cX10_of 82 = .ok (.ifCond .eq 7, 3) := by decide +kernel
theorem dX10_of_85 : decode cX10_of 85 = .ok (.iconst 1, 1) := by decide +kernel
theorem dX10_of_86 : decode cX10_of 86 = .ok (.goto 4, 3) := by decide +kernel
theorem dX10_of_89 : decode cX10_of 89 = .ok (.iconst 0, 1) := by decide +kernel
theorem dX10_of_90 : decode cX10_of 90 = .ok (.ireturn, 1) := by decide +kernel
theorem dX10_of_91 : decode cX10_of 91 = .ok (.aload_n 0, 1) := by decide +kernel
theorem dX10_of_92 : decode cX10_of 92 = .ok (.getfield 36, 3) := by decide +kernel
theorem dX10_of_95 : decode cX10_of 95 = .ok (.bipush 83, 2) := by decide +kernel
theorem dX10_of_97 : decode cX10_of 97 = .ok (.iaload, 1) := by decide +kernel
theorem dX10_of_98 : decode cX10_of 98 = .ok (.iload_n 1, 1) := by decide +kernel
theorem dX10_of_99 : decode cX10_of 99 = .ok (.invokestatic 136, 3) := by decide +kernel
theorem dX10_of_102 : decode cX10_of 102 = .ok (.ifCond .eq 7, 3) := by decide +kernel
theorem dX10_of_105 : decode cX10_of 105 = .ok (.iconst 1, 1) := by decide +kernel
theorem dX10_of_106 : decode cX10_of 106 = .ok (.goto 4, 3) := by decide +kernel
theorem dX10_of_109 : decode cX10_of 109 = .ok (.iconst 0, 1) := by decide +kernel
theorem dX10_of_110 : decode cX10_of 110 = .ok (.ireturn, 1) := by decide +kernel
theorem dX10_of_111 : decode cX10_of 111 = .ok (.aload_n 0, 1) := by decide +kernel
theorem dX10_of_112 : decode cX10_of 112 = .ok (.getfield 17, 3) := by decide +kernel
theorem dX10_of_115 : decode cX10_of 115 = .ok (.iload_n 1, 1) := by decide +kernel
theorem dX10_of_116 : decode cX10_of 116 = .ok (.baload, 1) := by decide +kernel
theorem dX10_of_117 : decode cX10_of 117 = .ok (.ifCond .eq 7, 3) := by decide +kernel
theorem dX10_of_120 : decode cX10_of 120 = .ok (.iconst 1, 1) := by decide +kernel
theorem dX10_of_121 : decode cX10_of 121 = .ok (.goto 4, 3) := by decide +kernel
theorem dX10_of_124 : decode cX10_of 124 = .ok (.iconst 0, 1) := by decide +kernel
theorem dX10_of_125 : decode cX10_of 125 = .ok (.ireturn, 1) := by decide +kernel
theorem dX10_of_126 : decode cX10_of 126 = .ok (.aload_n 0, 1) := by decide +kernel
theorem dX10_of_127 : decode cX10_of 127 = .ok (.getfield 21, 3) := by decide +kernel
theorem dX10_of_130 : decode cX10_of 130 = .ok (.iload_n 1, 1) := by decide +kernel
theorem dX10_of_131 : decode cX10_of 131 = .ok (.iaload, 1) := by decide +kernel
theorem dX10_of_132 : decode cX10_of 132 = .ok (.ireturn, 1) := by decide +kernel
theorem dX10_of_133 : decode cX10_of 133 = .ok (.aload_n 0, 1) := by decide +kernel
theorem dX10_of_134 : decode cX10_of 134 = .ok (.getfield 24, 3) := by decide +kernel
theorem dX10_of_137 : decode cX10_of 137 = .ok (.iload_n 1, 1) := by decide +kernel
theorem dX10_of_138 : decode cX10_of 138 = .ok (.iaload, 1) := by decide +kernel
theorem dX10_of_139 : decode cX10_of 139 = .ok (.ireturn, 1) := by decide +kernel
theorem dX10_of_140 : decode cX10_of 140 = .ok (.aload_n 0, 1) := by decide +kernel
theorem dX10_of_141 : decode cX10_of 141 = .ok (.getfield 27, 3) := by decide +kernel
theorem dX10_of_144 : decode cX10_of 144 = .ok (.iload_n 1, 1) := by decide +kernel
theorem dX10_of_145 : decode cX10_of 145 = .ok (.iaload, 1) := by decide +kernel
theorem dX10_of_146 : decode cX10_of 146 = .ok (.ireturn, 1) := by decide +kernel
theorem dX10_of_147 : decode cX10_of 147 = .ok (.aload_n 0, 1) := by decide +kernel
theorem dX10_of_148 : decode cX10_of 148 = .ok (.getfield 30, 3) := by decide +kernel
theorem dX10_of_151 : decode cX10_of 151 = .ok (.iload_n 1, 1) := by decide +kernel
theorem dX10_of_152 : decode cX10_of 152 = .ok (.iaload, 1) := by decide +kernel
theorem dX10_of_153 : decode cX10_of 153 = .ok (.ireturn, 1) := by decide +kernel
theorem dX10_of_154 : decode cX10_of 154 = .ok (.aload_n 0, 1) := by decide +kernel
theorem dX10_of_155 : decode cX10_of 155 = .ok (.getfield 33, 3) := by decide +kernel
theorem dX10_of_158 : decode cX10_of 158 = .ok (.iload_n 1, 1) := by decide +kernel
theorem dX10_of_159 : decode cX10_of 159 = .ok (.iaload, 1) := by decide +kernel
theorem dX10_of_160 : decode cX10_of 160 = .ok (.ireturn, 1) := by decide +kernel
theorem dX10_of_161 : decode cX10_of 161 = .ok (.aload_n 0, 1) := by decide +kernel
theorem dX10_of_162 : decode cX10_of 162 = .ok (.iload_n 1, 1) := by decide +kernel
theorem dX10_of_163 : decode cX10_of 163 = .ok (.invokevirtual 170, 3) := by decide +kernel
theorem dX10_of_166 : decode cX10_of 166 = .ok (.ireturn, 1) := by decide +kernel
theorem dX10_of_167 : decode cX10_of 167 = .ok (.iconst (-1), 1) := by decide +kernel
theorem dX10_of_168 : decode cX10_of 168 = .ok (.ireturn, 1) := by decide +kernel
theorem ok_X10_of : okY RX10 yX10_of 2 := ⟨rfl, by decide, by decide, by decide +kernel⟩
def f_X10_of (M : OV) (p0 : Int32) (p1 : Int32) : Option (Int32) := (f_X10_isTold M p0).bind (un1 (fun r_1 => (if r_1 = 0 then some (-1 : Int32) else (if p1 = 0 then gd (ix p0 26) (some (ar M 1 p0.toNatClampNeg)) else (if p1 = 1 then gd (ix (82 : Int32) 113) ((f_X10_isIn (ar M 8 (82 : Int32).toNatClampNeg) p0).bind (un1 (fun r_3 => (if r_3 = 0 then some (0 : Int32) else some (1 : Int32))))) else (if p1 = 2 then gd (ix (83 : Int32) 113) ((f_X10_isIn (ar M 8 (83 : Int32).toNatClampNeg) p0).bind (un1 (fun r_5 => (if r_5 = 0 then some (0 : Int32) else some (1 : Int32))))) else (if p1 = 3 then gd (ix p0 26) ((if (ar M 2 p0.toNatClampNeg) = 0 then some (0 : Int32) else some (1 : Int32))) else (if p1 = 4 then gd (ix p0 26) (some (ar M 3 p0.toNatClampNeg)) else (if p1 = 5 then gd (ix p0 26) (some (ar M 4 p0.toNatClampNeg)) else (if p1 = 6 then gd (ix p0 26) (some (ar M 5 p0.toNatClampNeg)) else (if p1 = 7 then gd (ix p0 26) (some (ar M 6 p0.toNatClampNeg)) else (if p1 = 8 then gd (ix p0 26) (some (ar M 7 p0.toNatClampNeg)) else (if p1 = 9 then (f_X10_signsLike M p0).bind (un1 (fun r_7 => some r_7)) else some (-1 : Int32))))))))))))))
def r_X10_of : Room := { frames := 2, cells := 0, slots := 0, locals := 44 }
set_option maxHeartbeats 4000000 in
set_option maxRecDepth 100000 in
theorem c_X10_of (l : Launch) (D : va_G) (ev : EvT) (cy : Nat → ClassId) (oM : Nat) (aM : Nat → Nat) (M : OV) (p0 : Int32) (p1 : Int32) (o : Int32) (hf : f_X10_of M p0 p1 = some o) : Fn l yX10_of cX10_of 3 (some .int) r_X10_of D ev cy [.ref oM, .int p0, .int p1] [gX10 cy oM aM M] (fun v G => v = some (.int o) ∧ G = [gX10 cy oM aM M]) := by
  refine Fn_of (by decide) (Nat.le_of_ble_eq_true rfl) (fun X A Q h hQ _ => ?_)
  unfold f_X10_of at hf
  show ww X D A 3 Q 0 0 0 [(0, .ref oM), (1, .int p0), (2, .int p1)] [] [gX10 cy oM aM M]
  refine ww_aload_n h dX10_of_0 rfl 0 rfl 1 rfl ?_
  refine ww_iload_n h dX10_of_1 rfl 1 rfl 2 rfl ?_
  obtain ⟨r_1, hu2, hf⟩ := ob1 hf
  refine ww_cVi h (c_X10_isTold l D ev cy oM aM M p0 _ hu2) ⟨w_1337, w_1334, w_1336, w_38, w_111, ok_X10_isTold⟩ ⟨by decide, by decide⟩ ⟨by decide, by decide⟩ ⟨rfl, rfl⟩ [0] rfl 0 rfl rfl rfl rfl (Nat.le_of_ble_eq_true rfl) dX10_of_2 5 rfl (Gs' := [gX10 cy oM aM M]) rfl ?_
  clear hu2
  refine ww_if_ne h dX10_of_5 10 (by decide) 8 rfl (fun c => ?_) (fun c => ?_)
  · replace hf := ite_f c hf
    refine ww_iload_n h dX10_of_10 rfl 2 rfl 11 rfl ?_
    by_cases c11_0 : p1 = 0
    · replace hf := ite_t c11_0 hf
      refine ww_tabIn h dX10_of_11 (by rw [c11_0]; decide) (by rw [c11_0]; decide) (by rw [c11_0]; rfl) 64 (by decide) ?_
      refine ww_aload_n h dX10_of_64 rfl 0 rfl 65 rfl ?_
      refine ww_get h inG10 rfl 0 rfl rfl 1 (by decide) w_1158 rfl dX10_of_65 68 rfl ?_
      refine ww_iload_n h dX10_of_68 rfl 1 rfl 69 rfl ?_
      have hi := (gd_some hf).1
      replace hf := (gd_some hf).2
      refine ww_iald h 0 rfl 1 rfl (ix_in hi) dX10_of_69 70 rfl ?_
      clear hi
      obtain rfl := Option.some.inj hf
      exact ww_iret h dX10_of_70 hQ ⟨rfl, rfl⟩
    · replace hf := ite_f c11_0 hf
      by_cases c11_1 : p1 = 1
      · replace hf := ite_t c11_1 hf
        refine ww_tabIn h dX10_of_11 (by rw [c11_1]; decide) (by rw [c11_1]; decide) (by rw [c11_1]; rfl) 71 (by decide) ?_
        refine ww_aload_n h dX10_of_71 rfl 0 rfl 72 rfl ?_
        refine ww_get h inG10 rfl 0 rfl rfl 8 (by decide) w_1165 rfl dX10_of_72 75 rfl ?_
        refine ww_bipush (v := 82) h dX10_of_75 (by decide) 77 rfl ?_
        have hi := (gd_some hf).1
        replace hf := (gd_some hf).2
        refine ww_iald h 0 rfl 8 rfl (ix_in hi) dX10_of_77 78 rfl ?_
        clear hi
        refine ww_iload_n h dX10_of_78 rfl 1 rfl 79 rfl ?_
        obtain ⟨r_3, hu4, hf⟩ := ob1 hf
        refine ww_cSi h (c_X10_isIn l D ev cy (ar M 8 (82 : Int32).toNatClampNeg) p0 _ hu4) ⟨w_1412, w_1410, w_1411, w_111, ok_X10_isIn⟩ ⟨by decide, by decide⟩ ⟨by decide, by decide⟩ ⟨rfl, rfl⟩ [] rfl rfl (Nat.le_of_ble_eq_true rfl) dX10_of_79 82 rfl (Gs' := [gX10 cy oM aM M]) rfl ?_
        clear hu4
        refine ww_if_eq h dX10_of_82 89 (by decide) 85 rfl (fun c => ?_) (fun c => ?_)
        · replace hf := ite_t c hf
          refine ww_iconst (v := 0) h dX10_of_89 (by decide) 90 rfl ?_
          obtain rfl := Option.some.inj hf
          exact ww_iret h dX10_of_90 hQ ⟨rfl, rfl⟩
        · replace hf := ite_f c hf
          refine ww_iconst (v := 1) h dX10_of_85 (by decide) 86 rfl ?_
          refine ww_goto h dX10_of_86 90 (by decide) ?_
          obtain rfl := Option.some.inj hf
          exact ww_iret h dX10_of_90 hQ ⟨rfl, rfl⟩
      · replace hf := ite_f c11_1 hf
        by_cases c11_2 : p1 = 2
        · replace hf := ite_t c11_2 hf
          refine ww_tabIn h dX10_of_11 (by rw [c11_2]; decide) (by rw [c11_2]; decide) (by rw [c11_2]; rfl) 91 (by decide) ?_
          refine ww_aload_n h dX10_of_91 rfl 0 rfl 92 rfl ?_
          refine ww_get h inG10 rfl 0 rfl rfl 8 (by decide) w_1165 rfl dX10_of_92 95 rfl ?_
          refine ww_bipush (v := 83) h dX10_of_95 (by decide) 97 rfl ?_
          have hi := (gd_some hf).1
          replace hf := (gd_some hf).2
          refine ww_iald h 0 rfl 8 rfl (ix_in hi) dX10_of_97 98 rfl ?_
          clear hi
          refine ww_iload_n h dX10_of_98 rfl 1 rfl 99 rfl ?_
          obtain ⟨r_5, hu6, hf⟩ := ob1 hf
          refine ww_cSi h (c_X10_isIn l D ev cy (ar M 8 (83 : Int32).toNatClampNeg) p0 _ hu6) ⟨w_1412, w_1410, w_1411, w_111, ok_X10_isIn⟩ ⟨by decide, by decide⟩ ⟨by decide, by decide⟩ ⟨rfl, rfl⟩ [] rfl rfl (Nat.le_of_ble_eq_true rfl) dX10_of_99 102 rfl (Gs' := [gX10 cy oM aM M]) rfl ?_
          clear hu6
          refine ww_if_eq h dX10_of_102 109 (by decide) 105 rfl (fun c => ?_) (fun c => ?_)
          · replace hf := ite_t c hf
            refine ww_iconst (v := 0) h dX10_of_109 (by decide) 110 rfl ?_
            obtain rfl := Option.some.inj hf
            exact ww_iret h dX10_of_110 hQ ⟨rfl, rfl⟩
          · replace hf := ite_f c hf
            refine ww_iconst (v := 1) h dX10_of_105 (by decide) 106 rfl ?_
            refine ww_goto h dX10_of_106 110 (by decide) ?_
            obtain rfl := Option.some.inj hf
            exact ww_iret h dX10_of_110 hQ ⟨rfl, rfl⟩
        · replace hf := ite_f c11_2 hf
          by_cases c11_3 : p1 = 3
          · replace hf := ite_t c11_3 hf
            refine ww_tabIn h dX10_of_11 (by rw [c11_3]; decide) (by rw [c11_3]; decide) (by rw [c11_3]; rfl) 111 (by decide) ?_
            refine ww_aload_n h dX10_of_111 rfl 0 rfl 112 rfl ?_
            refine ww_get h inG10 rfl 0 rfl rfl 2 (by decide) w_1159 rfl dX10_of_112 115 rfl ?_
            refine ww_iload_n h dX10_of_115 rfl 1 rfl 116 rfl ?_
            have hi := (gd_some hf).1
            replace hf := (gd_some hf).2
            refine ww_zald h 0 rfl 2 rfl (ix_in hi) dX10_of_116 117 rfl ?_
            clear hi
            refine ww_if_eq h dX10_of_117 124 (by decide) 120 rfl (fun c => ?_) (fun c => ?_)
            · replace hf := ite_t c hf
              refine ww_iconst (v := 0) h dX10_of_124 (by decide) 125 rfl ?_
              obtain rfl := Option.some.inj hf
              exact ww_iret h dX10_of_125 hQ ⟨rfl, rfl⟩
            · replace hf := ite_f c hf
              refine ww_iconst (v := 1) h dX10_of_120 (by decide) 121 rfl ?_
              refine ww_goto h dX10_of_121 125 (by decide) ?_
              obtain rfl := Option.some.inj hf
              exact ww_iret h dX10_of_125 hQ ⟨rfl, rfl⟩
          · replace hf := ite_f c11_3 hf
            by_cases c11_4 : p1 = 4
            · replace hf := ite_t c11_4 hf
              refine ww_tabIn h dX10_of_11 (by rw [c11_4]; decide) (by rw [c11_4]; decide) (by rw [c11_4]; rfl) 126 (by decide) ?_
              refine ww_aload_n h dX10_of_126 rfl 0 rfl 127 rfl ?_
              refine ww_get h inG10 rfl 0 rfl rfl 3 (by decide) w_1160 rfl dX10_of_127 130 rfl ?_
              refine ww_iload_n h dX10_of_130 rfl 1 rfl 131 rfl ?_
              have hi := (gd_some hf).1
              replace hf := (gd_some hf).2
              refine ww_iald h 0 rfl 3 rfl (ix_in hi) dX10_of_131 132 rfl ?_
              clear hi
              obtain rfl := Option.some.inj hf
              exact ww_iret h dX10_of_132 hQ ⟨rfl, rfl⟩
            · replace hf := ite_f c11_4 hf
              by_cases c11_5 : p1 = 5
              · replace hf := ite_t c11_5 hf
                refine ww_tabIn h dX10_of_11 (by rw [c11_5]; decide) (by rw [c11_5]; decide) (by rw [c11_5]; rfl) 133 (by decide) ?_
                refine ww_aload_n h dX10_of_133 rfl 0 rfl 134 rfl ?_
                refine ww_get h inG10 rfl 0 rfl rfl 4 (by decide) w_1161 rfl dX10_of_134 137 rfl ?_
                refine ww_iload_n h dX10_of_137 rfl 1 rfl 138 rfl ?_
                have hi := (gd_some hf).1
                replace hf := (gd_some hf).2
                refine ww_iald h 0 rfl 4 rfl (ix_in hi) dX10_of_138 139 rfl ?_
                clear hi
                obtain rfl := Option.some.inj hf
                exact ww_iret h dX10_of_139 hQ ⟨rfl, rfl⟩
              · replace hf := ite_f c11_5 hf
                by_cases c11_6 : p1 = 6
                · replace hf := ite_t c11_6 hf
                  refine ww_tabIn h dX10_of_11 (by rw [c11_6]; decide) (by rw [c11_6]; decide) (by rw [c11_6]; rfl) 140 (by decide) ?_
                  refine ww_aload_n h dX10_of_140 rfl 0 rfl 141 rfl ?_
                  refine ww_get h inG10 rfl 0 rfl rfl 5 (by decide) w_1162 rfl dX10_of_141 144 rfl ?_
                  refine ww_iload_n h dX10_of_144 rfl 1 rfl 145 rfl ?_
                  have hi := (gd_some hf).1
                  replace hf := (gd_some hf).2
                  refine ww_iald h 0 rfl 5 rfl (ix_in hi) dX10_of_145 146 rfl ?_
                  clear hi
                  obtain rfl := Option.some.inj hf
                  exact ww_iret h dX10_of_146 hQ ⟨rfl, rfl⟩
                · replace hf := ite_f c11_6 hf
                  by_cases c11_7 : p1 = 7
                  · replace hf := ite_t c11_7 hf
                    refine ww_tabIn h dX10_of_11 (by rw [c11_7]; decide) (by rw [c11_7]; decide) (by rw [c11_7]; rfl) 147 (by decide) ?_
                    refine ww_aload_n h dX10_of_147 rfl 0 rfl 148 rfl ?_
                    refine ww_get h inG10 rfl 0 rfl rfl 6 (by decide) w_1163 rfl dX10_of_148 151 rfl ?_
                    refine ww_iload_n h dX10_of_151 rfl 1 rfl 152 rfl ?_
                    have hi := (gd_some hf).1
                    replace hf := (gd_some hf).2
                    refine ww_iald h 0 rfl 6 rfl (ix_in hi) dX10_of_152 153 rfl ?_
                    clear hi
                    obtain rfl := Option.some.inj hf
                    exact ww_iret h dX10_of_153 hQ ⟨rfl, rfl⟩
                  · replace hf := ite_f c11_7 hf
                    by_cases c11_8 : p1 = 8
                    · replace hf := ite_t c11_8 hf
                      refine ww_tabIn h dX10_of_11 (by rw [c11_8]; decide) (by rw [c11_8]; decide) (by rw [c11_8]; rfl) 154 (by decide) ?_
                      refine ww_aload_n h dX10_of_154 rfl 0 rfl 155 rfl ?_
                      refine ww_get h inG10 rfl 0 rfl rfl 7 (by decide) w_1164 rfl dX10_of_155 158 rfl ?_
                      refine ww_iload_n h dX10_of_158 rfl 1 rfl 159 rfl ?_
                      have hi := (gd_some hf).1
                      replace hf := (gd_some hf).2
                      refine ww_iald h 0 rfl 7 rfl (ix_in hi) dX10_of_159 160 rfl ?_
                      clear hi
                      obtain rfl := Option.some.inj hf
                      exact ww_iret h dX10_of_160 hQ ⟨rfl, rfl⟩
                    · replace hf := ite_f c11_8 hf
                      by_cases c11_9 : p1 = 9
                      · replace hf := ite_t c11_9 hf
                        refine ww_tabIn h dX10_of_11 (by rw [c11_9]; decide) (by rw [c11_9]; decide) (by rw [c11_9]; rfl) 161 (by decide) ?_
                        refine ww_aload_n h dX10_of_161 rfl 0 rfl 162 rfl ?_
                        refine ww_iload_n h dX10_of_162 rfl 1 rfl 163 rfl ?_
                        obtain ⟨r_7, hu8, hf⟩ := ob1 hf
                        refine ww_cVi h (c_X10_signsLike l D ev cy oM aM M p0 _ hu8) ⟨w_1385, w_1382, w_1384, w_46, w_111, ok_X10_signsLike⟩ ⟨by decide, by decide⟩ ⟨by decide, by decide⟩ ⟨rfl, rfl⟩ [0] rfl 0 rfl rfl rfl rfl (Nat.le_of_ble_eq_true rfl) dX10_of_163 166 rfl (Gs' := [gX10 cy oM aM M]) rfl ?_
                        clear hu8
                        obtain rfl := Option.some.inj hf
                        exact ww_iret h dX10_of_166 hQ ⟨rfl, rfl⟩
                      · replace hf := ite_f c11_9 hf
                        refine ww_tabOut h dX10_of_11 (by have z0 := ne_int c11_0 0 (by decide); have z1 := ne_int c11_1 1 (by decide); have z2 := ne_int c11_2 2 (by decide); have z3 := ne_int c11_3 3 (by decide); have z4 := ne_int c11_4 4 (by decide); have z5 := ne_int c11_5 5 (by decide); have z6 := ne_int c11_6 6 (by decide); have z7 := ne_int c11_7 7 (by decide); have z8 := ne_int c11_8 8 (by decide); have z9 := ne_int c11_9 9 (by decide); omega) 167 (by decide) ?_
                        refine ww_iconst (v := (-1)) h dX10_of_167 (by decide) 168 rfl ?_
                        obtain rfl := Option.some.inj hf
                        exact ww_iret h dX10_of_168 hQ ⟨rfl, rfl⟩
  · replace hf := ite_t c hf
    refine ww_iconst (v := (-1)) h dX10_of_8 (by decide) 9 rfl ?_
    obtain rfl := Option.some.inj hf
    exact ww_iret h dX10_of_9 hQ ⟨rfl, rfl⟩
theorem dX10_isPair_0 : decode cX10_isPair 0 = .ok (.aload_n 0, 1) := by decide +kernel
theorem dX10_isPair_1 : decode cX10_isPair 1 = .ok (.iload_n 1, 1) := by decide +kernel
theorem dX10_isPair_2 : decode cX10_isPair 2 = .ok (.invokevirtual 151, 3) := by decide +kernel
theorem dX10_isPair_5 : decode cX10_isPair 5 = .ok (.ifCond .eq 11, 3) := by decide +kernel
theorem dX10_isPair_8 : decode cX10_isPair 8 = .ok (.aload_n 0, 1) := by decide +kernel
theorem dX10_isPair_9 : decode cX10_isPair 9 = .ok (.iload_n 2, 1) := by decide +kernel
theorem dX10_isPair_10 : decode cX10_isPair 10 = .ok (.invokevirtual 151, 3) := by decide +kernel
theorem dX10_isPair_13 : decode cX10_isPair 13 = .ok (.ifCond .ne 5, 3) := by decide +kernel
theorem dX10_isPair_16 : decode cX10_isPair 16 = .ok (.iconst (-1), 1) := by decide +kernel
theorem dX10_isPair_17 : decode cX10_isPair 17 = .ok (.ireturn, 1) := by decide +kernel
theorem dX10_isPair_18 : decode cX10_isPair 18 = .ok (.aload_n 0, 1) := by decide +kernel
theorem dX10_isPair_19 : decode cX10_isPair 19 = .ok (.iload_n 1, 1) := by decide +kernel
theorem dX10_isPair_20 : decode cX10_isPair 20 = .ok (.iload_n 2, 1) := by decide +kernel
theorem dX10_isPair_21 : decode cX10_isPair 21 = .ok (.invokevirtual 180, 3) := by decide +kernel
theorem dX10_isPair_24 : decode cX10_isPair 24 = .ok (.ifCond .eq 7, 3) := by decide +kernel
theorem dX10_isPair_27 : decode cX10_isPair 27 = .ok (.iconst 1, 1) := by decide +kernel
theorem dX10_isPair_28 : decode cX10_isPair 28 = .ok (.goto 4, 3) := by decide +kernel
theorem dX10_isPair_31 : decode cX10_isPair 31 = .ok (.iconst 0, 1) := by decide +kernel
theorem dX10_isPair_32 : decode cX10_isPair 32 = .ok (.ireturn, 1) := by decide +kernel
theorem ok_X10_isPair : okY RX10 yX10_isPair 2 := ⟨rfl, by decide, by decide, by decide +kernel⟩
def f_X10_isPair (M : OV) (p0 : Int32) (p1 : Int32) : Option (Int32) := (f_X10_isTold M p0).bind (un1 (fun r_1 => (if r_1 = 0 then some (-1 : Int32) else (f_X10_isTold M p1).bind (un1 (fun r_3 => (if r_3 = 0 then some (-1 : Int32) else (f_X10_arePair M p0 p1).bind (un1 (fun r_5 => (if r_5 = 0 then some (0 : Int32) else some (1 : Int32))))))))))
def r_X10_isPair : Room := { frames := 2, cells := 0, slots := 0, locals := 43 }
set_option maxHeartbeats 4000000 in
set_option maxRecDepth 100000 in
theorem c_X10_isPair (l : Launch) (D : va_G) (ev : EvT) (cy : Nat → ClassId) (oM : Nat) (aM : Nat → Nat) (M : OV) (p0 : Int32) (p1 : Int32) (o : Int32) (hf : f_X10_isPair M p0 p1 = some o) : Fn l yX10_isPair cX10_isPair 3 (some .int) r_X10_isPair D ev cy [.ref oM, .int p0, .int p1] [gX10 cy oM aM M] (fun v G => v = some (.int o) ∧ G = [gX10 cy oM aM M]) := by
  refine Fn_of (by decide) (Nat.le_of_ble_eq_true rfl) (fun X A Q h hQ _ => ?_)
  unfold f_X10_isPair at hf
  show ww X D A 3 Q 0 0 0 [(0, .ref oM), (1, .int p0), (2, .int p1)] [] [gX10 cy oM aM M]
  refine ww_aload_n h dX10_isPair_0 rfl 0 rfl 1 rfl ?_
  refine ww_iload_n h dX10_isPair_1 rfl 1 rfl 2 rfl ?_
  obtain ⟨r_1, hu2, hf⟩ := ob1 hf
  refine ww_cVi h (c_X10_isTold l D ev cy oM aM M p0 _ hu2) ⟨w_1337, w_1334, w_1336, w_38, w_111, ok_X10_isTold⟩ ⟨by decide, by decide⟩ ⟨by decide, by decide⟩ ⟨rfl, rfl⟩ [0] rfl 0 rfl rfl rfl rfl (Nat.le_of_ble_eq_true rfl) dX10_isPair_2 5 rfl (Gs' := [gX10 cy oM aM M]) rfl ?_
  clear hu2
  refine ww_if_eq h dX10_isPair_5 16 (by decide) 8 rfl (fun c => ?_) (fun c => ?_)
  · replace hf := ite_t c hf
    refine ww_iconst (v := (-1)) h dX10_isPair_16 (by decide) 17 rfl ?_
    obtain rfl := Option.some.inj hf
    exact ww_iret h dX10_isPair_17 hQ ⟨rfl, rfl⟩
  · replace hf := ite_f c hf
    refine ww_aload_n h dX10_isPair_8 rfl 0 rfl 9 rfl ?_
    refine ww_iload_n h dX10_isPair_9 rfl 2 rfl 10 rfl ?_
    obtain ⟨r_3, hu4, hf⟩ := ob1 hf
    refine ww_cVi h (c_X10_isTold l D ev cy oM aM M p1 _ hu4) ⟨w_1337, w_1334, w_1336, w_38, w_111, ok_X10_isTold⟩ ⟨by decide, by decide⟩ ⟨by decide, by decide⟩ ⟨rfl, rfl⟩ [0] rfl 0 rfl rfl rfl rfl (Nat.le_of_ble_eq_true rfl) dX10_isPair_10 13 rfl (Gs' := [gX10 cy oM aM M]) rfl ?_
    clear hu4
    refine ww_if_ne h dX10_isPair_13 18 (by decide) 16 rfl (fun c => ?_) (fun c => ?_)
    · replace hf := ite_f c hf
      refine ww_aload_n h dX10_isPair_18 rfl 0 rfl 19 rfl ?_
      refine ww_iload_n h dX10_isPair_19 rfl 1 rfl 20 rfl ?_
      refine ww_iload_n h dX10_isPair_20 rfl 2 rfl 21 rfl ?_
      obtain ⟨r_5, hu6, hf⟩ := ob1 hf
      refine ww_cVi h (c_X10_arePair l D ev cy oM aM M p0 p1 _ hu6) ⟨w_1409, w_1406, w_1408, w_49, w_111, ok_X10_arePair⟩ ⟨by decide, by decide⟩ ⟨by decide, by decide⟩ ⟨rfl, rfl⟩ [0] rfl 0 rfl rfl rfl rfl (Nat.le_of_ble_eq_true rfl) dX10_isPair_21 24 rfl (Gs' := [gX10 cy oM aM M]) rfl ?_
      clear hu6
      refine ww_if_eq h dX10_isPair_24 31 (by decide) 27 rfl (fun c => ?_) (fun c => ?_)
      · replace hf := ite_t c hf
        refine ww_iconst (v := 0) h dX10_isPair_31 (by decide) 32 rfl ?_
        obtain rfl := Option.some.inj hf
        exact ww_iret h dX10_isPair_32 hQ ⟨rfl, rfl⟩
      · replace hf := ite_f c hf
        refine ww_iconst (v := 1) h dX10_isPair_27 (by decide) 28 rfl ?_
        refine ww_goto h dX10_isPair_28 32 (by decide) ?_
        obtain rfl := Option.some.inj hf
        exact ww_iret h dX10_isPair_32 hQ ⟨rfl, rfl⟩
    · replace hf := ite_t c hf
      refine ww_iconst (v := (-1)) h dX10_isPair_16 (by decide) 17 rfl ?_
      obtain rfl := Option.some.inj hf
      exact ww_iret h dX10_isPair_17 hQ ⟨rfl, rfl⟩
theorem dX10_marked_0 : decode cX10_marked 0 = .ok (.aload_n 0, 1) := by decide +kernel
theorem dX10_marked_1 : decode cX10_marked 1 = .ok (.iload_n 1, 1) := by decide +kernel
theorem dX10_marked_2 : decode cX10_marked 2 = .ok (.invokevirtual 161, 3) := by decide +kernel
theorem dX10_marked_5 : decode cX10_marked 5 = .ok (.ifCond .eq 11, 3) := by decide +kernel
theorem dX10_marked_8 : decode cX10_marked 8 = .ok (.aload_n 0, 1) := by decide +kernel
theorem dX10_marked_9 : decode cX10_marked 9 = .ok (.iload_n 1, 1) := by decide +kernel
theorem dX10_marked_10 : decode cX10_marked 10 = .ok (.invokevirtual 173, 3) := by decide +kernel
theorem dX10_marked_13 : decode cX10_marked 13 = .ok (.goto 4, 3) := by decide +kernel
theorem dX10_marked_16 : decode cX10_marked 16 = .ok (.iconst (-1), 1) := by decide +kernel
theorem dX10_marked_17 : decode cX10_marked 17 = .ok (.ireturn, 1) := by decide +kernel
theorem ok_X10_marked : okY RX10 yX10_marked 1 := ⟨rfl, by decide, by decide, by decide +kernel⟩
def f_X10_marked (M : OV) (p0 : Int32) : Option (Int32) := (f_X10_isSign M p0).bind (un1 (fun r_1 => (if r_1 = 0 then some (-1 : Int32) else (f_X10_markOf M p0).bind (un1 (fun r_3 => some r_3)))))
def r_X10_marked : Room := { frames := 2, cells := 0, slots := 0, locals := 43 }
set_option maxHeartbeats 4000000 in
set_option maxRecDepth 100000 in
theorem c_X10_marked (l : Launch) (D : va_G) (ev : EvT) (cy : Nat → ClassId) (oM : Nat) (aM : Nat → Nat) (M : OV) (p0 : Int32) (o : Int32) (hf : f_X10_marked M p0 = some o) : Fn l yX10_marked cX10_marked 2 (some .int) r_X10_marked D ev cy [.ref oM, .int p0] [gX10 cy oM aM M] (fun v G => v = some (.int o) ∧ G = [gX10 cy oM aM M]) := by
  refine Fn_of (by decide) (Nat.le_of_ble_eq_true rfl) (fun X A Q h hQ _ => ?_)
  unfold f_X10_marked at hf
  show ww X D A 2 Q 0 0 0 [(0, .ref oM), (1, .int p0)] [] [gX10 cy oM aM M]
  refine ww_aload_n h dX10_marked_0 rfl 0 rfl 1 rfl ?_
  refine ww_iload_n h dX10_marked_1 rfl 1 rfl 2 rfl ?_
  obtain ⟨r_1, hu2, hf⟩ := ob1 hf
  refine ww_cVi h (c_X10_isSign l D ev cy oM aM M p0 _ hu2) ⟨w_1357, w_1354, w_1356, w_42, w_111, ok_X10_isSign⟩ ⟨by decide, by decide⟩ ⟨by decide, by decide⟩ ⟨rfl, rfl⟩ [0] rfl 0 rfl rfl rfl rfl (Nat.le_of_ble_eq_true rfl) dX10_marked_2 5 rfl (Gs' := [gX10 cy oM aM M]) rfl ?_
  clear hu2
  refine ww_if_eq h dX10_marked_5 16 (by decide) 8 rfl (fun c => ?_) (fun c => ?_)
  · replace hf := ite_t c hf
    refine ww_iconst (v := (-1)) h dX10_marked_16 (by decide) 17 rfl ?_
    obtain rfl := Option.some.inj hf
    exact ww_iret h dX10_marked_17 hQ ⟨rfl, rfl⟩
  · replace hf := ite_f c hf
    refine ww_aload_n h dX10_marked_8 rfl 0 rfl 9 rfl ?_
    refine ww_iload_n h dX10_marked_9 rfl 1 rfl 10 rfl ?_
    obtain ⟨r_3, hu4, hf⟩ := ob1 hf
    refine ww_cVi h (c_X10_markOf l D ev cy oM aM M p0 _ hu4) ⟨w_1393, w_1390, w_1392, w_47, w_111, ok_X10_markOf⟩ ⟨by decide, by decide⟩ ⟨by decide, by decide⟩ ⟨rfl, rfl⟩ [0] rfl 0 rfl rfl rfl rfl (Nat.le_of_ble_eq_true rfl) dX10_marked_10 13 rfl (Gs' := [gX10 cy oM aM M]) rfl ?_
    clear hu4
    refine ww_goto h dX10_marked_13 17 (by decide) ?_
    obtain rfl := Option.some.inj hf
    exact ww_iret h dX10_marked_17 hQ ⟨rfl, rfl⟩
theorem dX10_sign_0 : decode cX10_sign 0 = .ok (.aload_n 0, 1) := by decide +kernel
theorem dX10_sign_1 : decode cX10_sign 1 = .ok (.iload_n 1, 1) := by decide +kernel
theorem dX10_sign_2 : decode cX10_sign 2 = .ok (.invokevirtual 161, 3) := by decide +kernel
theorem dX10_sign_5 : decode cX10_sign 5 = .ok (.ifCond .eq 11, 3) := by decide +kernel
theorem dX10_sign_8 : decode cX10_sign 8 = .ok (.aload_n 0, 1) := by decide +kernel
theorem dX10_sign_9 : decode cX10_sign 9 = .ok (.iload_n 1, 1) := by decide +kernel
theorem dX10_sign_10 : decode cX10_sign 10 = .ok (.invokevirtual 144, 3) := by decide +kernel
theorem dX10_sign_13 : decode cX10_sign 13 = .ok (.goto 4, 3) := by decide +kernel
theorem dX10_sign_16 : decode cX10_sign 16 = .ok (.iconst (-1), 1) := by decide +kernel
theorem dX10_sign_17 : decode cX10_sign 17 = .ok (.ireturn, 1) := by decide +kernel
theorem ok_X10_sign : okY RX10 yX10_sign 1 := ⟨rfl, by decide, by decide, by decide +kernel⟩
def f_X10_sign (M : OV) (p0 : Int32) : Option (Int32) := (f_X10_isSign M p0).bind (un1 (fun r_1 => (if r_1 = 0 then some (-1 : Int32) else (f_X10_classOf M p0).bind (un1 (fun r_3 => some r_3)))))
def r_X10_sign : Room := { frames := 2, cells := 0, slots := 0, locals := 43 }
set_option maxHeartbeats 4000000 in
set_option maxRecDepth 100000 in
theorem c_X10_sign (l : Launch) (D : va_G) (ev : EvT) (cy : Nat → ClassId) (oM : Nat) (aM : Nat → Nat) (M : OV) (p0 : Int32) (o : Int32) (hf : f_X10_sign M p0 = some o) : Fn l yX10_sign cX10_sign 2 (some .int) r_X10_sign D ev cy [.ref oM, .int p0] [gX10 cy oM aM M] (fun v G => v = some (.int o) ∧ G = [gX10 cy oM aM M]) := by
  refine Fn_of (by decide) (Nat.le_of_ble_eq_true rfl) (fun X A Q h hQ _ => ?_)
  unfold f_X10_sign at hf
  show ww X D A 2 Q 0 0 0 [(0, .ref oM), (1, .int p0)] [] [gX10 cy oM aM M]
  refine ww_aload_n h dX10_sign_0 rfl 0 rfl 1 rfl ?_
  refine ww_iload_n h dX10_sign_1 rfl 1 rfl 2 rfl ?_
  obtain ⟨r_1, hu2, hf⟩ := ob1 hf
  refine ww_cVi h (c_X10_isSign l D ev cy oM aM M p0 _ hu2) ⟨w_1357, w_1354, w_1356, w_42, w_111, ok_X10_isSign⟩ ⟨by decide, by decide⟩ ⟨by decide, by decide⟩ ⟨rfl, rfl⟩ [0] rfl 0 rfl rfl rfl rfl (Nat.le_of_ble_eq_true rfl) dX10_sign_2 5 rfl (Gs' := [gX10 cy oM aM M]) rfl ?_
  clear hu2
  refine ww_if_eq h dX10_sign_5 16 (by decide) 8 rfl (fun c => ?_) (fun c => ?_)
  · replace hf := ite_t c hf
    refine ww_iconst (v := (-1)) h dX10_sign_16 (by decide) 17 rfl ?_
    obtain rfl := Option.some.inj hf
    exact ww_iret h dX10_sign_17 hQ ⟨rfl, rfl⟩
  · replace hf := ite_f c hf
    refine ww_aload_n h dX10_sign_8 rfl 0 rfl 9 rfl ?_
    refine ww_iload_n h dX10_sign_9 rfl 1 rfl 10 rfl ?_
    obtain ⟨r_3, hu4, hf⟩ := ob1 hf
    refine ww_cVi h (c_X10_classOf l D ev cy oM aM M p0 _ hu4) ⟨w_1369, w_1366, w_1368, w_44, w_111, ok_X10_classOf⟩ ⟨by decide, by decide⟩ ⟨by decide, by decide⟩ ⟨rfl, rfl⟩ [0] rfl 0 rfl rfl rfl rfl (Nat.le_of_ble_eq_true rfl) dX10_sign_10 13 rfl (Gs' := [gX10 cy oM aM M]) rfl ?_
    clear hu4
    refine ww_goto h dX10_sign_13 17 (by decide) ?_
    obtain rfl := Option.some.inj hf
    exact ww_iret h dX10_sign_17 hQ ⟨rfl, rfl⟩
theorem dX10_legal_0 : decode cX10_legal 0 = .ok (.aload_n 0, 1) := by decide +kernel
theorem dX10_legal_1 : decode cX10_legal 1 = .ok (.iload_n 1, 1) := by decide +kernel
theorem dX10_legal_2 : decode cX10_legal 2 = .ok (.invokevirtual 161, 3) := by decide +kernel
theorem dX10_legal_5 : decode cX10_legal 5 = .ok (.ifCond .ne 5, 3) := by decide +kernel
theorem dX10_legal_8 : decode cX10_legal 8 = .ok (.iconst (-1), 1) := by decide +kernel
theorem dX10_legal_9 : decode cX10_legal 9 = .ok (.ireturn, 1) := by decide +kernel
theorem dX10_legal_10 : decode cX10_legal 10 = .ok (.aload_n 0, 1) := by decide +kernel
theorem dX10_legal_11 : decode cX10_legal 11 = .ok (.iload_n 1, 1) := by decide +kernel
theorem dX10_legal_12 : decode cX10_legal 12 = .ok (.invokevirtual 221, 3) := by decide +kernel
theorem dX10_legal_15 : decode cX10_legal 15 = .ok (.ifCond .eq 7, 3) := by decide +kernel
theorem dX10_legal_18 : decode cX10_legal 18 = .ok (.iconst 1, 1) := by decide +kernel
theorem dX10_legal_19 : decode cX10_legal 19 = .ok (.goto 4, 3) := by decide +kernel
theorem dX10_legal_22 : decode cX10_legal 22 = .ok (.iconst 0, 1) := by decide +kernel
theorem dX10_legal_23 : decode cX10_legal 23 = .ok (.ireturn, 1) := by decide +kernel
theorem ok_X10_legal : okY RX10 yX10_legal 1 := ⟨rfl, by decide, by decide, by decide +kernel⟩
def f_X10_legal (M : OV) (p0 : Int32) : Option (Int32) := (f_X10_isSign M p0).bind (un1 (fun r_1 => (if r_1 = 0 then some (-1 : Int32) else (f_X10_isLegal M p0).bind (un1 (fun r_3 => (if r_3 = 0 then some (0 : Int32) else some (1 : Int32)))))))
def r_X10_legal : Room := { frames := 3, cells := 0, slots := 0, locals := 66 }
set_option maxHeartbeats 4000000 in
set_option maxRecDepth 100000 in
theorem c_X10_legal (l : Launch) (D : va_G) (ev : EvT) (cy : Nat → ClassId) (oM : Nat) (aM : Nat → Nat) (M : OV) (p0 : Int32) (o : Int32) (hf : f_X10_legal M p0 = some o) : Fn l yX10_legal cX10_legal 2 (some .int) r_X10_legal D ev cy [.ref oM, .int p0] [gX10 cy oM aM M] (fun v G => v = some (.int o) ∧ G = [gX10 cy oM aM M]) := by
  refine Fn_of (by decide) (Nat.le_of_ble_eq_true rfl) (fun X A Q h hQ _ => ?_)
  unfold f_X10_legal at hf
  show ww X D A 2 Q 0 0 0 [(0, .ref oM), (1, .int p0)] [] [gX10 cy oM aM M]
  refine ww_aload_n h dX10_legal_0 rfl 0 rfl 1 rfl ?_
  refine ww_iload_n h dX10_legal_1 rfl 1 rfl 2 rfl ?_
  obtain ⟨r_1, hu2, hf⟩ := ob1 hf
  refine ww_cVi h (c_X10_isSign l D ev cy oM aM M p0 _ hu2) ⟨w_1357, w_1354, w_1356, w_42, w_111, ok_X10_isSign⟩ ⟨by decide, by decide⟩ ⟨by decide, by decide⟩ ⟨rfl, rfl⟩ [0] rfl 0 rfl rfl rfl rfl (Nat.le_of_ble_eq_true rfl) dX10_legal_2 5 rfl (Gs' := [gX10 cy oM aM M]) rfl ?_
  clear hu2
  refine ww_if_ne h dX10_legal_5 10 (by decide) 8 rfl (fun c => ?_) (fun c => ?_)
  · replace hf := ite_f c hf
    refine ww_aload_n h dX10_legal_10 rfl 0 rfl 11 rfl ?_
    refine ww_iload_n h dX10_legal_11 rfl 1 rfl 12 rfl ?_
    obtain ⟨r_3, hu4, hf⟩ := ob1 hf
    refine ww_cVi h (c_X10_isLegal l D ev cy oM aM M p0 _ hu4) ⟨w_1461, w_1458, w_1460, w_51, w_111, ok_X10_isLegal⟩ ⟨by decide, by decide⟩ ⟨by decide, by decide⟩ ⟨rfl, rfl⟩ [0] rfl 0 rfl rfl rfl rfl (Nat.le_of_ble_eq_true rfl) dX10_legal_12 15 rfl (Gs' := [gX10 cy oM aM M]) rfl ?_
    clear hu4
    refine ww_if_eq h dX10_legal_15 22 (by decide) 18 rfl (fun c => ?_) (fun c => ?_)
    · replace hf := ite_t c hf
      refine ww_iconst (v := 0) h dX10_legal_22 (by decide) 23 rfl ?_
      obtain rfl := Option.some.inj hf
      exact ww_iret h dX10_legal_23 hQ ⟨rfl, rfl⟩
    · replace hf := ite_f c hf
      refine ww_iconst (v := 1) h dX10_legal_18 (by decide) 19 rfl ?_
      refine ww_goto h dX10_legal_19 23 (by decide) ?_
      obtain rfl := Option.some.inj hf
      exact ww_iret h dX10_legal_23 hQ ⟨rfl, rfl⟩
  · replace hf := ite_t c hf
    refine ww_iconst (v := (-1)) h dX10_legal_8 (by decide) 9 rfl ?_
    obtain rfl := Option.some.inj hf
    exact ww_iret h dX10_legal_9 hQ ⟨rfl, rfl⟩
theorem dX10_ofLooked_0 : decode cX10_ofLooked 0 = .ok (.iload_n 2, 1) := by decide +kernel
theorem dX10_ofLooked_1 : decode cX10_ofLooked 1 = .ok (.tableswitch 114 0 7 #[47, 49, 54, 73, 86, 91, 96, 101], 47) := by decide +kernel
theorem dX10_ofLooked_48 : decode cX10_ofLooked 48 = .ok (.iconst 1, 1) := by decide +kernel
theorem dX10_ofLooked_49 : decode cX10_ofLooked 49 = .ok (.ireturn, 1) := by decide +kernel
theorem dX10_ofLooked_50 : decode cX10_ofLooked 50 = .ok (.aload_n 0, 1) := by decide +kernel
theorem dX10_ofLooked_51 : decode cX10_ofLooked 51 = .ok (.getfield 208, 3) := by decide +kernel
theorem dX10_ofLooked_54 : decode cX10_ofLooked 54 = .ok (.ireturn, 1) := by decide +kernel
theorem dX10_ofLooked_55 : decode cX10_ofLooked 55 = .ok (.aload_n 0, 1) := by decide +kernel
theorem dX10_ofLooked_56 : decode cX10_ofLooked 56 = .ok (.aload_n 0, 1) := by decide +kernel
theorem dX10_ofLooked_57 : decode cX10_ofLooked 57 = .ok (.getfield 60, 3) := by decide +kernel
theorem dX10_ofLooked_60 : decode cX10_ofLooked 60 = .ok (.iload_n 1, 1) := by decide +kernel
theorem dX10_ofLooked_61 : decode cX10_ofLooked 61 = .ok (.iaload, 1) := by decide +kernel
theorem dX10_ofLooked_62 : decode cX10_ofLooked 62 = .ok (.invokevirtual 221, 3) := by decide +kernel
theorem dX10_ofLooked_65 : decode cX10_ofLooked 65 = .ok (.ifCond .eq 7, 3) := by decide +kernel
theorem dX10_ofLooked_68 : decode cX10_ofLooked 68 = .ok (.iconst 0, 1) := by decide +kernel
theorem dX10_ofLooked_69 : decode cX10_ofLooked 69 = .ok (.goto 4, 3) := by decide +kernel
theorem dX10_ofLooked_72 : decode cX10_ofLooked 72 = .ok (.iconst 1, 1) := by decide +kernel
theorem dX10_ofLooked_73 : decode cX10_ofLooked 73 = .ok (.ireturn, 1) := by decide +kernel
theorem dX10_ofLooked_74 : decode cX10_ofLooked 74 = .ok (.aload_n 0, 1) := by decide +kernel
theorem dX10_ofLooked_75 : decode cX10_ofLooked 75 = .ok (.getfield 195, 3) := by decide +kernel
theorem dX10_ofLooked_78 : decode cX10_ofLooked 78 = .ok (.ifCond .eq 7, 3) := by decide +kernel
theorem dX10_ofLooked_81 : decode cX10_ofLooked 81 = .ok (.iconst 1, 1) := by decide +kernel
theorem dX10_ofLooked_82 : decode cX10_ofLooked 82 = .ok (.goto 4, 3) := by decide +kernel
theorem dX10_ofLooked_85 : decode cX10_ofLooked 85 = .ok (.iconst 0, 1) := by decide +kernel
theorem dX10_ofLooked_86 : decode cX10_ofLooked 86 = .ok (.ireturn, 1) := by decide +kernel
theorem dX10_ofLooked_87 : decode cX10_ofLooked 87 = .ok (.aload_n 0, 1) := by decide +kernel
theorem dX10_ofLooked_88 : decode cX10_ofLooked 88 = .ok (.getfield 199, 3) := by decide +kernel
theorem dX10_ofLooked_91 : decode cX10_ofLooked 91 = .ok (.ireturn, 1) := by decide +kernel
theorem dX10_ofLooked_92 : decode cX10_ofLooked 92 = .ok (.aload_n 0, 1) := by decide +kernel
theorem dX10_ofLooked_93 : decode cX10_ofLooked 93 = .ok (.getfield 202, 3) := by decide +kernel
theorem dX10_ofLooked_96 : decode cX10_ofLooked 96 = .ok (.ireturn, 1) := by decide +kernel
theorem dX10_ofLooked_97 : decode cX10_ofLooked 97 = .ok (.aload_n 0, 1) := by decide +kernel
theorem dX10_ofLooked_98 : decode cX10_ofLooked 98 = .ok (.getfield 205, 3) := by decide +kernel
theorem dX10_ofLooked_101 : decode cX10_ofLooked 101 = .ok (.ireturn, 1) := by decide +kernel
theorem dX10_ofLooked_102 : decode cX10_ofLooked 102 = .ok (.aload_n 0, 1) := by decide +kernel
theorem dX10_ofLooked_103 : decode cX10_ofLooked 103 = .ok (.getfield 211, 3) := by decide +kernel
theorem dX10_ofLooked_106 : decode cX10_ofLooked 106 = .ok (.ifCond .eq 7, 3) := by decide +kernel
theorem dX10_ofLooked_109 : decode cX10_ofLooked 109 = .ok (.iconst 1, 1) := by decide +kernel
theorem dX10_ofLooked_110 : decode cX10_ofLooked 110 = .ok (.goto 4, 3) := by decide +kernel
theorem dX10_ofLooked_113 : decode cX10_ofLooked 113 = .ok (.iconst 0, 1) := by decide +kernel
theorem dX10_ofLooked_114 : decode cX10_ofLooked 114 = .ok (.ireturn, 1) := by decide +kernel
theorem dX10_ofLooked_115 : decode cX10_ofLooked 115 = .ok (.aload_n 0, 1) := by decide +kernel
theorem dX10_ofLooked_116 : decode cX10_ofLooked 116 = .ok (.aload_n 0, 1) := by decide +kernel
theorem dX10_ofLooked_117 : decode cX10_ofLooked 117 = .ok (.getfield 60, 3) := by decide +kernel
theorem dX10_ofLooked_120 : decode cX10_ofLooked 120 = .ok (.iload_n 1, 1) := by decide +kernel
theorem dX10_ofLooked_121 : decode cX10_ofLooked 121 = .ok (.iaload, 1) := by decide +kernel
theorem dX10_ofLooked_122 : decode cX10_ofLooked 122 = .ok (.invokevirtual 173, 3) := by decide +kernel
theorem dX10_ofLooked_125 : decode cX10_ofLooked 125 = .ok (.iconst 1, 1) := by decide +kernel
theorem dX10_ofLooked_126 : decode cX10_ofLooked 126 = .ok (.if_icmp .ne 7, 3) := by decide +kernel
theorem dX10_ofLooked_129 : decode cX10_ofLooked 129 = .ok (.iconst 1, 1) := by decide +kernel
theorem dX10_ofLooked_130 : decode cX10_ofLooked 130 = .ok (.goto 4, 3) := by decide +kernel
theorem dX10_ofLooked_133 : decode cX10_ofLooked 133 = .ok (.iconst 0, 1) := by decide +kernel
theorem dX10_ofLooked_134 : decode cX10_ofLooked 134 = .ok (.ireturn, 1) := by decide +kernel
theorem ok_X10_ofLooked : okY RX10 yX10_ofLooked 2 := ⟨rfl, by decide, by decide, by decide +kernel⟩
def f_X10_ofLooked (M : OV) (p0 : Int32) (p1 : Int32) : Option (Int32) := (if p1 = 0 then some (1 : Int32) else (if p1 = 1 then some (iv M 18) else (if p1 = 2 then gd (ix p0 41) ((f_X10_isLegal M (ar M 24 p0.toNatClampNeg)).bind (un1 (fun r_1 => (if r_1 = 0 then some (1 : Int32) else some (0 : Int32))))) else (if p1 = 3 then (if (iv M 13) = 0 then some (0 : Int32) else some (1 : Int32)) else (if p1 = 4 then some (iv M 15) else (if p1 = 5 then some (iv M 16) else (if p1 = 6 then some (iv M 17) else (if p1 = 7 then (if (iv M 14) = 0 then some (0 : Int32) else some (1 : Int32)) else gd (ix p0 41) ((f_X10_markOf M (ar M 24 p0.toNatClampNeg)).bind (un1 (fun r_3 => (if r_3 = (1 : Int32) then some (1 : Int32) else some (0 : Int32)))))))))))))
def r_X10_ofLooked : Room := { frames := 3, cells := 0, slots := 0, locals := 66 }
set_option maxHeartbeats 4000000 in
set_option maxRecDepth 100000 in
theorem c_X10_ofLooked (l : Launch) (D : va_G) (ev : EvT) (cy : Nat → ClassId) (oM : Nat) (aM : Nat → Nat) (M : OV) (p0 : Int32) (p1 : Int32) (o : Int32) (hf : f_X10_ofLooked M p0 p1 = some o) : Fn l yX10_ofLooked cX10_ofLooked 3 (some .int) r_X10_ofLooked D ev cy [.ref oM, .int p0, .int p1] [gX10 cy oM aM M] (fun v G => v = some (.int o) ∧ G = [gX10 cy oM aM M]) := by
  refine Fn_of (by decide) (Nat.le_of_ble_eq_true rfl) (fun X A Q h hQ _ => ?_)
  unfold f_X10_ofLooked at hf
  show ww X D A 3 Q 0 0 0 [(0, .ref oM), (1, .int p0), (2, .int p1)] [] [gX10 cy oM aM M]
  refine ww_iload_n h dX10_ofLooked_0 rfl 2 rfl 1 rfl ?_
  by_cases c1_0 : p1 = 0
  · replace hf := ite_t c1_0 hf
    refine ww_tabIn h dX10_ofLooked_1 (by rw [c1_0]; decide) (by rw [c1_0]; decide) (by rw [c1_0]; rfl) 48 (by decide) ?_
    refine ww_iconst (v := 1) h dX10_ofLooked_48 (by decide) 49 rfl ?_
    obtain rfl := Option.some.inj hf
    exact ww_iret h dX10_ofLooked_49 hQ ⟨rfl, rfl⟩
  · replace hf := ite_f c1_0 hf
    by_cases c1_1 : p1 = 1
    · replace hf := ite_t c1_1 hf
      refine ww_tabIn h dX10_ofLooked_1 (by rw [c1_1]; decide) (by rw [c1_1]; decide) (by rw [c1_1]; rfl) 50 (by decide) ?_
      refine ww_aload_n h dX10_ofLooked_50 rfl 0 rfl 51 rfl ?_
      refine ww_get h inG10 rfl 0 rfl rfl 18 (by decide) w_1175 rfl dX10_ofLooked_51 54 rfl ?_
      obtain rfl := Option.some.inj hf
      exact ww_iret h dX10_ofLooked_54 hQ ⟨rfl, rfl⟩
    · replace hf := ite_f c1_1 hf
      by_cases c1_2 : p1 = 2
      · replace hf := ite_t c1_2 hf
        refine ww_tabIn h dX10_ofLooked_1 (by rw [c1_2]; decide) (by rw [c1_2]; decide) (by rw [c1_2]; rfl) 55 (by decide) ?_
        refine ww_aload_n h dX10_ofLooked_55 rfl 0 rfl 56 rfl ?_
        refine ww_aload_n h dX10_ofLooked_56 rfl 0 rfl 57 rfl ?_
        refine ww_get h inG10 rfl 0 rfl rfl 24 (by decide) w_1181 rfl dX10_ofLooked_57 60 rfl ?_
        refine ww_iload_n h dX10_ofLooked_60 rfl 1 rfl 61 rfl ?_
        have hi := (gd_some hf).1
        replace hf := (gd_some hf).2
        refine ww_iald h 0 rfl 16 rfl (ix_in hi) dX10_ofLooked_61 62 rfl ?_
        clear hi
        obtain ⟨r_1, hu2, hf⟩ := ob1 hf
        refine ww_cVi h (c_X10_isLegal l D ev cy oM aM M (ar M 24 p0.toNatClampNeg) _ hu2) ⟨w_1461, w_1458, w_1460, w_51, w_111, ok_X10_isLegal⟩ ⟨by decide, by decide⟩ ⟨by decide, by decide⟩ ⟨rfl, rfl⟩ [0] rfl 0 rfl rfl rfl rfl (Nat.le_of_ble_eq_true rfl) dX10_ofLooked_62 65 rfl (Gs' := [gX10 cy oM aM M]) rfl ?_
        clear hu2
        refine ww_if_eq h dX10_ofLooked_65 72 (by decide) 68 rfl (fun c => ?_) (fun c => ?_)
        · replace hf := ite_t c hf
          refine ww_iconst (v := 1) h dX10_ofLooked_72 (by decide) 73 rfl ?_
          obtain rfl := Option.some.inj hf
          exact ww_iret h dX10_ofLooked_73 hQ ⟨rfl, rfl⟩
        · replace hf := ite_f c hf
          refine ww_iconst (v := 0) h dX10_ofLooked_68 (by decide) 69 rfl ?_
          refine ww_goto h dX10_ofLooked_69 73 (by decide) ?_
          obtain rfl := Option.some.inj hf
          exact ww_iret h dX10_ofLooked_73 hQ ⟨rfl, rfl⟩
      · replace hf := ite_f c1_2 hf
        by_cases c1_3 : p1 = 3
        · replace hf := ite_t c1_3 hf
          refine ww_tabIn h dX10_ofLooked_1 (by rw [c1_3]; decide) (by rw [c1_3]; decide) (by rw [c1_3]; rfl) 74 (by decide) ?_
          refine ww_aload_n h dX10_ofLooked_74 rfl 0 rfl 75 rfl ?_
          refine ww_get h inG10 rfl 0 rfl rfl 13 (by decide) w_1170 rfl dX10_ofLooked_75 78 rfl ?_
          refine ww_if_eq h dX10_ofLooked_78 85 (by decide) 81 rfl (fun c => ?_) (fun c => ?_)
          · replace hf := ite_t c hf
            refine ww_iconst (v := 0) h dX10_ofLooked_85 (by decide) 86 rfl ?_
            obtain rfl := Option.some.inj hf
            exact ww_iret h dX10_ofLooked_86 hQ ⟨rfl, rfl⟩
          · replace hf := ite_f c hf
            refine ww_iconst (v := 1) h dX10_ofLooked_81 (by decide) 82 rfl ?_
            refine ww_goto h dX10_ofLooked_82 86 (by decide) ?_
            obtain rfl := Option.some.inj hf
            exact ww_iret h dX10_ofLooked_86 hQ ⟨rfl, rfl⟩
        · replace hf := ite_f c1_3 hf
          by_cases c1_4 : p1 = 4
          · replace hf := ite_t c1_4 hf
            refine ww_tabIn h dX10_ofLooked_1 (by rw [c1_4]; decide) (by rw [c1_4]; decide) (by rw [c1_4]; rfl) 87 (by decide) ?_
            refine ww_aload_n h dX10_ofLooked_87 rfl 0 rfl 88 rfl ?_
            refine ww_get h inG10 rfl 0 rfl rfl 15 (by decide) w_1172 rfl dX10_ofLooked_88 91 rfl ?_
            obtain rfl := Option.some.inj hf
            exact ww_iret h dX10_ofLooked_91 hQ ⟨rfl, rfl⟩
          · replace hf := ite_f c1_4 hf
            by_cases c1_5 : p1 = 5
            · replace hf := ite_t c1_5 hf
              refine ww_tabIn h dX10_ofLooked_1 (by rw [c1_5]; decide) (by rw [c1_5]; decide) (by rw [c1_5]; rfl) 92 (by decide) ?_
              refine ww_aload_n h dX10_ofLooked_92 rfl 0 rfl 93 rfl ?_
              refine ww_get h inG10 rfl 0 rfl rfl 16 (by decide) w_1173 rfl dX10_ofLooked_93 96 rfl ?_
              obtain rfl := Option.some.inj hf
              exact ww_iret h dX10_ofLooked_96 hQ ⟨rfl, rfl⟩
            · replace hf := ite_f c1_5 hf
              by_cases c1_6 : p1 = 6
              · replace hf := ite_t c1_6 hf
                refine ww_tabIn h dX10_ofLooked_1 (by rw [c1_6]; decide) (by rw [c1_6]; decide) (by rw [c1_6]; rfl) 97 (by decide) ?_
                refine ww_aload_n h dX10_ofLooked_97 rfl 0 rfl 98 rfl ?_
                refine ww_get h inG10 rfl 0 rfl rfl 17 (by decide) w_1174 rfl dX10_ofLooked_98 101 rfl ?_
                obtain rfl := Option.some.inj hf
                exact ww_iret h dX10_ofLooked_101 hQ ⟨rfl, rfl⟩
              · replace hf := ite_f c1_6 hf
                by_cases c1_7 : p1 = 7
                · replace hf := ite_t c1_7 hf
                  refine ww_tabIn h dX10_ofLooked_1 (by rw [c1_7]; decide) (by rw [c1_7]; decide) (by rw [c1_7]; rfl) 102 (by decide) ?_
                  refine ww_aload_n h dX10_ofLooked_102 rfl 0 rfl 103 rfl ?_
                  refine ww_get h inG10 rfl 0 rfl rfl 14 (by decide) w_1171 rfl dX10_ofLooked_103 106 rfl ?_
                  refine ww_if_eq h dX10_ofLooked_106 113 (by decide) 109 rfl (fun c => ?_) (fun c => ?_)
                  · replace hf := ite_t c hf
                    refine ww_iconst (v := 0) h dX10_ofLooked_113 (by decide) 114 rfl ?_
                    obtain rfl := Option.some.inj hf
                    exact ww_iret h dX10_ofLooked_114 hQ ⟨rfl, rfl⟩
                  · replace hf := ite_f c hf
                    refine ww_iconst (v := 1) h dX10_ofLooked_109 (by decide) 110 rfl ?_
                    refine ww_goto h dX10_ofLooked_110 114 (by decide) ?_
                    obtain rfl := Option.some.inj hf
                    exact ww_iret h dX10_ofLooked_114 hQ ⟨rfl, rfl⟩
                · replace hf := ite_f c1_7 hf
                  refine ww_tabOut h dX10_ofLooked_1 (by have z0 := ne_int c1_0 0 (by decide); have z1 := ne_int c1_1 1 (by decide); have z2 := ne_int c1_2 2 (by decide); have z3 := ne_int c1_3 3 (by decide); have z4 := ne_int c1_4 4 (by decide); have z5 := ne_int c1_5 5 (by decide); have z6 := ne_int c1_6 6 (by decide); have z7 := ne_int c1_7 7 (by decide); omega) 115 (by decide) ?_
                  refine ww_aload_n h dX10_ofLooked_115 rfl 0 rfl 116 rfl ?_
                  refine ww_aload_n h dX10_ofLooked_116 rfl 0 rfl 117 rfl ?_
                  refine ww_get h inG10 rfl 0 rfl rfl 24 (by decide) w_1181 rfl dX10_ofLooked_117 120 rfl ?_
                  refine ww_iload_n h dX10_ofLooked_120 rfl 1 rfl 121 rfl ?_
                  have hi := (gd_some hf).1
                  replace hf := (gd_some hf).2
                  refine ww_iald h 0 rfl 16 rfl (ix_in hi) dX10_ofLooked_121 122 rfl ?_
                  clear hi
                  obtain ⟨r_3, hu4, hf⟩ := ob1 hf
                  refine ww_cVi h (c_X10_markOf l D ev cy oM aM M (ar M 24 p0.toNatClampNeg) _ hu4) ⟨w_1393, w_1390, w_1392, w_47, w_111, ok_X10_markOf⟩ ⟨by decide, by decide⟩ ⟨by decide, by decide⟩ ⟨rfl, rfl⟩ [0] rfl 0 rfl rfl rfl rfl (Nat.le_of_ble_eq_true rfl) dX10_ofLooked_122 125 rfl (Gs' := [gX10 cy oM aM M]) rfl ?_
                  clear hu4
                  refine ww_iconst (v := 1) h dX10_ofLooked_125 (by decide) 126 rfl ?_
                  refine ww_icmp_ne h dX10_ofLooked_126 133 (by decide) 129 rfl (fun c => ?_) (fun c => ?_)
                  · replace hf := ite_f c hf
                    refine ww_iconst (v := 0) h dX10_ofLooked_133 (by decide) 134 rfl ?_
                    obtain rfl := Option.some.inj hf
                    exact ww_iret h dX10_ofLooked_134 hQ ⟨rfl, rfl⟩
                  · replace hf := ite_t c hf
                    refine ww_iconst (v := 1) h dX10_ofLooked_129 (by decide) 130 rfl ?_
                    refine ww_goto h dX10_ofLooked_130 134 (by decide) ?_
                    obtain rfl := Option.some.inj hf
                    exact ww_iret h dX10_ofLooked_134 hQ ⟨rfl, rfl⟩
theorem dX10_lineWith_0 : decode cX10_lineWith 0 = .ok (.iconst 0, 1) := by decide +kernel
theorem dX10_lineWith_1 : decode cX10_lineWith 1 = .ok (.istore_n 2, 1) := by decide +kernel
theorem dX10_lineWith_2 : decode cX10_lineWith 2 = .ok (.aload_n 0, 1) := by decide +kernel
theorem dX10_lineWith_3 : decode cX10_lineWith 3 = .ok (.getfield 60, 3) := by decide +kernel
theorem dX10_lineWith_6 : decode cX10_lineWith 6 = .ok (.iload_n 2, 1) := by decide +kernel
theorem dX10_lineWith_7 : decode cX10_lineWith 7 = .ok (.iaload, 1) := by decide +kernel
theorem dX10_lineWith_8 : decode cX10_lineWith 8 = .ok (.iload_n 1, 1) := by decide +kernel
theorem dX10_lineWith_9 : decode cX10_lineWith 9 = .ok (.if_icmp .ge 9, 3) := by decide +kernel
theorem dX10_lineWith_12 : decode cX10_lineWith 12 = .ok (.iinc 2 1, 3) := by decide +kernel
theorem dX10_lineWith_15 : decode cX10_lineWith 15 = .ok (.goto (-13), 3) := by decide +kernel
theorem dX10_lineWith_18 : decode cX10_lineWith 18 = .ok (.iload_n 2, 1) := by decide +kernel
theorem dX10_lineWith_19 : decode cX10_lineWith 19 = .ok (.ireturn, 1) := by decide +kernel
theorem ok_X10_lineWith : okY RX10 yX10_lineWith 1 := ⟨rfl, by decide, by decide, by decide +kernel⟩
def s_X10_lineWith_2_2 (M : OV) (p0 : Int32) : (Int32) → Option ((Int32) ⊕ (Int32)) := un1 (fun v2_3 => gd (ix v2_3 41) ((if p0 ≤ (ar M 24 v2_3.toNatClampNeg) then some (.inr v2_3) else bnd (v2_3 + 1) (fun v2_4 => some (.inl v2_4)))))
def f_X10_lineWith (M : OV) (p0 : Int32) : Option (Int32) := bnd (0 : Int32) (fun v2_1 => ((lp (s_X10_lineWith_2_2 M p0) 5000 v2_1).bind (un1 (fun v2_5 => some v2_5))))
def r_X10_lineWith : Room := { frames := 0, cells := 0, slots := 0, locals := 0 }
set_option maxHeartbeats 4000000 in
set_option maxRecDepth 100000 in
theorem c_X10_lineWith (l : Launch) (D : va_G) (ev : EvT) (cy : Nat → ClassId) (oM : Nat) (aM : Nat → Nat) (M : OV) (p0 : Int32) (o : Int32) (hf : f_X10_lineWith M p0 = some o) : Fn l yX10_lineWith cX10_lineWith 3 (some .int) r_X10_lineWith D ev cy [.ref oM, .int p0] [gX10 cy oM aM M] (fun v G => v = some (.int o) ∧ G = [gX10 cy oM aM M]) := by
  refine Fn_of (by decide) (Nat.le_of_ble_eq_true rfl) (fun X A Q h hQ _ => ?_)
  unfold f_X10_lineWith at hf
  show ww X D A 3 Q 0 0 0 [(0, .ref oM), (1, .int p0)] [] [gX10 cy oM aM M]
  refine ww_iconst (v := 0) h dX10_lineWith_0 (by decide) 1 rfl ?_
  refine ww_ist_n h dX10_lineWith_1 rfl (by decide) (fun v2_1 => [(2, .int v2_1), (0, .ref oM), (1, .int p0)]) (fun _ => rfl) 2 rfl (fun v2_1 e => ?_)
  replace hf := bnd_at e hf
  clear e
  refine ww_lo [1, 2, 0] (lo' := [(0, .ref oM), (1, .int p0), (2, .int v2_1)]) rfl ?_
  obtain ⟨v2_5, h2, hf⟩ := ob1 hf
  refine lp_walk (un1 (fun v2_3 => ww X D A 3 Q 0 0 2 [(0, .ref oM), (1, .int p0), (2, .int v2_3)] [] [gX10 cy oM aM M])) (un1 (fun v2_5 => ww X D A 3 Q 0 0 18 [(2, .int v2_5)] [] [gX10 cy oM aM M])) ?_ _ _ _ h2 ?_
  · clear h2 hf
    intro s2 o2 hf hI2 hE2
    obtain ⟨v2_3, rfl⟩ : ∃ z, z = s2 := ⟨_, rfl⟩
    unfold s_X10_lineWith_2_2 at hf
    replace hf := un1_e hf
    show ww X D A 3 Q 0 0 2 [(0, .ref oM), (1, .int p0), (2, .int v2_3)] [] [gX10 cy oM aM M]
    refine ww_aload_n h dX10_lineWith_2 rfl 0 rfl 3 rfl ?_
    refine ww_get h inG10 rfl 0 rfl rfl 24 (by decide) w_1181 rfl dX10_lineWith_3 6 rfl ?_
    refine ww_iload_n h dX10_lineWith_6 rfl 2 rfl 7 rfl ?_
    have hi := (gd_some hf).1
    replace hf := (gd_some hf).2
    refine ww_iald h 0 rfl 16 rfl (ix_in hi) dX10_lineWith_7 8 rfl ?_
    clear hi
    refine ww_iload_n h dX10_lineWith_8 rfl 1 rfl 9 rfl ?_
    refine ww_icmp_ge h dX10_lineWith_9 18 (by decide) 12 rfl (fun c => ?_) (fun c => ?_)
    · replace hf := ite_t c hf
      refine ww_lo [2] (lo' := [(2, .int v2_3)]) rfl ?_
      exact hE2 v2_3 (Option.some.inj hf).symm
    · replace hf := ite_f c hf
      refine ww_inc (c := 1) h dX10_lineWith_12 2 rfl (by decide) (by decide) (fun v2_4 => [(2, .int v2_4), (0, .ref oM), (1, .int p0)]) (fun _ => rfl) 15 rfl (fun v2_4 e => ?_)
      replace hf := bnd_at e hf
      clear e
      refine ww_goto h dX10_lineWith_15 2 (by decide) ?_
      refine ww_lo [1, 2, 0] (lo' := [(0, .ref oM), (1, .int p0), (2, .int v2_4)]) rfl ?_
      exact hI2 v2_4 (Option.some.inj hf).symm
  · clear h2
    show ww X D A 3 Q 0 0 18 [(2, .int v2_5)] [] [gX10 cy oM aM M]
    refine ww_iload_n h dX10_lineWith_18 rfl 0 rfl 19 rfl ?_
    obtain rfl := Option.some.inj hf
    exact ww_iret h dX10_lineWith_19 hQ ⟨rfl, rfl⟩
theorem dX10_writes_0 : decode cX10_writes 0 = .ok (.aload_n 0, 1) := by decide +kernel
theorem dX10_writes_1 : decode cX10_writes 1 = .ok (.getfield 78, 3) := by decide +kernel
theorem dX10_writes_4 : decode cX10_writes 4 = .ok (.aload_n 0, 1) := by decide +kernel
theorem dX10_writes_5 : decode cX10_writes 5 = .ok (.getfield 286, 3) := by decide +kernel
theorem dX10_writes_8 : decode cX10_writes 8 = .ok (.iload_n 1, 1) := by decide +kernel
theorem dX10_writes_9 : decode cX10_writes 9 = .ok (.iastore, 1) := by decide +kernel
theorem dX10_writes_10 : decode cX10_writes 10 = .ok (.aload_n 0, 1) := by decide +kernel
theorem dX10_writes_11 : decode cX10_writes 11 = .ok (.dup, 1) := by decide +kernel
theorem dX10_writes_12 : decode cX10_writes 12 = .ok (.getfield 286, 3) := by decide +kernel
theorem dX10_writes_15 : decode cX10_writes 15 = .ok (.iconst 1, 1) := by decide +kernel
theorem dX10_writes_16 : decode cX10_writes 16 = .ok (.iadd, 1) := by decide +kernel
theorem dX10_writes_17 : decode cX10_writes 17 = .ok (.putfield 286, 3) := by decide +kernel
theorem dX10_writes_20 : decode cX10_writes 20 = .ok (.return_, 1) := by decide +kernel
theorem ok_X10_writes : okY RX10 yX10_writes 1 := ⟨rfl, by decide, by decide, by decide +kernel⟩
def f_X10_writes (M : OV) (p0 : Int32) : Option (OV) := gd (ix (iv M 32) 1200) (bnd (sA M 31 (iv M 32).toNatClampNeg p0) (fun M_1 => bnd (sI M_1 32 ((iv M_1 32) + (1 : Int32))) (fun M_2 => some M_2)))
def r_X10_writes : Room := { frames := 0, cells := 0, slots := 0, locals := 0 }
set_option maxHeartbeats 4000000 in
set_option maxRecDepth 100000 in
theorem c_X10_writes (l : Launch) (D : va_G) (ev : EvT) (cy : Nat → ClassId) (oM : Nat) (aM : Nat → Nat) (M : OV) (p0 : Int32) (o : OV) (hf : f_X10_writes M p0 = some o) : Fn l yX10_writes cX10_writes 2 none r_X10_writes D ev cy [.ref oM, .int p0] [gX10 cy oM aM M] (fun v G => v = none ∧ G = [gX10 cy oM aM o]) := by
  refine Fn_of (by decide) (Nat.le_of_ble_eq_true rfl) (fun X A Q h hQ _ => ?_)
  unfold f_X10_writes at hf
  show ww X D A 2 Q 0 0 0 [(0, .ref oM), (1, .int p0)] [] [gX10 cy oM aM M]
  refine ww_aload_n h dX10_writes_0 rfl 0 rfl 1 rfl ?_
  refine ww_get h inG10 rfl 0 rfl rfl 31 (by decide) w_1188 rfl dX10_writes_1 4 rfl ?_
  refine ww_aload_n h dX10_writes_4 rfl 0 rfl 5 rfl ?_
  refine ww_get h inG10 rfl 0 rfl rfl 32 (by decide) w_1189 rfl dX10_writes_5 8 rfl ?_
  refine ww_iload_n h dX10_writes_8 rfl 1 rfl 9 rfl ?_
  have hi := (gd_some hf).1
  replace hf := (gd_some hf).2
  refine ww_iast h 0 rfl 22 rfl (ix_in hi) dX10_writes_9 10 rfl ?_
  clear hi
  refine ww_nm (fun z => [gX10 cy oM aM z]) (sA M 31 (iv M 32).toNatClampNeg p0) (fun M_1 e => ?_)
  replace hf := bnd_at e hf
  clear e
  refine ww_aload_n h dX10_writes_10 rfl 0 rfl 11 rfl ?_
  refine ww_dup h dX10_writes_11 rfl 12 rfl ?_
  refine ww_get h inG10 rfl 0 rfl rfl 32 (by decide) w_1189 rfl dX10_writes_12 15 rfl ?_
  refine ww_iconst (v := 1) h dX10_writes_15 (by decide) 16 rfl ?_
  refine ww_iadd h dX10_writes_16 17 rfl ?_
  refine ww_put (ty := .int) h inG10 tyX10_ok nmX10 rfl 0 rfl rfl 32 (by decide) w_1189 rfl (by decide +kernel) rfl rfl (Nat.le_of_ble_eq_true rfl) (Nat.le_of_ble_eq_true rfl) dX10_writes_17 20 rfl ?_
  refine ww_nm (fun z => [gX10 cy oM aM z]) (sI M_1 32 ((iv M_1 32) + (1 : Int32))) (fun M_2 e => ?_)
  replace hf := bnd_at e hf
  clear e
  obtain rfl := Option.some.inj hf
  exact ww_vret h dX10_writes_20 hQ ⟨rfl, rfl⟩
theorem dX10_told_0 : decode cX10_told 0 = .ok (.iload_n 1, 1) := by decide +kernel
theorem dX10_told_1 : decode cX10_told 1 = .ok (.iconst (-1), 1) := by decide +kernel
theorem dX10_told_2 : decode cX10_told 2 = .ok (.if_icmp .ne 10, 3) := by decide +kernel
theorem dX10_told_5 : decode cX10_told 5 = .ok (.aload_n 0, 1) := by decide +kernel
theorem dX10_told_6 : decode cX10_told 6 = .ok (.getfield 286, 3) := by decide +kernel
theorem dX10_told_9 : decode cX10_told 9 = .ok (.goto 22, 3) := by decide +kernel
theorem dX10_told_12 : decode cX10_told 12 = .ok (.iload_n 1, 1) := by decide +kernel
theorem dX10_told_13 : decode cX10_told 13 = .ok (.aload_n 0, 1) := by decide +kernel
theorem dX10_told_14 : decode cX10_told 14 = .ok (.getfield 286, 3) := by decide +kernel
theorem dX10_told_17 : decode cX10_told 17 = .ok (.if_icmp .ge 12, 3) := by decide +kernel
theorem dX10_told_20 : decode cX10_told 20 = .ok (.aload_n 0, 1) := by decide +kernel
theorem dX10_told_21 : decode cX10_told 21 = .ok (.getfield 78, 3) := by decide +kernel
theorem dX10_told_24 : decode cX10_told 24 = .ok (.iload_n 1, 1) := by decide +kernel
theorem dX10_told_25 : decode cX10_told 25 = .ok (.iaload, 1) := by decide +kernel
theorem dX10_told_26 : decode cX10_told 26 = .ok (.goto 5, 3) := by decide +kernel
theorem dX10_told_29 : decode cX10_told 29 = .ok (.bipush (-2), 2) := by decide +kernel
theorem dX10_told_31 : decode cX10_told 31 = .ok (.ireturn, 1) := by decide +kernel
theorem ok_X10_told : okY RX10 yX10_told 1 := ⟨rfl, by decide, by decide, by decide +kernel⟩
def f_X10_told (M : OV) (p0 : Int32) : Option (Int32) := (if p0 = (-1 : Int32) then some (iv M 32) else (if (iv M 32) ≤ p0 then some (-2 : Int32) else gd (ix p0 1200) (some (ar M 31 p0.toNatClampNeg))))
def r_X10_told : Room := { frames := 0, cells := 0, slots := 0, locals := 0 }
set_option maxHeartbeats 4000000 in
set_option maxRecDepth 100000 in
theorem c_X10_told (l : Launch) (D : va_G) (ev : EvT) (cy : Nat → ClassId) (oM : Nat) (aM : Nat → Nat) (M : OV) (p0 : Int32) (o : Int32) (hf : f_X10_told M p0 = some o) : Fn l yX10_told cX10_told 2 (some .int) r_X10_told D ev cy [.ref oM, .int p0] [gX10 cy oM aM M] (fun v G => v = some (.int o) ∧ G = [gX10 cy oM aM M]) := by
  refine Fn_of (by decide) (Nat.le_of_ble_eq_true rfl) (fun X A Q h hQ _ => ?_)
  unfold f_X10_told at hf
  show ww X D A 2 Q 0 0 0 [(0, .ref oM), (1, .int p0)] [] [gX10 cy oM aM M]
  refine ww_iload_n h dX10_told_0 rfl 1 rfl 1 rfl ?_
  refine ww_iconst (v := (-1)) h dX10_told_1 (by decide) 2 rfl ?_
  refine ww_icmp_ne h dX10_told_2 12 (by decide) 5 rfl (fun c => ?_) (fun c => ?_)
  · replace hf := ite_f c hf
    refine ww_iload_n h dX10_told_12 rfl 1 rfl 13 rfl ?_
    refine ww_aload_n h dX10_told_13 rfl 0 rfl 14 rfl ?_
    refine ww_get h inG10 rfl 0 rfl rfl 32 (by decide) w_1189 rfl dX10_told_14 17 rfl ?_
    refine ww_icmp_ge h dX10_told_17 29 (by decide) 20 rfl (fun c => ?_) (fun c => ?_)
    · replace hf := ite_t c hf
      refine ww_bipush (v := (-2)) h dX10_told_29 (by decide) 31 rfl ?_
      obtain rfl := Option.some.inj hf
      exact ww_iret h dX10_told_31 hQ ⟨rfl, rfl⟩
    · replace hf := ite_f c hf
      refine ww_aload_n h dX10_told_20 rfl 0 rfl 21 rfl ?_
      refine ww_get h inG10 rfl 0 rfl rfl 31 (by decide) w_1188 rfl dX10_told_21 24 rfl ?_
      refine ww_iload_n h dX10_told_24 rfl 1 rfl 25 rfl ?_
      have hi := (gd_some hf).1
      replace hf := (gd_some hf).2
      refine ww_iald h 0 rfl 22 rfl (ix_in hi) dX10_told_25 26 rfl ?_
      clear hi
      refine ww_goto h dX10_told_26 31 (by decide) ?_
      obtain rfl := Option.some.inj hf
      exact ww_iret h dX10_told_31 hQ ⟨rfl, rfl⟩
  · replace hf := ite_t c hf
    refine ww_aload_n h dX10_told_5 rfl 0 rfl 6 rfl ?_
    refine ww_get h inG10 rfl 0 rfl rfl 32 (by decide) w_1189 rfl dX10_told_6 9 rfl ?_
    refine ww_goto h dX10_told_9 31 (by decide) ?_
    obtain rfl := Option.some.inj hf
    exact ww_iret h dX10_told_31 hQ ⟨rfl, rfl⟩
theorem dX10_legalEnds_0 : decode cX10_legalEnds 0 = .ok (.iconst 0, 1) := by decide +kernel
theorem dX10_legalEnds_1 : decode cX10_legalEnds 1 = .ok (.istore_n 1, 1) := by decide +kernel
theorem dX10_legalEnds_2 : decode cX10_legalEnds 2 = .ok (.iconst 0, 1) := by decide +kernel
theorem dX10_legalEnds_3 : decode cX10_legalEnds 3 = .ok (.istore_n 2, 1) := by decide +kernel
theorem dX10_legalEnds_4 : decode cX10_legalEnds 4 = .ok (.iload_n 2, 1) := by decide +kernel
theorem dX10_legalEnds_5 : decode cX10_legalEnds 5 = .ok (.aload_n 0, 1) := by decide +kernel
theorem dX10_legalEnds_6 : decode cX10_legalEnds 6 = .ok (.invokevirtual 132, 3) := by decide +kernel
theorem dX10_legalEnds_9 : decode cX10_legalEnds 9 = .ok (.if_icmp .ge 20, 3) := by decide +kernel
theorem dX10_legalEnds_12 : decode cX10_legalEnds 12 = .ok (.aload_n 0, 1) := by decide +kernel
theorem dX10_legalEnds_13 : decode cX10_legalEnds 13 = .ok (.iload_n 2, 1) := by decide +kernel
theorem dX10_legalEnds_14 : decode cX10_legalEnds 14 = .ok (.invokevirtual 221, 3) := by decide +kernel
theorem dX10_legalEnds_17 : decode cX10_legalEnds 17 = .ok (.ifCond .eq 6, 3) := by decide +kernel
theorem dX10_legalEnds_20 : decode cX10_legalEnds 20 = .ok (.iinc 1 1, 3) := by decide +kernel
theorem dX10_legalEnds_23 : decode cX10_legalEnds 23 = .ok (.iinc 2 1, 3) := by decide +kernel
theorem dX10_legalEnds_26 : decode cX10_legalEnds 26 = .ok (.goto (-22), 3) := by decide +kernel
theorem dX10_legalEnds_29 : decode cX10_legalEnds 29 = .ok (.iload_n 1, 1) := by decide +kernel
theorem dX10_legalEnds_30 : decode cX10_legalEnds 30 = .ok (.ireturn, 1) := by decide +kernel
theorem ok_X10_legalEnds : okY RX10 yX10_legalEnds 0 := ⟨rfl, by decide, by decide, by decide +kernel⟩
def j_X10_legalEnds_23_11 (v2_5 : Int32) (v1_10 : Int32) : Option ((Int32 × Int32) ⊕ (Int32)) := bnd (v2_5 + 1) (fun v2_12 => some (.inl (v1_10, v2_12)))
def s_X10_legalEnds_4_3 (M : OV) : (Int32 × Int32) → Option ((Int32 × Int32) ⊕ (Int32)) := un2 (fun v1_4 v2_5 => (f_X10_many M).bind (un1 (fun r_6 => (if r_6 ≤ v2_5 then some (.inr v1_4) else (f_X10_isLegal M v2_5).bind (un1 (fun r_8 => (if r_8 = 0 then j_X10_legalEnds_23_11 v2_5 v1_4 else bnd (v1_4 + 1) (fun v1_13 => j_X10_legalEnds_23_11 v2_5 v1_13))))))))
def f_X10_legalEnds (M : OV) : Option (Int32) := bnd (0 : Int32) (fun v1_1 => bnd (0 : Int32) (fun v2_2 => ((lp (s_X10_legalEnds_4_3 M) 5000 (v1_1, v2_2)).bind (un1 (fun v1_14 => some v1_14)))))
def r_X10_legalEnds : Room := { frames := 3, cells := 0, slots := 0, locals := 66 }
set_option maxHeartbeats 4000000 in
set_option maxRecDepth 100000 in
theorem c_X10_legalEnds (l : Launch) (D : va_G) (ev : EvT) (cy : Nat → ClassId) (oM : Nat) (aM : Nat → Nat) (M : OV) (o : Int32) (hf : f_X10_legalEnds M = some o) : Fn l yX10_legalEnds cX10_legalEnds 3 (some .int) r_X10_legalEnds D ev cy [.ref oM] [gX10 cy oM aM M] (fun v G => v = some (.int o) ∧ G = [gX10 cy oM aM M]) := by
  refine Fn_of (by decide) (Nat.le_of_ble_eq_true rfl) (fun X A Q h hQ _ => ?_)
  unfold f_X10_legalEnds at hf
  show ww X D A 3 Q 0 0 0 [(0, .ref oM)] [] [gX10 cy oM aM M]
  refine ww_iconst (v := 0) h dX10_legalEnds_0 (by decide) 1 rfl ?_
  refine ww_ist_n h dX10_legalEnds_1 rfl (by decide) (fun v1_1 => [(1, .int v1_1), (0, .ref oM)]) (fun _ => rfl) 2 rfl (fun v1_1 e => ?_)
  replace hf := bnd_at e hf
  clear e
  refine ww_iconst (v := 0) h dX10_legalEnds_2 (by decide) 3 rfl ?_
  refine ww_ist_n h dX10_legalEnds_3 rfl (by decide) (fun v2_2 => [(2, .int v2_2), (1, .int v1_1), (0, .ref oM)]) (fun _ => rfl) 4 rfl (fun v2_2 e => ?_)
  replace hf := bnd_at e hf
  clear e
  refine ww_lo [2, 1, 0] (lo' := [(0, .ref oM), (1, .int v1_1), (2, .int v2_2)]) rfl ?_
  obtain ⟨v1_14, h3, hf⟩ := ob1 hf
  refine lp_walk (un2 (fun v1_4 v2_5 => ww X D A 3 Q 0 0 4 [(0, .ref oM), (1, .int v1_4), (2, .int v2_5)] [] [gX10 cy oM aM M])) (un1 (fun v1_14 => ww X D A 3 Q 0 0 29 [(1, .int v1_14)] [] [gX10 cy oM aM M])) ?_ _ _ _ h3 ?_
  · clear h3 hf
    intro s3 o3 hf hI3 hE3
    obtain ⟨v1_4, v2_5⟩ := s3
    unfold s_X10_legalEnds_4_3 at hf
    replace hf := un2_e hf
    show ww X D A 3 Q 0 0 4 [(0, .ref oM), (1, .int v1_4), (2, .int v2_5)] [] [gX10 cy oM aM M]
    refine ww_iload_n h dX10_legalEnds_4 rfl 2 rfl 5 rfl ?_
    refine ww_aload_n h dX10_legalEnds_5 rfl 0 rfl 6 rfl ?_
    obtain ⟨r_6, hu7, hf⟩ := ob1 hf
    refine ww_cVi h (c_X10_many l D ev cy oM aM M _ hu7) ⟨w_1330, w_1327, w_1329, w_37, w_111, ok_X10_many⟩ ⟨by decide, by decide⟩ ⟨by decide, by decide⟩ ⟨rfl, rfl⟩ [0] rfl 0 rfl rfl rfl rfl (Nat.le_of_ble_eq_true rfl) dX10_legalEnds_6 9 rfl (Gs' := [gX10 cy oM aM M]) rfl ?_
    clear hu7
    refine ww_icmp_ge h dX10_legalEnds_9 29 (by decide) 12 rfl (fun c => ?_) (fun c => ?_)
    · replace hf := ite_t c hf
      refine ww_lo [1] (lo' := [(1, .int v1_4)]) rfl ?_
      exact hE3 v1_4 (Option.some.inj hf).symm
    · replace hf := ite_f c hf
      refine ww_aload_n h dX10_legalEnds_12 rfl 0 rfl 13 rfl ?_
      refine ww_iload_n h dX10_legalEnds_13 rfl 2 rfl 14 rfl ?_
      obtain ⟨r_8, hu9, hf⟩ := ob1 hf
      refine ww_cVi h (c_X10_isLegal l D ev cy oM aM M v2_5 _ hu9) ⟨w_1461, w_1458, w_1460, w_51, w_111, ok_X10_isLegal⟩ ⟨by decide, by decide⟩ ⟨by decide, by decide⟩ ⟨rfl, rfl⟩ [0] rfl 0 rfl rfl rfl rfl (Nat.le_of_ble_eq_true rfl) dX10_legalEnds_14 17 rfl (Gs' := [gX10 cy oM aM M]) rfl ?_
      clear hu9
      have hJ23_11 : ∀ (v1_10 : Int32), j_X10_legalEnds_23_11 v2_5 v1_10 = some o3 → ww X D A 3 Q 0 0 23 [(0, .ref oM), (1, .int v1_10), (2, .int v2_5)] [] [gX10 cy oM aM M] := by
        intro v1_10 hf
        unfold j_X10_legalEnds_23_11 at hf
        refine ww_inc (c := 1) h dX10_legalEnds_23 2 rfl (by decide) (by decide) (fun v2_12 => [(2, .int v2_12), (0, .ref oM), (1, .int v1_10)]) (fun _ => rfl) 26 rfl (fun v2_12 e => ?_)
        replace hf := bnd_at e hf
        clear e
        refine ww_goto h dX10_legalEnds_26 4 (by decide) ?_
        refine ww_lo [1, 2, 0] (lo' := [(0, .ref oM), (1, .int v1_10), (2, .int v2_12)]) rfl ?_
        exact hI3 (v1_10, v2_12) (Option.some.inj hf).symm
      refine ww_if_eq h dX10_legalEnds_17 23 (by decide) 20 rfl (fun c => ?_) (fun c => ?_)
      · replace hf := ite_t c hf
        exact hJ23_11 v1_4 hf
      · replace hf := ite_f c hf
        refine ww_inc (c := 1) h dX10_legalEnds_20 1 rfl (by decide) (by decide) (fun v1_13 => [(1, .int v1_13), (0, .ref oM), (2, .int v2_5)]) (fun _ => rfl) 23 rfl (fun v1_13 e => ?_)
        replace hf := bnd_at e hf
        clear e
        refine ww_lo [1, 0, 2] (lo' := [(0, .ref oM), (1, .int v1_13), (2, .int v2_5)]) rfl ?_
        exact hJ23_11 v1_13 hf
  · clear h3
    show ww X D A 3 Q 0 0 29 [(1, .int v1_14)] [] [gX10 cy oM aM M]
    refine ww_iload_n h dX10_legalEnds_29 rfl 0 rfl 30 rfl ?_
    obtain rfl := Option.some.inj hf
    exact ww_iret h dX10_legalEnds_30 hQ ⟨rfl, rfl⟩
theorem dX10_longest_0 : decode cX10_longest 0 = .ok (.iconst 0, 1) := by decide +kernel
theorem dX10_longest_1 : decode cX10_longest 1 = .ok (.istore_n 1, 1) := by decide +kernel
theorem dX10_longest_2 : decode cX10_longest 2 = .ok (.iconst 0, 1) := by decide +kernel
theorem dX10_longest_3 : decode cX10_longest 3 = .ok (.istore_n 2, 1) := by decide +kernel
theorem dX10_longest_4 : decode cX10_longest 4 = .ok (.iconst 0, 1) := by decide +kernel
theorem dX10_longest_5 : decode cX10_longest 5 = .ok (.istore_n 3, 1) := by decide +kernel
theorem dX10_longest_6 : decode cX10_longest 6 = .ok (.iload_n 3, 1) := by decide +kernel
theorem dX10_longest_7 : decode cX10_longest 7 = .ok (.aload_n 0, 1) := by decide +kernel
theorem dX10_longest_8 : decode cX10_longest 8 = .ok (.invokevirtual 132, 3) := by decide +kernel
theorem dX10_longest_11 : decode cX10_longest 11 = .ok (.if_icmp .ge 29, 3) := by decide +kernel
theorem dX10_longest_14 : decode cX10_longest 14 = .ok (.iinc 2 1, 3) := by decide +kernel
theorem dX10_longest_17 : decode cX10_longest 17 = .ok (.iload_n 2, 1) := by decide +kernel
theorem dX10_longest_18 : decode cX10_longest 18 = .ok (.iload_n 1, 1) := by decide +kernel
theorem dX10_longest_19 : decode cX10_longest 19 = .ok (.if_icmp .le 5, 3) := by decide +kernel
theorem dX10_longest_22 : decode cX10_longest 22 = .ok (.iload_n 2, 1) := by decide +kernel
theorem dX10_longest_23 : decode cX10_longest 23 = .ok (.istore_n 1, 1) := by decide +kernel
theorem dX10_longest_24 : decode cX10_longest 24 = .ok (.aload_n 0, 1) := by decide +kernel
theorem dX10_longest_25 : decode cX10_longest 25 = .ok (.iload_n 3, 1) := by decide +kernel
theorem dX10_longest_26 : decode cX10_longest 26 = .ok (.invokevirtual 221, 3) := by decide +kernel
theorem dX10_longest_29 : decode cX10_longest 29 = .ok (.ifCond .eq 5, 3) := by decide +kernel
theorem dX10_longest_32 : decode cX10_longest 32 = .ok (.iconst 0, 1) := by decide +kernel
theorem dX10_longest_33 : decode cX10_longest 33 = .ok (.istore_n 2, 1) := by decide +kernel
theorem dX10_longest_34 : decode cX10_longest 34 = .ok (.iinc 3 1, 3) := by decide +kernel
theorem dX10_longest_37 : decode cX10_longest 37 = .ok (.goto (-31), 3) := by decide +kernel
theorem dX10_longest_40 : decode cX10_longest 40 = .ok (.iload_n 1, 1) := by decide +kernel
theorem dX10_longest_41 : decode cX10_longest 41 = .ok (.ireturn, 1) := by decide +kernel
theorem ok_X10_longest : okY RX10 yX10_longest 0 := ⟨rfl, by decide, by decide, by decide +kernel⟩
def j_X10_longest_34_16 (v3_7 : Int32) (v1_11 : Int32) (v2_15 : Int32) : Option ((Int32 × Int32 × Int32) ⊕ (Int32)) := bnd (v3_7 + 1) (fun v3_17 => some (.inl (v1_11, v2_15, v3_17)))
def j_X10_longest_24_12 (M : OV) (v3_7 : Int32) (v2_10 : Int32) (v1_11 : Int32) : Option ((Int32 × Int32 × Int32) ⊕ (Int32)) := (f_X10_isLegal M v3_7).bind (un1 (fun r_13 => (if r_13 = 0 then j_X10_longest_34_16 v3_7 v1_11 v2_10 else bnd (0 : Int32) (fun v2_18 => j_X10_longest_34_16 v3_7 v1_11 v2_18))))
def s_X10_longest_6_4 (M : OV) : (Int32 × Int32 × Int32) → Option ((Int32 × Int32 × Int32) ⊕ (Int32)) := un3 (fun v1_5 v2_6 v3_7 => (f_X10_many M).bind (un1 (fun r_8 => (if r_8 ≤ v3_7 then some (.inr v1_5) else bnd (v2_6 + 1) (fun v2_10 => (if v2_10 ≤ v1_5 then j_X10_longest_24_12 M v3_7 v2_10 v1_5 else bnd v2_10 (fun v1_19 => j_X10_longest_24_12 M v3_7 v2_10 v1_19)))))))
def f_X10_longest (M : OV) : Option (Int32) := bnd (0 : Int32) (fun v1_1 => bnd (0 : Int32) (fun v2_2 => bnd (0 : Int32) (fun v3_3 => ((lp (s_X10_longest_6_4 M) 5000 (v1_1, v2_2, v3_3)).bind (un1 (fun v1_20 => some v1_20))))))
def r_X10_longest : Room := { frames := 3, cells := 0, slots := 0, locals := 66 }
set_option maxHeartbeats 4000000 in
set_option maxRecDepth 100000 in
theorem c_X10_longest (l : Launch) (D : va_G) (ev : EvT) (cy : Nat → ClassId) (oM : Nat) (aM : Nat → Nat) (M : OV) (o : Int32) (hf : f_X10_longest M = some o) : Fn l yX10_longest cX10_longest 4 (some .int) r_X10_longest D ev cy [.ref oM] [gX10 cy oM aM M] (fun v G => v = some (.int o) ∧ G = [gX10 cy oM aM M]) := by
  refine Fn_of (by decide) (Nat.le_of_ble_eq_true rfl) (fun X A Q h hQ _ => ?_)
  unfold f_X10_longest at hf
  show ww X D A 4 Q 0 0 0 [(0, .ref oM)] [] [gX10 cy oM aM M]
  refine ww_iconst (v := 0) h dX10_longest_0 (by decide) 1 rfl ?_
  refine ww_ist_n h dX10_longest_1 rfl (by decide) (fun v1_1 => [(1, .int v1_1), (0, .ref oM)]) (fun _ => rfl) 2 rfl (fun v1_1 e => ?_)
  replace hf := bnd_at e hf
  clear e
  refine ww_iconst (v := 0) h dX10_longest_2 (by decide) 3 rfl ?_
  refine ww_ist_n h dX10_longest_3 rfl (by decide) (fun v2_2 => [(2, .int v2_2), (1, .int v1_1), (0, .ref oM)]) (fun _ => rfl) 4 rfl (fun v2_2 e => ?_)
  replace hf := bnd_at e hf
  clear e
  refine ww_iconst (v := 0) h dX10_longest_4 (by decide) 5 rfl ?_
  refine ww_ist_n h dX10_longest_5 rfl (by decide) (fun v3_3 => [(3, .int v3_3), (2, .int v2_2), (1, .int v1_1), (0, .ref oM)]) (fun _ => rfl) 6 rfl (fun v3_3 e => ?_)
  replace hf := bnd_at e hf
  clear e
  refine ww_lo [3, 2, 1, 0] (lo' := [(0, .ref oM), (1, .int v1_1), (2, .int v2_2), (3, .int v3_3)]) rfl ?_
  obtain ⟨v1_20, h4, hf⟩ := ob1 hf
  refine lp_walk (un3 (fun v1_5 v2_6 v3_7 => ww X D A 4 Q 0 0 6 [(0, .ref oM), (1, .int v1_5), (2, .int v2_6), (3, .int v3_7)] [] [gX10 cy oM aM M])) (un1 (fun v1_20 => ww X D A 4 Q 0 0 40 [(1, .int v1_20)] [] [gX10 cy oM aM M])) ?_ _ _ _ h4 ?_
  · clear h4 hf
    intro s4 o4 hf hI4 hE4
    obtain ⟨v1_5, v2_6, v3_7⟩ := s4
    unfold s_X10_longest_6_4 at hf
    replace hf := un3_e hf
    show ww X D A 4 Q 0 0 6 [(0, .ref oM), (1, .int v1_5), (2, .int v2_6), (3, .int v3_7)] [] [gX10 cy oM aM M]
    refine ww_iload_n h dX10_longest_6 rfl 3 rfl 7 rfl ?_
    refine ww_aload_n h dX10_longest_7 rfl 0 rfl 8 rfl ?_
    obtain ⟨r_8, hu9, hf⟩ := ob1 hf
    refine ww_cVi h (c_X10_many l D ev cy oM aM M _ hu9) ⟨w_1330, w_1327, w_1329, w_37, w_111, ok_X10_many⟩ ⟨by decide, by decide⟩ ⟨by decide, by decide⟩ ⟨rfl, rfl⟩ [0] rfl 0 rfl rfl rfl rfl (Nat.le_of_ble_eq_true rfl) dX10_longest_8 11 rfl (Gs' := [gX10 cy oM aM M]) rfl ?_
    clear hu9
    refine ww_icmp_ge h dX10_longest_11 40 (by decide) 14 rfl (fun c => ?_) (fun c => ?_)
    · replace hf := ite_t c hf
      refine ww_lo [1] (lo' := [(1, .int v1_5)]) rfl ?_
      exact hE4 v1_5 (Option.some.inj hf).symm
    · replace hf := ite_f c hf
      refine ww_inc (c := 1) h dX10_longest_14 2 rfl (by decide) (by decide) (fun v2_10 => [(2, .int v2_10), (0, .ref oM), (1, .int v1_5), (3, .int v3_7)]) (fun _ => rfl) 17 rfl (fun v2_10 e => ?_)
      replace hf := bnd_at e hf
      clear e
      refine ww_iload_n h dX10_longest_17 rfl 0 rfl 18 rfl ?_
      refine ww_iload_n h dX10_longest_18 rfl 2 rfl 19 rfl ?_
      have hJ24_12 : ∀ (v1_11 : Int32), j_X10_longest_24_12 M v3_7 v2_10 v1_11 = some o4 → ww X D A 4 Q 0 0 24 [(0, .ref oM), (1, .int v1_11), (2, .int v2_10), (3, .int v3_7)] [] [gX10 cy oM aM M] := by
        intro v1_11 hf
        unfold j_X10_longest_24_12 at hf
        refine ww_aload_n h dX10_longest_24 rfl 0 rfl 25 rfl ?_
        refine ww_iload_n h dX10_longest_25 rfl 3 rfl 26 rfl ?_
        obtain ⟨r_13, hu14, hf⟩ := ob1 hf
        refine ww_cVi h (c_X10_isLegal l D ev cy oM aM M v3_7 _ hu14) ⟨w_1461, w_1458, w_1460, w_51, w_111, ok_X10_isLegal⟩ ⟨by decide, by decide⟩ ⟨by decide, by decide⟩ ⟨rfl, rfl⟩ [0] rfl 0 rfl rfl rfl rfl (Nat.le_of_ble_eq_true rfl) dX10_longest_26 29 rfl (Gs' := [gX10 cy oM aM M]) rfl ?_
        clear hu14
        have hJ34_16 : ∀ (v2_15 : Int32), j_X10_longest_34_16 v3_7 v1_11 v2_15 = some o4 → ww X D A 4 Q 0 0 34 [(0, .ref oM), (1, .int v1_11), (2, .int v2_15), (3, .int v3_7)] [] [gX10 cy oM aM M] := by
          intro v2_15 hf
          unfold j_X10_longest_34_16 at hf
          refine ww_inc (c := 1) h dX10_longest_34 3 rfl (by decide) (by decide) (fun v3_17 => [(3, .int v3_17), (0, .ref oM), (1, .int v1_11), (2, .int v2_15)]) (fun _ => rfl) 37 rfl (fun v3_17 e => ?_)
          replace hf := bnd_at e hf
          clear e
          refine ww_goto h dX10_longest_37 6 (by decide) ?_
          refine ww_lo [1, 2, 3, 0] (lo' := [(0, .ref oM), (1, .int v1_11), (2, .int v2_15), (3, .int v3_17)]) rfl ?_
          exact hI4 (v1_11, v2_15, v3_17) (Option.some.inj hf).symm
        refine ww_if_eq h dX10_longest_29 34 (by decide) 32 rfl (fun c => ?_) (fun c => ?_)
        · replace hf := ite_t c hf
          exact hJ34_16 v2_10 hf
        · replace hf := ite_f c hf
          refine ww_iconst (v := 0) h dX10_longest_32 (by decide) 33 rfl ?_
          refine ww_ist_n h dX10_longest_33 rfl (by decide) (fun v2_18 => [(2, .int v2_18), (0, .ref oM), (1, .int v1_11), (3, .int v3_7)]) (fun _ => rfl) 34 rfl (fun v2_18 e => ?_)
          replace hf := bnd_at e hf
          clear e
          refine ww_lo [1, 2, 0, 3] (lo' := [(0, .ref oM), (1, .int v1_11), (2, .int v2_18), (3, .int v3_7)]) rfl ?_
          exact hJ34_16 v2_18 hf
      refine ww_icmp_le h dX10_longest_19 24 (by decide) 22 rfl (fun c => ?_) (fun c => ?_)
      · replace hf := ite_t c hf
        refine ww_lo [1, 2, 0, 3] (lo' := [(0, .ref oM), (1, .int v1_5), (2, .int v2_10), (3, .int v3_7)]) rfl ?_
        exact hJ24_12 v1_5 hf
      · replace hf := ite_f c hf
        refine ww_iload_n h dX10_longest_22 rfl 0 rfl 23 rfl ?_
        refine ww_ist_n h dX10_longest_23 rfl (by decide) (fun v1_19 => [(1, .int v1_19), (2, .int v2_10), (0, .ref oM), (3, .int v3_7)]) (fun _ => rfl) 24 rfl (fun v1_19 e => ?_)
        replace hf := bnd_at e hf
        clear e
        refine ww_lo [2, 0, 1, 3] (lo' := [(0, .ref oM), (1, .int v1_19), (2, .int v2_10), (3, .int v3_7)]) rfl ?_
        exact hJ24_12 v1_19 hf
  · clear h4
    show ww X D A 4 Q 0 0 40 [(1, .int v1_20)] [] [gX10 cy oM aM M]
    refine ww_iload_n h dX10_longest_40 rfl 0 rfl 41 rfl ?_
    obtain rfl := Option.some.inj hf
    exact ww_iret h dX10_longest_41 hQ ⟨rfl, rfl⟩
theorem dX10_signsMarked_0 : decode cX10_signsMarked 0 = .ok (.iconst 0, 1) := by decide +kernel
theorem dX10_signsMarked_1 : decode cX10_signsMarked 1 = .ok (.istore_n 2, 1) := by decide +kernel
theorem dX10_signsMarked_2 : decode cX10_signsMarked 2 = .ok (.iconst 0, 1) := by decide +kernel
theorem dX10_signsMarked_3 : decode cX10_signsMarked 3 = .ok (.istore_n 3, 1) := by decide +kernel
theorem dX10_signsMarked_4 : decode cX10_signsMarked 4 = .ok (.iload_n 3, 1) := by decide +kernel
theorem dX10_signsMarked_5 : decode cX10_signsMarked 5 = .ok (.aload_n 0, 1) := by decide +kernel
theorem dX10_signsMarked_6 : decode cX10_signsMarked 6 = .ok (.invokevirtual 132, 3) := by decide +kernel
theorem dX10_signsMarked_9 : decode cX10_signsMarked 9 = .ok (.if_icmp .ge 21, 3) := by decide +kernel
theorem dX10_signsMarked_12 : decode cX10_signsMarked 12 = .ok (.aload_n 0, 1) := by decide +kernel
theorem dX10_signsMarked_13 : decode cX10_signsMarked 13 = .ok (.iload_n 3, 1) := by decide +kernel
theorem dX10_signsMarked_14 : decode cX10_signsMarked 14 = .ok (.invokevirtual 173, 3) := by decide +kernel
theorem dX10_signsMarked_17 : decode cX10_signsMarked 17 = .ok (.iload_n 1, 1) := by decide +kernel
theorem dX10_signsMarked_18 : decode cX10_signsMarked 18 = .ok (.if_icmp .ne 6, 3) := by decide +kernel
theorem dX10_signsMarked_21 : decode cX10_signsMarked 21 = .ok (.iinc 2 1, 3) := by decide +kernel
theorem dX10_signsMarked_24 : decode cX10_signsMarked 24 = .ok (.iinc 3 1, 3) := by decide +kernel
theorem dX10_signsMarked_27 : decode cX10_signsMarked 27 = .ok (.goto (-23), 3) := by decide +kernel
theorem dX10_signsMarked_30 : decode cX10_signsMarked 30 = .ok (.iload_n 2, 1) := by decide +kernel
theorem dX10_signsMarked_31 : decode cX10_signsMarked 31 = .ok (.ireturn, 1) := by decide +kernel
theorem ok_X10_signsMarked : okY RX10 yX10_signsMarked 1 := ⟨rfl, by decide, by decide, by decide +kernel⟩
def j_X10_signsMarked_24_11 (v3_5 : Int32) (v2_10 : Int32) : Option ((Int32 × Int32) ⊕ (Int32)) := bnd (v3_5 + 1) (fun v3_12 => some (.inl (v2_10, v3_12)))
def s_X10_signsMarked_4_3 (M : OV) (p0 : Int32) : (Int32 × Int32) → Option ((Int32 × Int32) ⊕ (Int32)) := un2 (fun v2_4 v3_5 => (f_X10_many M).bind (un1 (fun r_6 => (if r_6 ≤ v3_5 then some (.inr v2_4) else (f_X10_markOf M v3_5).bind (un1 (fun r_8 => (if r_8 = p0 then bnd (v2_4 + 1) (fun v2_13 => j_X10_signsMarked_24_11 v3_5 v2_13) else j_X10_signsMarked_24_11 v3_5 v2_4)))))))
def f_X10_signsMarked (M : OV) (p0 : Int32) : Option (Int32) := bnd (0 : Int32) (fun v2_1 => bnd (0 : Int32) (fun v3_2 => ((lp (s_X10_signsMarked_4_3 M p0) 5000 (v2_1, v3_2)).bind (un1 (fun v2_14 => some v2_14)))))
def r_X10_signsMarked : Room := { frames := 1, cells := 0, slots := 0, locals := 21 }
set_option maxHeartbeats 4000000 in
set_option maxRecDepth 100000 in
theorem c_X10_signsMarked (l : Launch) (D : va_G) (ev : EvT) (cy : Nat → ClassId) (oM : Nat) (aM : Nat → Nat) (M : OV) (p0 : Int32) (o : Int32) (hf : f_X10_signsMarked M p0 = some o) : Fn l yX10_signsMarked cX10_signsMarked 4 (some .int) r_X10_signsMarked D ev cy [.ref oM, .int p0] [gX10 cy oM aM M] (fun v G => v = some (.int o) ∧ G = [gX10 cy oM aM M]) := by
  refine Fn_of (by decide) (Nat.le_of_ble_eq_true rfl) (fun X A Q h hQ _ => ?_)
  unfold f_X10_signsMarked at hf
  show ww X D A 4 Q 0 0 0 [(0, .ref oM), (1, .int p0)] [] [gX10 cy oM aM M]
  refine ww_iconst (v := 0) h dX10_signsMarked_0 (by decide) 1 rfl ?_
  refine ww_ist_n h dX10_signsMarked_1 rfl (by decide) (fun v2_1 => [(2, .int v2_1), (0, .ref oM), (1, .int p0)]) (fun _ => rfl) 2 rfl (fun v2_1 e => ?_)
  replace hf := bnd_at e hf
  clear e
  refine ww_iconst (v := 0) h dX10_signsMarked_2 (by decide) 3 rfl ?_
  refine ww_ist_n h dX10_signsMarked_3 rfl (by decide) (fun v3_2 => [(3, .int v3_2), (2, .int v2_1), (0, .ref oM), (1, .int p0)]) (fun _ => rfl) 4 rfl (fun v3_2 e => ?_)
  replace hf := bnd_at e hf
  clear e
  refine ww_lo [2, 3, 1, 0] (lo' := [(0, .ref oM), (1, .int p0), (2, .int v2_1), (3, .int v3_2)]) rfl ?_
  obtain ⟨v2_14, h3, hf⟩ := ob1 hf
  refine lp_walk (un2 (fun v2_4 v3_5 => ww X D A 4 Q 0 0 4 [(0, .ref oM), (1, .int p0), (2, .int v2_4), (3, .int v3_5)] [] [gX10 cy oM aM M])) (un1 (fun v2_14 => ww X D A 4 Q 0 0 30 [(2, .int v2_14)] [] [gX10 cy oM aM M])) ?_ _ _ _ h3 ?_
  · clear h3 hf
    intro s3 o3 hf hI3 hE3
    obtain ⟨v2_4, v3_5⟩ := s3
    unfold s_X10_signsMarked_4_3 at hf
    replace hf := un2_e hf
    show ww X D A 4 Q 0 0 4 [(0, .ref oM), (1, .int p0), (2, .int v2_4), (3, .int v3_5)] [] [gX10 cy oM aM M]
    refine ww_iload_n h dX10_signsMarked_4 rfl 3 rfl 5 rfl ?_
    refine ww_aload_n h dX10_signsMarked_5 rfl 0 rfl 6 rfl ?_
    obtain ⟨r_6, hu7, hf⟩ := ob1 hf
    refine ww_cVi h (c_X10_many l D ev cy oM aM M _ hu7) ⟨w_1330, w_1327, w_1329, w_37, w_111, ok_X10_many⟩ ⟨by decide, by decide⟩ ⟨by decide, by decide⟩ ⟨rfl, rfl⟩ [0] rfl 0 rfl rfl rfl rfl (Nat.le_of_ble_eq_true rfl) dX10_signsMarked_6 9 rfl (Gs' := [gX10 cy oM aM M]) rfl ?_
    clear hu7
    refine ww_icmp_ge h dX10_signsMarked_9 30 (by decide) 12 rfl (fun c => ?_) (fun c => ?_)
    · replace hf := ite_t c hf
      refine ww_lo [2] (lo' := [(2, .int v2_4)]) rfl ?_
      exact hE3 v2_4 (Option.some.inj hf).symm
    · replace hf := ite_f c hf
      refine ww_aload_n h dX10_signsMarked_12 rfl 0 rfl 13 rfl ?_
      refine ww_iload_n h dX10_signsMarked_13 rfl 3 rfl 14 rfl ?_
      obtain ⟨r_8, hu9, hf⟩ := ob1 hf
      refine ww_cVi h (c_X10_markOf l D ev cy oM aM M v3_5 _ hu9) ⟨w_1393, w_1390, w_1392, w_47, w_111, ok_X10_markOf⟩ ⟨by decide, by decide⟩ ⟨by decide, by decide⟩ ⟨rfl, rfl⟩ [0] rfl 0 rfl rfl rfl rfl (Nat.le_of_ble_eq_true rfl) dX10_signsMarked_14 17 rfl (Gs' := [gX10 cy oM aM M]) rfl ?_
      clear hu9
      refine ww_iload_n h dX10_signsMarked_17 rfl 1 rfl 18 rfl ?_
      have hJ24_11 : ∀ (v2_10 : Int32), j_X10_signsMarked_24_11 v3_5 v2_10 = some o3 → ww X D A 4 Q 0 0 24 [(0, .ref oM), (1, .int p0), (2, .int v2_10), (3, .int v3_5)] [] [gX10 cy oM aM M] := by
        intro v2_10 hf
        unfold j_X10_signsMarked_24_11 at hf
        refine ww_inc (c := 1) h dX10_signsMarked_24 3 rfl (by decide) (by decide) (fun v3_12 => [(3, .int v3_12), (0, .ref oM), (1, .int p0), (2, .int v2_10)]) (fun _ => rfl) 27 rfl (fun v3_12 e => ?_)
        replace hf := bnd_at e hf
        clear e
        refine ww_goto h dX10_signsMarked_27 4 (by decide) ?_
        refine ww_lo [1, 2, 3, 0] (lo' := [(0, .ref oM), (1, .int p0), (2, .int v2_10), (3, .int v3_12)]) rfl ?_
        exact hI3 (v2_10, v3_12) (Option.some.inj hf).symm
      refine ww_icmp_ne h dX10_signsMarked_18 24 (by decide) 21 rfl (fun c => ?_) (fun c => ?_)
      · replace hf := ite_f c hf
        exact hJ24_11 v2_4 hf
      · replace hf := ite_t c hf
        refine ww_inc (c := 1) h dX10_signsMarked_21 2 rfl (by decide) (by decide) (fun v2_13 => [(2, .int v2_13), (0, .ref oM), (1, .int p0), (3, .int v3_5)]) (fun _ => rfl) 24 rfl (fun v2_13 e => ?_)
        replace hf := bnd_at e hf
        clear e
        refine ww_lo [1, 2, 0, 3] (lo' := [(0, .ref oM), (1, .int p0), (2, .int v2_13), (3, .int v3_5)]) rfl ?_
        exact hJ24_11 v2_13 hf
  · clear h3
    show ww X D A 4 Q 0 0 30 [(2, .int v2_14)] [] [gX10 cy oM aM M]
    refine ww_iload_n h dX10_signsMarked_30 rfl 0 rfl 31 rfl ?_
    obtain rfl := Option.some.inj hf
    exact ww_iret h dX10_signsMarked_31 hQ ⟨rfl, rfl⟩
theorem dX10_classes_0 : decode cX10_classes 0 = .ok (.iconst 0, 1) := by decide +kernel
theorem dX10_classes_1 : decode cX10_classes 1 = .ok (.istore_n 1, 1) := by decide +kernel
theorem dX10_classes_2 : decode cX10_classes 2 = .ok (.iconst 0, 1) := by decide +kernel
theorem dX10_classes_3 : decode cX10_classes 3 = .ok (.istore_n 2, 1) := by decide +kernel
theorem dX10_classes_4 : decode cX10_classes 4 = .ok (.iload_n 2, 1) := by decide +kernel
theorem dX10_classes_5 : decode cX10_classes 5 = .ok (.bipush 26, 2) := by decide +kernel
theorem dX10_classes_7 : decode cX10_classes 7 = .ok (.if_icmp .ge 20, 3) := by decide +kernel
theorem dX10_classes_10 : decode cX10_classes 10 = .ok (.aload_n 0, 1) := by decide +kernel
theorem dX10_classes_11 : decode cX10_classes 11 = .ok (.iload_n 2, 1) := by decide +kernel
theorem dX10_classes_12 : decode cX10_classes 12 = .ok (.invokevirtual 151, 3) := by decide +kernel
theorem dX10_classes_15 : decode cX10_classes 15 = .ok (.ifCond .eq 6, 3) := by decide +kernel
theorem dX10_classes_18 : decode cX10_classes 18 = .ok (.iinc 1 1, 3) := by decide +kernel
theorem dX10_classes_21 : decode cX10_classes 21 = .ok (.iinc 2 1, 3) := by decide +kernel
theorem dX10_classes_24 : decode cX10_classes 24 = .ok (.goto (-20), 3) := by decide +kernel
theorem dX10_classes_27 : decode cX10_classes 27 = .ok (.iload_n 1, 1) := by decide +kernel
theorem dX10_classes_28 : decode cX10_classes 28 = .ok (.ireturn, 1) := by decide +kernel
theorem ok_X10_classes : okY RX10 yX10_classes 0 := ⟨rfl, by decide, by decide, by decide +kernel⟩
def j_X10_classes_21_9 (v2_5 : Int32) (v1_8 : Int32) : Option ((Int32 × Int32) ⊕ (Int32)) := bnd (v2_5 + 1) (fun v2_10 => some (.inl (v1_8, v2_10)))
def s_X10_classes_4_3 (M : OV) : (Int32 × Int32) → Option ((Int32 × Int32) ⊕ (Int32)) := un2 (fun v1_4 v2_5 => (if (26 : Int32) ≤ v2_5 then some (.inr v1_4) else (f_X10_isTold M v2_5).bind (un1 (fun r_6 => (if r_6 = 0 then j_X10_classes_21_9 v2_5 v1_4 else bnd (v1_4 + 1) (fun v1_11 => j_X10_classes_21_9 v2_5 v1_11))))))
def f_X10_classes (M : OV) : Option (Int32) := bnd (0 : Int32) (fun v1_1 => bnd (0 : Int32) (fun v2_2 => ((lp (s_X10_classes_4_3 M) 5000 (v1_1, v2_2)).bind (un1 (fun v1_12 => some v1_12)))))
def r_X10_classes : Room := { frames := 2, cells := 0, slots := 0, locals := 43 }
set_option maxHeartbeats 4000000 in
set_option maxRecDepth 100000 in
theorem c_X10_classes (l : Launch) (D : va_G) (ev : EvT) (cy : Nat → ClassId) (oM : Nat) (aM : Nat → Nat) (M : OV) (o : Int32) (hf : f_X10_classes M = some o) : Fn l yX10_classes cX10_classes 3 (some .int) r_X10_classes D ev cy [.ref oM] [gX10 cy oM aM M] (fun v G => v = some (.int o) ∧ G = [gX10 cy oM aM M]) := by
  refine Fn_of (by decide) (Nat.le_of_ble_eq_true rfl) (fun X A Q h hQ _ => ?_)
  unfold f_X10_classes at hf
  show ww X D A 3 Q 0 0 0 [(0, .ref oM)] [] [gX10 cy oM aM M]
  refine ww_iconst (v := 0) h dX10_classes_0 (by decide) 1 rfl ?_
  refine ww_ist_n h dX10_classes_1 rfl (by decide) (fun v1_1 => [(1, .int v1_1), (0, .ref oM)]) (fun _ => rfl) 2 rfl (fun v1_1 e => ?_)
  replace hf := bnd_at e hf
  clear e
  refine ww_iconst (v := 0) h dX10_classes_2 (by decide) 3 rfl ?_
  refine ww_ist_n h dX10_classes_3 rfl (by decide) (fun v2_2 => [(2, .int v2_2), (1, .int v1_1), (0, .ref oM)]) (fun _ => rfl) 4 rfl (fun v2_2 e => ?_)
  replace hf := bnd_at e hf
  clear e
  refine ww_lo [2, 1, 0] (lo' := [(0, .ref oM), (1, .int v1_1), (2, .int v2_2)]) rfl ?_
  obtain ⟨v1_12, h3, hf⟩ := ob1 hf
  refine lp_walk (un2 (fun v1_4 v2_5 => ww X D A 3 Q 0 0 4 [(0, .ref oM), (1, .int v1_4), (2, .int v2_5)] [] [gX10 cy oM aM M])) (un1 (fun v1_12 => ww X D A 3 Q 0 0 27 [(1, .int v1_12)] [] [gX10 cy oM aM M])) ?_ _ _ _ h3 ?_
  · clear h3 hf
    intro s3 o3 hf hI3 hE3
    obtain ⟨v1_4, v2_5⟩ := s3
    unfold s_X10_classes_4_3 at hf
    replace hf := un2_e hf
    show ww X D A 3 Q 0 0 4 [(0, .ref oM), (1, .int v1_4), (2, .int v2_5)] [] [gX10 cy oM aM M]
    refine ww_iload_n h dX10_classes_4 rfl 2 rfl 5 rfl ?_
    refine ww_bipush (v := 26) h dX10_classes_5 (by decide) 7 rfl ?_
    refine ww_icmp_ge h dX10_classes_7 27 (by decide) 10 rfl (fun c => ?_) (fun c => ?_)
    · replace hf := ite_t c hf
      refine ww_lo [1] (lo' := [(1, .int v1_4)]) rfl ?_
      exact hE3 v1_4 (Option.some.inj hf).symm
    · replace hf := ite_f c hf
      refine ww_aload_n h dX10_classes_10 rfl 0 rfl 11 rfl ?_
      refine ww_iload_n h dX10_classes_11 rfl 2 rfl 12 rfl ?_
      obtain ⟨r_6, hu7, hf⟩ := ob1 hf
      refine ww_cVi h (c_X10_isTold l D ev cy oM aM M v2_5 _ hu7) ⟨w_1337, w_1334, w_1336, w_38, w_111, ok_X10_isTold⟩ ⟨by decide, by decide⟩ ⟨by decide, by decide⟩ ⟨rfl, rfl⟩ [0] rfl 0 rfl rfl rfl rfl (Nat.le_of_ble_eq_true rfl) dX10_classes_12 15 rfl (Gs' := [gX10 cy oM aM M]) rfl ?_
      clear hu7
      have hJ21_9 : ∀ (v1_8 : Int32), j_X10_classes_21_9 v2_5 v1_8 = some o3 → ww X D A 3 Q 0 0 21 [(0, .ref oM), (1, .int v1_8), (2, .int v2_5)] [] [gX10 cy oM aM M] := by
        intro v1_8 hf
        unfold j_X10_classes_21_9 at hf
        refine ww_inc (c := 1) h dX10_classes_21 2 rfl (by decide) (by decide) (fun v2_10 => [(2, .int v2_10), (0, .ref oM), (1, .int v1_8)]) (fun _ => rfl) 24 rfl (fun v2_10 e => ?_)
        replace hf := bnd_at e hf
        clear e
        refine ww_goto h dX10_classes_24 4 (by decide) ?_
        refine ww_lo [1, 2, 0] (lo' := [(0, .ref oM), (1, .int v1_8), (2, .int v2_10)]) rfl ?_
        exact hI3 (v1_8, v2_10) (Option.some.inj hf).symm
      refine ww_if_eq h dX10_classes_15 21 (by decide) 18 rfl (fun c => ?_) (fun c => ?_)
      · replace hf := ite_t c hf
        exact hJ21_9 v1_4 hf
      · replace hf := ite_f c hf
        refine ww_inc (c := 1) h dX10_classes_18 1 rfl (by decide) (by decide) (fun v1_11 => [(1, .int v1_11), (0, .ref oM), (2, .int v2_5)]) (fun _ => rfl) 21 rfl (fun v1_11 e => ?_)
        replace hf := bnd_at e hf
        clear e
        refine ww_lo [1, 0, 2] (lo' := [(0, .ref oM), (1, .int v1_11), (2, .int v2_5)]) rfl ?_
        exact hJ21_9 v1_11 hf
  · clear h3
    show ww X D A 3 Q 0 0 27 [(1, .int v1_12)] [] [gX10 cy oM aM M]
    refine ww_iload_n h dX10_classes_27 rfl 0 rfl 28 rfl ?_
    obtain rfl := Option.some.inj hf
    exact ww_iret h dX10_classes_28 hQ ⟨rfl, rfl⟩
theorem dX10_count_0 : decode cX10_count 0 = .ok (.iload_n 1, 1) := by decide +kernel
theorem dX10_count_1 : decode cX10_count 1 = .ok (.tableswitch 132 0 12 #[67, 72, 77, 82, 90, 95, 100, 105, 110, 110, 110, 123, 123], 67) := by decide +kernel
theorem dX10_count_68 : decode cX10_count 68 = .ok (.aload_n 0, 1) := by decide +kernel
theorem dX10_count_69 : decode cX10_count 69 = .ok (.invokevirtual 327, 3) := by decide +kernel
theorem dX10_count_72 : decode cX10_count 72 = .ok (.ireturn, 1) := by decide +kernel
theorem dX10_count_73 : decode cX10_count 73 = .ok (.aload_n 0, 1) := by decide +kernel
theorem dX10_count_74 : decode cX10_count 74 = .ok (.invokevirtual 183, 3) := by decide +kernel
theorem dX10_count_77 : decode cX10_count 77 = .ok (.ireturn, 1) := by decide +kernel
theorem dX10_count_78 : decode cX10_count 78 = .ok (.aload_n 0, 1) := by decide +kernel
theorem dX10_count_79 : decode cX10_count 79 = .ok (.invokevirtual 132, 3) := by decide +kernel
theorem dX10_count_82 : decode cX10_count 82 = .ok (.ireturn, 1) := by decide +kernel
theorem dX10_count_83 : decode cX10_count 83 = .ok (.aload_n 0, 1) := by decide +kernel
theorem dX10_count_84 : decode cX10_count 84 = .ok (.getfield 36, 3) := by decide +kernel
theorem dX10_count_87 : decode cX10_count 87 = .ok (.bipush 81, 2) := by decide +kernel
theorem dX10_count_89 : decode cX10_count 89 = .ok (.iaload, 1) := by decide +kernel
theorem dX10_count_90 : decode cX10_count 90 = .ok (.ireturn, 1) := by decide +kernel
theorem dX10_count_91 : decode cX10_count 91 = .ok (.aload_n 0, 1) := by decide +kernel
theorem dX10_count_92 : decode cX10_count 92 = .ok (.getfield 129, 3) := by decide +kernel
theorem dX10_count_95 : decode cX10_count 95 = .ok (.ireturn, 1) := by decide +kernel
theorem dX10_count_96 : decode cX10_count 96 = .ok (.aload_n 0, 1) := by decide +kernel
theorem dX10_count_97 : decode cX10_count 97 = .ok (.getfield 330, 3) := by decide +kernel
theorem dX10_count_100 : decode cX10_count 100 = .ok (.ireturn, 1) := by decide +kernel
theorem dX10_count_101 : decode cX10_count 101 = .ok (.aload_n 0, 1) := by decide +kernel
theorem dX10_count_102 : decode cX10_count 102 = .ok (.invokevirtual 333, 3) := by decide +kernel
theorem dX10_count_105 : decode cX10_count 105 = .ok (.ireturn, 1) := by decide +kernel
theorem dX10_count_106 : decode cX10_count 106 = .ok (.aload_n 0, 1) := by decide +kernel
theorem dX10_count_107 : decode cX10_count 107 = .ok (.invokevirtual 336, 3) := by decide +kernel
theorem dX10_count_110 : decode cX10_count 110 = .ok (.ireturn, 1) := by decide +kernel
theorem dX10_count_111 : decode cX10_count 111 = .ok (.aload_n 0, 1) := by decide +kernel
theorem dX10_count_112 : decode cX10_count 112 = .ok (.getfield 36, 3) := by decide +kernel
theorem dX10_count_115 : decode cX10_count 115 = .ok (.bipush 84, 2) := by decide +kernel
theorem dX10_count_117 : decode cX10_count 117 = .ok (.iload_n 1, 1) := by decide +kernel
theorem dX10_count_118 : decode cX10_count 118 = .ok (.iadd, 1) := by decide +kernel
theorem dX10_count_119 : decode cX10_count 119 = .ok (.bipush 8, 2) := by decide +kernel
theorem dX10_count_121 : decode cX10_count 121 = .ok (.isub, 1) := by decide +kernel
theorem dX10_count_122 : decode cX10_count 122 = .ok (.iaload, 1) := by decide +kernel
theorem dX10_count_123 : decode cX10_count 123 = .ok (.ireturn, 1) := by decide +kernel
theorem dX10_count_124 : decode cX10_count 124 = .ok (.aload_n 0, 1) := by decide +kernel
theorem dX10_count_125 : decode cX10_count 125 = .ok (.iload_n 1, 1) := by decide +kernel
theorem dX10_count_126 : decode cX10_count 126 = .ok (.bipush 10, 2) := by decide +kernel
theorem dX10_count_128 : decode cX10_count 128 = .ok (.isub, 1) := by decide +kernel
theorem dX10_count_129 : decode cX10_count 129 = .ok (.invokevirtual 339, 3) := by decide +kernel
theorem dX10_count_132 : decode cX10_count 132 = .ok (.ireturn, 1) := by decide +kernel
theorem dX10_count_133 : decode cX10_count 133 = .ok (.iconst (-1), 1) := by decide +kernel
theorem dX10_count_134 : decode cX10_count 134 = .ok (.ireturn, 1) := by decide +kernel
theorem ok_X10_count : okY RX10 yX10_count 1 := ⟨rfl, by decide, by decide, by decide +kernel⟩
def f_X10_count (M : OV) (p0 : Int32) : Option (Int32) := (if p0 = 0 then (f_X10_classes M).bind (un1 (fun r_1 => some r_1)) else (if p0 = 1 then (f_X10_pairs M).bind (un1 (fun r_3 => some r_3)) else (if p0 = 2 then (f_X10_many M).bind (un1 (fun r_5 => some r_5)) else (if p0 = 3 then gd (ix (81 : Int32) 113) (some (ar M 8 (81 : Int32).toNatClampNeg)) else (if p0 = 4 then some (iv M 11) else (if p0 = 5 then some (iv M 36) else (if p0 = 6 then (f_X10_legalEnds M).bind (un1 (fun r_7 => some r_7)) else (if p0 = 7 then (f_X10_longest M).bind (un1 (fun r_9 => some r_9)) else (if p0 = 8 then gd (ix (((84 : Int32) + p0) - (8 : Int32)) 113) (some (ar M 8 (((84 : Int32) + p0) - (8 : Int32)).toNatClampNeg)) else (if p0 = 9 then gd (ix (((84 : Int32) + p0) - (8 : Int32)) 113) (some (ar M 8 (((84 : Int32) + p0) - (8 : Int32)).toNatClampNeg)) else (if p0 = 10 then gd (ix (((84 : Int32) + p0) - (8 : Int32)) 113) (some (ar M 8 (((84 : Int32) + p0) - (8 : Int32)).toNatClampNeg)) else (if p0 = 11 then (f_X10_signsMarked M (p0 - (10 : Int32))).bind (un1 (fun r_11 => some r_11)) else (if p0 = 12 then (f_X10_signsMarked M (p0 - (10 : Int32))).bind (un1 (fun r_13 => some r_13)) else some (-1 : Int32))))))))))))))
def r_X10_count : Room := { frames := 4, cells := 0, slots := 0, locals := 89 }
set_option maxHeartbeats 4000000 in
set_option maxRecDepth 100000 in
theorem c_X10_count (l : Launch) (D : va_G) (ev : EvT) (cy : Nat → ClassId) (oM : Nat) (aM : Nat → Nat) (M : OV) (p0 : Int32) (o : Int32) (hf : f_X10_count M p0 = some o) : Fn l yX10_count cX10_count 2 (some .int) r_X10_count D ev cy [.ref oM, .int p0] [gX10 cy oM aM M] (fun v G => v = some (.int o) ∧ G = [gX10 cy oM aM M]) := by
  refine Fn_of (by decide) (Nat.le_of_ble_eq_true rfl) (fun X A Q h hQ _ => ?_)
  unfold f_X10_count at hf
  show ww X D A 2 Q 0 0 0 [(0, .ref oM), (1, .int p0)] [] [gX10 cy oM aM M]
  refine ww_iload_n h dX10_count_0 rfl 1 rfl 1 rfl ?_
  by_cases c1_0 : p0 = 0
  · replace hf := ite_t c1_0 hf
    refine ww_tabIn h dX10_count_1 (by rw [c1_0]; decide) (by rw [c1_0]; decide) (by rw [c1_0]; rfl) 68 (by decide) ?_
    refine ww_aload_n h dX10_count_68 rfl 0 rfl 69 rfl ?_
    obtain ⟨r_1, hu2, hf⟩ := ob1 hf
    refine ww_cVi h (c_X10_classes l D ev cy oM aM M _ hu2) ⟨w_1690, w_1687, w_1689, w_83, w_111, ok_X10_classes⟩ ⟨by decide, by decide⟩ ⟨by decide, by decide⟩ ⟨rfl, rfl⟩ [0] rfl 0 rfl rfl rfl rfl (Nat.le_of_ble_eq_true rfl) dX10_count_69 72 rfl (Gs' := [gX10 cy oM aM M]) rfl ?_
    clear hu2
    obtain rfl := Option.some.inj hf
    exact ww_iret h dX10_count_72 hQ ⟨rfl, rfl⟩
  · replace hf := ite_f c1_0 hf
    by_cases c1_1 : p0 = 1
    · replace hf := ite_t c1_1 hf
      refine ww_tabIn h dX10_count_1 (by rw [c1_1]; decide) (by rw [c1_1]; decide) (by rw [c1_1]; rfl) 73 (by decide) ?_
      refine ww_aload_n h dX10_count_73 rfl 0 rfl 74 rfl ?_
      obtain ⟨r_3, hu4, hf⟩ := ob1 hf
      refine ww_cVi h (c_X10_pairs l D ev cy oM aM M _ hu4) ⟨w_1416, w_1413, w_1415, w_50, w_111, ok_X10_pairs⟩ ⟨by decide, by decide⟩ ⟨by decide, by decide⟩ ⟨rfl, rfl⟩ [0] rfl 0 rfl rfl rfl rfl (Nat.le_of_ble_eq_true rfl) dX10_count_74 77 rfl (Gs' := [gX10 cy oM aM M]) rfl ?_
      clear hu4
      obtain rfl := Option.some.inj hf
      exact ww_iret h dX10_count_77 hQ ⟨rfl, rfl⟩
    · replace hf := ite_f c1_1 hf
      by_cases c1_2 : p0 = 2
      · replace hf := ite_t c1_2 hf
        refine ww_tabIn h dX10_count_1 (by rw [c1_2]; decide) (by rw [c1_2]; decide) (by rw [c1_2]; rfl) 78 (by decide) ?_
        refine ww_aload_n h dX10_count_78 rfl 0 rfl 79 rfl ?_
        obtain ⟨r_5, hu6, hf⟩ := ob1 hf
        refine ww_cVi h (c_X10_many l D ev cy oM aM M _ hu6) ⟨w_1330, w_1327, w_1329, w_37, w_111, ok_X10_many⟩ ⟨by decide, by decide⟩ ⟨by decide, by decide⟩ ⟨rfl, rfl⟩ [0] rfl 0 rfl rfl rfl rfl (Nat.le_of_ble_eq_true rfl) dX10_count_79 82 rfl (Gs' := [gX10 cy oM aM M]) rfl ?_
        clear hu6
        obtain rfl := Option.some.inj hf
        exact ww_iret h dX10_count_82 hQ ⟨rfl, rfl⟩
      · replace hf := ite_f c1_2 hf
        by_cases c1_3 : p0 = 3
        · replace hf := ite_t c1_3 hf
          refine ww_tabIn h dX10_count_1 (by rw [c1_3]; decide) (by rw [c1_3]; decide) (by rw [c1_3]; rfl) 83 (by decide) ?_
          refine ww_aload_n h dX10_count_83 rfl 0 rfl 84 rfl ?_
          refine ww_get h inG10 rfl 0 rfl rfl 8 (by decide) w_1165 rfl dX10_count_84 87 rfl ?_
          refine ww_bipush (v := 81) h dX10_count_87 (by decide) 89 rfl ?_
          have hi := (gd_some hf).1
          replace hf := (gd_some hf).2
          refine ww_iald h 0 rfl 8 rfl (ix_in hi) dX10_count_89 90 rfl ?_
          clear hi
          obtain rfl := Option.some.inj hf
          exact ww_iret h dX10_count_90 hQ ⟨rfl, rfl⟩
        · replace hf := ite_f c1_3 hf
          by_cases c1_4 : p0 = 4
          · replace hf := ite_t c1_4 hf
            refine ww_tabIn h dX10_count_1 (by rw [c1_4]; decide) (by rw [c1_4]; decide) (by rw [c1_4]; rfl) 91 (by decide) ?_
            refine ww_aload_n h dX10_count_91 rfl 0 rfl 92 rfl ?_
            refine ww_get h inG10 rfl 0 rfl rfl 11 (by decide) w_1168 rfl dX10_count_92 95 rfl ?_
            obtain rfl := Option.some.inj hf
            exact ww_iret h dX10_count_95 hQ ⟨rfl, rfl⟩
          · replace hf := ite_f c1_4 hf
            by_cases c1_5 : p0 = 5
            · replace hf := ite_t c1_5 hf
              refine ww_tabIn h dX10_count_1 (by rw [c1_5]; decide) (by rw [c1_5]; decide) (by rw [c1_5]; rfl) 96 (by decide) ?_
              refine ww_aload_n h dX10_count_96 rfl 0 rfl 97 rfl ?_
              refine ww_get h inG10 rfl 0 rfl rfl 36 (by decide) w_1193 rfl dX10_count_97 100 rfl ?_
              obtain rfl := Option.some.inj hf
              exact ww_iret h dX10_count_100 hQ ⟨rfl, rfl⟩
            · replace hf := ite_f c1_5 hf
              by_cases c1_6 : p0 = 6
              · replace hf := ite_t c1_6 hf
                refine ww_tabIn h dX10_count_1 (by rw [c1_6]; decide) (by rw [c1_6]; decide) (by rw [c1_6]; rfl) 101 (by decide) ?_
                refine ww_aload_n h dX10_count_101 rfl 0 rfl 102 rfl ?_
                obtain ⟨r_7, hu8, hf⟩ := ob1 hf
                refine ww_cVi h (c_X10_legalEnds l D ev cy oM aM M _ hu8) ⟨w_1694, w_1691, w_1693, w_84, w_111, ok_X10_legalEnds⟩ ⟨by decide, by decide⟩ ⟨by decide, by decide⟩ ⟨rfl, rfl⟩ [0] rfl 0 rfl rfl rfl rfl (Nat.le_of_ble_eq_true rfl) dX10_count_102 105 rfl (Gs' := [gX10 cy oM aM M]) rfl ?_
                clear hu8
                obtain rfl := Option.some.inj hf
                exact ww_iret h dX10_count_105 hQ ⟨rfl, rfl⟩
              · replace hf := ite_f c1_6 hf
                by_cases c1_7 : p0 = 7
                · replace hf := ite_t c1_7 hf
                  refine ww_tabIn h dX10_count_1 (by rw [c1_7]; decide) (by rw [c1_7]; decide) (by rw [c1_7]; rfl) 106 (by decide) ?_
                  refine ww_aload_n h dX10_count_106 rfl 0 rfl 107 rfl ?_
                  obtain ⟨r_9, hu10, hf⟩ := ob1 hf
                  refine ww_cVi h (c_X10_longest l D ev cy oM aM M _ hu10) ⟨w_1698, w_1695, w_1697, w_85, w_111, ok_X10_longest⟩ ⟨by decide, by decide⟩ ⟨by decide, by decide⟩ ⟨rfl, rfl⟩ [0] rfl 0 rfl rfl rfl rfl (Nat.le_of_ble_eq_true rfl) dX10_count_107 110 rfl (Gs' := [gX10 cy oM aM M]) rfl ?_
                  clear hu10
                  obtain rfl := Option.some.inj hf
                  exact ww_iret h dX10_count_110 hQ ⟨rfl, rfl⟩
                · replace hf := ite_f c1_7 hf
                  by_cases c1_8 : p0 = 8
                  · replace hf := ite_t c1_8 hf
                    refine ww_tabIn h dX10_count_1 (by rw [c1_8]; decide) (by rw [c1_8]; decide) (by rw [c1_8]; rfl) 111 (by decide) ?_
                    refine ww_aload_n h dX10_count_111 rfl 0 rfl 112 rfl ?_
                    refine ww_get h inG10 rfl 0 rfl rfl 8 (by decide) w_1165 rfl dX10_count_112 115 rfl ?_
                    refine ww_bipush (v := 84) h dX10_count_115 (by decide) 117 rfl ?_
                    refine ww_iload_n h dX10_count_117 rfl 1 rfl 118 rfl ?_
                    refine ww_iadd h dX10_count_118 119 rfl ?_
                    refine ww_bipush (v := 8) h dX10_count_119 (by decide) 121 rfl ?_
                    refine ww_isub h dX10_count_121 122 rfl ?_
                    have hi := (gd_some hf).1
                    replace hf := (gd_some hf).2
                    refine ww_iald h 0 rfl 8 rfl (ix_in hi) dX10_count_122 123 rfl ?_
                    clear hi
                    obtain rfl := Option.some.inj hf
                    exact ww_iret h dX10_count_123 hQ ⟨rfl, rfl⟩
                  · replace hf := ite_f c1_8 hf
                    by_cases c1_9 : p0 = 9
                    · replace hf := ite_t c1_9 hf
                      refine ww_tabIn h dX10_count_1 (by rw [c1_9]; decide) (by rw [c1_9]; decide) (by rw [c1_9]; rfl) 111 (by decide) ?_
                      refine ww_aload_n h dX10_count_111 rfl 0 rfl 112 rfl ?_
                      refine ww_get h inG10 rfl 0 rfl rfl 8 (by decide) w_1165 rfl dX10_count_112 115 rfl ?_
                      refine ww_bipush (v := 84) h dX10_count_115 (by decide) 117 rfl ?_
                      refine ww_iload_n h dX10_count_117 rfl 1 rfl 118 rfl ?_
                      refine ww_iadd h dX10_count_118 119 rfl ?_
                      refine ww_bipush (v := 8) h dX10_count_119 (by decide) 121 rfl ?_
                      refine ww_isub h dX10_count_121 122 rfl ?_
                      have hi := (gd_some hf).1
                      replace hf := (gd_some hf).2
                      refine ww_iald h 0 rfl 8 rfl (ix_in hi) dX10_count_122 123 rfl ?_
                      clear hi
                      obtain rfl := Option.some.inj hf
                      exact ww_iret h dX10_count_123 hQ ⟨rfl, rfl⟩
                    · replace hf := ite_f c1_9 hf
                      by_cases c1_10 : p0 = 10
                      · replace hf := ite_t c1_10 hf
                        refine ww_tabIn h dX10_count_1 (by rw [c1_10]; decide) (by rw [c1_10]; decide) (by rw [c1_10]; rfl) 111 (by decide) ?_
                        refine ww_aload_n h dX10_count_111 rfl 0 rfl 112 rfl ?_
                        refine ww_get h inG10 rfl 0 rfl rfl 8 (by decide) w_1165 rfl dX10_count_112 115 rfl ?_
                        refine ww_bipush (v := 84) h dX10_count_115 (by decide) 117 rfl ?_
                        refine ww_iload_n h dX10_count_117 rfl 1 rfl 118 rfl ?_
                        refine ww_iadd h dX10_count_118 119 rfl ?_
                        refine ww_bipush (v := 8) h dX10_count_119 (by decide) 121 rfl ?_
                        refine ww_isub h dX10_count_121 122 rfl ?_
                        have hi := (gd_some hf).1
                        replace hf := (gd_some hf).2
                        refine ww_iald h 0 rfl 8 rfl (ix_in hi) dX10_count_122 123 rfl ?_
                        clear hi
                        obtain rfl := Option.some.inj hf
                        exact ww_iret h dX10_count_123 hQ ⟨rfl, rfl⟩
                      · replace hf := ite_f c1_10 hf
                        by_cases c1_11 : p0 = 11
                        · replace hf := ite_t c1_11 hf
                          refine ww_tabIn h dX10_count_1 (by rw [c1_11]; decide) (by rw [c1_11]; decide) (by rw [c1_11]; rfl) 124 (by decide) ?_
                          refine ww_aload_n h dX10_count_124 rfl 0 rfl 125 rfl ?_
                          refine ww_iload_n h dX10_count_125 rfl 1 rfl 126 rfl ?_
                          refine ww_bipush (v := 10) h dX10_count_126 (by decide) 128 rfl ?_
                          refine ww_isub h dX10_count_128 129 rfl ?_
                          obtain ⟨r_11, hu12, hf⟩ := ob1 hf
                          refine ww_cVi h (c_X10_signsMarked l D ev cy oM aM M (p0 - (10 : Int32)) _ hu12) ⟨w_1702, w_1699, w_1701, w_86, w_111, ok_X10_signsMarked⟩ ⟨by decide, by decide⟩ ⟨by decide, by decide⟩ ⟨rfl, rfl⟩ [0] rfl 0 rfl rfl rfl rfl (Nat.le_of_ble_eq_true rfl) dX10_count_129 132 rfl (Gs' := [gX10 cy oM aM M]) rfl ?_
                          clear hu12
                          obtain rfl := Option.some.inj hf
                          exact ww_iret h dX10_count_132 hQ ⟨rfl, rfl⟩
                        · replace hf := ite_f c1_11 hf
                          by_cases c1_12 : p0 = 12
                          · replace hf := ite_t c1_12 hf
                            refine ww_tabIn h dX10_count_1 (by rw [c1_12]; decide) (by rw [c1_12]; decide) (by rw [c1_12]; rfl) 124 (by decide) ?_
                            refine ww_aload_n h dX10_count_124 rfl 0 rfl 125 rfl ?_
                            refine ww_iload_n h dX10_count_125 rfl 1 rfl 126 rfl ?_
                            refine ww_bipush (v := 10) h dX10_count_126 (by decide) 128 rfl ?_
                            refine ww_isub h dX10_count_128 129 rfl ?_
                            obtain ⟨r_13, hu14, hf⟩ := ob1 hf
                            refine ww_cVi h (c_X10_signsMarked l D ev cy oM aM M (p0 - (10 : Int32)) _ hu14) ⟨w_1702, w_1699, w_1701, w_86, w_111, ok_X10_signsMarked⟩ ⟨by decide, by decide⟩ ⟨by decide, by decide⟩ ⟨rfl, rfl⟩ [0] rfl 0 rfl rfl rfl rfl (Nat.le_of_ble_eq_true rfl) dX10_count_129 132 rfl (Gs' := [gX10 cy oM aM M]) rfl ?_
                            clear hu14
                            obtain rfl := Option.some.inj hf
                            exact ww_iret h dX10_count_132 hQ ⟨rfl, rfl⟩
                          · replace hf := ite_f c1_12 hf
                            refine ww_tabOut h dX10_count_1 (by have z0 := ne_int c1_0 0 (by decide); have z1 := ne_int c1_1 1 (by decide); have z2 := ne_int c1_2 2 (by decide); have z3 := ne_int c1_3 3 (by decide); have z4 := ne_int c1_4 4 (by decide); have z5 := ne_int c1_5 5 (by decide); have z6 := ne_int c1_6 6 (by decide); have z7 := ne_int c1_7 7 (by decide); have z8 := ne_int c1_8 8 (by decide); have z9 := ne_int c1_9 9 (by decide); have z10 := ne_int c1_10 10 (by decide); have z11 := ne_int c1_11 11 (by decide); have z12 := ne_int c1_12 12 (by decide); omega) 133 (by decide) ?_
                            refine ww_iconst (v := (-1)) h dX10_count_133 (by decide) 134 rfl ?_
                            obtain rfl := Option.some.inj hf
                            exact ww_iret h dX10_count_134 hQ ⟨rfl, rfl⟩
