theorem dX3_note_0 : decode cX3_note 0 = .ok (.aload_n 0, 1) := by decide +kernel
theorem dX3_note_1 : decode cX3_note 1 = .ok (.getfield 11, 3) := by decide +kernel
theorem dX3_note_4 : decode cX3_note 4 = .ok (.iconst 0, 1) := by decide +kernel
theorem dX3_note_5 : decode cX3_note 5 = .ok (.aaload, 1) := by decide +kernel
theorem dX3_note_6 : decode cX3_note 6 = .ok (.aload_n 0, 1) := by decide +kernel
theorem dX3_note_7 : decode cX3_note 7 = .ok (.getfield 32, 3) := by decide +kernel
theorem dX3_note_10 : decode cX3_note 10 = .ok (.iload_n 2, 1) := by decide +kernel
theorem dX3_note_11 : decode cX3_note 11 = .ok (.iastore, 1) := by decide +kernel
theorem dX3_note_12 : decode cX3_note 12 = .ok (.aload_n 0, 1) := by decide +kernel
theorem dX3_note_13 : decode cX3_note 13 = .ok (.getfield 11, 3) := by decide +kernel
theorem dX3_note_16 : decode cX3_note 16 = .ok (.iconst 1, 1) := by decide +kernel
theorem dX3_note_17 : decode cX3_note 17 = .ok (.aaload, 1) := by decide +kernel
theorem dX3_note_18 : decode cX3_note 18 = .ok (.aload_n 0, 1) := by decide +kernel
theorem dX3_note_19 : decode cX3_note 19 = .ok (.getfield 32, 3) := by decide +kernel
theorem dX3_note_22 : decode cX3_note 22 = .ok (.iload_n 3, 1) := by decide +kernel
theorem dX3_note_23 : decode cX3_note 23 = .ok (.iastore, 1) := by decide +kernel
theorem dX3_note_24 : decode cX3_note 24 = .ok (.aload_n 0, 1) := by decide +kernel
theorem dX3_note_25 : decode cX3_note 25 = .ok (.getfield 11, 3) := by decide +kernel
theorem dX3_note_28 : decode cX3_note 28 = .ok (.iconst 2, 1) := by decide +kernel
theorem dX3_note_29 : decode cX3_note 29 = .ok (.aaload, 1) := by decide +kernel
theorem dX3_note_30 : decode cX3_note 30 = .ok (.aload_n 0, 1) := by decide +kernel
theorem dX3_note_31 : decode cX3_note 31 = .ok (.getfield 32, 3) := by decide +kernel
theorem dX3_note_34 : decode cX3_note 34 = .ok (.aload_n 1, 1) := by decide +kernel
theorem dX3_note_35 : decode cX3_note 35 = .ok (.getfield 66, 3) := by decide +kernel
theorem dX3_note_38 : decode cX3_note 38 = .ok (.iastore, 1) := by decide +kernel
theorem dX3_note_39 : decode cX3_note 39 = .ok (.aload_n 0, 1) := by decide +kernel
theorem dX3_note_40 : decode cX3_note 40 = .ok (.getfield 11, 3) := by decide +kernel
theorem dX3_note_43 : decode cX3_note 43 = .ok (.iconst 3, 1) := by decide +kernel
theorem dX3_note_44 : decode cX3_note 44 = .ok (.aaload, 1) := by decide +kernel
theorem dX3_note_45 : decode cX3_note 45 = .ok (.aload_n 0, 1) := by decide +kernel
theorem dX3_note_46 : decode cX3_note 46 = .ok (.getfield 32, 3) := by decide +kernel
theorem dX3_note_49 : decode cX3_note 49 = .ok (.aload_n 1, 1) := by decide +kernel
theorem dX3_note_50 : decode cX3_note 50 = .ok (.iload_n 2, 1) := by decide +kernel
theorem dX3_note_51 : decode cX3_note 51 = .ok (.iload_n 3, 1) := by decide +kernel
theorem dX3_note_52 : decode cX3_note 52 = .ok (.invokevirtual 69, 3) := by decide +kernel
theorem dX3_note_55 : decode cX3_note 55 = .ok (.iastore, 1) := by decide +kernel
theorem dX3_note_56 : decode cX3_note 56 = .ok (.aload_n 0, 1) := by decide +kernel
theorem dX3_note_57 : decode cX3_note 57 = .ok (.getfield 11, 3) := by decide +kernel
theorem dX3_note_60 : decode cX3_note 60 = .ok (.iconst 4, 1) := by decide +kernel
theorem dX3_note_61 : decode cX3_note 61 = .ok (.aaload, 1) := by decide +kernel
theorem dX3_note_62 : decode cX3_note 62 = .ok (.aload_n 0, 1) := by decide +kernel
theorem dX3_note_63 : decode cX3_note 63 = .ok (.getfield 32, 3) := by decide +kernel
theorem dX3_note_66 : decode cX3_note 66 = .ok (.aload_n 1, 1) := by decide +kernel
theorem dX3_note_67 : decode cX3_note 67 = .ok (.iload_n 2, 1) := by decide +kernel
theorem dX3_note_68 : decode cX3_note 68 = .ok (.iload_n 3, 1) := by decide +kernel
theorem dX3_note_69 : decode cX3_note 69 = .ok (.invokevirtual 72, 3) := by decide +kernel
theorem dX3_note_72 : decode cX3_note 72 = .ok (.iastore, 1) := by decide +kernel
theorem dX3_note_73 : decode cX3_note 73 = .ok (.aload_n 0, 1) := by decide +kernel
theorem dX3_note_74 : decode cX3_note 74 = .ok (.getfield 11, 3) := by decide +kernel
theorem dX3_note_77 : decode cX3_note 77 = .ok (.iconst 5, 1) := by decide +kernel
theorem dX3_note_78 : decode cX3_note 78 = .ok (.aaload, 1) := by decide +kernel
theorem dX3_note_79 : decode cX3_note 79 = .ok (.aload_n 0, 1) := by decide +kernel
theorem dX3_note_80 : decode cX3_note 80 = .ok (.getfield 32, 3) := by decide +kernel
theorem dX3_note_83 : decode cX3_note 83 = .ok (.aload_n 1, 1) := by decide +kernel
theorem dX3_note_84 : decode cX3_note 84 = .ok (.getfield 75, 3) := by decide +kernel
theorem dX3_note_87 : decode cX3_note 87 = .ok (.ifCond .eq 7, 3) := by decide +kernel
theorem dX3_note_90 : decode cX3_note 90 = .ok (.iconst 1, 1) := by decide +kernel
theorem dX3_note_91 : decode cX3_note 91 = .ok (.goto 4, 3) := by decide +kernel
theorem dX3_note_94 : decode cX3_note 94 = .ok (.iconst 0, 1) := by decide +kernel
theorem dX3_note_95 : decode cX3_note 95 = .ok (.iastore, 1) := by decide +kernel
theorem dX3_note_96 : decode cX3_note 96 = .ok (.aload_n 0, 1) := by decide +kernel
theorem dX3_note_97 : decode cX3_note 97 = .ok (.getfield 11, 3) := by decide +kernel
theorem dX3_note_100 : decode cX3_note 100 = .ok (.bipush 6, 2) := by decide +kernel
theorem dX3_note_102 : decode cX3_note 102 = .ok (.aaload, 1) := by decide +kernel
theorem dX3_note_103 : decode cX3_note 103 = .ok (.aload_n 0, 1) := by decide +kernel
theorem dX3_note_104 : decode cX3_note 104 = .ok (.getfield 32, 3) := by decide +kernel
theorem dX3_note_107 : decode cX3_note 107 = .ok (.aload_n 1, 1) := by decide +kernel
theorem dX3_note_108 : decode cX3_note 108 = .ok (.getfield 78, 3) := by decide +kernel
theorem dX3_note_111 : decode cX3_note 111 = .ok (.iastore, 1) := by decide +kernel
theorem dX3_note_112 : decode cX3_note 112 = .ok (.aload_n 0, 1) := by decide +kernel
theorem dX3_note_113 : decode cX3_note 113 = .ok (.getfield 11, 3) := by decide +kernel
theorem dX3_note_116 : decode cX3_note 116 = .ok (.bipush 7, 2) := by decide +kernel
theorem dX3_note_118 : decode cX3_note 118 = .ok (.aaload, 1) := by decide +kernel
theorem dX3_note_119 : decode cX3_note 119 = .ok (.aload_n 0, 1) := by decide +kernel
theorem dX3_note_120 : decode cX3_note 120 = .ok (.getfield 32, 3) := by decide +kernel
theorem dX3_note_123 : decode cX3_note 123 = .ok (.aload_n 1, 1) := by decide +kernel
theorem dX3_note_124 : decode cX3_note 124 = .ok (.getfield 81, 3) := by decide +kernel
theorem dX3_note_127 : decode cX3_note 127 = .ok (.iastore, 1) := by decide +kernel
theorem dX3_note_128 : decode cX3_note 128 = .ok (.aload_n 0, 1) := by decide +kernel
theorem dX3_note_129 : decode cX3_note 129 = .ok (.getfield 11, 3) := by decide +kernel
theorem dX3_note_132 : decode cX3_note 132 = .ok (.bipush 8, 2) := by decide +kernel
theorem dX3_note_134 : decode cX3_note 134 = .ok (.aaload, 1) := by decide +kernel
theorem dX3_note_135 : decode cX3_note 135 = .ok (.aload_n 0, 1) := by decide +kernel
theorem dX3_note_136 : decode cX3_note 136 = .ok (.getfield 32, 3) := by decide +kernel
theorem dX3_note_139 : decode cX3_note 139 = .ok (.aload_n 1, 1) := by decide +kernel
theorem dX3_note_140 : decode cX3_note 140 = .ok (.getfield 84, 3) := by decide +kernel
theorem dX3_note_143 : decode cX3_note 143 = .ok (.iastore, 1) := by decide +kernel
theorem dX3_note_144 : decode cX3_note 144 = .ok (.aload_n 0, 1) := by decide +kernel
theorem dX3_note_145 : decode cX3_note 145 = .ok (.getfield 11, 3) := by decide +kernel
theorem dX3_note_148 : decode cX3_note 148 = .ok (.bipush 9, 2) := by decide +kernel
theorem dX3_note_150 : decode cX3_note 150 = .ok (.aaload, 1) := by decide +kernel
theorem dX3_note_151 : decode cX3_note 151 = .ok (.aload_n 0, 1) := by decide +kernel
theorem dX3_note_152 : decode cX3_note 152 = .ok (.getfield 32, 3) := by decide +kernel
theorem dX3_note_155 : decode cX3_note 155 = .ok (.aload_n 1, 1) := by decide +kernel
theorem dX3_note_156 : decode cX3_note 156 = .ok (.iload_n 3, 1) := by decide +kernel
theorem dX3_note_157 : decode cX3_note 157 = .ok (.invokevirtual 87, 3) := by decide +kernel
theorem dX3_note_160 : decode cX3_note 160 = .ok (.ifCond .eq 7, 3) := by decide +kernel
theorem dX3_note_163 : decode cX3_note 163 = .ok (.iconst 1, 1) := by decide +kernel
theorem dX3_note_164 : decode cX3_note 164 = .ok (.goto 4, 3) := by decide +kernel
theorem dX3_note_167 : decode cX3_note 167 = .ok (.iconst 0, 1) := by decide +kernel
theorem dX3_note_168 : decode cX3_note 168 = .ok (.iastore, 1) := by decide +kernel
theorem dX3_note_169 : decode cX3_note 169 = .ok (.aload_n 0, 1) := by decide +kernel
theorem dX3_note_170 : decode cX3_note 170 = .ok (.getfield 11, 3) := by decide +kernel
theorem dX3_note_173 : decode cX3_note 173 = .ok (.bipush 10, 2) := by decide +kernel
theorem dX3_note_175 : decode cX3_note 175 = .ok (.aaload, 1) := by decide +kernel
theorem dX3_note_176 : decode cX3_note 176 = .ok (.aload_n 0, 1) := by decide +kernel
theorem dX3_note_177 : decode cX3_note 177 = .ok (.getfield 32, 3) := by decide +kernel
theorem dX3_note_180 : decode cX3_note 180 = .ok (.aload_n 1, 1) := by decide +kernel
theorem dX3_note_181 : decode cX3_note 181 = .ok (.getfield 91, 3) := by decide +kernel
theorem dX3_note_184 : decode cX3_note 184 = .ok (.ifCond .eq 7, 3) := by decide +kernel
theorem dX3_note_187 : decode cX3_note 187 = .ok (.iconst 1, 1) := by decide +kernel
theorem dX3_note_188 : decode cX3_note 188 = .ok (.goto 4, 3) := by decide +kernel
theorem dX3_note_191 : decode cX3_note 191 = .ok (.iconst 0, 1) := by decide +kernel
theorem dX3_note_192 : decode cX3_note 192 = .ok (.iastore, 1) := by decide +kernel
theorem dX3_note_193 : decode cX3_note 193 = .ok (.return_, 1) := by decide +kernel
theorem ok_X3_note : okY RX3 yX3_note 3 := ⟨rfl, by decide, by decide, by decide +kernel⟩
def j_X3_note_168_29 (R : OV) (Y_24 : OV) (t_28 : Int32) : Option (OV) := gd (ix (iv Y_24 6) 40) (bnd (sG Y_24 0 (9 : Int32).toNatClampNeg (iv Y_24 6).toNatClampNeg t_28) (fun Y_30 => gd (ix (10 : Int32) 11) ((if (iv R 12) = 0 then gd (ix (iv Y_30 6) 40) (bnd (sG Y_30 0 (10 : Int32).toNatClampNeg (iv Y_30 6).toNatClampNeg (0 : Int32)) (fun Y_32 => some Y_32)) else gd (ix (iv Y_30 6) 40) (bnd (sG Y_30 0 (10 : Int32).toNatClampNeg (iv Y_30 6).toNatClampNeg (1 : Int32)) (fun Y_33 => some Y_33))))))
def j_X3_note_95_17 (R : OV) (Y_14 : OV) (p2 : Int32) (t_16 : Int32) : Option (OV) := gd (ix (iv Y_14 6) 40) (bnd (sG Y_14 0 (5 : Int32).toNatClampNeg (iv Y_14 6).toNatClampNeg t_16) (fun Y_18 => gd (ix (6 : Int32) 11) (gd (ix (iv Y_18 6) 40) (bnd (sG Y_18 0 (6 : Int32).toNatClampNeg (iv Y_18 6).toNatClampNeg (iv R 14)) (fun Y_20 => gd (ix (7 : Int32) 11) (gd (ix (iv Y_20 6) 40) (bnd (sG Y_20 0 (7 : Int32).toNatClampNeg (iv Y_20 6).toNatClampNeg (iv R 15)) (fun Y_22 => gd (ix (8 : Int32) 11) (gd (ix (iv Y_22 6) 40) (bnd (sG Y_22 0 (8 : Int32).toNatClampNeg (iv Y_22 6).toNatClampNeg (iv R 16)) (fun Y_24 => gd (ix (9 : Int32) 11) ((f_X7_isLegal R p2).bind (un1 (fun r_26 => (if r_26 = 0 then j_X3_note_168_29 R Y_24 (0 : Int32) else j_X3_note_168_29 R Y_24 (1 : Int32))))))))))))))))
def f_X3_note (Y : OV) (R : OV) (oP : Nat) (P : OV) (p1 : Int32) (p2 : Int32) : Option (OV) := gd (ix (0 : Int32) 11) (gd (ix (iv Y 6) 40) (bnd (sG Y 0 (0 : Int32).toNatClampNeg (iv Y 6).toNatClampNeg p1) (fun Y_2 => gd (ix (1 : Int32) 11) (gd (ix (iv Y_2 6) 40) (bnd (sG Y_2 0 (1 : Int32).toNatClampNeg (iv Y_2 6).toNatClampNeg p2) (fun Y_4 => gd (ix (2 : Int32) 11) (gd (ix (iv Y_4 6) 40) (bnd (sG Y_4 0 (2 : Int32).toNatClampNeg (iv Y_4 6).toNatClampNeg (iv R 17)) (fun Y_6 => gd (ix (3 : Int32) 11) ((f_X7_naturalWidth R p1 p2).bind (un1 (fun r_8 => gd (ix (iv Y_6 6) 40) (bnd (sG Y_6 0 (3 : Int32).toNatClampNeg (iv Y_6 6).toNatClampNeg r_8) (fun Y_10 => gd (ix (4 : Int32) 11) ((f_X7_excess R oP P p1 p2).bind (un1 (fun r_12 => gd (ix (iv Y_10 6) 40) (bnd (sG Y_10 0 (4 : Int32).toNatClampNeg (iv Y_10 6).toNatClampNeg r_12) (fun Y_14 => gd (ix (5 : Int32) 11) ((if (iv R 11) = 0 then j_X3_note_95_17 R Y_14 p2 (0 : Int32) else j_X3_note_95_17 R Y_14 p2 (1 : Int32))))))))))))))))))))))
def r_X3_note : Room := { frames := 2, cells := 0, slots := 0, locals := 44 }
set_option maxHeartbeats 4000000 in
set_option maxRecDepth 100000 in
theorem c_X3_note (l : Launch) (D : va_G) (ev : EvT) (cy : Nat → ClassId) (oY : Nat) (aY : Nat → Nat) (Y : OV) (oR : Nat) (aR : Nat → Nat) (R : OV) (oP : Nat) (aP : Nat → Nat) (P : OV) (p1 : Int32) (p2 : Int32) (o : OV) (hf : f_X3_note Y R oP P p1 p2 = some o) : Fn l yX3_note cX3_note 4 none r_X3_note D ev cy [.ref oY, .ref oR, .int p1, .int p2] [gX3 cy oY aY Y, gX7 cy oR aR R, gX4 cy oP aP P] (fun v G => v = none ∧ G = [gX3 cy oY aY o, gX7 cy oR aR R, gX4 cy oP aP P]) := by
  refine Fn_of (by decide) (Nat.le_of_ble_eq_true rfl) (fun X A Q h hQ _ => ?_)
  unfold f_X3_note at hf
  show ww X D A 4 Q 0 0 0 [(0, .ref oY), (1, .ref oR), (2, .int p1), (3, .int p2)] [] [gX3 cy oY aY Y, gX7 cy oR aR R, gX4 cy oP aP P]
  refine ww_aload_n h dX3_note_0 rfl 0 rfl 1 rfl ?_
  refine ww_get h inG3 rfl 0 rfl rfl 0 (by decide) w_361 rfl dX3_note_1 4 rfl ?_
  refine ww_iconst (v := 0) h dX3_note_4 (by decide) 5 rfl ?_
  have hi := (gd_some hf).1
  replace hf := (gd_some hf).2
  have hj1 := ix_lt hi
  refine ww_aaldR h 0 rfl 1 rfl 4 rfl rfl (ix_in hi) dX3_note_5 6 rfl ?_
  clear hi
  refine ww_aload_n h dX3_note_6 rfl 0 rfl 7 rfl ?_
  refine ww_get h inG3 rfl 0 rfl rfl 6 (by decide) w_370 rfl dX3_note_7 10 rfl ?_
  refine ww_iload_n h dX3_note_10 rfl 2 rfl 11 rfl ?_
  have hi := (gd_some hf).1
  replace hf := (gd_some hf).2
  refine ww_iastR h 0 rfl (7 + (0 : Int32).toNatClampNeg) (gX3_row0 hj1) (ix_in hi) (gX3_set0 hj1) (Gs' := [gX3 cy oY aY (sG Y 0 (0 : Int32).toNatClampNeg (iv Y 6).toNatClampNeg p1), gX7 cy oR aR R, gX4 cy oP aP P]) rfl dX3_note_11 12 rfl ?_
  clear hi
  refine ww_nm (fun z => [gX3 cy oY aY z, gX7 cy oR aR R, gX4 cy oP aP P]) (sG Y 0 (0 : Int32).toNatClampNeg (iv Y 6).toNatClampNeg p1) (fun Y_2 e => ?_)
  replace hf := bnd_at e hf
  clear e
  refine ww_aload_n h dX3_note_12 rfl 0 rfl 13 rfl ?_
  refine ww_get h inG3 rfl 0 rfl rfl 0 (by decide) w_361 rfl dX3_note_13 16 rfl ?_
  refine ww_iconst (v := 1) h dX3_note_16 (by decide) 17 rfl ?_
  have hi := (gd_some hf).1
  replace hf := (gd_some hf).2
  have hj3 := ix_lt hi
  refine ww_aaldR h 0 rfl 1 rfl 4 rfl rfl (ix_in hi) dX3_note_17 18 rfl ?_
  clear hi
  refine ww_aload_n h dX3_note_18 rfl 0 rfl 19 rfl ?_
  refine ww_get h inG3 rfl 0 rfl rfl 6 (by decide) w_370 rfl dX3_note_19 22 rfl ?_
  refine ww_iload_n h dX3_note_22 rfl 3 rfl 23 rfl ?_
  have hi := (gd_some hf).1
  replace hf := (gd_some hf).2
  refine ww_iastR h 0 rfl (7 + (1 : Int32).toNatClampNeg) (gX3_row0 hj3) (ix_in hi) (gX3_set0 hj3) (Gs' := [gX3 cy oY aY (sG Y_2 0 (1 : Int32).toNatClampNeg (iv Y_2 6).toNatClampNeg p2), gX7 cy oR aR R, gX4 cy oP aP P]) rfl dX3_note_23 24 rfl ?_
  clear hi
  refine ww_nm (fun z => [gX3 cy oY aY z, gX7 cy oR aR R, gX4 cy oP aP P]) (sG Y_2 0 (1 : Int32).toNatClampNeg (iv Y_2 6).toNatClampNeg p2) (fun Y_4 e => ?_)
  replace hf := bnd_at e hf
  clear e
  refine ww_aload_n h dX3_note_24 rfl 0 rfl 25 rfl ?_
  refine ww_get h inG3 rfl 0 rfl rfl 0 (by decide) w_361 rfl dX3_note_25 28 rfl ?_
  refine ww_iconst (v := 2) h dX3_note_28 (by decide) 29 rfl ?_
  have hi := (gd_some hf).1
  replace hf := (gd_some hf).2
  have hj5 := ix_lt hi
  refine ww_aaldR h 0 rfl 1 rfl 4 rfl rfl (ix_in hi) dX3_note_29 30 rfl ?_
  clear hi
  refine ww_aload_n h dX3_note_30 rfl 0 rfl 31 rfl ?_
  refine ww_get h inG3 rfl 0 rfl rfl 6 (by decide) w_370 rfl dX3_note_31 34 rfl ?_
  refine ww_aload_n h dX3_note_34 rfl 1 rfl 35 rfl ?_
  refine ww_get h inG7 rfl 1 rfl rfl 17 (by decide) w_292 rfl dX3_note_35 38 rfl ?_
  have hi := (gd_some hf).1
  replace hf := (gd_some hf).2
  refine ww_iastR h 0 rfl (7 + (2 : Int32).toNatClampNeg) (gX3_row0 hj5) (ix_in hi) (gX3_set0 hj5) (Gs' := [gX3 cy oY aY (sG Y_4 0 (2 : Int32).toNatClampNeg (iv Y_4 6).toNatClampNeg (iv R 17)), gX7 cy oR aR R, gX4 cy oP aP P]) rfl dX3_note_38 39 rfl ?_
  clear hi
  refine ww_nm (fun z => [gX3 cy oY aY z, gX7 cy oR aR R, gX4 cy oP aP P]) (sG Y_4 0 (2 : Int32).toNatClampNeg (iv Y_4 6).toNatClampNeg (iv R 17)) (fun Y_6 e => ?_)
  replace hf := bnd_at e hf
  clear e
  refine ww_aload_n h dX3_note_39 rfl 0 rfl 40 rfl ?_
  refine ww_get h inG3 rfl 0 rfl rfl 0 (by decide) w_361 rfl dX3_note_40 43 rfl ?_
  refine ww_iconst (v := 3) h dX3_note_43 (by decide) 44 rfl ?_
  have hi := (gd_some hf).1
  replace hf := (gd_some hf).2
  have hj7 := ix_lt hi
  refine ww_aaldR h 0 rfl 1 rfl 4 rfl rfl (ix_in hi) dX3_note_44 45 rfl ?_
  clear hi
  refine ww_aload_n h dX3_note_45 rfl 0 rfl 46 rfl ?_
  refine ww_get h inG3 rfl 0 rfl rfl 6 (by decide) w_370 rfl dX3_note_46 49 rfl ?_
  refine ww_aload_n h dX3_note_49 rfl 1 rfl 50 rfl ?_
  refine ww_iload_n h dX3_note_50 rfl 2 rfl 51 rfl ?_
  refine ww_iload_n h dX3_note_51 rfl 3 rfl 52 rfl ?_
  obtain ⟨r_8, hu9, hf⟩ := ob1 hf
  refine ww_cVi h (c_X7_naturalWidth l D ev cy oR aR R p1 p2 _ hu9) ⟨w_827, w_904, w_825, w_826, w_107, ok_X7_naturalWidth⟩ ⟨by decide, by decide⟩ ⟨by decide, by decide⟩ ⟨rfl, rfl⟩ [1] rfl 0 rfl rfl rfl rfl (Nat.le_of_ble_eq_true rfl) dX3_note_52 55 rfl (Gs' := [gX7 cy oR aR R, gX3 cy oY aY Y_6, gX4 cy oP aP P]) rfl ?_
  clear hu9
  have hi := (gd_some hf).1
  replace hf := (gd_some hf).2
  refine ww_iastR h 1 rfl (7 + (3 : Int32).toNatClampNeg) (gX3_row0 hj7) (ix_in hi) (gX3_set0 hj7) (Gs' := [gX7 cy oR aR R, gX3 cy oY aY (sG Y_6 0 (3 : Int32).toNatClampNeg (iv Y_6 6).toNatClampNeg r_8), gX4 cy oP aP P]) rfl dX3_note_55 56 rfl ?_
  clear hi
  refine ww_nm (fun z => [gX7 cy oR aR R, gX3 cy oY aY z, gX4 cy oP aP P]) (sG Y_6 0 (3 : Int32).toNatClampNeg (iv Y_6 6).toNatClampNeg r_8) (fun Y_10 e => ?_)
  replace hf := bnd_at e hf
  clear e
  refine ww_aload_n h dX3_note_56 rfl 0 rfl 57 rfl ?_
  refine ww_get h inG3 rfl 1 rfl rfl 0 (by decide) w_361 rfl dX3_note_57 60 rfl ?_
  refine ww_iconst (v := 4) h dX3_note_60 (by decide) 61 rfl ?_
  have hi := (gd_some hf).1
  replace hf := (gd_some hf).2
  have hj11 := ix_lt hi
  refine ww_aaldR h 1 rfl 1 rfl 4 rfl rfl (ix_in hi) dX3_note_61 62 rfl ?_
  clear hi
  refine ww_aload_n h dX3_note_62 rfl 0 rfl 63 rfl ?_
  refine ww_get h inG3 rfl 1 rfl rfl 6 (by decide) w_370 rfl dX3_note_63 66 rfl ?_
  refine ww_aload_n h dX3_note_66 rfl 1 rfl 67 rfl ?_
  refine ww_iload_n h dX3_note_67 rfl 2 rfl 68 rfl ?_
  refine ww_iload_n h dX3_note_68 rfl 3 rfl 69 rfl ?_
  obtain ⟨r_12, hu13, hf⟩ := ob1 hf
  refine ww_cVi h (c_X7_excess l D ev cy oR aR R oP aP P p1 p2 _ hu13) ⟨w_908, w_905, w_906, w_907, w_107, ok_X7_excess⟩ ⟨by decide, by decide⟩ ⟨by decide, by decide⟩ ⟨rfl, rfl⟩ [0, 1] rfl 0 rfl rfl rfl rfl (Nat.le_of_ble_eq_true rfl) dX3_note_69 72 rfl (Gs' := [gX7 cy oR aR R, gX4 cy oP aP P, gX3 cy oY aY Y_10]) rfl ?_
  clear hu13
  have hi := (gd_some hf).1
  replace hf := (gd_some hf).2
  refine ww_iastR h 2 rfl (7 + (4 : Int32).toNatClampNeg) (gX3_row0 hj11) (ix_in hi) (gX3_set0 hj11) (Gs' := [gX7 cy oR aR R, gX4 cy oP aP P, gX3 cy oY aY (sG Y_10 0 (4 : Int32).toNatClampNeg (iv Y_10 6).toNatClampNeg r_12)]) rfl dX3_note_72 73 rfl ?_
  clear hi
  refine ww_nm (fun z => [gX7 cy oR aR R, gX4 cy oP aP P, gX3 cy oY aY z]) (sG Y_10 0 (4 : Int32).toNatClampNeg (iv Y_10 6).toNatClampNeg r_12) (fun Y_14 e => ?_)
  replace hf := bnd_at e hf
  clear e
  refine ww_aload_n h dX3_note_73 rfl 0 rfl 74 rfl ?_
  refine ww_get h inG3 rfl 2 rfl rfl 0 (by decide) w_361 rfl dX3_note_74 77 rfl ?_
  refine ww_iconst (v := 5) h dX3_note_77 (by decide) 78 rfl ?_
  have hi := (gd_some hf).1
  replace hf := (gd_some hf).2
  have hj15 := ix_lt hi
  refine ww_aaldR h 2 rfl 1 rfl 4 rfl rfl (ix_in hi) dX3_note_78 79 rfl ?_
  clear hi
  refine ww_aload_n h dX3_note_79 rfl 0 rfl 80 rfl ?_
  refine ww_get h inG3 rfl 2 rfl rfl 6 (by decide) w_370 rfl dX3_note_80 83 rfl ?_
  refine ww_aload_n h dX3_note_83 rfl 1 rfl 84 rfl ?_
  refine ww_get h inG7 rfl 0 rfl rfl 11 (by decide) w_276 rfl dX3_note_84 87 rfl ?_
  have hJ95_17 : ∀ (t_16 : Int32), j_X3_note_95_17 R Y_14 p2 t_16 = some o → ww X D A 4 Q 0 0 95 [(0, .ref oY), (1, .ref oR), (3, .int p2)] [.int t_16, .int (iv Y_14 6), .ref (aY (100 + (5 : Int32).toNatClampNeg))] [gX3 cy oY aY Y_14, gX7 cy oR aR R, gX4 cy oP aP P] := by
    intro t_16 hf
    unfold j_X3_note_95_17 at hf
    have hi := (gd_some hf).1
    replace hf := (gd_some hf).2
    refine ww_iastR h 0 rfl (7 + (5 : Int32).toNatClampNeg) (gX3_row0 hj15) (ix_in hi) (gX3_set0 hj15) (Gs' := [gX3 cy oY aY (sG Y_14 0 (5 : Int32).toNatClampNeg (iv Y_14 6).toNatClampNeg t_16), gX7 cy oR aR R, gX4 cy oP aP P]) rfl dX3_note_95 96 rfl ?_
    clear hi
    refine ww_nm (fun z => [gX3 cy oY aY z, gX7 cy oR aR R, gX4 cy oP aP P]) (sG Y_14 0 (5 : Int32).toNatClampNeg (iv Y_14 6).toNatClampNeg t_16) (fun Y_18 e => ?_)
    replace hf := bnd_at e hf
    clear e
    refine ww_aload_n h dX3_note_96 rfl 0 rfl 97 rfl ?_
    refine ww_get h inG3 rfl 0 rfl rfl 0 (by decide) w_361 rfl dX3_note_97 100 rfl ?_
    refine ww_bipush (v := 6) h dX3_note_100 (by decide) 102 rfl ?_
    have hi := (gd_some hf).1
    replace hf := (gd_some hf).2
    have hj19 := ix_lt hi
    refine ww_aaldR h 0 rfl 1 rfl 4 rfl rfl (ix_in hi) dX3_note_102 103 rfl ?_
    clear hi
    refine ww_aload_n h dX3_note_103 rfl 0 rfl 104 rfl ?_
    refine ww_get h inG3 rfl 0 rfl rfl 6 (by decide) w_370 rfl dX3_note_104 107 rfl ?_
    refine ww_aload_n h dX3_note_107 rfl 1 rfl 108 rfl ?_
    refine ww_get h inG7 rfl 1 rfl rfl 14 (by decide) w_286 rfl dX3_note_108 111 rfl ?_
    have hi := (gd_some hf).1
    replace hf := (gd_some hf).2
    refine ww_iastR h 0 rfl (7 + (6 : Int32).toNatClampNeg) (gX3_row0 hj19) (ix_in hi) (gX3_set0 hj19) (Gs' := [gX3 cy oY aY (sG Y_18 0 (6 : Int32).toNatClampNeg (iv Y_18 6).toNatClampNeg (iv R 14)), gX7 cy oR aR R, gX4 cy oP aP P]) rfl dX3_note_111 112 rfl ?_
    clear hi
    refine ww_nm (fun z => [gX3 cy oY aY z, gX7 cy oR aR R, gX4 cy oP aP P]) (sG Y_18 0 (6 : Int32).toNatClampNeg (iv Y_18 6).toNatClampNeg (iv R 14)) (fun Y_20 e => ?_)
    replace hf := bnd_at e hf
    clear e
    refine ww_aload_n h dX3_note_112 rfl 0 rfl 113 rfl ?_
    refine ww_get h inG3 rfl 0 rfl rfl 0 (by decide) w_361 rfl dX3_note_113 116 rfl ?_
    refine ww_bipush (v := 7) h dX3_note_116 (by decide) 118 rfl ?_
    have hi := (gd_some hf).1
    replace hf := (gd_some hf).2
    have hj21 := ix_lt hi
    refine ww_aaldR h 0 rfl 1 rfl 4 rfl rfl (ix_in hi) dX3_note_118 119 rfl ?_
    clear hi
    refine ww_aload_n h dX3_note_119 rfl 0 rfl 120 rfl ?_
    refine ww_get h inG3 rfl 0 rfl rfl 6 (by decide) w_370 rfl dX3_note_120 123 rfl ?_
    refine ww_aload_n h dX3_note_123 rfl 1 rfl 124 rfl ?_
    refine ww_get h inG7 rfl 1 rfl rfl 15 (by decide) w_288 rfl dX3_note_124 127 rfl ?_
    have hi := (gd_some hf).1
    replace hf := (gd_some hf).2
    refine ww_iastR h 0 rfl (7 + (7 : Int32).toNatClampNeg) (gX3_row0 hj21) (ix_in hi) (gX3_set0 hj21) (Gs' := [gX3 cy oY aY (sG Y_20 0 (7 : Int32).toNatClampNeg (iv Y_20 6).toNatClampNeg (iv R 15)), gX7 cy oR aR R, gX4 cy oP aP P]) rfl dX3_note_127 128 rfl ?_
    clear hi
    refine ww_nm (fun z => [gX3 cy oY aY z, gX7 cy oR aR R, gX4 cy oP aP P]) (sG Y_20 0 (7 : Int32).toNatClampNeg (iv Y_20 6).toNatClampNeg (iv R 15)) (fun Y_22 e => ?_)
    replace hf := bnd_at e hf
    clear e
    refine ww_aload_n h dX3_note_128 rfl 0 rfl 129 rfl ?_
    refine ww_get h inG3 rfl 0 rfl rfl 0 (by decide) w_361 rfl dX3_note_129 132 rfl ?_
    refine ww_bipush (v := 8) h dX3_note_132 (by decide) 134 rfl ?_
    have hi := (gd_some hf).1
    replace hf := (gd_some hf).2
    have hj23 := ix_lt hi
    refine ww_aaldR h 0 rfl 1 rfl 4 rfl rfl (ix_in hi) dX3_note_134 135 rfl ?_
    clear hi
    refine ww_aload_n h dX3_note_135 rfl 0 rfl 136 rfl ?_
    refine ww_get h inG3 rfl 0 rfl rfl 6 (by decide) w_370 rfl dX3_note_136 139 rfl ?_
    refine ww_aload_n h dX3_note_139 rfl 1 rfl 140 rfl ?_
    refine ww_get h inG7 rfl 1 rfl rfl 16 (by decide) w_290 rfl dX3_note_140 143 rfl ?_
    have hi := (gd_some hf).1
    replace hf := (gd_some hf).2
    refine ww_iastR h 0 rfl (7 + (8 : Int32).toNatClampNeg) (gX3_row0 hj23) (ix_in hi) (gX3_set0 hj23) (Gs' := [gX3 cy oY aY (sG Y_22 0 (8 : Int32).toNatClampNeg (iv Y_22 6).toNatClampNeg (iv R 16)), gX7 cy oR aR R, gX4 cy oP aP P]) rfl dX3_note_143 144 rfl ?_
    clear hi
    refine ww_nm (fun z => [gX3 cy oY aY z, gX7 cy oR aR R, gX4 cy oP aP P]) (sG Y_22 0 (8 : Int32).toNatClampNeg (iv Y_22 6).toNatClampNeg (iv R 16)) (fun Y_24 e => ?_)
    replace hf := bnd_at e hf
    clear e
    refine ww_aload_n h dX3_note_144 rfl 0 rfl 145 rfl ?_
    refine ww_get h inG3 rfl 0 rfl rfl 0 (by decide) w_361 rfl dX3_note_145 148 rfl ?_
    refine ww_bipush (v := 9) h dX3_note_148 (by decide) 150 rfl ?_
    have hi := (gd_some hf).1
    replace hf := (gd_some hf).2
    have hj25 := ix_lt hi
    refine ww_aaldR h 0 rfl 1 rfl 4 rfl rfl (ix_in hi) dX3_note_150 151 rfl ?_
    clear hi
    refine ww_aload_n h dX3_note_151 rfl 0 rfl 152 rfl ?_
    refine ww_get h inG3 rfl 0 rfl rfl 6 (by decide) w_370 rfl dX3_note_152 155 rfl ?_
    refine ww_aload_n h dX3_note_155 rfl 1 rfl 156 rfl ?_
    refine ww_iload_n h dX3_note_156 rfl 2 rfl 157 rfl ?_
    obtain ⟨r_26, hu27, hf⟩ := ob1 hf
    refine ww_cVi h (c_X7_isLegal l D ev cy oR aR R p2 _ hu27) ⟨w_892, w_910, w_890, w_891, w_107, ok_X7_isLegal⟩ ⟨by decide, by decide⟩ ⟨by decide, by decide⟩ ⟨rfl, rfl⟩ [1] rfl 0 rfl rfl rfl rfl (Nat.le_of_ble_eq_true rfl) dX3_note_157 160 rfl (Gs' := [gX7 cy oR aR R, gX3 cy oY aY Y_24, gX4 cy oP aP P]) rfl ?_
    clear hu27
    have hJ168_29 : ∀ (t_28 : Int32), j_X3_note_168_29 R Y_24 t_28 = some o → ww X D A 4 Q 0 0 168 [(0, .ref oY), (1, .ref oR)] [.int t_28, .int (iv Y_24 6), .ref (aY (100 + (9 : Int32).toNatClampNeg))] [gX3 cy oY aY Y_24, gX7 cy oR aR R, gX4 cy oP aP P] := by
      intro t_28 hf
      unfold j_X3_note_168_29 at hf
      have hi := (gd_some hf).1
      replace hf := (gd_some hf).2
      refine ww_iastR h 0 rfl (7 + (9 : Int32).toNatClampNeg) (gX3_row0 hj25) (ix_in hi) (gX3_set0 hj25) (Gs' := [gX3 cy oY aY (sG Y_24 0 (9 : Int32).toNatClampNeg (iv Y_24 6).toNatClampNeg t_28), gX7 cy oR aR R, gX4 cy oP aP P]) rfl dX3_note_168 169 rfl ?_
      clear hi
      refine ww_nm (fun z => [gX3 cy oY aY z, gX7 cy oR aR R, gX4 cy oP aP P]) (sG Y_24 0 (9 : Int32).toNatClampNeg (iv Y_24 6).toNatClampNeg t_28) (fun Y_30 e => ?_)
      replace hf := bnd_at e hf
      clear e
      refine ww_aload_n h dX3_note_169 rfl 0 rfl 170 rfl ?_
      refine ww_get h inG3 rfl 0 rfl rfl 0 (by decide) w_361 rfl dX3_note_170 173 rfl ?_
      refine ww_bipush (v := 10) h dX3_note_173 (by decide) 175 rfl ?_
      have hi := (gd_some hf).1
      replace hf := (gd_some hf).2
      have hj31 := ix_lt hi
      refine ww_aaldR h 0 rfl 1 rfl 4 rfl rfl (ix_in hi) dX3_note_175 176 rfl ?_
      clear hi
      refine ww_aload_n h dX3_note_176 rfl 0 rfl 177 rfl ?_
      refine ww_get h inG3 rfl 0 rfl rfl 6 (by decide) w_370 rfl dX3_note_177 180 rfl ?_
      refine ww_aload_n h dX3_note_180 rfl 1 rfl 181 rfl ?_
      refine ww_get h inG7 rfl 1 rfl rfl 12 (by decide) w_280 rfl dX3_note_181 184 rfl ?_
      refine ww_if_eq h dX3_note_184 191 (by decide) 187 rfl (fun c => ?_) (fun c => ?_)
      · replace hf := ite_t c hf
        refine ww_iconst (v := 0) h dX3_note_191 (by decide) 192 rfl ?_
        have hi := (gd_some hf).1
        replace hf := (gd_some hf).2
        refine ww_iastR h 0 rfl (7 + (10 : Int32).toNatClampNeg) (gX3_row0 hj31) (ix_in hi) (gX3_set0 hj31) (Gs' := [gX3 cy oY aY (sG Y_30 0 (10 : Int32).toNatClampNeg (iv Y_30 6).toNatClampNeg (0 : Int32)), gX7 cy oR aR R, gX4 cy oP aP P]) rfl dX3_note_192 193 rfl ?_
        clear hi
        refine ww_nm (fun z => [gX3 cy oY aY z, gX7 cy oR aR R, gX4 cy oP aP P]) (sG Y_30 0 (10 : Int32).toNatClampNeg (iv Y_30 6).toNatClampNeg (0 : Int32)) (fun Y_32 e => ?_)
        replace hf := bnd_at e hf
        clear e
        obtain rfl := Option.some.inj hf
        exact ww_vret h dX3_note_193 hQ ⟨rfl, rfl⟩
      · replace hf := ite_f c hf
        refine ww_iconst (v := 1) h dX3_note_187 (by decide) 188 rfl ?_
        refine ww_goto h dX3_note_188 192 (by decide) ?_
        have hi := (gd_some hf).1
        replace hf := (gd_some hf).2
        refine ww_iastR h 0 rfl (7 + (10 : Int32).toNatClampNeg) (gX3_row0 hj31) (ix_in hi) (gX3_set0 hj31) (Gs' := [gX3 cy oY aY (sG Y_30 0 (10 : Int32).toNatClampNeg (iv Y_30 6).toNatClampNeg (1 : Int32)), gX7 cy oR aR R, gX4 cy oP aP P]) rfl dX3_note_192 193 rfl ?_
        clear hi
        refine ww_nm (fun z => [gX3 cy oY aY z, gX7 cy oR aR R, gX4 cy oP aP P]) (sG Y_30 0 (10 : Int32).toNatClampNeg (iv Y_30 6).toNatClampNeg (1 : Int32)) (fun Y_33 e => ?_)
        replace hf := bnd_at e hf
        clear e
        obtain rfl := Option.some.inj hf
        exact ww_vret h dX3_note_193 hQ ⟨rfl, rfl⟩
    refine ww_if_eq h dX3_note_160 167 (by decide) 163 rfl (fun c => ?_) (fun c => ?_)
    · replace hf := ite_t c hf
      refine ww_iconst (v := 0) h dX3_note_167 (by decide) 168 rfl ?_
      refine ww_lo [0, 1] (lo' := [(0, .ref oY), (1, .ref oR)]) rfl ?_
      refine ww_perm [1, 0, 0] (Gs' := [gX3 cy oY aY Y_24, gX7 cy oR aR R, gX4 cy oP aP P]) rfl ?_
      exact hJ168_29 (0 : Int32) hf
    · replace hf := ite_f c hf
      refine ww_iconst (v := 1) h dX3_note_163 (by decide) 164 rfl ?_
      refine ww_goto h dX3_note_164 168 (by decide) ?_
      refine ww_lo [0, 1] (lo' := [(0, .ref oY), (1, .ref oR)]) rfl ?_
      refine ww_perm [1, 0, 0] (Gs' := [gX3 cy oY aY Y_24, gX7 cy oR aR R, gX4 cy oP aP P]) rfl ?_
      exact hJ168_29 (1 : Int32) hf
  refine ww_if_eq h dX3_note_87 94 (by decide) 90 rfl (fun c => ?_) (fun c => ?_)
  · replace hf := ite_t c hf
    refine ww_iconst (v := 0) h dX3_note_94 (by decide) 95 rfl ?_
    refine ww_lo [0, 1, 3] (lo' := [(0, .ref oY), (1, .ref oR), (3, .int p2)]) rfl ?_
    refine ww_perm [2, 0, 0] (Gs' := [gX3 cy oY aY Y_14, gX7 cy oR aR R, gX4 cy oP aP P]) rfl ?_
    exact hJ95_17 (0 : Int32) hf
  · replace hf := ite_f c hf
    refine ww_iconst (v := 1) h dX3_note_90 (by decide) 91 rfl ?_
    refine ww_goto h dX3_note_91 95 (by decide) ?_
    refine ww_lo [0, 1, 3] (lo' := [(0, .ref oY), (1, .ref oR), (3, .int p2)]) rfl ?_
    refine ww_perm [2, 0, 0] (Gs' := [gX3 cy oY aY Y_14, gX7 cy oR aR R, gX4 cy oP aP P]) rfl ?_
    exact hJ95_17 (1 : Int32) hf
theorem dX3_sumOf_0 : decode cX3_sumOf 0 = .ok (.iconst 0, 1) := by decide +kernel
theorem dX3_sumOf_1 : decode cX3_sumOf 1 = .ok (.istore_n 2, 1) := by decide +kernel
theorem dX3_sumOf_2 : decode cX3_sumOf 2 = .ok (.iconst 0, 1) := by decide +kernel
theorem dX3_sumOf_3 : decode cX3_sumOf 3 = .ok (.istore_n 3, 1) := by decide +kernel
theorem dX3_sumOf_4 : decode cX3_sumOf 4 = .ok (.iload_n 3, 1) := by decide +kernel
theorem dX3_sumOf_5 : decode cX3_sumOf 5 = .ok (.aload_n 0, 1) := by decide +kernel
theorem dX3_sumOf_6 : decode cX3_sumOf 6 = .ok (.getfield 32, 3) := by decide +kernel
theorem dX3_sumOf_9 : decode cX3_sumOf 9 = .ok (.if_icmp .ge 20, 3) := by decide +kernel
theorem dX3_sumOf_12 : decode cX3_sumOf 12 = .ok (.iload_n 2, 1) := by decide +kernel
theorem dX3_sumOf_13 : decode cX3_sumOf 13 = .ok (.aload_n 0, 1) := by decide +kernel
theorem dX3_sumOf_14 : decode cX3_sumOf 14 = .ok (.getfield 11, 3) := by decide +kernel
theorem dX3_sumOf_17 : decode cX3_sumOf 17 = .ok (.iload_n 1, 1) := by decide +kernel
theorem dX3_sumOf_18 : decode cX3_sumOf 18 = .ok (.aaload, 1) := by decide +kernel
theorem dX3_sumOf_19 : decode cX3_sumOf 19 = .ok (.iload_n 3, 1) := by decide +kernel
theorem dX3_sumOf_20 : decode cX3_sumOf 20 = .ok (.iaload, 1) := by decide +kernel
theorem dX3_sumOf_21 : decode cX3_sumOf 21 = .ok (.iadd, 1) := by decide +kernel
theorem dX3_sumOf_22 : decode cX3_sumOf 22 = .ok (.istore_n 2, 1) := by decide +kernel
theorem dX3_sumOf_23 : decode cX3_sumOf 23 = .ok (.iinc 3 1, 3) := by decide +kernel
theorem dX3_sumOf_26 : decode cX3_sumOf 26 = .ok (.goto (-22), 3) := by decide +kernel
theorem dX3_sumOf_29 : decode cX3_sumOf 29 = .ok (.iload_n 2, 1) := by decide +kernel
theorem dX3_sumOf_30 : decode cX3_sumOf 30 = .ok (.ireturn, 1) := by decide +kernel
theorem ok_X3_sumOf : okY RX3 yX3_sumOf 1 := ⟨rfl, by decide, by decide, by decide +kernel⟩
def s_X3_sumOf_4_3 (Y : OV) (p0 : Int32) : (Int32 × Int32) → Option ((Int32 × Int32) ⊕ (Int32)) := un2 (fun v2_4 v3_5 => (if (iv Y 6) ≤ v3_5 then some (.inr v2_4) else gd (ix p0 11) (gd (ix v3_5 40) (bnd (v2_4 + (gr Y 0 p0.toNatClampNeg v3_5.toNatClampNeg)) (fun v2_7 => bnd (v3_5 + 1) (fun v3_8 => some (.inl (v2_7, v3_8))))))))
def f_X3_sumOf (Y : OV) (p0 : Int32) : Option (Int32) := bnd (0 : Int32) (fun v2_1 => bnd (0 : Int32) (fun v3_2 => ((lp (s_X3_sumOf_4_3 Y p0) 5000 (v2_1, v3_2)).bind (un1 (fun v2_9 => some v2_9)))))
def r_X3_sumOf : Room := { frames := 0, cells := 0, slots := 0, locals := 0 }
set_option maxHeartbeats 4000000 in
set_option maxRecDepth 100000 in
theorem c_X3_sumOf (l : Launch) (D : va_G) (ev : EvT) (cy : Nat → ClassId) (oY : Nat) (aY : Nat → Nat) (Y : OV) (p0 : Int32) (o : Int32) (hf : f_X3_sumOf Y p0 = some o) : Fn l yX3_sumOf cX3_sumOf 4 (some .int) r_X3_sumOf D ev cy [.ref oY, .int p0] [gX3 cy oY aY Y] (fun v G => v = some (.int o) ∧ G = [gX3 cy oY aY Y]) := by
  refine Fn_of (by decide) (Nat.le_of_ble_eq_true rfl) (fun X A Q h hQ _ => ?_)
  unfold f_X3_sumOf at hf
  show ww X D A 4 Q 0 0 0 [(0, .ref oY), (1, .int p0)] [] [gX3 cy oY aY Y]
  refine ww_iconst (v := 0) h dX3_sumOf_0 (by decide) 1 rfl ?_
  refine ww_ist_n h dX3_sumOf_1 rfl (by decide) (fun v2_1 => [(2, .int v2_1), (0, .ref oY), (1, .int p0)]) (fun _ => rfl) 2 rfl (fun v2_1 e => ?_)
  replace hf := bnd_at e hf
  clear e
  refine ww_iconst (v := 0) h dX3_sumOf_2 (by decide) 3 rfl ?_
  refine ww_ist_n h dX3_sumOf_3 rfl (by decide) (fun v3_2 => [(3, .int v3_2), (2, .int v2_1), (0, .ref oY), (1, .int p0)]) (fun _ => rfl) 4 rfl (fun v3_2 e => ?_)
  replace hf := bnd_at e hf
  clear e
  refine ww_lo [2, 3, 1, 0] (lo' := [(0, .ref oY), (1, .int p0), (2, .int v2_1), (3, .int v3_2)]) rfl ?_
  obtain ⟨v2_9, h3, hf⟩ := ob1 hf
  refine lp_walk (un2 (fun v2_4 v3_5 => ww X D A 4 Q 0 0 4 [(0, .ref oY), (1, .int p0), (2, .int v2_4), (3, .int v3_5)] [] [gX3 cy oY aY Y])) (un1 (fun v2_9 => ww X D A 4 Q 0 0 29 [(2, .int v2_9)] [] [gX3 cy oY aY Y])) ?_ _ _ _ h3 ?_
  · clear h3 hf
    intro s3 o3 hf hI3 hE3
    obtain ⟨v2_4, v3_5⟩ := s3
    unfold s_X3_sumOf_4_3 at hf
    replace hf := un2_e hf
    show ww X D A 4 Q 0 0 4 [(0, .ref oY), (1, .int p0), (2, .int v2_4), (3, .int v3_5)] [] [gX3 cy oY aY Y]
    refine ww_iload_n h dX3_sumOf_4 rfl 3 rfl 5 rfl ?_
    refine ww_aload_n h dX3_sumOf_5 rfl 0 rfl 6 rfl ?_
    refine ww_get h inG3 rfl 0 rfl rfl 6 (by decide) w_370 rfl dX3_sumOf_6 9 rfl ?_
    refine ww_icmp_ge h dX3_sumOf_9 29 (by decide) 12 rfl (fun c => ?_) (fun c => ?_)
    · replace hf := ite_t c hf
      refine ww_lo [2] (lo' := [(2, .int v2_4)]) rfl ?_
      exact hE3 v2_4 (Option.some.inj hf).symm
    · replace hf := ite_f c hf
      refine ww_iload_n h dX3_sumOf_12 rfl 2 rfl 13 rfl ?_
      refine ww_aload_n h dX3_sumOf_13 rfl 0 rfl 14 rfl ?_
      refine ww_get h inG3 rfl 0 rfl rfl 0 (by decide) w_361 rfl dX3_sumOf_14 17 rfl ?_
      refine ww_iload_n h dX3_sumOf_17 rfl 1 rfl 18 rfl ?_
      have hi := (gd_some hf).1
      replace hf := (gd_some hf).2
      have hj6 := ix_lt hi
      refine ww_aaldR h 0 rfl 1 rfl 4 rfl rfl (ix_in hi) dX3_sumOf_18 19 rfl ?_
      clear hi
      refine ww_iload_n h dX3_sumOf_19 rfl 3 rfl 20 rfl ?_
      have hi := (gd_some hf).1
      replace hf := (gd_some hf).2
      refine ww_iald h 0 rfl (7 + p0.toNatClampNeg) (gX3_row0 hj6) (ix_in hi) dX3_sumOf_20 21 rfl ?_
      clear hi
      refine ww_iadd h dX3_sumOf_21 22 rfl ?_
      refine ww_ist_n h dX3_sumOf_22 rfl (by decide) (fun v2_7 => [(2, .int v2_7), (0, .ref oY), (1, .int p0), (3, .int v3_5)]) (fun _ => rfl) 23 rfl (fun v2_7 e => ?_)
      replace hf := bnd_at e hf
      clear e
      refine ww_inc (c := 1) h dX3_sumOf_23 3 rfl (by decide) (by decide) (fun v3_8 => [(3, .int v3_8), (2, .int v2_7), (0, .ref oY), (1, .int p0)]) (fun _ => rfl) 26 rfl (fun v3_8 e => ?_)
      replace hf := bnd_at e hf
      clear e
      refine ww_goto h dX3_sumOf_26 4 (by decide) ?_
      refine ww_lo [2, 3, 1, 0] (lo' := [(0, .ref oY), (1, .int p0), (2, .int v2_7), (3, .int v3_8)]) rfl ?_
      exact hI3 (v2_7, v3_8) (Option.some.inj hf).symm
  · clear h3
    show ww X D A 4 Q 0 0 29 [(2, .int v2_9)] [] [gX3 cy oY aY Y]
    refine ww_iload_n h dX3_sumOf_29 rfl 0 rfl 30 rfl ?_
    obtain rfl := Option.some.inj hf
    exact ww_iret h dX3_sumOf_30 hQ ⟨rfl, rfl⟩
theorem dX3_breaksOf_0 : decode cX3_breaksOf 0 = .ok (.iconst 0, 1) := by decide +kernel
theorem dX3_breaksOf_1 : decode cX3_breaksOf 1 = .ok (.istore_n 2, 1) := by decide +kernel
theorem dX3_breaksOf_2 : decode cX3_breaksOf 2 = .ok (.iconst 0, 1) := by decide +kernel
theorem dX3_breaksOf_3 : decode cX3_breaksOf 3 = .ok (.istore_n 3, 1) := by decide +kernel
theorem dX3_breaksOf_4 : decode cX3_breaksOf 4 = .ok (.iload_n 3, 1) := by decide +kernel
theorem dX3_breaksOf_5 : decode cX3_breaksOf 5 = .ok (.aload_n 0, 1) := by decide +kernel
theorem dX3_breaksOf_6 : decode cX3_breaksOf 6 = .ok (.getfield 32, 3) := by decide +kernel
theorem dX3_breaksOf_9 : decode cX3_breaksOf 9 = .ok (.if_icmp .ge 29, 3) := by decide +kernel
theorem dX3_breaksOf_12 : decode cX3_breaksOf 12 = .ok (.aload_n 1, 1) := by decide +kernel
theorem dX3_breaksOf_13 : decode cX3_breaksOf 13 = .ok (.getfield 109, 3) := by decide +kernel
theorem dX3_breaksOf_16 : decode cX3_breaksOf 16 = .ok (.aload_n 0, 1) := by decide +kernel
theorem dX3_breaksOf_17 : decode cX3_breaksOf 17 = .ok (.getfield 11, 3) := by decide +kernel
theorem dX3_breaksOf_20 : decode cX3_breaksOf 20 = .ok (.iconst 1, 1) := by decide +kernel
theorem dX3_breaksOf_21 : decode cX3_breaksOf 21 = .ok (.aaload, 1) := by decide +kernel
theorem dX3_breaksOf_22 : decode cX3_breaksOf 22 = .ok (.iload_n 3, 1) := by decide +kernel
theorem dX3_breaksOf_23 : decode cX3_breaksOf 23 = .ok (.iaload, 1) := by decide +kernel
theorem dX3_breaksOf_24 : decode cX3_breaksOf 24 = .ok (.iaload, 1) := by decide +kernel
theorem dX3_breaksOf_25 : decode cX3_breaksOf 25 = .ok (.iconst 1, 1) := by decide +kernel
theorem dX3_breaksOf_26 : decode cX3_breaksOf 26 = .ok (.if_icmp .ne 6, 3) := by decide +kernel
theorem dX3_breaksOf_29 : decode cX3_breaksOf 29 = .ok (.iinc 2 1, 3) := by decide +kernel
theorem dX3_breaksOf_32 : decode cX3_breaksOf 32 = .ok (.iinc 3 1, 3) := by decide +kernel
theorem dX3_breaksOf_35 : decode cX3_breaksOf 35 = .ok (.goto (-31), 3) := by decide +kernel
theorem dX3_breaksOf_38 : decode cX3_breaksOf 38 = .ok (.iload_n 2, 1) := by decide +kernel
theorem dX3_breaksOf_39 : decode cX3_breaksOf 39 = .ok (.ireturn, 1) := by decide +kernel
theorem ok_X3_breaksOf : okY RX3 yX3_breaksOf 1 := ⟨rfl, by decide, by decide, by decide +kernel⟩
def j_X3_breaksOf_32_8 (v3_5 : Int32) (v2_7 : Int32) : Option ((Int32 × Int32) ⊕ (Int32)) := bnd (v3_5 + 1) (fun v3_9 => some (.inl (v2_7, v3_9)))
def s_X3_breaksOf_4_3 (Y : OV) (P : OV) : (Int32 × Int32) → Option ((Int32 × Int32) ⊕ (Int32)) := un2 (fun v2_4 v3_5 => (if (iv Y 6) ≤ v3_5 then some (.inr v2_4) else gd (ix (1 : Int32) 11) (gd (ix v3_5 40) (gd (ix (gr Y 0 (1 : Int32).toNatClampNeg v3_5.toNatClampNeg) 40) ((if (ar P 1 (gr Y 0 (1 : Int32).toNatClampNeg v3_5.toNatClampNeg).toNatClampNeg) = (1 : Int32) then bnd (v2_4 + 1) (fun v2_10 => j_X3_breaksOf_32_8 v3_5 v2_10) else j_X3_breaksOf_32_8 v3_5 v2_4))))))
def f_X3_breaksOf (Y : OV) (P : OV) : Option (Int32) := bnd (0 : Int32) (fun v2_1 => bnd (0 : Int32) (fun v3_2 => ((lp (s_X3_breaksOf_4_3 Y P) 5000 (v2_1, v3_2)).bind (un1 (fun v2_11 => some v2_11)))))
def r_X3_breaksOf : Room := { frames := 0, cells := 0, slots := 0, locals := 0 }
set_option maxHeartbeats 4000000 in
set_option maxRecDepth 100000 in
theorem c_X3_breaksOf (l : Launch) (D : va_G) (ev : EvT) (cy : Nat → ClassId) (oY : Nat) (aY : Nat → Nat) (Y : OV) (oP : Nat) (aP : Nat → Nat) (P : OV) (o : Int32) (hf : f_X3_breaksOf Y P = some o) : Fn l yX3_breaksOf cX3_breaksOf 4 (some .int) r_X3_breaksOf D ev cy [.ref oY, .ref oP] [gX3 cy oY aY Y, gX4 cy oP aP P] (fun v G => v = some (.int o) ∧ G = [gX3 cy oY aY Y, gX4 cy oP aP P]) := by
  refine Fn_of (by decide) (Nat.le_of_ble_eq_true rfl) (fun X A Q h hQ _ => ?_)
  unfold f_X3_breaksOf at hf
  show ww X D A 4 Q 0 0 0 [(0, .ref oY), (1, .ref oP)] [] [gX3 cy oY aY Y, gX4 cy oP aP P]
  refine ww_iconst (v := 0) h dX3_breaksOf_0 (by decide) 1 rfl ?_
  refine ww_ist_n h dX3_breaksOf_1 rfl (by decide) (fun v2_1 => [(2, .int v2_1), (0, .ref oY), (1, .ref oP)]) (fun _ => rfl) 2 rfl (fun v2_1 e => ?_)
  replace hf := bnd_at e hf
  clear e
  refine ww_iconst (v := 0) h dX3_breaksOf_2 (by decide) 3 rfl ?_
  refine ww_ist_n h dX3_breaksOf_3 rfl (by decide) (fun v3_2 => [(3, .int v3_2), (2, .int v2_1), (0, .ref oY), (1, .ref oP)]) (fun _ => rfl) 4 rfl (fun v3_2 e => ?_)
  replace hf := bnd_at e hf
  clear e
  refine ww_lo [2, 3, 1, 0] (lo' := [(0, .ref oY), (1, .ref oP), (2, .int v2_1), (3, .int v3_2)]) rfl ?_
  obtain ⟨v2_11, h3, hf⟩ := ob1 hf
  refine lp_walk (un2 (fun v2_4 v3_5 => ww X D A 4 Q 0 0 4 [(0, .ref oY), (1, .ref oP), (2, .int v2_4), (3, .int v3_5)] [] [gX3 cy oY aY Y, gX4 cy oP aP P])) (un1 (fun v2_11 => ww X D A 4 Q 0 0 38 [(2, .int v2_11)] [] [gX3 cy oY aY Y, gX4 cy oP aP P])) ?_ _ _ _ h3 ?_
  · clear h3 hf
    intro s3 o3 hf hI3 hE3
    obtain ⟨v2_4, v3_5⟩ := s3
    unfold s_X3_breaksOf_4_3 at hf
    replace hf := un2_e hf
    show ww X D A 4 Q 0 0 4 [(0, .ref oY), (1, .ref oP), (2, .int v2_4), (3, .int v3_5)] [] [gX3 cy oY aY Y, gX4 cy oP aP P]
    refine ww_iload_n h dX3_breaksOf_4 rfl 3 rfl 5 rfl ?_
    refine ww_aload_n h dX3_breaksOf_5 rfl 0 rfl 6 rfl ?_
    refine ww_get h inG3 rfl 0 rfl rfl 6 (by decide) w_370 rfl dX3_breaksOf_6 9 rfl ?_
    refine ww_icmp_ge h dX3_breaksOf_9 38 (by decide) 12 rfl (fun c => ?_) (fun c => ?_)
    · replace hf := ite_t c hf
      refine ww_lo [2] (lo' := [(2, .int v2_4)]) rfl ?_
      exact hE3 v2_4 (Option.some.inj hf).symm
    · replace hf := ite_f c hf
      refine ww_aload_n h dX3_breaksOf_12 rfl 1 rfl 13 rfl ?_
      refine ww_get h inG4 rfl 1 rfl rfl 1 (by decide) w_199 rfl dX3_breaksOf_13 16 rfl ?_
      refine ww_aload_n h dX3_breaksOf_16 rfl 0 rfl 17 rfl ?_
      refine ww_get h inG3 rfl 0 rfl rfl 0 (by decide) w_361 rfl dX3_breaksOf_17 20 rfl ?_
      refine ww_iconst (v := 1) h dX3_breaksOf_20 (by decide) 21 rfl ?_
      have hi := (gd_some hf).1
      replace hf := (gd_some hf).2
      have hj6 := ix_lt hi
      refine ww_aaldR h 0 rfl 1 rfl 4 rfl rfl (ix_in hi) dX3_breaksOf_21 22 rfl ?_
      clear hi
      refine ww_iload_n h dX3_breaksOf_22 rfl 3 rfl 23 rfl ?_
      have hi := (gd_some hf).1
      replace hf := (gd_some hf).2
      refine ww_iald h 0 rfl (7 + (1 : Int32).toNatClampNeg) (gX3_row0 hj6) (ix_in hi) dX3_breaksOf_23 24 rfl ?_
      clear hi
      have hi := (gd_some hf).1
      replace hf := (gd_some hf).2
      refine ww_iald h 1 rfl 2 rfl (ix_in hi) dX3_breaksOf_24 25 rfl ?_
      clear hi
      refine ww_iconst (v := 1) h dX3_breaksOf_25 (by decide) 26 rfl ?_
      have hJ32_8 : ∀ (v2_7 : Int32), j_X3_breaksOf_32_8 v3_5 v2_7 = some o3 → ww X D A 4 Q 0 0 32 [(0, .ref oY), (1, .ref oP), (2, .int v2_7), (3, .int v3_5)] [] [gX3 cy oY aY Y, gX4 cy oP aP P] := by
        intro v2_7 hf
        unfold j_X3_breaksOf_32_8 at hf
        refine ww_inc (c := 1) h dX3_breaksOf_32 3 rfl (by decide) (by decide) (fun v3_9 => [(3, .int v3_9), (0, .ref oY), (1, .ref oP), (2, .int v2_7)]) (fun _ => rfl) 35 rfl (fun v3_9 e => ?_)
        replace hf := bnd_at e hf
        clear e
        refine ww_goto h dX3_breaksOf_35 4 (by decide) ?_
        refine ww_lo [1, 2, 3, 0] (lo' := [(0, .ref oY), (1, .ref oP), (2, .int v2_7), (3, .int v3_9)]) rfl ?_
        exact hI3 (v2_7, v3_9) (Option.some.inj hf).symm
      refine ww_icmp_ne h dX3_breaksOf_26 32 (by decide) 29 rfl (fun c => ?_) (fun c => ?_)
      · replace hf := ite_f c hf
        exact hJ32_8 v2_4 hf
      · replace hf := ite_t c hf
        refine ww_inc (c := 1) h dX3_breaksOf_29 2 rfl (by decide) (by decide) (fun v2_10 => [(2, .int v2_10), (0, .ref oY), (1, .ref oP), (3, .int v3_5)]) (fun _ => rfl) 32 rfl (fun v2_10 e => ?_)
        replace hf := bnd_at e hf
        clear e
        refine ww_lo [1, 2, 0, 3] (lo' := [(0, .ref oY), (1, .ref oP), (2, .int v2_10), (3, .int v3_5)]) rfl ?_
        exact hJ32_8 v2_10 hf
  · clear h3
    show ww X D A 4 Q 0 0 38 [(2, .int v2_11)] [] [gX3 cy oY aY Y, gX4 cy oP aP P]
    refine ww_iload_n h dX3_breaksOf_38 rfl 0 rfl 39 rfl ?_
    obtain rfl := Option.some.inj hf
    exact ww_iret h dX3_breaksOf_39 hQ ⟨rfl, rfl⟩
theorem dX3_lineWith_0 : decode cX3_lineWith 0 = .ok (.iconst 0, 1) := by decide +kernel
theorem dX3_lineWith_1 : decode cX3_lineWith 1 = .ok (.istore_n 2, 1) := by decide +kernel
theorem dX3_lineWith_2 : decode cX3_lineWith 2 = .ok (.iload_n 2, 1) := by decide +kernel
theorem dX3_lineWith_3 : decode cX3_lineWith 3 = .ok (.aload_n 0, 1) := by decide +kernel
theorem dX3_lineWith_4 : decode cX3_lineWith 4 = .ok (.getfield 32, 3) := by decide +kernel
theorem dX3_lineWith_7 : decode cX3_lineWith 7 = .ok (.if_icmp .ge 23, 3) := by decide +kernel
theorem dX3_lineWith_10 : decode cX3_lineWith 10 = .ok (.iload_n 1, 1) := by decide +kernel
theorem dX3_lineWith_11 : decode cX3_lineWith 11 = .ok (.aload_n 0, 1) := by decide +kernel
theorem dX3_lineWith_12 : decode cX3_lineWith 12 = .ok (.getfield 11, 3) := by decide +kernel
theorem dX3_lineWith_15 : decode cX3_lineWith 15 = .ok (.iconst 1, 1) := by decide +kernel
theorem dX3_lineWith_16 : decode cX3_lineWith 16 = .ok (.aaload, 1) := by decide +kernel
theorem dX3_lineWith_17 : decode cX3_lineWith 17 = .ok (.iload_n 2, 1) := by decide +kernel
theorem dX3_lineWith_18 : decode cX3_lineWith 18 = .ok (.iaload, 1) := by decide +kernel
theorem dX3_lineWith_19 : decode cX3_lineWith 19 = .ok (.if_icmp .gt 5, 3) := by decide +kernel
theorem dX3_lineWith_22 : decode cX3_lineWith 22 = .ok (.iload_n 2, 1) := by decide +kernel
theorem dX3_lineWith_23 : decode cX3_lineWith 23 = .ok (.ireturn, 1) := by decide +kernel
theorem dX3_lineWith_24 : decode cX3_lineWith 24 = .ok (.iinc 2 1, 3) := by decide +kernel
theorem dX3_lineWith_27 : decode cX3_lineWith 27 = .ok (.goto (-25), 3) := by decide +kernel
theorem dX3_lineWith_30 : decode cX3_lineWith 30 = .ok (.iconst (-1), 1) := by decide +kernel
theorem dX3_lineWith_31 : decode cX3_lineWith 31 = .ok (.ireturn, 1) := by decide +kernel
theorem ok_X3_lineWith : okY RX3 yX3_lineWith 1 := ⟨rfl, by decide, by decide, by decide +kernel⟩
def s_X3_lineWith_2_2 (Y : OV) (p0 : Int32) : (Int32) → Option ((Int32) ⊕ ((Unit) ⊕ (Int32))) := un1 (fun v2_3 => (if (iv Y 6) ≤ v2_3 then some (.inr (.inl ())) else gd (ix (1 : Int32) 11) (gd (ix v2_3 40) ((if (gr Y 0 (1 : Int32).toNatClampNeg v2_3.toNatClampNeg) < p0 then bnd (v2_3 + 1) (fun v2_5 => some (.inl v2_5)) else some (.inr (.inr v2_3)))))))
def f_X3_lineWith (Y : OV) (p0 : Int32) : Option (Int32) := bnd (0 : Int32) (fun v2_1 => ((lp (s_X3_lineWith_2_2 Y p0) 5000 v2_1).bind (Sum.elim (un1 (fun (_u : Unit) => some (-1 : Int32))) (fun r => some r))))
def r_X3_lineWith : Room := { frames := 0, cells := 0, slots := 0, locals := 0 }
set_option maxHeartbeats 4000000 in
set_option maxRecDepth 100000 in
theorem c_X3_lineWith (l : Launch) (D : va_G) (ev : EvT) (cy : Nat → ClassId) (oY : Nat) (aY : Nat → Nat) (Y : OV) (p0 : Int32) (o : Int32) (hf : f_X3_lineWith Y p0 = some o) : Fn l yX3_lineWith cX3_lineWith 3 (some .int) r_X3_lineWith D ev cy [.ref oY, .int p0] [gX3 cy oY aY Y] (fun v G => v = some (.int o) ∧ G = [gX3 cy oY aY Y]) := by
  refine Fn_of (by decide) (Nat.le_of_ble_eq_true rfl) (fun X A Q h hQ _ => ?_)
  unfold f_X3_lineWith at hf
  show ww X D A 3 Q 0 0 0 [(0, .ref oY), (1, .int p0)] [] [gX3 cy oY aY Y]
  refine ww_iconst (v := 0) h dX3_lineWith_0 (by decide) 1 rfl ?_
  refine ww_ist_n h dX3_lineWith_1 rfl (by decide) (fun v2_1 => [(2, .int v2_1), (0, .ref oY), (1, .int p0)]) (fun _ => rfl) 2 rfl (fun v2_1 e => ?_)
  replace hf := bnd_at e hf
  clear e
  refine ww_lo [1, 2, 0] (lo' := [(0, .ref oY), (1, .int p0), (2, .int v2_1)]) rfl ?_
  obtain ⟨x2, h2, hf⟩ := ob_some hf
  refine lp_walk (un1 (fun v2_3 => ww X D A 3 Q 0 0 2 [(0, .ref oY), (1, .int p0), (2, .int v2_3)] [] [gX3 cy oY aY Y])) (Sum.elim (un1 (fun (_u : Unit) => ww X D A 3 Q 0 0 30 [] [] [gX3 cy oY aY Y])) (fun r => r = o)) ?_ _ _ _ h2 ?_
  · clear h2 hf
    intro s2 o2 hf hI2 hE2
    obtain ⟨v2_3, rfl⟩ : ∃ z, z = s2 := ⟨_, rfl⟩
    unfold s_X3_lineWith_2_2 at hf
    replace hf := un1_e hf
    show ww X D A 3 Q 0 0 2 [(0, .ref oY), (1, .int p0), (2, .int v2_3)] [] [gX3 cy oY aY Y]
    refine ww_iload_n h dX3_lineWith_2 rfl 2 rfl 3 rfl ?_
    refine ww_aload_n h dX3_lineWith_3 rfl 0 rfl 4 rfl ?_
    refine ww_get h inG3 rfl 0 rfl rfl 6 (by decide) w_370 rfl dX3_lineWith_4 7 rfl ?_
    refine ww_icmp_ge h dX3_lineWith_7 30 (by decide) 10 rfl (fun c => ?_) (fun c => ?_)
    · replace hf := ite_t c hf
      refine ww_lo [] (lo' := []) rfl ?_
      exact hE2 (.inl ()) (Option.some.inj hf).symm
    · replace hf := ite_f c hf
      refine ww_iload_n h dX3_lineWith_10 rfl 1 rfl 11 rfl ?_
      refine ww_aload_n h dX3_lineWith_11 rfl 0 rfl 12 rfl ?_
      refine ww_get h inG3 rfl 0 rfl rfl 0 (by decide) w_361 rfl dX3_lineWith_12 15 rfl ?_
      refine ww_iconst (v := 1) h dX3_lineWith_15 (by decide) 16 rfl ?_
      have hi := (gd_some hf).1
      replace hf := (gd_some hf).2
      have hj4 := ix_lt hi
      refine ww_aaldR h 0 rfl 1 rfl 4 rfl rfl (ix_in hi) dX3_lineWith_16 17 rfl ?_
      clear hi
      refine ww_iload_n h dX3_lineWith_17 rfl 2 rfl 18 rfl ?_
      have hi := (gd_some hf).1
      replace hf := (gd_some hf).2
      refine ww_iald h 0 rfl (7 + (1 : Int32).toNatClampNeg) (gX3_row0 hj4) (ix_in hi) dX3_lineWith_18 19 rfl ?_
      clear hi
      refine ww_icmp_gt h dX3_lineWith_19 24 (by decide) 22 rfl (fun c => ?_) (fun c => ?_)
      · replace hf := ite_t c hf
        refine ww_inc (c := 1) h dX3_lineWith_24 2 rfl (by decide) (by decide) (fun v2_5 => [(2, .int v2_5), (0, .ref oY), (1, .int p0)]) (fun _ => rfl) 27 rfl (fun v2_5 e => ?_)
        replace hf := bnd_at e hf
        clear e
        refine ww_goto h dX3_lineWith_27 2 (by decide) ?_
        refine ww_lo [1, 2, 0] (lo' := [(0, .ref oY), (1, .int p0), (2, .int v2_5)]) rfl ?_
        exact hI2 v2_5 (Option.some.inj hf).symm
      · replace hf := ite_f c hf
        refine ww_iload_n h dX3_lineWith_22 rfl 2 rfl 23 rfl ?_
        obtain rfl := hE2 (.inr v2_3) (Option.some.inj hf).symm
        exact ww_iret h dX3_lineWith_23 hQ ⟨rfl, rfl⟩
  · clear h2
    rcases x2 with x2 | x2
    · replace hf := sel_l hf
      obtain ⟨_u, rfl⟩ : ∃ z, z = x2 := ⟨_, rfl⟩
      replace hf := un1_e hf
      show ww X D A 3 Q 0 0 30 [] [] [gX3 cy oY aY Y]
      refine ww_iconst (v := (-1)) h dX3_lineWith_30 (by decide) 31 rfl ?_
      obtain rfl := Option.some.inj hf
      exact ww_iret h dX3_lineWith_31 hQ ⟨rfl, rfl⟩
    · replace hf := sel_r hf
      exact Option.some.inj hf
theorem dX3_endsAt_0 : decode cX3_endsAt 0 = .ok (.aload_n 0, 1) := by decide +kernel
theorem dX3_endsAt_1 : decode cX3_endsAt 1 = .ok (.iload_n 1, 1) := by decide +kernel
theorem dX3_endsAt_2 : decode cX3_endsAt 2 = .ok (.invokevirtual 114, 3) := by decide +kernel
theorem dX3_endsAt_5 : decode cX3_endsAt 5 = .ok (.istore_n 2, 1) := by decide +kernel
theorem dX3_endsAt_6 : decode cX3_endsAt 6 = .ok (.iload_n 2, 1) := by decide +kernel
theorem dX3_endsAt_7 : decode cX3_endsAt 7 = .ok (.iconst (-1), 1) := by decide +kernel
theorem dX3_endsAt_8 : decode cX3_endsAt 8 = .ok (.if_icmp .eq 19, 3) := by decide +kernel
theorem dX3_endsAt_11 : decode cX3_endsAt 11 = .ok (.aload_n 0, 1) := by decide +kernel
theorem dX3_endsAt_12 : decode cX3_endsAt 12 = .ok (.getfield 11, 3) := by decide +kernel
theorem dX3_endsAt_15 : decode cX3_endsAt 15 = .ok (.iconst 1, 1) := by decide +kernel
theorem dX3_endsAt_16 : decode cX3_endsAt 16 = .ok (.aaload, 1) := by decide +kernel
theorem dX3_endsAt_17 : decode cX3_endsAt 17 = .ok (.iload_n 2, 1) := by decide +kernel
theorem dX3_endsAt_18 : decode cX3_endsAt 18 = .ok (.iaload, 1) := by decide +kernel
theorem dX3_endsAt_19 : decode cX3_endsAt 19 = .ok (.iload_n 1, 1) := by decide +kernel
theorem dX3_endsAt_20 : decode cX3_endsAt 20 = .ok (.if_icmp .ne 7, 3) := by decide +kernel
theorem dX3_endsAt_23 : decode cX3_endsAt 23 = .ok (.iconst 1, 1) := by decide +kernel
theorem dX3_endsAt_24 : decode cX3_endsAt 24 = .ok (.goto 4, 3) := by decide +kernel
theorem dX3_endsAt_27 : decode cX3_endsAt 27 = .ok (.iconst 0, 1) := by decide +kernel
theorem dX3_endsAt_28 : decode cX3_endsAt 28 = .ok (.ireturn, 1) := by decide +kernel
theorem ok_X3_endsAt : okY RX3 yX3_endsAt 1 := ⟨rfl, by decide, by decide, by decide +kernel⟩
def j_X3_endsAt_27_4 : Option (Int32) := some (0 : Int32)
def f_X3_endsAt (Y : OV) (p0 : Int32) : Option (Int32) := (f_X3_lineWith Y p0).bind (un1 (fun r_1 => bnd r_1 (fun v2_3 => (if v2_3 = (-1 : Int32) then j_X3_endsAt_27_4 else gd (ix (1 : Int32) 11) (gd (ix v2_3 40) ((if (gr Y 0 (1 : Int32).toNatClampNeg v2_3.toNatClampNeg) = p0 then some (1 : Int32) else j_X3_endsAt_27_4)))))))
def r_X3_endsAt : Room := { frames := 1, cells := 0, slots := 0, locals := 22 }
set_option maxHeartbeats 4000000 in
set_option maxRecDepth 100000 in
theorem c_X3_endsAt (l : Launch) (D : va_G) (ev : EvT) (cy : Nat → ClassId) (oY : Nat) (aY : Nat → Nat) (Y : OV) (p0 : Int32) (o : Int32) (hf : f_X3_endsAt Y p0 = some o) : Fn l yX3_endsAt cX3_endsAt 3 (some .boolean) r_X3_endsAt D ev cy [.ref oY, .int p0] [gX3 cy oY aY Y] (fun v G => v = some (.int o) ∧ G = [gX3 cy oY aY Y]) := by
  refine Fn_of (by decide) (Nat.le_of_ble_eq_true rfl) (fun X A Q h hQ _ => ?_)
  unfold f_X3_endsAt at hf
  show ww X D A 3 Q 0 0 0 [(0, .ref oY), (1, .int p0)] [] [gX3 cy oY aY Y]
  refine ww_aload_n h dX3_endsAt_0 rfl 0 rfl 1 rfl ?_
  refine ww_iload_n h dX3_endsAt_1 rfl 1 rfl 2 rfl ?_
  obtain ⟨r_1, hu2, hf⟩ := ob1 hf
  refine ww_cVi h (c_X3_lineWith l D ev cy oY aY Y p0 _ hu2) ⟨w_955, w_964, w_953, w_954, w_109, ok_X3_lineWith⟩ ⟨by decide, by decide⟩ ⟨by decide, by decide⟩ ⟨rfl, rfl⟩ [0] rfl 0 rfl rfl rfl rfl (Nat.le_of_ble_eq_true rfl) dX3_endsAt_2 5 rfl (Gs' := [gX3 cy oY aY Y]) rfl ?_
  clear hu2
  refine ww_ist_n h dX3_endsAt_5 rfl (by decide) (fun v2_3 => [(2, .int v2_3), (0, .ref oY), (1, .int p0)]) (fun _ => rfl) 6 rfl (fun v2_3 e => ?_)
  replace hf := bnd_at e hf
  clear e
  refine ww_iload_n h dX3_endsAt_6 rfl 0 rfl 7 rfl ?_
  refine ww_iconst (v := (-1)) h dX3_endsAt_7 (by decide) 8 rfl ?_
  have hJ27_4 : ∀ (_ : Unit), j_X3_endsAt_27_4 = some o → ww X D A 3 Q 0 0 27 [] [] [gX3 cy oY aY Y] := by
    intro _ hf
    unfold j_X3_endsAt_27_4 at hf
    refine ww_iconst (v := 0) h dX3_endsAt_27 (by decide) 28 rfl ?_
    obtain rfl := Option.some.inj hf
    exact ww_zret h (Or.inl rfl) dX3_endsAt_28 hQ ⟨rfl, rfl⟩
  refine ww_icmp_eq h dX3_endsAt_8 27 (by decide) 11 rfl (fun c => ?_) (fun c => ?_)
  · replace hf := ite_t c hf
    refine ww_lo [] (lo' := []) rfl ?_
    exact hJ27_4 () hf
  · replace hf := ite_f c hf
    refine ww_aload_n h dX3_endsAt_11 rfl 1 rfl 12 rfl ?_
    refine ww_get h inG3 rfl 0 rfl rfl 0 (by decide) w_361 rfl dX3_endsAt_12 15 rfl ?_
    refine ww_iconst (v := 1) h dX3_endsAt_15 (by decide) 16 rfl ?_
    have hi := (gd_some hf).1
    replace hf := (gd_some hf).2
    have hj5 := ix_lt hi
    refine ww_aaldR h 0 rfl 1 rfl 4 rfl rfl (ix_in hi) dX3_endsAt_16 17 rfl ?_
    clear hi
    refine ww_iload_n h dX3_endsAt_17 rfl 0 rfl 18 rfl ?_
    have hi := (gd_some hf).1
    replace hf := (gd_some hf).2
    refine ww_iald h 0 rfl (7 + (1 : Int32).toNatClampNeg) (gX3_row0 hj5) (ix_in hi) dX3_endsAt_18 19 rfl ?_
    clear hi
    refine ww_iload_n h dX3_endsAt_19 rfl 2 rfl 20 rfl ?_
    refine ww_icmp_ne h dX3_endsAt_20 27 (by decide) 23 rfl (fun c => ?_) (fun c => ?_)
    · replace hf := ite_f c hf
      refine ww_lo [] (lo' := []) rfl ?_
      exact hJ27_4 () hf
    · replace hf := ite_t c hf
      refine ww_iconst (v := 1) h dX3_endsAt_23 (by decide) 24 rfl ?_
      refine ww_goto h dX3_endsAt_24 28 (by decide) ?_
      obtain rfl := Option.some.inj hf
      exact ww_zret h (Or.inr rfl) dX3_endsAt_28 hQ ⟨rfl, rfl⟩
theorem dX3_hasLineOf_0 : decode cX3_hasLineOf 0 = .ok (.aload_n 0, 1) := by decide +kernel
theorem dX3_hasLineOf_1 : decode cX3_hasLineOf 1 = .ok (.iload_n 2, 1) := by decide +kernel
theorem dX3_hasLineOf_2 : decode cX3_hasLineOf 2 = .ok (.invokevirtual 114, 3) := by decide +kernel
theorem dX3_hasLineOf_5 : decode cX3_hasLineOf 5 = .ok (.istore_n 3, 1) := by decide +kernel
theorem dX3_hasLineOf_6 : decode cX3_hasLineOf 6 = .ok (.iload_n 3, 1) := by decide +kernel
theorem dX3_hasLineOf_7 : decode cX3_hasLineOf 7 = .ok (.iconst (-1), 1) := by decide +kernel
theorem dX3_hasLineOf_8 : decode cX3_hasLineOf 8 = .ok (.if_icmp .eq 31, 3) := by decide +kernel
theorem dX3_hasLineOf_11 : decode cX3_hasLineOf 11 = .ok (.aload_n 0, 1) := by decide +kernel
theorem dX3_hasLineOf_12 : decode cX3_hasLineOf 12 = .ok (.getfield 11, 3) := by decide +kernel
theorem dX3_hasLineOf_15 : decode cX3_hasLineOf 15 = .ok (.iconst 0, 1) := by decide +kernel
theorem dX3_hasLineOf_16 : decode cX3_hasLineOf 16 = .ok (.aaload, 1) := by decide +kernel
theorem dX3_hasLineOf_17 : decode cX3_hasLineOf 17 = .ok (.iload_n 3, 1) := by decide +kernel
theorem dX3_hasLineOf_18 : decode cX3_hasLineOf 18 = .ok (.iaload, 1) := by decide +kernel
theorem dX3_hasLineOf_19 : decode cX3_hasLineOf 19 = .ok (.iload_n 1, 1) := by decide +kernel
theorem dX3_hasLineOf_20 : decode cX3_hasLineOf 20 = .ok (.if_icmp .ne 19, 3) := by decide +kernel
theorem dX3_hasLineOf_23 : decode cX3_hasLineOf 23 = .ok (.aload_n 0, 1) := by decide +kernel
theorem dX3_hasLineOf_24 : decode cX3_hasLineOf 24 = .ok (.getfield 11, 3) := by decide +kernel
theorem dX3_hasLineOf_27 : decode cX3_hasLineOf 27 = .ok (.iconst 1, 1) := by decide +kernel
theorem dX3_hasLineOf_28 : decode cX3_hasLineOf 28 = .ok (.aaload, 1) := by decide +kernel
theorem dX3_hasLineOf_29 : decode cX3_hasLineOf 29 = .ok (.iload_n 3, 1) := by decide +kernel
theorem dX3_hasLineOf_30 : decode cX3_hasLineOf 30 = .ok (.iaload, 1) := by decide +kernel
theorem dX3_hasLineOf_31 : decode cX3_hasLineOf 31 = .ok (.iload_n 2, 1) := by decide +kernel
theorem dX3_hasLineOf_32 : decode cX3_hasLineOf 32 = .ok (.if_icmp .ne 7, 3) := by decide +kernel
theorem dX3_hasLineOf_35 : decode cX3_hasLineOf 35 = .ok (.iconst 1, 1) := by decide +kernel
theorem dX3_hasLineOf_36 : decode cX3_hasLineOf 36 = .ok (.goto 4, 3) := by decide +kernel
theorem dX3_hasLineOf_39 : decode cX3_hasLineOf 39 = .ok (.iconst 0, 1) := by decide +kernel
theorem dX3_hasLineOf_40 : decode cX3_hasLineOf 40 = .ok (.ireturn, 1) := by decide +kernel
theorem ok_X3_hasLineOf : okY RX3 yX3_hasLineOf 2 := ⟨rfl, by decide, by decide, by decide +kernel⟩
def j_X3_hasLineOf_39_4 : Option (Int32) := some (0 : Int32)
def f_X3_hasLineOf (Y : OV) (p0 : Int32) (p1 : Int32) : Option (Int32) := (f_X3_lineWith Y p1).bind (un1 (fun r_1 => bnd r_1 (fun v3_3 => (if v3_3 = (-1 : Int32) then j_X3_hasLineOf_39_4 else gd (ix (0 : Int32) 11) (gd (ix v3_3 40) ((if (gr Y 0 (0 : Int32).toNatClampNeg v3_3.toNatClampNeg) = p0 then gd (ix (1 : Int32) 11) (gd (ix v3_3 40) ((if (gr Y 0 (1 : Int32).toNatClampNeg v3_3.toNatClampNeg) = p1 then some (1 : Int32) else j_X3_hasLineOf_39_4))) else j_X3_hasLineOf_39_4)))))))
def r_X3_hasLineOf : Room := { frames := 1, cells := 0, slots := 0, locals := 22 }
set_option maxHeartbeats 4000000 in
set_option maxRecDepth 100000 in
theorem c_X3_hasLineOf (l : Launch) (D : va_G) (ev : EvT) (cy : Nat → ClassId) (oY : Nat) (aY : Nat → Nat) (Y : OV) (p0 : Int32) (p1 : Int32) (o : Int32) (hf : f_X3_hasLineOf Y p0 p1 = some o) : Fn l yX3_hasLineOf cX3_hasLineOf 4 (some .boolean) r_X3_hasLineOf D ev cy [.ref oY, .int p0, .int p1] [gX3 cy oY aY Y] (fun v G => v = some (.int o) ∧ G = [gX3 cy oY aY Y]) := by
  refine Fn_of (by decide) (Nat.le_of_ble_eq_true rfl) (fun X A Q h hQ _ => ?_)
  unfold f_X3_hasLineOf at hf
  show ww X D A 4 Q 0 0 0 [(0, .ref oY), (1, .int p0), (2, .int p1)] [] [gX3 cy oY aY Y]
  refine ww_aload_n h dX3_hasLineOf_0 rfl 0 rfl 1 rfl ?_
  refine ww_iload_n h dX3_hasLineOf_1 rfl 2 rfl 2 rfl ?_
  obtain ⟨r_1, hu2, hf⟩ := ob1 hf
  refine ww_cVi h (c_X3_lineWith l D ev cy oY aY Y p1 _ hu2) ⟨w_955, w_964, w_953, w_954, w_109, ok_X3_lineWith⟩ ⟨by decide, by decide⟩ ⟨by decide, by decide⟩ ⟨rfl, rfl⟩ [0] rfl 0 rfl rfl rfl rfl (Nat.le_of_ble_eq_true rfl) dX3_hasLineOf_2 5 rfl (Gs' := [gX3 cy oY aY Y]) rfl ?_
  clear hu2
  refine ww_ist_n h dX3_hasLineOf_5 rfl (by decide) (fun v3_3 => [(3, .int v3_3), (0, .ref oY), (1, .int p0), (2, .int p1)]) (fun _ => rfl) 6 rfl (fun v3_3 e => ?_)
  replace hf := bnd_at e hf
  clear e
  refine ww_iload_n h dX3_hasLineOf_6 rfl 0 rfl 7 rfl ?_
  refine ww_iconst (v := (-1)) h dX3_hasLineOf_7 (by decide) 8 rfl ?_
  have hJ39_4 : ∀ (_ : Unit), j_X3_hasLineOf_39_4 = some o → ww X D A 4 Q 0 0 39 [] [] [gX3 cy oY aY Y] := by
    intro _ hf
    unfold j_X3_hasLineOf_39_4 at hf
    refine ww_iconst (v := 0) h dX3_hasLineOf_39 (by decide) 40 rfl ?_
    obtain rfl := Option.some.inj hf
    exact ww_zret h (Or.inl rfl) dX3_hasLineOf_40 hQ ⟨rfl, rfl⟩
  refine ww_icmp_eq h dX3_hasLineOf_8 39 (by decide) 11 rfl (fun c => ?_) (fun c => ?_)
  · replace hf := ite_t c hf
    refine ww_lo [] (lo' := []) rfl ?_
    exact hJ39_4 () hf
  · replace hf := ite_f c hf
    refine ww_aload_n h dX3_hasLineOf_11 rfl 1 rfl 12 rfl ?_
    refine ww_get h inG3 rfl 0 rfl rfl 0 (by decide) w_361 rfl dX3_hasLineOf_12 15 rfl ?_
    refine ww_iconst (v := 0) h dX3_hasLineOf_15 (by decide) 16 rfl ?_
    have hi := (gd_some hf).1
    replace hf := (gd_some hf).2
    have hj5 := ix_lt hi
    refine ww_aaldR h 0 rfl 1 rfl 4 rfl rfl (ix_in hi) dX3_hasLineOf_16 17 rfl ?_
    clear hi
    refine ww_iload_n h dX3_hasLineOf_17 rfl 0 rfl 18 rfl ?_
    have hi := (gd_some hf).1
    replace hf := (gd_some hf).2
    refine ww_iald h 0 rfl (7 + (0 : Int32).toNatClampNeg) (gX3_row0 hj5) (ix_in hi) dX3_hasLineOf_18 19 rfl ?_
    clear hi
    refine ww_iload_n h dX3_hasLineOf_19 rfl 2 rfl 20 rfl ?_
    refine ww_icmp_ne h dX3_hasLineOf_20 39 (by decide) 23 rfl (fun c => ?_) (fun c => ?_)
    · replace hf := ite_f c hf
      refine ww_lo [] (lo' := []) rfl ?_
      exact hJ39_4 () hf
    · replace hf := ite_t c hf
      refine ww_aload_n h dX3_hasLineOf_23 rfl 1 rfl 24 rfl ?_
      refine ww_get h inG3 rfl 0 rfl rfl 0 (by decide) w_361 rfl dX3_hasLineOf_24 27 rfl ?_
      refine ww_iconst (v := 1) h dX3_hasLineOf_27 (by decide) 28 rfl ?_
      have hi := (gd_some hf).1
      replace hf := (gd_some hf).2
      have hj6 := ix_lt hi
      refine ww_aaldR h 0 rfl 1 rfl 4 rfl rfl (ix_in hi) dX3_hasLineOf_28 29 rfl ?_
      clear hi
      refine ww_iload_n h dX3_hasLineOf_29 rfl 0 rfl 30 rfl ?_
      have hi := (gd_some hf).1
      replace hf := (gd_some hf).2
      refine ww_iald h 0 rfl (7 + (1 : Int32).toNatClampNeg) (gX3_row0 hj6) (ix_in hi) dX3_hasLineOf_30 31 rfl ?_
      clear hi
      refine ww_iload_n h dX3_hasLineOf_31 rfl 3 rfl 32 rfl ?_
      refine ww_icmp_ne h dX3_hasLineOf_32 39 (by decide) 35 rfl (fun c => ?_) (fun c => ?_)
      · replace hf := ite_f c hf
        refine ww_lo [] (lo' := []) rfl ?_
        exact hJ39_4 () hf
      · replace hf := ite_t c hf
        refine ww_iconst (v := 1) h dX3_hasLineOf_35 (by decide) 36 rfl ?_
        refine ww_goto h dX3_hasLineOf_36 40 (by decide) ?_
        obtain rfl := Option.some.inj hf
        exact ww_zret h (Or.inr rfl) dX3_hasLineOf_40 hQ ⟨rfl, rfl⟩
theorem dX3_advanceOf_0 : decode cX3_advanceOf 0 = .ok (.aload_n 1, 1) := by decide +kernel
theorem dX3_advanceOf_1 : decode cX3_advanceOf 1 = .ok (.iconst 0, 1) := by decide +kernel
theorem dX3_advanceOf_2 : decode cX3_advanceOf 2 = .ok (.iload_n 2, 1) := by decide +kernel
theorem dX3_advanceOf_3 : decode cX3_advanceOf 3 = .ok (.invokevirtual 94, 3) := by decide +kernel
theorem dX3_advanceOf_6 : decode cX3_advanceOf 6 = .ok (.aload_n 0, 1) := by decide +kernel
theorem dX3_advanceOf_7 : decode cX3_advanceOf 7 = .ok (.getfield 16, 3) := by decide +kernel
theorem dX3_advanceOf_10 : decode cX3_advanceOf 10 = .ok (.iload_n 2, 1) := by decide +kernel
theorem dX3_advanceOf_11 : decode cX3_advanceOf 11 = .ok (.iaload, 1) := by decide +kernel
theorem dX3_advanceOf_12 : decode cX3_advanceOf 12 = .ok (.isub, 1) := by decide +kernel
theorem dX3_advanceOf_13 : decode cX3_advanceOf 13 = .ok (.aload_n 0, 1) := by decide +kernel
theorem dX3_advanceOf_14 : decode cX3_advanceOf 14 = .ok (.getfield 20, 3) := by decide +kernel
theorem dX3_advanceOf_17 : decode cX3_advanceOf 17 = .ok (.iload_n 2, 1) := by decide +kernel
theorem dX3_advanceOf_18 : decode cX3_advanceOf 18 = .ok (.iaload, 1) := by decide +kernel
theorem dX3_advanceOf_19 : decode cX3_advanceOf 19 = .ok (.iadd, 1) := by decide +kernel
theorem dX3_advanceOf_20 : decode cX3_advanceOf 20 = .ok (.ireturn, 1) := by decide +kernel
theorem ok_X3_advanceOf : okY RX3 yX3_advanceOf 2 := ⟨rfl, by decide, by decide, by decide +kernel⟩
def f_X3_advanceOf (Y : OV) (R : OV) (oC : Nat) (C : OV) (oP : Nat) (P : OV) (p1 : Int32) : Option (Int32) := (f_X7_factOf R oC C oP P (0 : Int32) p1).bind (un1 (fun r_1 => gd (ix p1 40) (gd (ix p1 40) (some ((r_1 - (ar Y 1 p1.toNatClampNeg)) + (ar Y 2 p1.toNatClampNeg))))))
def r_X3_advanceOf : Room := { frames := 1, cells := 0, slots := 0, locals := 22 }
set_option maxHeartbeats 4000000 in
set_option maxRecDepth 100000 in
theorem c_X3_advanceOf (l : Launch) (D : va_G) (ev : EvT) (cy : Nat → ClassId) (oY : Nat) (aY : Nat → Nat) (Y : OV) (oR : Nat) (aR : Nat → Nat) (R : OV) (oC : Nat) (aC : Nat → Nat) (C : OV) (oP : Nat) (aP : Nat → Nat) (P : OV) (p1 : Int32) (o : Int32) (hf : f_X3_advanceOf Y R oC C oP P p1 = some o) : Fn l yX3_advanceOf cX3_advanceOf 3 (some .int) r_X3_advanceOf D ev cy [.ref oY, .ref oR, .int p1] [gX3 cy oY aY Y, gX7 cy oR aR R, gX1 cy oC aC C, gX4 cy oP aP P] (fun v G => v = some (.int o) ∧ G = [gX3 cy oY aY Y, gX7 cy oR aR R, gX1 cy oC aC C, gX4 cy oP aP P]) := by
  refine Fn_of (by decide) (Nat.le_of_ble_eq_true rfl) (fun X A Q h hQ _ => ?_)
  unfold f_X3_advanceOf at hf
  show ww X D A 3 Q 0 0 0 [(0, .ref oY), (1, .ref oR), (2, .int p1)] [] [gX3 cy oY aY Y, gX7 cy oR aR R, gX1 cy oC aC C, gX4 cy oP aP P]
  refine ww_aload_n h dX3_advanceOf_0 rfl 1 rfl 1 rfl ?_
  refine ww_iconst (v := 0) h dX3_advanceOf_1 (by decide) 2 rfl ?_
  refine ww_iload_n h dX3_advanceOf_2 rfl 2 rfl 3 rfl ?_
  obtain ⟨r_1, hu2, hf⟩ := ob1 hf
  refine ww_cVi h (c_X7_factOf l D ev cy oR aR R oC aC C oP aP P (0 : Int32) p1 _ hu2) ⟨w_817, w_915, w_815, w_816, w_107, ok_X7_factOf⟩ ⟨by decide, by decide⟩ ⟨by decide, by decide⟩ ⟨rfl, rfl⟩ [1, 1, 1] rfl 0 rfl rfl rfl rfl (Nat.le_of_ble_eq_true rfl) dX3_advanceOf_3 6 rfl (Gs' := [gX7 cy oR aR R, gX1 cy oC aC C, gX4 cy oP aP P, gX3 cy oY aY Y]) rfl ?_
  clear hu2
  refine ww_aload_n h dX3_advanceOf_6 rfl 0 rfl 7 rfl ?_
  refine ww_get h inG3 rfl 3 rfl rfl 1 (by decide) w_363 rfl dX3_advanceOf_7 10 rfl ?_
  refine ww_iload_n h dX3_advanceOf_10 rfl 2 rfl 11 rfl ?_
  have hi := (gd_some hf).1
  replace hf := (gd_some hf).2
  refine ww_iald h 3 rfl 2 rfl (ix_in hi) dX3_advanceOf_11 12 rfl ?_
  clear hi
  refine ww_isub h dX3_advanceOf_12 13 rfl ?_
  refine ww_aload_n h dX3_advanceOf_13 rfl 0 rfl 14 rfl ?_
  refine ww_get h inG3 rfl 3 rfl rfl 2 (by decide) w_365 rfl dX3_advanceOf_14 17 rfl ?_
  refine ww_iload_n h dX3_advanceOf_17 rfl 2 rfl 18 rfl ?_
  have hi := (gd_some hf).1
  replace hf := (gd_some hf).2
  refine ww_iald h 3 rfl 3 rfl (ix_in hi) dX3_advanceOf_18 19 rfl ?_
  clear hi
  refine ww_iadd h dX3_advanceOf_19 20 rfl ?_
  refine ww_perm [3, 0, 0, 0] (Gs' := [gX3 cy oY aY Y, gX7 cy oR aR R, gX1 cy oC aC C, gX4 cy oP aP P]) rfl ?_
  obtain rfl := Option.some.inj hf
  exact ww_iret h dX3_advanceOf_20 hQ ⟨rfl, rfl⟩
theorem dX3_leftEdge_0 : decode cX3_leftEdge 0 = .ok (.aload_n 0, 1) := by decide +kernel
theorem dX3_leftEdge_1 : decode cX3_leftEdge 1 = .ok (.iload_n 2, 1) := by decide +kernel
theorem dX3_leftEdge_2 : decode cX3_leftEdge 2 = .ok (.invokevirtual 114, 3) := by decide +kernel
theorem dX3_leftEdge_5 : decode cX3_leftEdge 5 = .ok (.istore_n 3, 1) := by decide +kernel
theorem dX3_leftEdge_6 : decode cX3_leftEdge 6 = .ok (.iconst 0, 1) := by decide +kernel
theorem dX3_leftEdge_7 : decode cX3_leftEdge 7 = .ok (.istore 4, 2) := by decide +kernel
theorem dX3_leftEdge_9 : decode cX3_leftEdge 9 = .ok (.iload_n 3, 1) := by decide +kernel
theorem dX3_leftEdge_10 : decode cX3_leftEdge 10 = .ok (.iconst (-1), 1) := by decide +kernel
theorem dX3_leftEdge_11 : decode cX3_leftEdge 11 = .ok (.if_icmp .eq 37, 3) := by decide +kernel
theorem dX3_leftEdge_14 : decode cX3_leftEdge 14 = .ok (.aload_n 0, 1) := by decide +kernel
theorem dX3_leftEdge_15 : decode cX3_leftEdge 15 = .ok (.getfield 11, 3) := by decide +kernel
theorem dX3_leftEdge_18 : decode cX3_leftEdge 18 = .ok (.iconst 0, 1) := by decide +kernel
theorem dX3_leftEdge_19 : decode cX3_leftEdge 19 = .ok (.aaload, 1) := by decide +kernel
theorem dX3_leftEdge_20 : decode cX3_leftEdge 20 = .ok (.iload_n 3, 1) := by decide +kernel
theorem dX3_leftEdge_21 : decode cX3_leftEdge 21 = .ok (.iaload, 1) := by decide +kernel
theorem dX3_leftEdge_22 : decode cX3_leftEdge 22 = .ok (.istore 5, 2) := by decide +kernel
theorem dX3_leftEdge_24 : decode cX3_leftEdge 24 = .ok (.iload 5, 2) := by decide +kernel
theorem dX3_leftEdge_26 : decode cX3_leftEdge 26 = .ok (.iload_n 2, 1) := by decide +kernel
theorem dX3_leftEdge_27 : decode cX3_leftEdge 27 = .ok (.if_icmp .ge 21, 3) := by decide +kernel
theorem dX3_leftEdge_30 : decode cX3_leftEdge 30 = .ok (.iload 4, 2) := by decide +kernel
theorem dX3_leftEdge_32 : decode cX3_leftEdge 32 = .ok (.aload_n 0, 1) := by decide +kernel
theorem dX3_leftEdge_33 : decode cX3_leftEdge 33 = .ok (.aload_n 1, 1) := by decide +kernel
theorem dX3_leftEdge_34 : decode cX3_leftEdge 34 = .ok (.iload 5, 2) := by decide +kernel
theorem dX3_leftEdge_36 : decode cX3_leftEdge 36 = .ok (.invokevirtual 117, 3) := by decide +kernel
theorem dX3_leftEdge_39 : decode cX3_leftEdge 39 = .ok (.iadd, 1) := by decide +kernel
theorem dX3_leftEdge_40 : decode cX3_leftEdge 40 = .ok (.istore 4, 2) := by decide +kernel
theorem dX3_leftEdge_42 : decode cX3_leftEdge 42 = .ok (.iinc 5 1, 3) := by decide +kernel
theorem dX3_leftEdge_45 : decode cX3_leftEdge 45 = .ok (.goto (-21), 3) := by decide +kernel
theorem dX3_leftEdge_48 : decode cX3_leftEdge 48 = .ok (.iload 4, 2) := by decide +kernel
theorem dX3_leftEdge_50 : decode cX3_leftEdge 50 = .ok (.ireturn, 1) := by decide +kernel
theorem ok_X3_leftEdge : okY RX3 yX3_leftEdge 2 := ⟨rfl, by decide, by decide, by decide +kernel⟩
def s_X3_leftEdge_24_7 (oC : Nat) (oP : Nat) (Y : OV) (R : OV) (C : OV) (P : OV) (p1 : Int32) : (Int32 × Int32) → Option ((Int32 × Int32) ⊕ (Int32)) := un2 (fun v4_8 v5_9 => (if p1 ≤ v5_9 then some (.inr v4_8) else (f_X3_advanceOf Y R oC C oP P v5_9).bind (un1 (fun r_10 => bnd (v4_8 + r_10) (fun v4_12 => bnd (v5_9 + 1) (fun v5_13 => some (.inl (v4_12, v5_13))))))))
def f_X3_leftEdge (Y : OV) (R : OV) (oC : Nat) (C : OV) (oP : Nat) (P : OV) (p1 : Int32) : Option (Int32) := (f_X3_lineWith Y p1).bind (un1 (fun r_1 => bnd r_1 (fun v3_3 => bnd (0 : Int32) (fun v4_4 => (if v3_3 = (-1 : Int32) then some v4_4 else gd (ix (0 : Int32) 11) (gd (ix v3_3 40) (bnd (gr Y 0 (0 : Int32).toNatClampNeg v3_3.toNatClampNeg) (fun v5_6 => ((lp (s_X3_leftEdge_24_7 oC oP Y R C P p1) 5000 (v4_4, v5_6)).bind (un1 (fun v4_14 => some v4_14)))))))))))
def r_X3_leftEdge : Room := { frames := 2, cells := 0, slots := 0, locals := 44 }
set_option maxHeartbeats 4000000 in
set_option maxRecDepth 100000 in
theorem c_X3_leftEdge (l : Launch) (D : va_G) (ev : EvT) (cy : Nat → ClassId) (oY : Nat) (aY : Nat → Nat) (Y : OV) (oR : Nat) (aR : Nat → Nat) (R : OV) (oC : Nat) (aC : Nat → Nat) (C : OV) (oP : Nat) (aP : Nat → Nat) (P : OV) (p1 : Int32) (o : Int32) (hf : f_X3_leftEdge Y R oC C oP P p1 = some o) : Fn l yX3_leftEdge cX3_leftEdge 6 (some .int) r_X3_leftEdge D ev cy [.ref oY, .ref oR, .int p1] [gX3 cy oY aY Y, gX7 cy oR aR R, gX1 cy oC aC C, gX4 cy oP aP P] (fun v G => v = some (.int o) ∧ G = [gX3 cy oY aY Y, gX7 cy oR aR R, gX1 cy oC aC C, gX4 cy oP aP P]) := by
  refine Fn_of (by decide) (Nat.le_of_ble_eq_true rfl) (fun X A Q h hQ _ => ?_)
  unfold f_X3_leftEdge at hf
  show ww X D A 6 Q 0 0 0 [(0, .ref oY), (1, .ref oR), (2, .int p1)] [] [gX3 cy oY aY Y, gX7 cy oR aR R, gX1 cy oC aC C, gX4 cy oP aP P]
  refine ww_aload_n h dX3_leftEdge_0 rfl 0 rfl 1 rfl ?_
  refine ww_iload_n h dX3_leftEdge_1 rfl 2 rfl 2 rfl ?_
  obtain ⟨r_1, hu2, hf⟩ := ob1 hf
  refine ww_cVi h (c_X3_lineWith l D ev cy oY aY Y p1 _ hu2) ⟨w_955, w_964, w_953, w_954, w_109, ok_X3_lineWith⟩ ⟨by decide, by decide⟩ ⟨by decide, by decide⟩ ⟨rfl, rfl⟩ [0] rfl 0 rfl rfl rfl rfl (Nat.le_of_ble_eq_true rfl) dX3_leftEdge_2 5 rfl (Gs' := [gX3 cy oY aY Y, gX7 cy oR aR R, gX1 cy oC aC C, gX4 cy oP aP P]) rfl ?_
  clear hu2
  refine ww_ist_n h dX3_leftEdge_5 rfl (by decide) (fun v3_3 => [(3, .int v3_3), (0, .ref oY), (1, .ref oR), (2, .int p1)]) (fun _ => rfl) 6 rfl (fun v3_3 e => ?_)
  replace hf := bnd_at e hf
  clear e
  refine ww_iconst (v := 0) h dX3_leftEdge_6 (by decide) 7 rfl ?_
  refine ww_ist h dX3_leftEdge_7 (by decide) (fun v4_4 => [(4, .int v4_4), (3, .int v3_3), (0, .ref oY), (1, .ref oR), (2, .int p1)]) (fun _ => rfl) 9 rfl (fun v4_4 e => ?_)
  replace hf := bnd_at e hf
  clear e
  refine ww_iload_n h dX3_leftEdge_9 rfl 1 rfl 10 rfl ?_
  refine ww_iconst (v := (-1)) h dX3_leftEdge_10 (by decide) 11 rfl ?_
  refine ww_icmp_eq h dX3_leftEdge_11 48 (by decide) 14 rfl (fun c => ?_) (fun c => ?_)
  · replace hf := ite_t c hf
    refine ww_iload h dX3_leftEdge_48 0 rfl 50 rfl ?_
    obtain rfl := Option.some.inj hf
    exact ww_iret h dX3_leftEdge_50 hQ ⟨rfl, rfl⟩
  · replace hf := ite_f c hf
    refine ww_aload_n h dX3_leftEdge_14 rfl 2 rfl 15 rfl ?_
    refine ww_get h inG3 rfl 0 rfl rfl 0 (by decide) w_361 rfl dX3_leftEdge_15 18 rfl ?_
    refine ww_iconst (v := 0) h dX3_leftEdge_18 (by decide) 19 rfl ?_
    have hi := (gd_some hf).1
    replace hf := (gd_some hf).2
    have hj5 := ix_lt hi
    refine ww_aaldR h 0 rfl 1 rfl 4 rfl rfl (ix_in hi) dX3_leftEdge_19 20 rfl ?_
    clear hi
    refine ww_iload_n h dX3_leftEdge_20 rfl 1 rfl 21 rfl ?_
    have hi := (gd_some hf).1
    replace hf := (gd_some hf).2
    refine ww_iald h 0 rfl (7 + (0 : Int32).toNatClampNeg) (gX3_row0 hj5) (ix_in hi) dX3_leftEdge_21 22 rfl ?_
    clear hi
    refine ww_ist h dX3_leftEdge_22 (by decide) (fun v5_6 => [(5, .int v5_6), (4, .int v4_4), (3, .int v3_3), (0, .ref oY), (1, .ref oR), (2, .int p1)]) (fun _ => rfl) 24 rfl (fun v5_6 e => ?_)
    replace hf := bnd_at e hf
    clear e
    refine ww_lo [3, 4, 5, 1, 0] (lo' := [(0, .ref oY), (1, .ref oR), (2, .int p1), (4, .int v4_4), (5, .int v5_6)]) rfl ?_
    obtain ⟨v4_14, h7, hf⟩ := ob1 hf
    refine lp_walk (un2 (fun v4_8 v5_9 => ww X D A 6 Q 0 0 24 [(0, .ref oY), (1, .ref oR), (2, .int p1), (4, .int v4_8), (5, .int v5_9)] [] [gX3 cy oY aY Y, gX7 cy oR aR R, gX1 cy oC aC C, gX4 cy oP aP P])) (un1 (fun v4_14 => ww X D A 6 Q 0 0 48 [(4, .int v4_14)] [] [gX3 cy oY aY Y, gX7 cy oR aR R, gX1 cy oC aC C, gX4 cy oP aP P])) ?_ _ _ _ h7 ?_
    · clear h7 hf
      intro s7 o7 hf hI7 hE7
      obtain ⟨v4_8, v5_9⟩ := s7
      unfold s_X3_leftEdge_24_7 at hf
      replace hf := un2_e hf
      show ww X D A 6 Q 0 0 24 [(0, .ref oY), (1, .ref oR), (2, .int p1), (4, .int v4_8), (5, .int v5_9)] [] [gX3 cy oY aY Y, gX7 cy oR aR R, gX1 cy oC aC C, gX4 cy oP aP P]
      refine ww_iload h dX3_leftEdge_24 4 rfl 26 rfl ?_
      refine ww_iload_n h dX3_leftEdge_26 rfl 2 rfl 27 rfl ?_
      refine ww_icmp_ge h dX3_leftEdge_27 48 (by decide) 30 rfl (fun c => ?_) (fun c => ?_)
      · replace hf := ite_t c hf
        refine ww_lo [3] (lo' := [(4, .int v4_8)]) rfl ?_
        exact hE7 v4_8 (Option.some.inj hf).symm
      · replace hf := ite_f c hf
        refine ww_iload h dX3_leftEdge_30 3 rfl 32 rfl ?_
        refine ww_aload_n h dX3_leftEdge_32 rfl 0 rfl 33 rfl ?_
        refine ww_aload_n h dX3_leftEdge_33 rfl 1 rfl 34 rfl ?_
        refine ww_iload h dX3_leftEdge_34 4 rfl 36 rfl ?_
        obtain ⟨r_10, hu11, hf⟩ := ob1 hf
        refine ww_cVi h (c_X3_advanceOf l D ev cy oY aY Y oR aR R oC aC C oP aP P v5_9 _ hu11) ⟨w_968, w_965, w_966, w_967, w_109, ok_X3_advanceOf⟩ ⟨by decide, by decide⟩ ⟨by decide, by decide⟩ ⟨rfl, rfl⟩ [0, 0, 0, 0] rfl 0 rfl rfl rfl rfl (Nat.le_of_ble_eq_true rfl) dX3_leftEdge_36 39 rfl (Gs' := [gX3 cy oY aY Y, gX7 cy oR aR R, gX1 cy oC aC C, gX4 cy oP aP P]) rfl ?_
        clear hu11
        refine ww_iadd h dX3_leftEdge_39 40 rfl ?_
        refine ww_ist h dX3_leftEdge_40 (by decide) (fun v4_12 => [(4, .int v4_12), (0, .ref oY), (1, .ref oR), (2, .int p1), (5, .int v5_9)]) (fun _ => rfl) 42 rfl (fun v4_12 e => ?_)
        replace hf := bnd_at e hf
        clear e
        refine ww_inc (c := 1) h dX3_leftEdge_42 4 rfl (by decide) (by decide) (fun v5_13 => [(5, .int v5_13), (4, .int v4_12), (0, .ref oY), (1, .ref oR), (2, .int p1)]) (fun _ => rfl) 45 rfl (fun v5_13 e => ?_)
        replace hf := bnd_at e hf
        clear e
        refine ww_goto h dX3_leftEdge_45 24 (by decide) ?_
        refine ww_lo [2, 3, 4, 1, 0] (lo' := [(0, .ref oY), (1, .ref oR), (2, .int p1), (4, .int v4_12), (5, .int v5_13)]) rfl ?_
        exact hI7 (v4_12, v5_13) (Option.some.inj hf).symm
    · clear h7
      show ww X D A 6 Q 0 0 48 [(4, .int v4_14)] [] [gX3 cy oY aY Y, gX7 cy oR aR R, gX1 cy oC aC C, gX4 cy oP aP P]
      refine ww_iload h dX3_leftEdge_48 0 rfl 50 rfl ?_
      obtain rfl := Option.some.inj hf
      exact ww_iret h dX3_leftEdge_50 hQ ⟨rfl, rfl⟩
theorem dX3_dryUp_0 : decode cX3_dryUp 0 = .ok (.iload_n 1, 1) := by decide +kernel
theorem dX3_dryUp_1 : decode cX3_dryUp 1 = .ok (.iconst 0, 1) := by decide +kernel
theorem dX3_dryUp_2 : decode cX3_dryUp 2 = .ok (.invokestatic 42, 3) := by decide +kernel
theorem dX3_dryUp_5 : decode cX3_dryUp 5 = .ok (.istore_n 3, 1) := by decide +kernel
theorem dX3_dryUp_6 : decode cX3_dryUp 6 = .ok (.iload_n 3, 1) := by decide +kernel
theorem dX3_dryUp_7 : decode cX3_dryUp 7 = .ok (.iload_n 2, 1) := by decide +kernel
theorem dX3_dryUp_8 : decode cX3_dryUp 8 = .ok (.bipush 80, 2) := by decide +kernel
theorem dX3_dryUp_10 : decode cX3_dryUp 10 = .ok (.invokestatic 133, 3) := by decide +kernel
theorem dX3_dryUp_13 : decode cX3_dryUp 13 = .ok (.if_icmp .ge 16, 3) := by decide +kernel
theorem dX3_dryUp_16 : decode cX3_dryUp 16 = .ok (.aload_n 0, 1) := by decide +kernel
theorem dX3_dryUp_17 : decode cX3_dryUp 17 = .ok (.getfield 29, 3) := by decide +kernel
theorem dX3_dryUp_20 : decode cX3_dryUp 20 = .ok (.iload_n 3, 1) := by decide +kernel
theorem dX3_dryUp_21 : decode cX3_dryUp 21 = .ok (.iconst 0, 1) := by decide +kernel
theorem dX3_dryUp_22 : decode cX3_dryUp 22 = .ok (.iastore, 1) := by decide +kernel
theorem dX3_dryUp_23 : decode cX3_dryUp 23 = .ok (.iinc 3 1, 3) := by decide +kernel
theorem dX3_dryUp_26 : decode cX3_dryUp 26 = .ok (.goto (-20), 3) := by decide +kernel
theorem dX3_dryUp_29 : decode cX3_dryUp 29 = .ok (.return_, 1) := by decide +kernel
theorem ok_X3_dryUp : okY RX3 yX3_dryUp 2 := ⟨rfl, by decide, by decide, by decide +kernel⟩
def s_X3_dryUp_6_2 (p1 : Int32) : (Int32 × OV) → Option ((Int32 × OV) ⊕ (OV)) := un2 (fun v3_3 Y_4 => (if (if (80 : Int32) < p1 then (80 : Int32) else p1) ≤ v3_3 then some (.inr Y_4) else gd (ix v3_3 80) (bnd (sA Y_4 5 v3_3.toNatClampNeg (0 : Int32)) (fun Y_5 => bnd (v3_3 + 1) (fun v3_6 => some (.inl (v3_6, Y_5)))))))
def f_X3_dryUp (Y : OV) (p0 : Int32) (p1 : Int32) : Option (OV) := bnd (if p0 < (0 : Int32) then (0 : Int32) else p0) (fun v3_1 => ((lp (s_X3_dryUp_6_2 p1) 5000 (v3_1, Y)).bind (un1 (fun Y_7 => some Y_7))))
def r_X3_dryUp : Room := { frames := 1, cells := 0, slots := 0, locals := 21 }
set_option maxHeartbeats 4000000 in
set_option maxRecDepth 100000 in
theorem c_X3_dryUp (l : Launch) (D : va_G) (ev : EvT) (cy : Nat → ClassId) (oY : Nat) (aY : Nat → Nat) (Y : OV) (p0 : Int32) (p1 : Int32) (o : OV) (hf : f_X3_dryUp Y p0 p1 = some o) : Fn l yX3_dryUp cX3_dryUp 4 none r_X3_dryUp D ev cy [.ref oY, .int p0, .int p1] [gX3 cy oY aY Y] (fun v G => v = none ∧ G = [gX3 cy oY aY o]) := by
  refine Fn_of (by decide) (Nat.le_of_ble_eq_true rfl) (fun X A Q h hQ _ => ?_)
  unfold f_X3_dryUp at hf
  show ww X D A 4 Q 0 0 0 [(0, .ref oY), (1, .int p0), (2, .int p1)] [] [gX3 cy oY aY Y]
  refine ww_iload_n h dX3_dryUp_0 rfl 1 rfl 1 rfl ?_
  refine ww_iconst (v := 0) h dX3_dryUp_1 (by decide) 2 rfl ?_
  refine ww_max h w_898 w_134 w_103 w_135 ⟨by decide, Nat.le_of_ble_eq_true rfl, by decide, by decide⟩ dX3_dryUp_2 5 rfl ?_
  refine ww_ist_n h dX3_dryUp_5 rfl (by decide) (fun v3_1 => [(3, .int v3_1), (0, .ref oY), (1, .int p0), (2, .int p1)]) (fun _ => rfl) 6 rfl (fun v3_1 e => ?_)
  replace hf := bnd_at e hf
  clear e
  refine ww_lo [1, 3, 0] (lo' := [(0, .ref oY), (2, .int p1), (3, .int v3_1)]) rfl ?_
  obtain ⟨Y_7, h2, hf⟩ := ob1 hf
  refine lp_walk (un2 (fun v3_3 Y_4 => ww X D A 4 Q 0 0 6 [(0, .ref oY), (2, .int p1), (3, .int v3_3)] [] [gX3 cy oY aY Y_4])) (un1 (fun Y_7 => ww X D A 4 Q 0 0 29 [] [] [gX3 cy oY aY Y_7])) ?_ _ _ _ h2 ?_
  · clear h2 hf
    intro s2 o2 hf hI2 hE2
    obtain ⟨v3_3, Y_4⟩ := s2
    unfold s_X3_dryUp_6_2 at hf
    replace hf := un2_e hf
    show ww X D A 4 Q 0 0 6 [(0, .ref oY), (2, .int p1), (3, .int v3_3)] [] [gX3 cy oY aY Y_4]
    refine ww_iload_n h dX3_dryUp_6 rfl 2 rfl 7 rfl ?_
    refine ww_iload_n h dX3_dryUp_7 rfl 1 rfl 8 rfl ?_
    refine ww_bipush (v := 80) h dX3_dryUp_8 (by decide) 10 rfl ?_
    refine ww_min h w_1011 w_518 w_103 w_519 ⟨by decide, Nat.le_of_ble_eq_true rfl, by decide, by decide⟩ dX3_dryUp_10 13 rfl ?_
    refine ww_icmp_ge h dX3_dryUp_13 29 (by decide) 16 rfl (fun c => ?_) (fun c => ?_)
    · replace hf := ite_t c hf
      refine ww_lo [] (lo' := []) rfl ?_
      exact hE2 Y_4 (Option.some.inj hf).symm
    · replace hf := ite_f c hf
      refine ww_aload_n h dX3_dryUp_16 rfl 0 rfl 17 rfl ?_
      refine ww_get h inG3 rfl 0 rfl rfl 5 (by decide) w_369 rfl dX3_dryUp_17 20 rfl ?_
      refine ww_iload_n h dX3_dryUp_20 rfl 2 rfl 21 rfl ?_
      refine ww_iconst (v := 0) h dX3_dryUp_21 (by decide) 22 rfl ?_
      have hi := (gd_some hf).1
      replace hf := (gd_some hf).2
      refine ww_iast h 0 rfl 6 rfl (ix_in hi) dX3_dryUp_22 23 rfl ?_
      clear hi
      refine ww_nm (fun z => [gX3 cy oY aY z]) (sA Y_4 5 v3_3.toNatClampNeg (0 : Int32)) (fun Y_5 e => ?_)
      replace hf := bnd_at e hf
      clear e
      refine ww_inc (c := 1) h dX3_dryUp_23 2 rfl (by decide) (by decide) (fun v3_6 => [(3, .int v3_6), (0, .ref oY), (2, .int p1)]) (fun _ => rfl) 26 rfl (fun v3_6 e => ?_)
      replace hf := bnd_at e hf
      clear e
      refine ww_goto h dX3_dryUp_26 6 (by decide) ?_
      refine ww_lo [1, 2, 0] (lo' := [(0, .ref oY), (2, .int p1), (3, .int v3_6)]) rfl ?_
      exact hI2 (v3_6, Y_5) (Option.some.inj hf).symm
  · clear h2
    show ww X D A 4 Q 0 0 29 [] [] [gX3 cy oY aY Y_7]
    obtain rfl := Option.some.inj hf
    exact ww_vret h dX3_dryUp_29 hQ ⟨rfl, rfl⟩
theorem dX3_flowOn_0 : decode cX3_flowOn 0 = .ok (.iconst 0, 1) := by decide +kernel
theorem dX3_flowOn_1 : decode cX3_flowOn 1 = .ok (.istore_n 3, 1) := by decide +kernel
theorem dX3_flowOn_2 : decode cX3_flowOn 2 = .ok (.iload_n 1, 1) := by decide +kernel
theorem dX3_flowOn_3 : decode cX3_flowOn 3 = .ok (.iconst 0, 1) := by decide +kernel
theorem dX3_flowOn_4 : decode cX3_flowOn 4 = .ok (.invokestatic 42, 3) := by decide +kernel
theorem dX3_flowOn_7 : decode cX3_flowOn 7 = .ok (.istore 4, 2) := by decide +kernel
theorem dX3_flowOn_9 : decode cX3_flowOn 9 = .ok (.iload 4, 2) := by decide +kernel
theorem dX3_flowOn_11 : decode cX3_flowOn 11 = .ok (.iload_n 2, 1) := by decide +kernel
theorem dX3_flowOn_12 : decode cX3_flowOn 12 = .ok (.bipush 80, 2) := by decide +kernel
theorem dX3_flowOn_14 : decode cX3_flowOn 14 = .ok (.invokestatic 133, 3) := by decide +kernel
theorem dX3_flowOn_17 : decode cX3_flowOn 17 = .ok (.if_icmp .ge 32, 3) := by decide +kernel
theorem dX3_flowOn_20 : decode cX3_flowOn 20 = .ok (.aload_n 0, 1) := by decide +kernel
theorem dX3_flowOn_21 : decode cX3_flowOn 21 = .ok (.getfield 29, 3) := by decide +kernel
theorem dX3_flowOn_24 : decode cX3_flowOn 24 = .ok (.iload 4, 2) := by decide +kernel
theorem dX3_flowOn_26 : decode cX3_flowOn 26 = .ok (.dup2, 1) := by decide +kernel
theorem dX3_flowOn_27 : decode cX3_flowOn 27 = .ok (.iaload, 1) := by decide +kernel
theorem dX3_flowOn_28 : decode cX3_flowOn 28 = .ok (.iconst 1, 1) := by decide +kernel
theorem dX3_flowOn_29 : decode cX3_flowOn 29 = .ok (.iadd, 1) := by decide +kernel
theorem dX3_flowOn_30 : decode cX3_flowOn 30 = .ok (.iastore, 1) := by decide +kernel
theorem dX3_flowOn_31 : decode cX3_flowOn 31 = .ok (.iload_n 3, 1) := by decide +kernel
theorem dX3_flowOn_32 : decode cX3_flowOn 32 = .ok (.aload_n 0, 1) := by decide +kernel
theorem dX3_flowOn_33 : decode cX3_flowOn 33 = .ok (.getfield 29, 3) := by decide +kernel
theorem dX3_flowOn_36 : decode cX3_flowOn 36 = .ok (.iload 4, 2) := by decide +kernel
theorem dX3_flowOn_38 : decode cX3_flowOn 38 = .ok (.iaload, 1) := by decide +kernel
theorem dX3_flowOn_39 : decode cX3_flowOn 39 = .ok (.invokestatic 42, 3) := by decide +kernel
theorem dX3_flowOn_42 : decode cX3_flowOn 42 = .ok (.istore_n 3, 1) := by decide +kernel
theorem dX3_flowOn_43 : decode cX3_flowOn 43 = .ok (.iinc 4 1, 3) := by decide +kernel
theorem dX3_flowOn_46 : decode cX3_flowOn 46 = .ok (.goto (-37), 3) := by decide +kernel
theorem dX3_flowOn_49 : decode cX3_flowOn 49 = .ok (.iload_n 3, 1) := by decide +kernel
theorem dX3_flowOn_50 : decode cX3_flowOn 50 = .ok (.ireturn, 1) := by decide +kernel
theorem ok_X3_flowOn : okY RX3 yX3_flowOn 2 := ⟨rfl, by decide, by decide, by decide +kernel⟩
def s_X3_flowOn_9_3 (p1 : Int32) : (Int32 × Int32 × OV) → Option ((Int32 × Int32 × OV) ⊕ (Int32 × OV)) := un3 (fun v3_4 v4_5 Y_6 => (if (if (80 : Int32) < p1 then (80 : Int32) else p1) ≤ v4_5 then some (.inr (v3_4, Y_6)) else gd (ix v4_5 80) (gd (ix v4_5 80) (bnd (sA Y_6 5 v4_5.toNatClampNeg ((ar Y_6 5 v4_5.toNatClampNeg) + (1 : Int32))) (fun Y_7 => gd (ix v4_5 80) (bnd (if v3_4 < (ar Y_7 5 v4_5.toNatClampNeg) then (ar Y_7 5 v4_5.toNatClampNeg) else v3_4) (fun v3_8 => bnd (v4_5 + 1) (fun v4_9 => some (.inl (v3_8, v4_9, Y_7))))))))))
def f_X3_flowOn (Y : OV) (p0 : Int32) (p1 : Int32) : Option (Int32 × OV) := bnd (0 : Int32) (fun v3_1 => bnd (if p0 < (0 : Int32) then (0 : Int32) else p0) (fun v4_2 => ((lp (s_X3_flowOn_9_3 p1) 5000 (v3_1, v4_2, Y)).bind (un2 (fun v3_10 Y_11 => some (v3_10, Y_11))))))
def r_X3_flowOn : Room := { frames := 1, cells := 0, slots := 0, locals := 21 }
set_option maxHeartbeats 4000000 in
set_option maxRecDepth 100000 in
theorem c_X3_flowOn (l : Launch) (D : va_G) (ev : EvT) (cy : Nat → ClassId) (oY : Nat) (aY : Nat → Nat) (Y : OV) (p0 : Int32) (p1 : Int32) (o : Int32 × OV) (hf : f_X3_flowOn Y p0 p1 = some o) : Fn l yX3_flowOn cX3_flowOn 5 (some .int) r_X3_flowOn D ev cy [.ref oY, .int p0, .int p1] [gX3 cy oY aY Y] (fun v G => v = some (.int o.1) ∧ G = [gX3 cy oY aY o.2]) := by
  refine Fn_of (by decide) (Nat.le_of_ble_eq_true rfl) (fun X A Q h hQ _ => ?_)
  unfold f_X3_flowOn at hf
  show ww X D A 5 Q 0 0 0 [(0, .ref oY), (1, .int p0), (2, .int p1)] [] [gX3 cy oY aY Y]
  refine ww_iconst (v := 0) h dX3_flowOn_0 (by decide) 1 rfl ?_
  refine ww_ist_n h dX3_flowOn_1 rfl (by decide) (fun v3_1 => [(3, .int v3_1), (0, .ref oY), (1, .int p0), (2, .int p1)]) (fun _ => rfl) 2 rfl (fun v3_1 e => ?_)
  replace hf := bnd_at e hf
  clear e
  refine ww_iload_n h dX3_flowOn_2 rfl 2 rfl 3 rfl ?_
  refine ww_iconst (v := 0) h dX3_flowOn_3 (by decide) 4 rfl ?_
  refine ww_max h w_898 w_134 w_103 w_135 ⟨by decide, Nat.le_of_ble_eq_true rfl, by decide, by decide⟩ dX3_flowOn_4 7 rfl ?_
  refine ww_ist h dX3_flowOn_7 (by decide) (fun v4_2 => [(4, .int v4_2), (3, .int v3_1), (0, .ref oY), (1, .int p0), (2, .int p1)]) (fun _ => rfl) 9 rfl (fun v4_2 e => ?_)
  replace hf := bnd_at e hf
  clear e
  refine ww_lo [2, 4, 1, 0] (lo' := [(0, .ref oY), (2, .int p1), (3, .int v3_1), (4, .int v4_2)]) rfl ?_
  obtain ⟨v3_10, Y_11, h3, hf⟩ := ob2 hf
  refine lp_walk (un3 (fun v3_4 v4_5 Y_6 => ww X D A 5 Q 0 0 9 [(0, .ref oY), (2, .int p1), (3, .int v3_4), (4, .int v4_5)] [] [gX3 cy oY aY Y_6])) (un2 (fun v3_10 Y_11 => ww X D A 5 Q 0 0 49 [(3, .int v3_10)] [] [gX3 cy oY aY Y_11])) ?_ _ _ _ h3 ?_
  · clear h3 hf
    intro s3 o3 hf hI3 hE3
    obtain ⟨v3_4, v4_5, Y_6⟩ := s3
    unfold s_X3_flowOn_9_3 at hf
    replace hf := un3_e hf
    show ww X D A 5 Q 0 0 9 [(0, .ref oY), (2, .int p1), (3, .int v3_4), (4, .int v4_5)] [] [gX3 cy oY aY Y_6]
    refine ww_iload h dX3_flowOn_9 3 rfl 11 rfl ?_
    refine ww_iload_n h dX3_flowOn_11 rfl 1 rfl 12 rfl ?_
    refine ww_bipush (v := 80) h dX3_flowOn_12 (by decide) 14 rfl ?_
    refine ww_min h w_1011 w_518 w_103 w_519 ⟨by decide, Nat.le_of_ble_eq_true rfl, by decide, by decide⟩ dX3_flowOn_14 17 rfl ?_
    refine ww_icmp_ge h dX3_flowOn_17 49 (by decide) 20 rfl (fun c => ?_) (fun c => ?_)
    · replace hf := ite_t c hf
      refine ww_lo [2] (lo' := [(3, .int v3_4)]) rfl ?_
      exact hE3 (v3_4, Y_6) (Option.some.inj hf).symm
    · replace hf := ite_f c hf
      refine ww_aload_n h dX3_flowOn_20 rfl 0 rfl 21 rfl ?_
      refine ww_get h inG3 rfl 0 rfl rfl 5 (by decide) w_369 rfl dX3_flowOn_21 24 rfl ?_
      refine ww_iload h dX3_flowOn_24 3 rfl 26 rfl ?_
      refine ww_dup2 h dX3_flowOn_26 rfl rfl 27 rfl ?_
      have hi := (gd_some hf).1
      replace hf := (gd_some hf).2
      refine ww_iald h 0 rfl 6 rfl (ix_in hi) dX3_flowOn_27 28 rfl ?_
      clear hi
      refine ww_iconst (v := 1) h dX3_flowOn_28 (by decide) 29 rfl ?_
      refine ww_iadd h dX3_flowOn_29 30 rfl ?_
      have hi := (gd_some hf).1
      replace hf := (gd_some hf).2
      refine ww_iast h 0 rfl 6 rfl (ix_in hi) dX3_flowOn_30 31 rfl ?_
      clear hi
      refine ww_nm (fun z => [gX3 cy oY aY z]) (sA Y_6 5 v4_5.toNatClampNeg ((ar Y_6 5 v4_5.toNatClampNeg) + (1 : Int32))) (fun Y_7 e => ?_)
      replace hf := bnd_at e hf
      clear e
      refine ww_iload_n h dX3_flowOn_31 rfl 2 rfl 32 rfl ?_
      refine ww_aload_n h dX3_flowOn_32 rfl 0 rfl 33 rfl ?_
      refine ww_get h inG3 rfl 0 rfl rfl 5 (by decide) w_369 rfl dX3_flowOn_33 36 rfl ?_
      refine ww_iload h dX3_flowOn_36 3 rfl 38 rfl ?_
      have hi := (gd_some hf).1
      replace hf := (gd_some hf).2
      refine ww_iald h 0 rfl 6 rfl (ix_in hi) dX3_flowOn_38 39 rfl ?_
      clear hi
      refine ww_max h w_898 w_134 w_103 w_135 ⟨by decide, Nat.le_of_ble_eq_true rfl, by decide, by decide⟩ dX3_flowOn_39 42 rfl ?_
      refine ww_ist_n h dX3_flowOn_42 rfl (by decide) (fun v3_8 => [(3, .int v3_8), (0, .ref oY), (2, .int p1), (4, .int v4_5)]) (fun _ => rfl) 43 rfl (fun v3_8 e => ?_)
      replace hf := bnd_at e hf
      clear e
      refine ww_inc (c := 1) h dX3_flowOn_43 3 rfl (by decide) (by decide) (fun v4_9 => [(4, .int v4_9), (3, .int v3_8), (0, .ref oY), (2, .int p1)]) (fun _ => rfl) 46 rfl (fun v4_9 e => ?_)
      replace hf := bnd_at e hf
      clear e
      refine ww_goto h dX3_flowOn_46 9 (by decide) ?_
      refine ww_lo [2, 3, 1, 0] (lo' := [(0, .ref oY), (2, .int p1), (3, .int v3_8), (4, .int v4_9)]) rfl ?_
      exact hI3 (v3_8, v4_9, Y_7) (Option.some.inj hf).symm
  · clear h3
    show ww X D A 5 Q 0 0 49 [(3, .int v3_10)] [] [gX3 cy oY aY Y_11]
    refine ww_iload_n h dX3_flowOn_49 rfl 0 rfl 50 rfl ?_
    obtain rfl := Option.some.inj hf
    exact ww_iret h dX3_flowOn_50 hQ ⟨rfl, rfl⟩
theorem dX3_leastOf_0 : decode cX3_leastOf 0 = .ok (.iconst (-1), 1) := by decide +kernel
theorem dX3_leastOf_1 : decode cX3_leastOf 1 = .ok (.istore 5, 2) := by decide +kernel
theorem dX3_leastOf_3 : decode cX3_leastOf 3 = .ok (.iload_n 3, 1) := by decide +kernel
theorem dX3_leastOf_4 : decode cX3_leastOf 4 = .ok (.istore 6, 2) := by decide +kernel
theorem dX3_leastOf_6 : decode cX3_leastOf 6 = .ok (.iload 6, 2) := by decide +kernel
theorem dX3_leastOf_8 : decode cX3_leastOf 8 = .ok (.iload 4, 2) := by decide +kernel
theorem dX3_leastOf_10 : decode cX3_leastOf 10 = .ok (.if_icmp .gt 55, 3) := by decide +kernel
theorem dX3_leastOf_13 : decode cX3_leastOf 13 = .ok (.aload_n 0, 1) := by decide +kernel
theorem dX3_leastOf_14 : decode cX3_leastOf 14 = .ok (.getfield 26, 3) := by decide +kernel
theorem dX3_leastOf_17 : decode cX3_leastOf 17 = .ok (.iload 6, 2) := by decide +kernel
theorem dX3_leastOf_19 : decode cX3_leastOf 19 = .ok (.iaload, 1) := by decide +kernel
theorem dX3_leastOf_20 : decode cX3_leastOf 20 = .ok (.iload_n 1, 1) := by decide +kernel
theorem dX3_leastOf_21 : decode cX3_leastOf 21 = .ok (.if_icmp .ne 38, 3) := by decide +kernel
theorem dX3_leastOf_24 : decode cX3_leastOf 24 = .ok (.aload_n 2, 1) := by decide +kernel
theorem dX3_leastOf_25 : decode cX3_leastOf 25 = .ok (.iload 6, 2) := by decide +kernel
theorem dX3_leastOf_27 : decode cX3_leastOf 27 = .ok (.iaload, 1) := by decide +kernel
theorem dX3_leastOf_28 : decode cX3_leastOf 28 = .ok (.aload_n 0, 1) := by decide +kernel
theorem dX3_leastOf_29 : decode cX3_leastOf 29 = .ok (.getfield 23, 3) := by decide +kernel
theorem dX3_leastOf_32 : decode cX3_leastOf 32 = .ok (.iload 6, 2) := by decide +kernel
theorem dX3_leastOf_34 : decode cX3_leastOf 34 = .ok (.iaload, 1) := by decide +kernel
theorem dX3_leastOf_35 : decode cX3_leastOf 35 = .ok (.if_icmp .ge 24, 3) := by decide +kernel
theorem dX3_leastOf_38 : decode cX3_leastOf 38 = .ok (.iload 5, 2) := by decide +kernel
theorem dX3_leastOf_40 : decode cX3_leastOf 40 = .ok (.iconst (-1), 1) := by decide +kernel
theorem dX3_leastOf_41 : decode cX3_leastOf 41 = .ok (.if_icmp .eq 14, 3) := by decide +kernel
theorem dX3_leastOf_44 : decode cX3_leastOf 44 = .ok (.aload_n 2, 1) := by decide +kernel
theorem dX3_leastOf_45 : decode cX3_leastOf 45 = .ok (.iload 6, 2) := by decide +kernel
theorem dX3_leastOf_47 : decode cX3_leastOf 47 = .ok (.iaload, 1) := by decide +kernel
theorem dX3_leastOf_48 : decode cX3_leastOf 48 = .ok (.aload_n 2, 1) := by decide +kernel
theorem dX3_leastOf_49 : decode cX3_leastOf 49 = .ok (.iload 5, 2) := by decide +kernel
theorem dX3_leastOf_51 : decode cX3_leastOf 51 = .ok (.iaload, 1) := by decide +kernel
theorem dX3_leastOf_52 : decode cX3_leastOf 52 = .ok (.if_icmp .ge 7, 3) := by decide +kernel
theorem dX3_leastOf_55 : decode cX3_leastOf 55 = .ok (.iload 6, 2) := by decide +kernel
theorem dX3_leastOf_57 : decode cX3_leastOf 57 = .ok (.istore 5, 2) := by decide +kernel
theorem dX3_leastOf_59 : decode cX3_leastOf 59 = .ok (.iinc 6 1, 3) := by decide +kernel
theorem dX3_leastOf_62 : decode cX3_leastOf 62 = .ok (.goto (-56), 3) := by decide +kernel
theorem dX3_leastOf_65 : decode cX3_leastOf 65 = .ok (.iload 5, 2) := by decide +kernel
theorem dX3_leastOf_67 : decode cX3_leastOf 67 = .ok (.ireturn, 1) := by decide +kernel
theorem ok_X3_leastOf : okY RX3 yX3_leastOf 4 := ⟨rfl, by decide, by decide, by decide +kernel⟩
def j_X3_leastOf_1_59_7 (v6_5 : Int32) (v5_6 : Int32) : Option ((Int32 × Int32) ⊕ (Int32)) := bnd (v6_5 + 1) (fun v6_8 => some (.inl (v5_6, v6_8)))
def j_X3_leastOf_1_55_9 (v6_5 : Int32) : Option ((Int32 × Int32) ⊕ (Int32)) := bnd v6_5 (fun v5_10 => j_X3_leastOf_1_59_7 v6_5 v5_10)
def s_X3_leastOf_1_6_3 (Y : OV) (p0 : Int32) (p3 : Int32) : (Int32 × Int32) → Option ((Int32 × Int32) ⊕ (Int32)) := un2 (fun v5_4 v6_5 => (if p3 < v6_5 then some (.inr v5_4) else gd (ix v6_5 40) ((if (ar Y 4 v6_5.toNatClampNeg) = p0 then gd (ix v6_5 40) (gd (ix v6_5 40) ((if (ar Y 3 v6_5.toNatClampNeg) ≤ (ar Y 1 v6_5.toNatClampNeg) then j_X3_leastOf_1_59_7 v6_5 v5_4 else (if v5_4 = (-1 : Int32) then j_X3_leastOf_1_55_9 v6_5 else gd (ix v6_5 40) (gd (ix v5_4 40) ((if (ar Y 1 v5_4.toNatClampNeg) ≤ (ar Y 1 v6_5.toNatClampNeg) then j_X3_leastOf_1_59_7 v6_5 v5_4 else j_X3_leastOf_1_55_9 v6_5))))))) else j_X3_leastOf_1_59_7 v6_5 v5_4))))
def f_X3_leastOf_1 (Y : OV) (p0 : Int32) (p2 : Int32) (p3 : Int32) : Option (Int32) := bnd (-1 : Int32) (fun v5_1 => bnd p2 (fun v6_2 => ((lp (s_X3_leastOf_1_6_3 Y p0 p3) 5000 (v5_1, v6_2)).bind (un1 (fun v5_11 => some v5_11)))))
def r_X3_leastOf_1 : Room := { frames := 0, cells := 0, slots := 0, locals := 0 }
set_option maxHeartbeats 4000000 in
set_option maxRecDepth 100000 in
theorem c_X3_leastOf_1 (l : Launch) (D : va_G) (ev : EvT) (cy : Nat → ClassId) (oY : Nat) (aY : Nat → Nat) (Y : OV) (p0 : Int32) (p2 : Int32) (p3 : Int32) (o : Int32) (hf : f_X3_leastOf_1 Y p0 p2 p3 = some o) : Fn l yX3_leastOf cX3_leastOf 7 (some .int) r_X3_leastOf_1 D ev cy [.ref oY, .int p0, .ref (aY 1), .int p2, .int p3] [gX3 cy oY aY Y] (fun v G => v = some (.int o) ∧ G = [gX3 cy oY aY Y]) := by
  refine Fn_of (by decide) (Nat.le_of_ble_eq_true rfl) (fun X A Q h hQ _ => ?_)
  unfold f_X3_leastOf_1 at hf
  show ww X D A 7 Q 0 0 0 [(0, .ref oY), (1, .int p0), (2, .ref (aY 1)), (3, .int p2), (4, .int p3)] [] [gX3 cy oY aY Y]
  refine ww_iconst (v := (-1)) h dX3_leastOf_0 (by decide) 1 rfl ?_
  refine ww_ist h dX3_leastOf_1 (by decide) (fun v5_1 => [(5, .int v5_1), (0, .ref oY), (1, .int p0), (2, .ref (aY 1)), (3, .int p2), (4, .int p3)]) (fun _ => rfl) 3 rfl (fun v5_1 e => ?_)
  replace hf := bnd_at e hf
  clear e
  refine ww_iload_n h dX3_leastOf_3 rfl 4 rfl 4 rfl ?_
  refine ww_ist h dX3_leastOf_4 (by decide) (fun v6_2 => [(6, .int v6_2), (5, .int v5_1), (0, .ref oY), (1, .int p0), (2, .ref (aY 1)), (3, .int p2), (4, .int p3)]) (fun _ => rfl) 6 rfl (fun v6_2 e => ?_)
  replace hf := bnd_at e hf
  clear e
  refine ww_lo [2, 3, 4, 6, 1, 0] (lo' := [(0, .ref oY), (1, .int p0), (2, .ref (aY 1)), (4, .int p3), (5, .int v5_1), (6, .int v6_2)]) rfl ?_
  obtain ⟨v5_11, h3, hf⟩ := ob1 hf
  refine lp_walk (un2 (fun v5_4 v6_5 => ww X D A 7 Q 0 0 6 [(0, .ref oY), (1, .int p0), (2, .ref (aY 1)), (4, .int p3), (5, .int v5_4), (6, .int v6_5)] [] [gX3 cy oY aY Y])) (un1 (fun v5_11 => ww X D A 7 Q 0 0 65 [(5, .int v5_11)] [] [gX3 cy oY aY Y])) ?_ _ _ _ h3 ?_
  · clear h3 hf
    intro s3 o3 hf hI3 hE3
    obtain ⟨v5_4, v6_5⟩ := s3
    unfold s_X3_leastOf_1_6_3 at hf
    replace hf := un2_e hf
    show ww X D A 7 Q 0 0 6 [(0, .ref oY), (1, .int p0), (2, .ref (aY 1)), (4, .int p3), (5, .int v5_4), (6, .int v6_5)] [] [gX3 cy oY aY Y]
    refine ww_iload h dX3_leastOf_6 5 rfl 8 rfl ?_
    refine ww_iload h dX3_leastOf_8 3 rfl 10 rfl ?_
    refine ww_icmp_gt h dX3_leastOf_10 65 (by decide) 13 rfl (fun c => ?_) (fun c => ?_)
    · replace hf := ite_t c hf
      refine ww_lo [4] (lo' := [(5, .int v5_4)]) rfl ?_
      exact hE3 v5_4 (Option.some.inj hf).symm
    · replace hf := ite_f c hf
      refine ww_aload_n h dX3_leastOf_13 rfl 0 rfl 14 rfl ?_
      refine ww_get h inG3 rfl 0 rfl rfl 4 (by decide) w_368 rfl dX3_leastOf_14 17 rfl ?_
      refine ww_iload h dX3_leastOf_17 5 rfl 19 rfl ?_
      have hi := (gd_some hf).1
      replace hf := (gd_some hf).2
      refine ww_iald h 0 rfl 5 rfl (ix_in hi) dX3_leastOf_19 20 rfl ?_
      clear hi
      refine ww_iload_n h dX3_leastOf_20 rfl 1 rfl 21 rfl ?_
      have hJ59_7 : ∀ (v5_6 : Int32), j_X3_leastOf_1_59_7 v6_5 v5_6 = some o3 → ww X D A 7 Q 0 0 59 [(0, .ref oY), (1, .int p0), (2, .ref (aY 1)), (4, .int p3), (5, .int v5_6), (6, .int v6_5)] [] [gX3 cy oY aY Y] := by
        intro v5_6 hf
        unfold j_X3_leastOf_1_59_7 at hf
        refine ww_inc (c := 1) h dX3_leastOf_59 5 rfl (by decide) (by decide) (fun v6_8 => [(6, .int v6_8), (0, .ref oY), (1, .int p0), (2, .ref (aY 1)), (4, .int p3), (5, .int v5_6)]) (fun _ => rfl) 62 rfl (fun v6_8 e => ?_)
        replace hf := bnd_at e hf
        clear e
        refine ww_goto h dX3_leastOf_62 6 (by decide) ?_
        refine ww_lo [1, 2, 3, 4, 5, 0] (lo' := [(0, .ref oY), (1, .int p0), (2, .ref (aY 1)), (4, .int p3), (5, .int v5_6), (6, .int v6_8)]) rfl ?_
        exact hI3 (v5_6, v6_8) (Option.some.inj hf).symm
      refine ww_icmp_ne h dX3_leastOf_21 59 (by decide) 24 rfl (fun c => ?_) (fun c => ?_)
      · replace hf := ite_f c hf
        exact hJ59_7 v5_4 hf
      · replace hf := ite_t c hf
        refine ww_aload_n h dX3_leastOf_24 rfl 2 rfl 25 rfl ?_
        refine ww_iload h dX3_leastOf_25 5 rfl 27 rfl ?_
        have hi := (gd_some hf).1
        replace hf := (gd_some hf).2
        refine ww_iald h 0 rfl 2 rfl (ix_in hi) dX3_leastOf_27 28 rfl ?_
        clear hi
        refine ww_aload_n h dX3_leastOf_28 rfl 0 rfl 29 rfl ?_
        refine ww_get h inG3 rfl 0 rfl rfl 3 (by decide) w_367 rfl dX3_leastOf_29 32 rfl ?_
        refine ww_iload h dX3_leastOf_32 5 rfl 34 rfl ?_
        have hi := (gd_some hf).1
        replace hf := (gd_some hf).2
        refine ww_iald h 0 rfl 4 rfl (ix_in hi) dX3_leastOf_34 35 rfl ?_
        clear hi
        refine ww_icmp_ge h dX3_leastOf_35 59 (by decide) 38 rfl (fun c => ?_) (fun c => ?_)
        · replace hf := ite_t c hf
          exact hJ59_7 v5_4 hf
        · replace hf := ite_f c hf
          refine ww_iload h dX3_leastOf_38 4 rfl 40 rfl ?_
          refine ww_iconst (v := (-1)) h dX3_leastOf_40 (by decide) 41 rfl ?_
          have hJ55_9 : ∀ (_ : Unit), j_X3_leastOf_1_55_9 v6_5 = some o3 → ww X D A 7 Q 0 0 55 [(0, .ref oY), (1, .int p0), (2, .ref (aY 1)), (4, .int p3), (6, .int v6_5)] [] [gX3 cy oY aY Y] := by
            intro _ hf
            unfold j_X3_leastOf_1_55_9 at hf
            refine ww_iload h dX3_leastOf_55 4 rfl 57 rfl ?_
            refine ww_ist h dX3_leastOf_57 (by decide) (fun v5_10 => [(5, .int v5_10), (0, .ref oY), (1, .int p0), (2, .ref (aY 1)), (4, .int p3), (6, .int v6_5)]) (fun _ => rfl) 59 rfl (fun v5_10 e => ?_)
            replace hf := bnd_at e hf
            clear e
            refine ww_lo [1, 2, 3, 4, 0, 5] (lo' := [(0, .ref oY), (1, .int p0), (2, .ref (aY 1)), (4, .int p3), (5, .int v5_10), (6, .int v6_5)]) rfl ?_
            exact hJ59_7 v5_10 hf
          refine ww_icmp_eq h dX3_leastOf_41 55 (by decide) 44 rfl (fun c => ?_) (fun c => ?_)
          · replace hf := ite_t c hf
            refine ww_lo [0, 1, 2, 3, 5] (lo' := [(0, .ref oY), (1, .int p0), (2, .ref (aY 1)), (4, .int p3), (6, .int v6_5)]) rfl ?_
            exact hJ55_9 () hf
          · replace hf := ite_f c hf
            refine ww_aload_n h dX3_leastOf_44 rfl 2 rfl 45 rfl ?_
            refine ww_iload h dX3_leastOf_45 5 rfl 47 rfl ?_
            have hi := (gd_some hf).1
            replace hf := (gd_some hf).2
            refine ww_iald h 0 rfl 2 rfl (ix_in hi) dX3_leastOf_47 48 rfl ?_
            clear hi
            refine ww_aload_n h dX3_leastOf_48 rfl 2 rfl 49 rfl ?_
            refine ww_iload h dX3_leastOf_49 4 rfl 51 rfl ?_
            have hi := (gd_some hf).1
            replace hf := (gd_some hf).2
            refine ww_iald h 0 rfl 2 rfl (ix_in hi) dX3_leastOf_51 52 rfl ?_
            clear hi
            refine ww_icmp_ge h dX3_leastOf_52 59 (by decide) 55 rfl (fun c => ?_) (fun c => ?_)
            · replace hf := ite_t c hf
              exact hJ59_7 v5_4 hf
            · replace hf := ite_f c hf
              refine ww_lo [0, 1, 2, 3, 5] (lo' := [(0, .ref oY), (1, .int p0), (2, .ref (aY 1)), (4, .int p3), (6, .int v6_5)]) rfl ?_
              exact hJ55_9 () hf
  · clear h3
    show ww X D A 7 Q 0 0 65 [(5, .int v5_11)] [] [gX3 cy oY aY Y]
    refine ww_iload h dX3_leastOf_65 0 rfl 67 rfl ?_
    obtain rfl := Option.some.inj hf
    exact ww_iret h dX3_leastOf_67 hQ ⟨rfl, rfl⟩
def j_X3_leastOf_2_59_7 (v6_5 : Int32) (v5_6 : Int32) : Option ((Int32 × Int32) ⊕ (Int32)) := bnd (v6_5 + 1) (fun v6_8 => some (.inl (v5_6, v6_8)))
def j_X3_leastOf_2_55_9 (v6_5 : Int32) : Option ((Int32 × Int32) ⊕ (Int32)) := bnd v6_5 (fun v5_10 => j_X3_leastOf_2_59_7 v6_5 v5_10)
def s_X3_leastOf_2_6_3 (Y : OV) (p0 : Int32) (p3 : Int32) : (Int32 × Int32) → Option ((Int32 × Int32) ⊕ (Int32)) := un2 (fun v5_4 v6_5 => (if p3 < v6_5 then some (.inr v5_4) else gd (ix v6_5 40) ((if (ar Y 4 v6_5.toNatClampNeg) = p0 then gd (ix v6_5 40) (gd (ix v6_5 40) ((if (ar Y 3 v6_5.toNatClampNeg) ≤ (ar Y 2 v6_5.toNatClampNeg) then j_X3_leastOf_2_59_7 v6_5 v5_4 else (if v5_4 = (-1 : Int32) then j_X3_leastOf_2_55_9 v6_5 else gd (ix v6_5 40) (gd (ix v5_4 40) ((if (ar Y 2 v5_4.toNatClampNeg) ≤ (ar Y 2 v6_5.toNatClampNeg) then j_X3_leastOf_2_59_7 v6_5 v5_4 else j_X3_leastOf_2_55_9 v6_5))))))) else j_X3_leastOf_2_59_7 v6_5 v5_4))))
def f_X3_leastOf_2 (Y : OV) (p0 : Int32) (p2 : Int32) (p3 : Int32) : Option (Int32) := bnd (-1 : Int32) (fun v5_1 => bnd p2 (fun v6_2 => ((lp (s_X3_leastOf_2_6_3 Y p0 p3) 5000 (v5_1, v6_2)).bind (un1 (fun v5_11 => some v5_11)))))
def r_X3_leastOf_2 : Room := { frames := 0, cells := 0, slots := 0, locals := 0 }
set_option maxHeartbeats 4000000 in
set_option maxRecDepth 100000 in
theorem c_X3_leastOf_2 (l : Launch) (D : va_G) (ev : EvT) (cy : Nat → ClassId) (oY : Nat) (aY : Nat → Nat) (Y : OV) (p0 : Int32) (p2 : Int32) (p3 : Int32) (o : Int32) (hf : f_X3_leastOf_2 Y p0 p2 p3 = some o) : Fn l yX3_leastOf cX3_leastOf 7 (some .int) r_X3_leastOf_2 D ev cy [.ref oY, .int p0, .ref (aY 2), .int p2, .int p3] [gX3 cy oY aY Y] (fun v G => v = some (.int o) ∧ G = [gX3 cy oY aY Y]) := by
  refine Fn_of (by decide) (Nat.le_of_ble_eq_true rfl) (fun X A Q h hQ _ => ?_)
  unfold f_X3_leastOf_2 at hf
  show ww X D A 7 Q 0 0 0 [(0, .ref oY), (1, .int p0), (2, .ref (aY 2)), (3, .int p2), (4, .int p3)] [] [gX3 cy oY aY Y]
  refine ww_iconst (v := (-1)) h dX3_leastOf_0 (by decide) 1 rfl ?_
  refine ww_ist h dX3_leastOf_1 (by decide) (fun v5_1 => [(5, .int v5_1), (0, .ref oY), (1, .int p0), (2, .ref (aY 2)), (3, .int p2), (4, .int p3)]) (fun _ => rfl) 3 rfl (fun v5_1 e => ?_)
  replace hf := bnd_at e hf
  clear e
  refine ww_iload_n h dX3_leastOf_3 rfl 4 rfl 4 rfl ?_
  refine ww_ist h dX3_leastOf_4 (by decide) (fun v6_2 => [(6, .int v6_2), (5, .int v5_1), (0, .ref oY), (1, .int p0), (2, .ref (aY 2)), (3, .int p2), (4, .int p3)]) (fun _ => rfl) 6 rfl (fun v6_2 e => ?_)
  replace hf := bnd_at e hf
  clear e
  refine ww_lo [2, 3, 4, 6, 1, 0] (lo' := [(0, .ref oY), (1, .int p0), (2, .ref (aY 2)), (4, .int p3), (5, .int v5_1), (6, .int v6_2)]) rfl ?_
  obtain ⟨v5_11, h3, hf⟩ := ob1 hf
  refine lp_walk (un2 (fun v5_4 v6_5 => ww X D A 7 Q 0 0 6 [(0, .ref oY), (1, .int p0), (2, .ref (aY 2)), (4, .int p3), (5, .int v5_4), (6, .int v6_5)] [] [gX3 cy oY aY Y])) (un1 (fun v5_11 => ww X D A 7 Q 0 0 65 [(5, .int v5_11)] [] [gX3 cy oY aY Y])) ?_ _ _ _ h3 ?_
  · clear h3 hf
    intro s3 o3 hf hI3 hE3
    obtain ⟨v5_4, v6_5⟩ := s3
    unfold s_X3_leastOf_2_6_3 at hf
    replace hf := un2_e hf
    show ww X D A 7 Q 0 0 6 [(0, .ref oY), (1, .int p0), (2, .ref (aY 2)), (4, .int p3), (5, .int v5_4), (6, .int v6_5)] [] [gX3 cy oY aY Y]
    refine ww_iload h dX3_leastOf_6 5 rfl 8 rfl ?_
    refine ww_iload h dX3_leastOf_8 3 rfl 10 rfl ?_
    refine ww_icmp_gt h dX3_leastOf_10 65 (by decide) 13 rfl (fun c => ?_) (fun c => ?_)
    · replace hf := ite_t c hf
      refine ww_lo [4] (lo' := [(5, .int v5_4)]) rfl ?_
      exact hE3 v5_4 (Option.some.inj hf).symm
    · replace hf := ite_f c hf
      refine ww_aload_n h dX3_leastOf_13 rfl 0 rfl 14 rfl ?_
      refine ww_get h inG3 rfl 0 rfl rfl 4 (by decide) w_368 rfl dX3_leastOf_14 17 rfl ?_
      refine ww_iload h dX3_leastOf_17 5 rfl 19 rfl ?_
      have hi := (gd_some hf).1
      replace hf := (gd_some hf).2
      refine ww_iald h 0 rfl 5 rfl (ix_in hi) dX3_leastOf_19 20 rfl ?_
      clear hi
      refine ww_iload_n h dX3_leastOf_20 rfl 1 rfl 21 rfl ?_
      have hJ59_7 : ∀ (v5_6 : Int32), j_X3_leastOf_2_59_7 v6_5 v5_6 = some o3 → ww X D A 7 Q 0 0 59 [(0, .ref oY), (1, .int p0), (2, .ref (aY 2)), (4, .int p3), (5, .int v5_6), (6, .int v6_5)] [] [gX3 cy oY aY Y] := by
        intro v5_6 hf
        unfold j_X3_leastOf_2_59_7 at hf
        refine ww_inc (c := 1) h dX3_leastOf_59 5 rfl (by decide) (by decide) (fun v6_8 => [(6, .int v6_8), (0, .ref oY), (1, .int p0), (2, .ref (aY 2)), (4, .int p3), (5, .int v5_6)]) (fun _ => rfl) 62 rfl (fun v6_8 e => ?_)
        replace hf := bnd_at e hf
        clear e
        refine ww_goto h dX3_leastOf_62 6 (by decide) ?_
        refine ww_lo [1, 2, 3, 4, 5, 0] (lo' := [(0, .ref oY), (1, .int p0), (2, .ref (aY 2)), (4, .int p3), (5, .int v5_6), (6, .int v6_8)]) rfl ?_
        exact hI3 (v5_6, v6_8) (Option.some.inj hf).symm
      refine ww_icmp_ne h dX3_leastOf_21 59 (by decide) 24 rfl (fun c => ?_) (fun c => ?_)
      · replace hf := ite_f c hf
        exact hJ59_7 v5_4 hf
      · replace hf := ite_t c hf
        refine ww_aload_n h dX3_leastOf_24 rfl 2 rfl 25 rfl ?_
        refine ww_iload h dX3_leastOf_25 5 rfl 27 rfl ?_
        have hi := (gd_some hf).1
        replace hf := (gd_some hf).2
        refine ww_iald h 0 rfl 3 rfl (ix_in hi) dX3_leastOf_27 28 rfl ?_
        clear hi
        refine ww_aload_n h dX3_leastOf_28 rfl 0 rfl 29 rfl ?_
        refine ww_get h inG3 rfl 0 rfl rfl 3 (by decide) w_367 rfl dX3_leastOf_29 32 rfl ?_
        refine ww_iload h dX3_leastOf_32 5 rfl 34 rfl ?_
        have hi := (gd_some hf).1
        replace hf := (gd_some hf).2
        refine ww_iald h 0 rfl 4 rfl (ix_in hi) dX3_leastOf_34 35 rfl ?_
        clear hi
        refine ww_icmp_ge h dX3_leastOf_35 59 (by decide) 38 rfl (fun c => ?_) (fun c => ?_)
        · replace hf := ite_t c hf
          exact hJ59_7 v5_4 hf
        · replace hf := ite_f c hf
          refine ww_iload h dX3_leastOf_38 4 rfl 40 rfl ?_
          refine ww_iconst (v := (-1)) h dX3_leastOf_40 (by decide) 41 rfl ?_
          have hJ55_9 : ∀ (_ : Unit), j_X3_leastOf_2_55_9 v6_5 = some o3 → ww X D A 7 Q 0 0 55 [(0, .ref oY), (1, .int p0), (2, .ref (aY 2)), (4, .int p3), (6, .int v6_5)] [] [gX3 cy oY aY Y] := by
            intro _ hf
            unfold j_X3_leastOf_2_55_9 at hf
            refine ww_iload h dX3_leastOf_55 4 rfl 57 rfl ?_
            refine ww_ist h dX3_leastOf_57 (by decide) (fun v5_10 => [(5, .int v5_10), (0, .ref oY), (1, .int p0), (2, .ref (aY 2)), (4, .int p3), (6, .int v6_5)]) (fun _ => rfl) 59 rfl (fun v5_10 e => ?_)
            replace hf := bnd_at e hf
            clear e
            refine ww_lo [1, 2, 3, 4, 0, 5] (lo' := [(0, .ref oY), (1, .int p0), (2, .ref (aY 2)), (4, .int p3), (5, .int v5_10), (6, .int v6_5)]) rfl ?_
            exact hJ59_7 v5_10 hf
          refine ww_icmp_eq h dX3_leastOf_41 55 (by decide) 44 rfl (fun c => ?_) (fun c => ?_)
          · replace hf := ite_t c hf
            refine ww_lo [0, 1, 2, 3, 5] (lo' := [(0, .ref oY), (1, .int p0), (2, .ref (aY 2)), (4, .int p3), (6, .int v6_5)]) rfl ?_
            exact hJ55_9 () hf
          · replace hf := ite_f c hf
            refine ww_aload_n h dX3_leastOf_44 rfl 2 rfl 45 rfl ?_
            refine ww_iload h dX3_leastOf_45 5 rfl 47 rfl ?_
            have hi := (gd_some hf).1
            replace hf := (gd_some hf).2
            refine ww_iald h 0 rfl 3 rfl (ix_in hi) dX3_leastOf_47 48 rfl ?_
            clear hi
            refine ww_aload_n h dX3_leastOf_48 rfl 2 rfl 49 rfl ?_
            refine ww_iload h dX3_leastOf_49 4 rfl 51 rfl ?_
            have hi := (gd_some hf).1
            replace hf := (gd_some hf).2
            refine ww_iald h 0 rfl 3 rfl (ix_in hi) dX3_leastOf_51 52 rfl ?_
            clear hi
            refine ww_icmp_ge h dX3_leastOf_52 59 (by decide) 55 rfl (fun c => ?_) (fun c => ?_)
            · replace hf := ite_t c hf
              exact hJ59_7 v5_4 hf
            · replace hf := ite_f c hf
              refine ww_lo [0, 1, 2, 3, 5] (lo' := [(0, .ref oY), (1, .int p0), (2, .ref (aY 2)), (4, .int p3), (6, .int v6_5)]) rfl ?_
              exact hJ55_9 () hf
  · clear h3
    show ww X D A 7 Q 0 0 65 [(5, .int v5_11)] [] [gX3 cy oY aY Y]
    refine ww_iload h dX3_leastOf_65 0 rfl 67 rfl ?_
    obtain rfl := Option.some.inj hf
    exact ww_iret h dX3_leastOf_67 hQ ⟨rfl, rfl⟩
theorem dX3_longestRiver_0 : decode cX3_longestRiver 0 = .ok (.aload_n 0, 1) := by decide +kernel
theorem dX3_longestRiver_1 : decode cX3_longestRiver 1 = .ok (.getfield 29, 3) := by decide +kernel
theorem dX3_longestRiver_4 : decode cX3_longestRiver 4 = .ok (.iconst 0, 1) := by decide +kernel
theorem dX3_longestRiver_5 : decode cX3_longestRiver 5 = .ok (.invokestatic 121, 3) := by decide +kernel
theorem dX3_longestRiver_8 : decode cX3_longestRiver 8 = .ok (.iconst 0, 1) := by decide +kernel
theorem dX3_longestRiver_9 : decode cX3_longestRiver 9 = .ok (.istore_n 2, 1) := by decide +kernel
theorem dX3_longestRiver_10 : decode cX3_longestRiver 10 = .ok (.iconst 0, 1) := by decide +kernel
theorem dX3_longestRiver_11 : decode cX3_longestRiver 11 = .ok (.istore_n 3, 1) := by decide +kernel
theorem dX3_longestRiver_12 : decode cX3_longestRiver 12 = .ok (.iload_n 3, 1) := by decide +kernel
theorem dX3_longestRiver_13 : decode cX3_longestRiver 13 = .ok (.aload_n 0, 1) := by decide +kernel
theorem dX3_longestRiver_14 : decode cX3_longestRiver 14 = .ok (.getfield 32, 3) := by decide +kernel
theorem dX3_longestRiver_17 : decode cX3_longestRiver 17 = .ok (.if_icmp .ge 115, 3) := by decide +kernel
theorem dX3_longestRiver_20 : decode cX3_longestRiver 20 = .ok (.iconst 0, 1) := by decide +kernel
theorem dX3_longestRiver_21 : decode cX3_longestRiver 21 = .ok (.istore 4, 2) := by decide +kernel
theorem dX3_longestRiver_23 : decode cX3_longestRiver 23 = .ok (.iconst 0, 1) := by decide +kernel
theorem dX3_longestRiver_24 : decode cX3_longestRiver 24 = .ok (.istore 5, 2) := by decide +kernel
theorem dX3_longestRiver_26 : decode cX3_longestRiver 26 = .ok (.aload_n 0, 1) := by decide +kernel
theorem dX3_longestRiver_27 : decode cX3_longestRiver 27 = .ok (.getfield 11, 3) := by decide +kernel
theorem dX3_longestRiver_30 : decode cX3_longestRiver 30 = .ok (.iconst 0, 1) := by decide +kernel
theorem dX3_longestRiver_31 : decode cX3_longestRiver 31 = .ok (.aaload, 1) := by decide +kernel
theorem dX3_longestRiver_32 : decode cX3_longestRiver 32 = .ok (.iload_n 3, 1) := by decide +kernel
theorem dX3_longestRiver_33 : decode cX3_longestRiver 33 = .ok (.iaload, 1) := by decide +kernel
theorem dX3_longestRiver_34 : decode cX3_longestRiver 34 = .ok (.istore 6, 2) := by decide +kernel
theorem dX3_longestRiver_36 : decode cX3_longestRiver 36 = .ok (.iload 6, 2) := by decide +kernel
theorem dX3_longestRiver_38 : decode cX3_longestRiver 38 = .ok (.aload_n 0, 1) := by decide +kernel
theorem dX3_longestRiver_39 : decode cX3_longestRiver 39 = .ok (.getfield 11, 3) := by decide +kernel
theorem dX3_longestRiver_42 : decode cX3_longestRiver 42 = .ok (.iconst 1, 1) := by decide +kernel
theorem dX3_longestRiver_43 : decode cX3_longestRiver 43 = .ok (.aaload, 1) := by decide +kernel
theorem dX3_longestRiver_44 : decode cX3_longestRiver 44 = .ok (.iload_n 3, 1) := by decide +kernel
theorem dX3_longestRiver_45 : decode cX3_longestRiver 45 = .ok (.iaload, 1) := by decide +kernel
theorem dX3_longestRiver_46 : decode cX3_longestRiver 46 = .ok (.if_icmp .ge 72, 3) := by decide +kernel
theorem dX3_longestRiver_49 : decode cX3_longestRiver 49 = .ok (.iload 5, 2) := by decide +kernel
theorem dX3_longestRiver_51 : decode cX3_longestRiver 51 = .ok (.aload_n 0, 1) := by decide +kernel
theorem dX3_longestRiver_52 : decode cX3_longestRiver 52 = .ok (.aload_n 1, 1) := by decide +kernel
theorem dX3_longestRiver_53 : decode cX3_longestRiver 53 = .ok (.iload 6, 2) := by decide +kernel
theorem dX3_longestRiver_55 : decode cX3_longestRiver 55 = .ok (.invokevirtual 117, 3) := by decide +kernel
theorem dX3_longestRiver_58 : decode cX3_longestRiver 58 = .ok (.iadd, 1) := by decide +kernel
theorem dX3_longestRiver_59 : decode cX3_longestRiver 59 = .ok (.istore 5, 2) := by decide +kernel
theorem dX3_longestRiver_61 : decode cX3_longestRiver 61 = .ok (.aload_n 0, 1) := by decide +kernel
theorem dX3_longestRiver_62 : decode cX3_longestRiver 62 = .ok (.getfield 20, 3) := by decide +kernel
theorem dX3_longestRiver_65 : decode cX3_longestRiver 65 = .ok (.iload 6, 2) := by decide +kernel
theorem dX3_longestRiver_67 : decode cX3_longestRiver 67 = .ok (.iaload, 1) := by decide +kernel
theorem dX3_longestRiver_68 : decode cX3_longestRiver 68 = .ok (.ifCond .le 44, 3) := by decide +kernel
theorem dX3_longestRiver_71 : decode cX3_longestRiver 71 = .ok (.aload_n 0, 1) := by decide +kernel
theorem dX3_longestRiver_72 : decode cX3_longestRiver 72 = .ok (.iload 4, 2) := by decide +kernel
theorem dX3_longestRiver_74 : decode cX3_longestRiver 74 = .ok (.iload 5, 2) := by decide +kernel
theorem dX3_longestRiver_76 : decode cX3_longestRiver 76 = .ok (.aload_n 0, 1) := by decide +kernel
theorem dX3_longestRiver_77 : decode cX3_longestRiver 77 = .ok (.getfield 20, 3) := by decide +kernel
theorem dX3_longestRiver_80 : decode cX3_longestRiver 80 = .ok (.iload 6, 2) := by decide +kernel
theorem dX3_longestRiver_82 : decode cX3_longestRiver 82 = .ok (.iaload, 1) := by decide +kernel
theorem dX3_longestRiver_83 : decode cX3_longestRiver 83 = .ok (.isub, 1) := by decide +kernel
theorem dX3_longestRiver_84 : decode cX3_longestRiver 84 = .ok (.invokevirtual 127, 3) := by decide +kernel
theorem dX3_longestRiver_87 : decode cX3_longestRiver 87 = .ok (.iload_n 2, 1) := by decide +kernel
theorem dX3_longestRiver_88 : decode cX3_longestRiver 88 = .ok (.aload_n 0, 1) := by decide +kernel
theorem dX3_longestRiver_89 : decode cX3_longestRiver 89 = .ok (.iload 5, 2) := by decide +kernel
theorem dX3_longestRiver_91 : decode cX3_longestRiver 91 = .ok (.aload_n 0, 1) := by decide +kernel
theorem dX3_longestRiver_92 : decode cX3_longestRiver 92 = .ok (.getfield 20, 3) := by decide +kernel
theorem dX3_longestRiver_95 : decode cX3_longestRiver 95 = .ok (.iload 6, 2) := by decide +kernel
theorem dX3_longestRiver_97 : decode cX3_longestRiver 97 = .ok (.iaload, 1) := by decide +kernel
theorem dX3_longestRiver_98 : decode cX3_longestRiver 98 = .ok (.isub, 1) := by decide +kernel
theorem dX3_longestRiver_99 : decode cX3_longestRiver 99 = .ok (.iload 5, 2) := by decide +kernel
theorem dX3_longestRiver_101 : decode cX3_longestRiver 101 = .ok (.invokevirtual 130, 3) := by decide +kernel
theorem dX3_longestRiver_104 : decode cX3_longestRiver 104 = .ok (.invokestatic 42, 3) := by decide +kernel
theorem dX3_longestRiver_107 : decode cX3_longestRiver 107 = .ok (.istore_n 2, 1) := by decide +kernel
theorem dX3_longestRiver_108 : decode cX3_longestRiver 108 = .ok (.iload 5, 2) := by decide +kernel
theorem dX3_longestRiver_110 : decode cX3_longestRiver 110 = .ok (.istore 4, 2) := by decide +kernel
theorem dX3_longestRiver_112 : decode cX3_longestRiver 112 = .ok (.iinc 6 1, 3) := by decide +kernel
theorem dX3_longestRiver_115 : decode cX3_longestRiver 115 = .ok (.goto (-79), 3) := by decide +kernel
theorem dX3_longestRiver_118 : decode cX3_longestRiver 118 = .ok (.aload_n 0, 1) := by decide +kernel
theorem dX3_longestRiver_119 : decode cX3_longestRiver 119 = .ok (.iload 4, 2) := by decide +kernel
theorem dX3_longestRiver_121 : decode cX3_longestRiver 121 = .ok (.bipush 80, 2) := by decide +kernel
theorem dX3_longestRiver_123 : decode cX3_longestRiver 123 = .ok (.invokevirtual 127, 3) := by decide +kernel
theorem dX3_longestRiver_126 : decode cX3_longestRiver 126 = .ok (.iinc 3 1, 3) := by decide +kernel
theorem dX3_longestRiver_129 : decode cX3_longestRiver 129 = .ok (.goto (-117), 3) := by decide +kernel
theorem dX3_longestRiver_132 : decode cX3_longestRiver 132 = .ok (.iload_n 2, 1) := by decide +kernel
theorem dX3_longestRiver_133 : decode cX3_longestRiver 133 = .ok (.ireturn, 1) := by decide +kernel
theorem ok_X3_longestRiver : okY RX3 yX3_longestRiver 1 := ⟨rfl, by decide, by decide, by decide +kernel⟩
def j_X3_longestRiver_112_25 (v6_16 : Int32) (v5_21 : Int32) (v2_22 : Int32) (v4_23 : Int32) (Y_24 : OV) : Option ((Int32 × Int32 × Int32 × Int32 × OV) ⊕ (Int32 × Int32 × OV)) := bnd (v6_16 + 1) (fun v6_26 => some (.inl (v2_22, v4_23, v5_21, v6_26, Y_24)))
def s_X3_longestRiver_36_12 (oC : Nat) (oP : Nat) (R : OV) (C : OV) (P : OV) (v3_6 : Int32) : (Int32 × Int32 × Int32 × Int32 × OV) → Option ((Int32 × Int32 × Int32 × Int32 × OV) ⊕ (Int32 × Int32 × OV)) := un5 (fun v2_13 v4_14 v5_15 v6_16 Y_17 => gd (ix (1 : Int32) 11) (gd (ix v3_6 40) ((if (gr Y_17 0 (1 : Int32).toNatClampNeg v3_6.toNatClampNeg) ≤ v6_16 then some (.inr (v2_13, v4_14, Y_17)) else (f_X3_advanceOf Y_17 R oC C oP P v6_16).bind (un1 (fun r_19 => bnd (v5_15 + r_19) (fun v5_21 => gd (ix v6_16 40) ((if (ar Y_17 2 v6_16.toNatClampNeg) ≤ 0 then j_X3_longestRiver_112_25 v6_16 v5_21 v2_13 v4_14 Y_17 else gd (ix v6_16 40) ((f_X3_dryUp Y_17 v4_14 (v5_21 - (ar Y_17 2 v6_16.toNatClampNeg))).bind (un1 (fun Y_27 => gd (ix v6_16 40) ((f_X3_flowOn Y_27 (v5_21 - (ar Y_27 2 v6_16.toNatClampNeg)) v5_21).bind (un2 (fun r_29 Y_30 => bnd (if v2_13 < r_29 then r_29 else v2_13) (fun v2_32 => bnd v5_21 (fun v4_33 => j_X3_longestRiver_112_25 v6_16 v5_21 v2_32 v4_33 Y_30)))))))))))))))))
def s_X3_longestRiver_12_4 (oC : Nat) (oP : Nat) (R : OV) (C : OV) (P : OV) : (Int32 × Int32 × OV) → Option ((Int32 × Int32 × OV) ⊕ (Int32 × OV)) := un3 (fun v2_5 v3_6 Y_7 => (if (iv Y_7 6) ≤ v3_6 then some (.inr (v2_5, Y_7)) else bnd (0 : Int32) (fun v4_8 => bnd (0 : Int32) (fun v5_9 => gd (ix (0 : Int32) 11) (gd (ix v3_6 40) (bnd (gr Y_7 0 (0 : Int32).toNatClampNeg v3_6.toNatClampNeg) (fun v6_11 => ((lp (s_X3_longestRiver_36_12 oC oP R C P v3_6) 5000 (v2_5, v4_8, v5_9, v6_11, Y_7)).bind (un3 (fun v2_34 v4_35 Y_36 => (f_X3_dryUp Y_36 v4_35 (80 : Int32)).bind (un1 (fun Y_37 => bnd (v3_6 + 1) (fun v3_39 => some (.inl (v2_34, v3_39, Y_37)))))))))))))))
def f_X3_longestRiver (Y : OV) (R : OV) (oC : Nat) (C : OV) (oP : Nat) (P : OV) : Option (Int32 × OV) := bnd (sW Y 5 (fillF 80 (0 : Int32) (ar Y 5))) (fun Y_1 => bnd (0 : Int32) (fun v2_2 => bnd (0 : Int32) (fun v3_3 => ((lp (s_X3_longestRiver_12_4 oC oP R C P) 5000 (v2_2, v3_3, Y_1)).bind (un2 (fun v2_40 Y_41 => some (v2_40, Y_41)))))))
def r_X3_longestRiver : Room := { frames := 2, cells := 0, slots := 0, locals := 45 }
set_option maxHeartbeats 4000000 in
set_option maxRecDepth 100000 in
theorem c_X3_longestRiver (l : Launch) (D : va_G) (ev : EvT) (cy : Nat → ClassId) (oY : Nat) (aY : Nat → Nat) (Y : OV) (oR : Nat) (aR : Nat → Nat) (R : OV) (oC : Nat) (aC : Nat → Nat) (C : OV) (oP : Nat) (aP : Nat → Nat) (P : OV) (o : Int32 × OV) (hf : f_X3_longestRiver Y R oC C oP P = some o) : Fn l yX3_longestRiver cX3_longestRiver 7 (some .int) r_X3_longestRiver D ev cy [.ref oY, .ref oR] [gX3 cy oY aY Y, gX7 cy oR aR R, gX1 cy oC aC C, gX4 cy oP aP P] (fun v G => v = some (.int o.1) ∧ G = [gX3 cy oY aY o.2, gX7 cy oR aR R, gX1 cy oC aC C, gX4 cy oP aP P]) := by
  refine Fn_of (by decide) (Nat.le_of_ble_eq_true rfl) (fun X A Q h hQ _ => ?_)
  unfold f_X3_longestRiver at hf
  show ww X D A 7 Q 0 0 0 [(0, .ref oY), (1, .ref oR)] [] [gX3 cy oY aY Y, gX7 cy oR aR R, gX1 cy oC aC C, gX4 cy oP aP P]
  refine ww_aload_n h dX3_longestRiver_0 rfl 0 rfl 1 rfl ?_
  refine ww_get h inG3 rfl 0 rfl rfl 5 (by decide) w_369 rfl dX3_longestRiver_1 4 rfl ?_
  refine ww_iconst (v := 0) h dX3_longestRiver_4 (by decide) 5 rfl ?_
  refine ww_onCell h (c_fill l D ev cy (aY 5) 80 (ar Y 5) (0 : Int32) (by decide)) ⟨w_508, w_1006, w_507, w_113, ok_fill⟩ ⟨by decide, by decide⟩ ⟨by decide, by decide⟩ ⟨rfl, rfl⟩ 0 6 rfl rfl rfl (Nat.le_of_ble_eq_true rfl) dX3_longestRiver_5 8 rfl rfl (Gs' := [gX3 cy oY aY (sW Y 5 (fillF 80 (0 : Int32) (ar Y 5))), gX7 cy oR aR R, gX1 cy oC aC C, gX4 cy oP aP P]) rfl ?_
  refine ww_nm (fun z => [gX3 cy oY aY z, gX7 cy oR aR R, gX1 cy oC aC C, gX4 cy oP aP P]) (sW Y 5 (fillF 80 (0 : Int32) (ar Y 5))) (fun Y_1 e => ?_)
  replace hf := bnd_at e hf
  clear e
  refine ww_iconst (v := 0) h dX3_longestRiver_8 (by decide) 9 rfl ?_
  refine ww_ist_n h dX3_longestRiver_9 rfl (by decide) (fun v2_2 => [(2, .int v2_2), (0, .ref oY), (1, .ref oR)]) (fun _ => rfl) 10 rfl (fun v2_2 e => ?_)
  replace hf := bnd_at e hf
  clear e
  refine ww_iconst (v := 0) h dX3_longestRiver_10 (by decide) 11 rfl ?_
  refine ww_ist_n h dX3_longestRiver_11 rfl (by decide) (fun v3_3 => [(3, .int v3_3), (2, .int v2_2), (0, .ref oY), (1, .ref oR)]) (fun _ => rfl) 12 rfl (fun v3_3 e => ?_)
  replace hf := bnd_at e hf
  clear e
  refine ww_lo [2, 3, 1, 0] (lo' := [(0, .ref oY), (1, .ref oR), (2, .int v2_2), (3, .int v3_3)]) rfl ?_
  obtain ⟨v2_40, Y_41, h4, hf⟩ := ob2 hf
  refine lp_walk (un3 (fun v2_5 v3_6 Y_7 => ww X D A 7 Q 0 0 12 [(0, .ref oY), (1, .ref oR), (2, .int v2_5), (3, .int v3_6)] [] [gX3 cy oY aY Y_7, gX7 cy oR aR R, gX1 cy oC aC C, gX4 cy oP aP P])) (un2 (fun v2_40 Y_41 => ww X D A 7 Q 0 0 132 [(2, .int v2_40)] [] [gX3 cy oY aY Y_41, gX7 cy oR aR R, gX1 cy oC aC C, gX4 cy oP aP P])) ?_ _ _ _ h4 ?_
  · clear h4 hf
    intro s4 o4 hf hI4 hE4
    obtain ⟨v2_5, v3_6, Y_7⟩ := s4
    unfold s_X3_longestRiver_12_4 at hf
    replace hf := un3_e hf
    show ww X D A 7 Q 0 0 12 [(0, .ref oY), (1, .ref oR), (2, .int v2_5), (3, .int v3_6)] [] [gX3 cy oY aY Y_7, gX7 cy oR aR R, gX1 cy oC aC C, gX4 cy oP aP P]
    refine ww_iload_n h dX3_longestRiver_12 rfl 3 rfl 13 rfl ?_
    refine ww_aload_n h dX3_longestRiver_13 rfl 0 rfl 14 rfl ?_
    refine ww_get h inG3 rfl 0 rfl rfl 6 (by decide) w_370 rfl dX3_longestRiver_14 17 rfl ?_
    refine ww_icmp_ge h dX3_longestRiver_17 132 (by decide) 20 rfl (fun c => ?_) (fun c => ?_)
    · replace hf := ite_t c hf
      refine ww_lo [2] (lo' := [(2, .int v2_5)]) rfl ?_
      exact hE4 (v2_5, Y_7) (Option.some.inj hf).symm
    · replace hf := ite_f c hf
      refine ww_iconst (v := 0) h dX3_longestRiver_20 (by decide) 21 rfl ?_
      refine ww_ist h dX3_longestRiver_21 (by decide) (fun v4_8 => [(4, .int v4_8), (0, .ref oY), (1, .ref oR), (2, .int v2_5), (3, .int v3_6)]) (fun _ => rfl) 23 rfl (fun v4_8 e => ?_)
      replace hf := bnd_at e hf
      clear e
      refine ww_iconst (v := 0) h dX3_longestRiver_23 (by decide) 24 rfl ?_
      refine ww_ist h dX3_longestRiver_24 (by decide) (fun v5_9 => [(5, .int v5_9), (4, .int v4_8), (0, .ref oY), (1, .ref oR), (2, .int v2_5), (3, .int v3_6)]) (fun _ => rfl) 26 rfl (fun v5_9 e => ?_)
      replace hf := bnd_at e hf
      clear e
      refine ww_aload_n h dX3_longestRiver_26 rfl 2 rfl 27 rfl ?_
      refine ww_get h inG3 rfl 0 rfl rfl 0 (by decide) w_361 rfl dX3_longestRiver_27 30 rfl ?_
      refine ww_iconst (v := 0) h dX3_longestRiver_30 (by decide) 31 rfl ?_
      have hi := (gd_some hf).1
      replace hf := (gd_some hf).2
      have hj10 := ix_lt hi
      refine ww_aaldR h 0 rfl 1 rfl 4 rfl rfl (ix_in hi) dX3_longestRiver_31 32 rfl ?_
      clear hi
      refine ww_iload_n h dX3_longestRiver_32 rfl 5 rfl 33 rfl ?_
      have hi := (gd_some hf).1
      replace hf := (gd_some hf).2
      refine ww_iald h 0 rfl (7 + (0 : Int32).toNatClampNeg) (gX3_row0 hj10) (ix_in hi) dX3_longestRiver_33 34 rfl ?_
      clear hi
      refine ww_ist h dX3_longestRiver_34 (by decide) (fun v6_11 => [(6, .int v6_11), (5, .int v5_9), (4, .int v4_8), (0, .ref oY), (1, .ref oR), (2, .int v2_5), (3, .int v3_6)]) (fun _ => rfl) 36 rfl (fun v6_11 e => ?_)
      replace hf := bnd_at e hf
      clear e
      refine ww_lo [3, 4, 5, 6, 2, 1, 0] (lo' := [(0, .ref oY), (1, .ref oR), (2, .int v2_5), (3, .int v3_6), (4, .int v4_8), (5, .int v5_9), (6, .int v6_11)]) rfl ?_
      obtain ⟨v2_34, v4_35, Y_36, h12, hf⟩ := ob3 hf
      refine lp_walk (un5 (fun v2_13 v4_14 v5_15 v6_16 Y_17 => ww X D A 7 Q 0 0 36 [(0, .ref oY), (1, .ref oR), (2, .int v2_13), (3, .int v3_6), (4, .int v4_14), (5, .int v5_15), (6, .int v6_16)] [] [gX3 cy oY aY Y_17, gX7 cy oR aR R, gX1 cy oC aC C, gX4 cy oP aP P])) (un3 (fun v2_34 v4_35 Y_36 => ww X D A 7 Q 0 0 118 [(0, .ref oY), (1, .ref oR), (2, .int v2_34), (3, .int v3_6), (4, .int v4_35)] [] [gX3 cy oY aY Y_36, gX7 cy oR aR R, gX1 cy oC aC C, gX4 cy oP aP P])) ?_ _ _ _ h12 ?_
      · clear h12 hf
        intro s12 o12 hf hI12 hE12
        obtain ⟨v2_13, v4_14, v5_15, v6_16, Y_17⟩ := s12
        unfold s_X3_longestRiver_36_12 at hf
        replace hf := un5_e hf
        show ww X D A 7 Q 0 0 36 [(0, .ref oY), (1, .ref oR), (2, .int v2_13), (3, .int v3_6), (4, .int v4_14), (5, .int v5_15), (6, .int v6_16)] [] [gX3 cy oY aY Y_17, gX7 cy oR aR R, gX1 cy oC aC C, gX4 cy oP aP P]
        refine ww_iload h dX3_longestRiver_36 6 rfl 38 rfl ?_
        refine ww_aload_n h dX3_longestRiver_38 rfl 0 rfl 39 rfl ?_
        refine ww_get h inG3 rfl 0 rfl rfl 0 (by decide) w_361 rfl dX3_longestRiver_39 42 rfl ?_
        refine ww_iconst (v := 1) h dX3_longestRiver_42 (by decide) 43 rfl ?_
        have hi := (gd_some hf).1
        replace hf := (gd_some hf).2
        have hj18 := ix_lt hi
        refine ww_aaldR h 0 rfl 1 rfl 4 rfl rfl (ix_in hi) dX3_longestRiver_43 44 rfl ?_
        clear hi
        refine ww_iload_n h dX3_longestRiver_44 rfl 3 rfl 45 rfl ?_
        have hi := (gd_some hf).1
        replace hf := (gd_some hf).2
        refine ww_iald h 0 rfl (7 + (1 : Int32).toNatClampNeg) (gX3_row0 hj18) (ix_in hi) dX3_longestRiver_45 46 rfl ?_
        clear hi
        refine ww_icmp_ge h dX3_longestRiver_46 118 (by decide) 49 rfl (fun c => ?_) (fun c => ?_)
        · replace hf := ite_t c hf
          refine ww_lo [0, 1, 2, 3, 4] (lo' := [(0, .ref oY), (1, .ref oR), (2, .int v2_13), (3, .int v3_6), (4, .int v4_14)]) rfl ?_
          exact hE12 (v2_13, v4_14, Y_17) (Option.some.inj hf).symm
        · replace hf := ite_f c hf
          refine ww_iload h dX3_longestRiver_49 5 rfl 51 rfl ?_
          refine ww_aload_n h dX3_longestRiver_51 rfl 0 rfl 52 rfl ?_
          refine ww_aload_n h dX3_longestRiver_52 rfl 1 rfl 53 rfl ?_
          refine ww_iload h dX3_longestRiver_53 6 rfl 55 rfl ?_
          obtain ⟨r_19, hu20, hf⟩ := ob1 hf
          refine ww_cVi h (c_X3_advanceOf l D ev cy oY aY Y_17 oR aR R oC aC C oP aP P v6_16 _ hu20) ⟨w_968, w_965, w_966, w_967, w_109, ok_X3_advanceOf⟩ ⟨by decide, by decide⟩ ⟨by decide, by decide⟩ ⟨rfl, rfl⟩ [0, 0, 0, 0] rfl 0 rfl rfl rfl rfl (Nat.le_of_ble_eq_true rfl) dX3_longestRiver_55 58 rfl (Gs' := [gX3 cy oY aY Y_17, gX7 cy oR aR R, gX1 cy oC aC C, gX4 cy oP aP P]) rfl ?_
          clear hu20
          refine ww_iadd h dX3_longestRiver_58 59 rfl ?_
          refine ww_ist h dX3_longestRiver_59 (by decide) (fun v5_21 => [(5, .int v5_21), (0, .ref oY), (1, .ref oR), (2, .int v2_13), (3, .int v3_6), (4, .int v4_14), (6, .int v6_16)]) (fun _ => rfl) 61 rfl (fun v5_21 e => ?_)
          replace hf := bnd_at e hf
          clear e
          refine ww_aload_n h dX3_longestRiver_61 rfl 1 rfl 62 rfl ?_
          refine ww_get h inG3 rfl 0 rfl rfl 2 (by decide) w_365 rfl dX3_longestRiver_62 65 rfl ?_
          refine ww_iload h dX3_longestRiver_65 6 rfl 67 rfl ?_
          have hi := (gd_some hf).1
          replace hf := (gd_some hf).2
          refine ww_iald h 0 rfl 3 rfl (ix_in hi) dX3_longestRiver_67 68 rfl ?_
          clear hi
          have hJ112_25 : ∀ (v2_22 : Int32) (v4_23 : Int32) (Y_24 : OV), j_X3_longestRiver_112_25 v6_16 v5_21 v2_22 v4_23 Y_24 = some o12 → ww X D A 7 Q 0 0 112 [(0, .ref oY), (1, .ref oR), (2, .int v2_22), (3, .int v3_6), (4, .int v4_23), (5, .int v5_21), (6, .int v6_16)] [] [gX3 cy oY aY Y_24, gX7 cy oR aR R, gX1 cy oC aC C, gX4 cy oP aP P] := by
            intro v2_22 v4_23 Y_24 hf
            unfold j_X3_longestRiver_112_25 at hf
            refine ww_inc (c := 1) h dX3_longestRiver_112 6 rfl (by decide) (by decide) (fun v6_26 => [(6, .int v6_26), (0, .ref oY), (1, .ref oR), (2, .int v2_22), (3, .int v3_6), (4, .int v4_23), (5, .int v5_21)]) (fun _ => rfl) 115 rfl (fun v6_26 e => ?_)
            replace hf := bnd_at e hf
            clear e
            refine ww_goto h dX3_longestRiver_115 36 (by decide) ?_
            refine ww_lo [1, 2, 3, 4, 5, 6, 0] (lo' := [(0, .ref oY), (1, .ref oR), (2, .int v2_22), (3, .int v3_6), (4, .int v4_23), (5, .int v5_21), (6, .int v6_26)]) rfl ?_
            exact hI12 (v2_22, v4_23, v5_21, v6_26, Y_24) (Option.some.inj hf).symm
          refine ww_if_le h dX3_longestRiver_68 112 (by decide) 71 rfl (fun c => ?_) (fun c => ?_)
          · replace hf := ite_t c hf
            refine ww_lo [1, 2, 3, 4, 5, 0, 6] (lo' := [(0, .ref oY), (1, .ref oR), (2, .int v2_13), (3, .int v3_6), (4, .int v4_14), (5, .int v5_21), (6, .int v6_16)]) rfl ?_
            exact hJ112_25 v2_13 v4_14 Y_17 hf
          · replace hf := ite_f c hf
            refine ww_aload_n h dX3_longestRiver_71 rfl 1 rfl 72 rfl ?_
            refine ww_iload h dX3_longestRiver_72 5 rfl 74 rfl ?_
            refine ww_iload h dX3_longestRiver_74 0 rfl 76 rfl ?_
            refine ww_aload_n h dX3_longestRiver_76 rfl 1 rfl 77 rfl ?_
            refine ww_get h inG3 rfl 0 rfl rfl 2 (by decide) w_365 rfl dX3_longestRiver_77 80 rfl ?_
            refine ww_iload h dX3_longestRiver_80 6 rfl 82 rfl ?_
            have hi := (gd_some hf).1
            replace hf := (gd_some hf).2
            refine ww_iald h 0 rfl 3 rfl (ix_in hi) dX3_longestRiver_82 83 rfl ?_
            clear hi
            refine ww_isub h dX3_longestRiver_83 84 rfl ?_
            obtain ⟨Y_27, hu28, hf⟩ := ob1 hf
            refine ww_cVv h (c_X3_dryUp l D ev cy oY aY Y_17 v4_14 (v5_21 - (ar Y_17 2 v6_16.toNatClampNeg)) _ hu28) ⟨w_1010, w_1007, w_1009, w_30, w_109, ok_X3_dryUp⟩ ⟨by decide, by decide⟩ ⟨by decide, by decide⟩ ⟨rfl, rfl⟩ [0] rfl 0 rfl rfl rfl rfl (Nat.le_of_ble_eq_true rfl) dX3_longestRiver_84 87 rfl (Gs' := [gX3 cy oY aY Y_27, gX7 cy oR aR R, gX1 cy oC aC C, gX4 cy oP aP P]) rfl ?_
            clear hu28
            refine ww_iload_n h dX3_longestRiver_87 rfl 3 rfl 88 rfl ?_
            refine ww_aload_n h dX3_longestRiver_88 rfl 1 rfl 89 rfl ?_
            refine ww_iload h dX3_longestRiver_89 0 rfl 91 rfl ?_
            refine ww_aload_n h dX3_longestRiver_91 rfl 1 rfl 92 rfl ?_
            refine ww_get h inG3 rfl 0 rfl rfl 2 (by decide) w_365 rfl dX3_longestRiver_92 95 rfl ?_
            refine ww_iload h dX3_longestRiver_95 6 rfl 97 rfl ?_
            have hi := (gd_some hf).1
            replace hf := (gd_some hf).2
            refine ww_iald h 0 rfl 3 rfl (ix_in hi) dX3_longestRiver_97 98 rfl ?_
            clear hi
            refine ww_isub h dX3_longestRiver_98 99 rfl ?_
            refine ww_iload h dX3_longestRiver_99 0 rfl 101 rfl ?_
            obtain ⟨r_29, Y_30, hu31, hf⟩ := ob2 hf
            refine ww_cVi h (c_X3_flowOn l D ev cy oY aY Y_27 (v5_21 - (ar Y_27 2 v6_16.toNatClampNeg)) v5_21 _ hu31) ⟨w_1015, w_1012, w_1014, w_31, w_109, ok_X3_flowOn⟩ ⟨by decide, by decide⟩ ⟨by decide, by decide⟩ ⟨rfl, rfl⟩ [0] rfl 0 rfl rfl rfl rfl (Nat.le_of_ble_eq_true rfl) dX3_longestRiver_101 104 rfl (Gs' := [gX3 cy oY aY Y_30, gX7 cy oR aR R, gX1 cy oC aC C, gX4 cy oP aP P]) rfl ?_
            clear hu31
            refine ww_max h w_898 w_134 w_103 w_135 ⟨by decide, Nat.le_of_ble_eq_true rfl, by decide, by decide⟩ dX3_longestRiver_104 107 rfl ?_
            refine ww_ist_n h dX3_longestRiver_107 rfl (by decide) (fun v2_32 => [(2, .int v2_32), (5, .int v5_21), (0, .ref oY), (1, .ref oR), (3, .int v3_6), (4, .int v4_14), (6, .int v6_16)]) (fun _ => rfl) 108 rfl (fun v2_32 e => ?_)
            replace hf := bnd_at e hf
            clear e
            refine ww_iload h dX3_longestRiver_108 1 rfl 110 rfl ?_
            refine ww_ist h dX3_longestRiver_110 (by decide) (fun v4_33 => [(4, .int v4_33), (2, .int v2_32), (5, .int v5_21), (0, .ref oY), (1, .ref oR), (3, .int v3_6), (6, .int v6_16)]) (fun _ => rfl) 112 rfl (fun v4_33 e => ?_)
            replace hf := bnd_at e hf
            clear e
            refine ww_lo [3, 4, 1, 5, 0, 2, 6] (lo' := [(0, .ref oY), (1, .ref oR), (2, .int v2_32), (3, .int v3_6), (4, .int v4_33), (5, .int v5_21), (6, .int v6_16)]) rfl ?_
            exact hJ112_25 v2_32 v4_33 Y_30 hf
      · clear h12
        show ww X D A 7 Q 0 0 118 [(0, .ref oY), (1, .ref oR), (2, .int v2_34), (3, .int v3_6), (4, .int v4_35)] [] [gX3 cy oY aY Y_36, gX7 cy oR aR R, gX1 cy oC aC C, gX4 cy oP aP P]
        refine ww_aload_n h dX3_longestRiver_118 rfl 0 rfl 119 rfl ?_
        refine ww_iload h dX3_longestRiver_119 4 rfl 121 rfl ?_
        refine ww_bipush (v := 80) h dX3_longestRiver_121 (by decide) 123 rfl ?_
        obtain ⟨Y_37, hu38, hf⟩ := ob1 hf
        refine ww_cVv h (c_X3_dryUp l D ev cy oY aY Y_36 v4_35 (80 : Int32) _ hu38) ⟨w_1010, w_1007, w_1009, w_30, w_109, ok_X3_dryUp⟩ ⟨by decide, by decide⟩ ⟨by decide, by decide⟩ ⟨rfl, rfl⟩ [0] rfl 0 rfl rfl rfl rfl (Nat.le_of_ble_eq_true rfl) dX3_longestRiver_123 126 rfl (Gs' := [gX3 cy oY aY Y_37, gX7 cy oR aR R, gX1 cy oC aC C, gX4 cy oP aP P]) rfl ?_
        clear hu38
        refine ww_inc (c := 1) h dX3_longestRiver_126 3 rfl (by decide) (by decide) (fun v3_39 => [(3, .int v3_39), (0, .ref oY), (1, .ref oR), (2, .int v2_34), (4, .int v4_35)]) (fun _ => rfl) 129 rfl (fun v3_39 e => ?_)
        replace hf := bnd_at e hf
        clear e
        refine ww_goto h dX3_longestRiver_129 12 (by decide) ?_
        refine ww_lo [1, 2, 3, 0] (lo' := [(0, .ref oY), (1, .ref oR), (2, .int v2_34), (3, .int v3_39)]) rfl ?_
        exact hI4 (v2_34, v3_39, Y_37) (Option.some.inj hf).symm
  · clear h4
    show ww X D A 7 Q 0 0 132 [(2, .int v2_40)] [] [gX3 cy oY aY Y_41, gX7 cy oR aR R, gX1 cy oC aC C, gX4 cy oP aP P]
    refine ww_iload_n h dX3_longestRiver_132 rfl 0 rfl 133 rfl ?_
    obtain rfl := Option.some.inj hf
    exact ww_iret h dX3_longestRiver_133 hQ ⟨rfl, rfl⟩
theorem dX3_deal_0 : decode cX3_deal 0 = .ok (.iconst 1, 1) := by decide +kernel
theorem dX3_deal_1 : decode cX3_deal 1 = .ok (.istore 5, 2) := by decide +kernel
theorem dX3_deal_3 : decode cX3_deal 3 = .ok (.iload_n 1, 1) := by decide +kernel
theorem dX3_deal_4 : decode cX3_deal 4 = .ok (.istore 6, 2) := by decide +kernel
theorem dX3_deal_6 : decode cX3_deal 6 = .ok (.iload 6, 2) := by decide +kernel
theorem dX3_deal_8 : decode cX3_deal 8 = .ok (.ifCond .le 47, 3) := by decide +kernel
theorem dX3_deal_11 : decode cX3_deal 11 = .ok (.iload 5, 2) := by decide +kernel
theorem dX3_deal_13 : decode cX3_deal 13 = .ok (.iconst 3, 1) := by decide +kernel
theorem dX3_deal_14 : decode cX3_deal 14 = .ok (.if_icmp .gt 41, 3) := by decide +kernel
theorem dX3_deal_17 : decode cX3_deal 17 = .ok (.aload_n 0, 1) := by decide +kernel
theorem dX3_deal_18 : decode cX3_deal 18 = .ok (.iload 5, 2) := by decide +kernel
theorem dX3_deal_20 : decode cX3_deal 20 = .ok (.aload_n 2, 1) := by decide +kernel
theorem dX3_deal_21 : decode cX3_deal 21 = .ok (.iload_n 3, 1) := by decide +kernel
theorem dX3_deal_22 : decode cX3_deal 22 = .ok (.iload 4, 2) := by decide +kernel
theorem dX3_deal_24 : decode cX3_deal 24 = .ok (.invokevirtual 105, 3) := by decide +kernel
theorem dX3_deal_27 : decode cX3_deal 27 = .ok (.istore 7, 2) := by decide +kernel
theorem dX3_deal_29 : decode cX3_deal 29 = .ok (.iload 7, 2) := by decide +kernel
theorem dX3_deal_31 : decode cX3_deal 31 = .ok (.iconst (-1), 1) := by decide +kernel
theorem dX3_deal_32 : decode cX3_deal 32 = .ok (.if_icmp .ne 9, 3) := by decide +kernel
theorem dX3_deal_35 : decode cX3_deal 35 = .ok (.iinc 5 1, 3) := by decide +kernel
theorem dX3_deal_38 : decode cX3_deal 38 = .ok (.goto 14, 3) := by decide +kernel
theorem dX3_deal_41 : decode cX3_deal 41 = .ok (.aload_n 2, 1) := by decide +kernel
theorem dX3_deal_42 : decode cX3_deal 42 = .ok (.iload 7, 2) := by decide +kernel
theorem dX3_deal_44 : decode cX3_deal 44 = .ok (.dup2, 1) := by decide +kernel
theorem dX3_deal_45 : decode cX3_deal 45 = .ok (.iaload, 1) := by decide +kernel
theorem dX3_deal_46 : decode cX3_deal 46 = .ok (.iconst 1, 1) := by decide +kernel
theorem dX3_deal_47 : decode cX3_deal 47 = .ok (.iadd, 1) := by decide +kernel
theorem dX3_deal_48 : decode cX3_deal 48 = .ok (.iastore, 1) := by decide +kernel
theorem dX3_deal_49 : decode cX3_deal 49 = .ok (.iinc 6 (-1), 3) := by decide +kernel
theorem dX3_deal_52 : decode cX3_deal 52 = .ok (.goto (-46), 3) := by decide +kernel
theorem dX3_deal_55 : decode cX3_deal 55 = .ok (.return_, 1) := by decide +kernel
theorem ok_X3_deal : okY RX3 yX3_deal 4 := ⟨rfl, by decide, by decide, by decide +kernel⟩
def j_X3_deal_1_52_13 (v5_10 : Int32) (v6_11 : Int32) (Y_12 : OV) : Option ((Int32 × Int32 × OV) ⊕ (OV)) := some (.inl (v5_10, v6_11, Y_12))
def s_X3_deal_1_6_3 (p2 : Int32) (p3 : Int32) : (Int32 × Int32 × OV) → Option ((Int32 × Int32 × OV) ⊕ (OV)) := un3 (fun v5_4 v6_5 Y_6 => (if v6_5 ≤ 0 then some (.inr Y_6) else (if (3 : Int32) < v5_4 then some (.inr Y_6) else (f_X3_leastOf_1 Y_6 v5_4 p2 p3).bind (un1 (fun r_7 => bnd r_7 (fun v7_9 => (if v7_9 = (-1 : Int32) then bnd (v5_4 + 1) (fun v5_16 => j_X3_deal_1_52_13 v5_16 v6_5 Y_6) else gd (ix v7_9 40) (gd (ix v7_9 40) (bnd (sA Y_6 1 v7_9.toNatClampNeg ((ar Y_6 1 v7_9.toNatClampNeg) + (1 : Int32))) (fun Y_14 => bnd (v6_5 + (-1)) (fun v6_15 => j_X3_deal_1_52_13 v5_4 v6_15 Y_14)))))))))))
def f_X3_deal_1 (Y : OV) (p0 : Int32) (p2 : Int32) (p3 : Int32) : Option (OV) := bnd (1 : Int32) (fun v5_1 => bnd p0 (fun v6_2 => ((lp (s_X3_deal_1_6_3 p2 p3) 5000 (v5_1, v6_2, Y)).bind (un1 (fun Y_17 => some Y_17)))))
def r_X3_deal_1 : Room := { frames := 1, cells := 0, slots := 0, locals := 26 }
set_option maxHeartbeats 4000000 in
set_option maxRecDepth 100000 in
theorem c_X3_deal_1 (l : Launch) (D : va_G) (ev : EvT) (cy : Nat → ClassId) (oY : Nat) (aY : Nat → Nat) (Y : OV) (p0 : Int32) (p2 : Int32) (p3 : Int32) (o : OV) (hf : f_X3_deal_1 Y p0 p2 p3 = some o) : Fn l yX3_deal cX3_deal 8 none r_X3_deal_1 D ev cy [.ref oY, .int p0, .ref (aY 1), .int p2, .int p3] [gX3 cy oY aY Y] (fun v G => v = none ∧ G = [gX3 cy oY aY o]) := by
  refine Fn_of (by decide) (Nat.le_of_ble_eq_true rfl) (fun X A Q h hQ _ => ?_)
  unfold f_X3_deal_1 at hf
  show ww X D A 8 Q 0 0 0 [(0, .ref oY), (1, .int p0), (2, .ref (aY 1)), (3, .int p2), (4, .int p3)] [] [gX3 cy oY aY Y]
  refine ww_iconst (v := 1) h dX3_deal_0 (by decide) 1 rfl ?_
  refine ww_ist h dX3_deal_1 (by decide) (fun v5_1 => [(5, .int v5_1), (0, .ref oY), (1, .int p0), (2, .ref (aY 1)), (3, .int p2), (4, .int p3)]) (fun _ => rfl) 3 rfl (fun v5_1 e => ?_)
  replace hf := bnd_at e hf
  clear e
  refine ww_iload_n h dX3_deal_3 rfl 2 rfl 4 rfl ?_
  refine ww_ist h dX3_deal_4 (by decide) (fun v6_2 => [(6, .int v6_2), (5, .int v5_1), (0, .ref oY), (1, .int p0), (2, .ref (aY 1)), (3, .int p2), (4, .int p3)]) (fun _ => rfl) 6 rfl (fun v6_2 e => ?_)
  replace hf := bnd_at e hf
  clear e
  refine ww_lo [2, 4, 5, 6, 1, 0] (lo' := [(0, .ref oY), (2, .ref (aY 1)), (3, .int p2), (4, .int p3), (5, .int v5_1), (6, .int v6_2)]) rfl ?_
  obtain ⟨Y_17, h3, hf⟩ := ob1 hf
  refine lp_walk (un3 (fun v5_4 v6_5 Y_6 => ww X D A 8 Q 0 0 6 [(0, .ref oY), (2, .ref (aY 1)), (3, .int p2), (4, .int p3), (5, .int v5_4), (6, .int v6_5)] [] [gX3 cy oY aY Y_6])) (un1 (fun Y_17 => ww X D A 8 Q 0 0 55 [] [] [gX3 cy oY aY Y_17])) ?_ _ _ _ h3 ?_
  · clear h3 hf
    intro s3 o3 hf hI3 hE3
    obtain ⟨v5_4, v6_5, Y_6⟩ := s3
    unfold s_X3_deal_1_6_3 at hf
    replace hf := un3_e hf
    show ww X D A 8 Q 0 0 6 [(0, .ref oY), (2, .ref (aY 1)), (3, .int p2), (4, .int p3), (5, .int v5_4), (6, .int v6_5)] [] [gX3 cy oY aY Y_6]
    refine ww_iload h dX3_deal_6 5 rfl 8 rfl ?_
    refine ww_if_le h dX3_deal_8 55 (by decide) 11 rfl (fun c => ?_) (fun c => ?_)
    · replace hf := ite_t c hf
      refine ww_lo [] (lo' := []) rfl ?_
      exact hE3 Y_6 (Option.some.inj hf).symm
    · replace hf := ite_f c hf
      refine ww_iload h dX3_deal_11 4 rfl 13 rfl ?_
      refine ww_iconst (v := 3) h dX3_deal_13 (by decide) 14 rfl ?_
      refine ww_icmp_gt h dX3_deal_14 55 (by decide) 17 rfl (fun c => ?_) (fun c => ?_)
      · replace hf := ite_t c hf
        refine ww_lo [] (lo' := []) rfl ?_
        exact hE3 Y_6 (Option.some.inj hf).symm
      · replace hf := ite_f c hf
        refine ww_aload_n h dX3_deal_17 rfl 0 rfl 18 rfl ?_
        refine ww_iload h dX3_deal_18 4 rfl 20 rfl ?_
        refine ww_aload_n h dX3_deal_20 rfl 1 rfl 21 rfl ?_
        refine ww_iload_n h dX3_deal_21 rfl 2 rfl 22 rfl ?_
        refine ww_iload h dX3_deal_22 3 rfl 24 rfl ?_
        obtain ⟨r_7, hu8, hf⟩ := ob1 hf
        refine ww_cVi h (c_X3_leastOf_1 l D ev cy oY aY Y_6 v5_4 p2 p3 _ hu8) ⟨w_927, w_924, w_926, w_27, w_109, ok_X3_leastOf⟩ ⟨by decide, by decide⟩ ⟨by decide, by decide⟩ ⟨rfl, rfl⟩ [0] rfl 0 rfl rfl rfl rfl (Nat.le_of_ble_eq_true rfl) dX3_deal_24 27 rfl (Gs' := [gX3 cy oY aY Y_6]) rfl ?_
        clear hu8
        refine ww_ist h dX3_deal_27 (by decide) (fun v7_9 => [(7, .int v7_9), (0, .ref oY), (2, .ref (aY 1)), (3, .int p2), (4, .int p3), (5, .int v5_4), (6, .int v6_5)]) (fun _ => rfl) 29 rfl (fun v7_9 e => ?_)
        replace hf := bnd_at e hf
        clear e
        refine ww_iload h dX3_deal_29 0 rfl 31 rfl ?_
        refine ww_iconst (v := (-1)) h dX3_deal_31 (by decide) 32 rfl ?_
        have hJ52_13 : ∀ (v5_10 : Int32) (v6_11 : Int32) (Y_12 : OV), j_X3_deal_1_52_13 v5_10 v6_11 Y_12 = some o3 → ww X D A 8 Q 0 0 52 [(0, .ref oY), (2, .ref (aY 1)), (3, .int p2), (4, .int p3), (5, .int v5_10), (6, .int v6_11)] [] [gX3 cy oY aY Y_12] := by
          intro v5_10 v6_11 Y_12 hf
          unfold j_X3_deal_1_52_13 at hf
          refine ww_goto h dX3_deal_52 6 (by decide) ?_
          exact hI3 (v5_10, v6_11, Y_12) (Option.some.inj hf).symm
        refine ww_icmp_ne h dX3_deal_32 41 (by decide) 35 rfl (fun c => ?_) (fun c => ?_)
        · replace hf := ite_f c hf
          refine ww_aload_n h dX3_deal_41 rfl 2 rfl 42 rfl ?_
          refine ww_iload h dX3_deal_42 0 rfl 44 rfl ?_
          refine ww_dup2 h dX3_deal_44 rfl rfl 45 rfl ?_
          have hi := (gd_some hf).1
          replace hf := (gd_some hf).2
          refine ww_iald h 0 rfl 2 rfl (ix_in hi) dX3_deal_45 46 rfl ?_
          clear hi
          refine ww_iconst (v := 1) h dX3_deal_46 (by decide) 47 rfl ?_
          refine ww_iadd h dX3_deal_47 48 rfl ?_
          have hi := (gd_some hf).1
          replace hf := (gd_some hf).2
          refine ww_iast h 0 rfl 2 rfl (ix_in hi) dX3_deal_48 49 rfl ?_
          clear hi
          refine ww_nm (fun z => [gX3 cy oY aY z]) (sA Y_6 1 v7_9.toNatClampNeg ((ar Y_6 1 v7_9.toNatClampNeg) + (1 : Int32))) (fun Y_14 e => ?_)
          replace hf := bnd_at e hf
          clear e
          refine ww_inc (c := (-1)) h dX3_deal_49 6 rfl (by decide) (by decide) (fun v6_15 => [(6, .int v6_15), (7, .int v7_9), (0, .ref oY), (2, .ref (aY 1)), (3, .int p2), (4, .int p3), (5, .int v5_4)]) (fun _ => rfl) 52 rfl (fun v6_15 e => ?_)
          replace hf := bnd_at e hf
          clear e
          refine ww_lo [2, 3, 4, 5, 6, 0] (lo' := [(0, .ref oY), (2, .ref (aY 1)), (3, .int p2), (4, .int p3), (5, .int v5_4), (6, .int v6_15)]) rfl ?_
          exact hJ52_13 v5_4 v6_15 Y_14 hf
        · replace hf := ite_t c hf
          refine ww_inc (c := 1) h dX3_deal_35 5 rfl (by decide) (by decide) (fun v5_16 => [(5, .int v5_16), (7, .int v7_9), (0, .ref oY), (2, .ref (aY 1)), (3, .int p2), (4, .int p3), (6, .int v6_5)]) (fun _ => rfl) 38 rfl (fun v5_16 e => ?_)
          replace hf := bnd_at e hf
          clear e
          refine ww_goto h dX3_deal_38 52 (by decide) ?_
          refine ww_lo [2, 3, 4, 5, 0, 6] (lo' := [(0, .ref oY), (2, .ref (aY 1)), (3, .int p2), (4, .int p3), (5, .int v5_16), (6, .int v6_5)]) rfl ?_
          exact hJ52_13 v5_16 v6_5 Y_6 hf
  · clear h3
    show ww X D A 8 Q 0 0 55 [] [] [gX3 cy oY aY Y_17]
    obtain rfl := Option.some.inj hf
    exact ww_vret h dX3_deal_55 hQ ⟨rfl, rfl⟩
def j_X3_deal_2_52_13 (v5_10 : Int32) (v6_11 : Int32) (Y_12 : OV) : Option ((Int32 × Int32 × OV) ⊕ (OV)) := some (.inl (v5_10, v6_11, Y_12))
def s_X3_deal_2_6_3 (p2 : Int32) (p3 : Int32) : (Int32 × Int32 × OV) → Option ((Int32 × Int32 × OV) ⊕ (OV)) := un3 (fun v5_4 v6_5 Y_6 => (if v6_5 ≤ 0 then some (.inr Y_6) else (if (3 : Int32) < v5_4 then some (.inr Y_6) else (f_X3_leastOf_2 Y_6 v5_4 p2 p3).bind (un1 (fun r_7 => bnd r_7 (fun v7_9 => (if v7_9 = (-1 : Int32) then bnd (v5_4 + 1) (fun v5_16 => j_X3_deal_2_52_13 v5_16 v6_5 Y_6) else gd (ix v7_9 40) (gd (ix v7_9 40) (bnd (sA Y_6 2 v7_9.toNatClampNeg ((ar Y_6 2 v7_9.toNatClampNeg) + (1 : Int32))) (fun Y_14 => bnd (v6_5 + (-1)) (fun v6_15 => j_X3_deal_2_52_13 v5_4 v6_15 Y_14)))))))))))
def f_X3_deal_2 (Y : OV) (p0 : Int32) (p2 : Int32) (p3 : Int32) : Option (OV) := bnd (1 : Int32) (fun v5_1 => bnd p0 (fun v6_2 => ((lp (s_X3_deal_2_6_3 p2 p3) 5000 (v5_1, v6_2, Y)).bind (un1 (fun Y_17 => some Y_17)))))
def r_X3_deal_2 : Room := { frames := 1, cells := 0, slots := 0, locals := 26 }
set_option maxHeartbeats 4000000 in
set_option maxRecDepth 100000 in
theorem c_X3_deal_2 (l : Launch) (D : va_G) (ev : EvT) (cy : Nat → ClassId) (oY : Nat) (aY : Nat → Nat) (Y : OV) (p0 : Int32) (p2 : Int32) (p3 : Int32) (o : OV) (hf : f_X3_deal_2 Y p0 p2 p3 = some o) : Fn l yX3_deal cX3_deal 8 none r_X3_deal_2 D ev cy [.ref oY, .int p0, .ref (aY 2), .int p2, .int p3] [gX3 cy oY aY Y] (fun v G => v = none ∧ G = [gX3 cy oY aY o]) := by
  refine Fn_of (by decide) (Nat.le_of_ble_eq_true rfl) (fun X A Q h hQ _ => ?_)
  unfold f_X3_deal_2 at hf
  show ww X D A 8 Q 0 0 0 [(0, .ref oY), (1, .int p0), (2, .ref (aY 2)), (3, .int p2), (4, .int p3)] [] [gX3 cy oY aY Y]
  refine ww_iconst (v := 1) h dX3_deal_0 (by decide) 1 rfl ?_
  refine ww_ist h dX3_deal_1 (by decide) (fun v5_1 => [(5, .int v5_1), (0, .ref oY), (1, .int p0), (2, .ref (aY 2)), (3, .int p2), (4, .int p3)]) (fun _ => rfl) 3 rfl (fun v5_1 e => ?_)
  replace hf := bnd_at e hf
  clear e
  refine ww_iload_n h dX3_deal_3 rfl 2 rfl 4 rfl ?_
  refine ww_ist h dX3_deal_4 (by decide) (fun v6_2 => [(6, .int v6_2), (5, .int v5_1), (0, .ref oY), (1, .int p0), (2, .ref (aY 2)), (3, .int p2), (4, .int p3)]) (fun _ => rfl) 6 rfl (fun v6_2 e => ?_)
  replace hf := bnd_at e hf
  clear e
  refine ww_lo [2, 4, 5, 6, 1, 0] (lo' := [(0, .ref oY), (2, .ref (aY 2)), (3, .int p2), (4, .int p3), (5, .int v5_1), (6, .int v6_2)]) rfl ?_
  obtain ⟨Y_17, h3, hf⟩ := ob1 hf
  refine lp_walk (un3 (fun v5_4 v6_5 Y_6 => ww X D A 8 Q 0 0 6 [(0, .ref oY), (2, .ref (aY 2)), (3, .int p2), (4, .int p3), (5, .int v5_4), (6, .int v6_5)] [] [gX3 cy oY aY Y_6])) (un1 (fun Y_17 => ww X D A 8 Q 0 0 55 [] [] [gX3 cy oY aY Y_17])) ?_ _ _ _ h3 ?_
  · clear h3 hf
    intro s3 o3 hf hI3 hE3
    obtain ⟨v5_4, v6_5, Y_6⟩ := s3
    unfold s_X3_deal_2_6_3 at hf
    replace hf := un3_e hf
    show ww X D A 8 Q 0 0 6 [(0, .ref oY), (2, .ref (aY 2)), (3, .int p2), (4, .int p3), (5, .int v5_4), (6, .int v6_5)] [] [gX3 cy oY aY Y_6]
    refine ww_iload h dX3_deal_6 5 rfl 8 rfl ?_
    refine ww_if_le h dX3_deal_8 55 (by decide) 11 rfl (fun c => ?_) (fun c => ?_)
    · replace hf := ite_t c hf
      refine ww_lo [] (lo' := []) rfl ?_
      exact hE3 Y_6 (Option.some.inj hf).symm
    · replace hf := ite_f c hf
      refine ww_iload h dX3_deal_11 4 rfl 13 rfl ?_
      refine ww_iconst (v := 3) h dX3_deal_13 (by decide) 14 rfl ?_
      refine ww_icmp_gt h dX3_deal_14 55 (by decide) 17 rfl (fun c => ?_) (fun c => ?_)
      · replace hf := ite_t c hf
        refine ww_lo [] (lo' := []) rfl ?_
        exact hE3 Y_6 (Option.some.inj hf).symm
      · replace hf := ite_f c hf
        refine ww_aload_n h dX3_deal_17 rfl 0 rfl 18 rfl ?_
        refine ww_iload h dX3_deal_18 4 rfl 20 rfl ?_
        refine ww_aload_n h dX3_deal_20 rfl 1 rfl 21 rfl ?_
        refine ww_iload_n h dX3_deal_21 rfl 2 rfl 22 rfl ?_
        refine ww_iload h dX3_deal_22 3 rfl 24 rfl ?_
        obtain ⟨r_7, hu8, hf⟩ := ob1 hf
        refine ww_cVi h (c_X3_leastOf_2 l D ev cy oY aY Y_6 v5_4 p2 p3 _ hu8) ⟨w_927, w_924, w_926, w_27, w_109, ok_X3_leastOf⟩ ⟨by decide, by decide⟩ ⟨by decide, by decide⟩ ⟨rfl, rfl⟩ [0] rfl 0 rfl rfl rfl rfl (Nat.le_of_ble_eq_true rfl) dX3_deal_24 27 rfl (Gs' := [gX3 cy oY aY Y_6]) rfl ?_
        clear hu8
        refine ww_ist h dX3_deal_27 (by decide) (fun v7_9 => [(7, .int v7_9), (0, .ref oY), (2, .ref (aY 2)), (3, .int p2), (4, .int p3), (5, .int v5_4), (6, .int v6_5)]) (fun _ => rfl) 29 rfl (fun v7_9 e => ?_)
        replace hf := bnd_at e hf
        clear e
        refine ww_iload h dX3_deal_29 0 rfl 31 rfl ?_
        refine ww_iconst (v := (-1)) h dX3_deal_31 (by decide) 32 rfl ?_
        have hJ52_13 : ∀ (v5_10 : Int32) (v6_11 : Int32) (Y_12 : OV), j_X3_deal_2_52_13 v5_10 v6_11 Y_12 = some o3 → ww X D A 8 Q 0 0 52 [(0, .ref oY), (2, .ref (aY 2)), (3, .int p2), (4, .int p3), (5, .int v5_10), (6, .int v6_11)] [] [gX3 cy oY aY Y_12] := by
          intro v5_10 v6_11 Y_12 hf
          unfold j_X3_deal_2_52_13 at hf
          refine ww_goto h dX3_deal_52 6 (by decide) ?_
          exact hI3 (v5_10, v6_11, Y_12) (Option.some.inj hf).symm
        refine ww_icmp_ne h dX3_deal_32 41 (by decide) 35 rfl (fun c => ?_) (fun c => ?_)
        · replace hf := ite_f c hf
          refine ww_aload_n h dX3_deal_41 rfl 2 rfl 42 rfl ?_
          refine ww_iload h dX3_deal_42 0 rfl 44 rfl ?_
          refine ww_dup2 h dX3_deal_44 rfl rfl 45 rfl ?_
          have hi := (gd_some hf).1
          replace hf := (gd_some hf).2
          refine ww_iald h 0 rfl 3 rfl (ix_in hi) dX3_deal_45 46 rfl ?_
          clear hi
          refine ww_iconst (v := 1) h dX3_deal_46 (by decide) 47 rfl ?_
          refine ww_iadd h dX3_deal_47 48 rfl ?_
          have hi := (gd_some hf).1
          replace hf := (gd_some hf).2
          refine ww_iast h 0 rfl 3 rfl (ix_in hi) dX3_deal_48 49 rfl ?_
          clear hi
          refine ww_nm (fun z => [gX3 cy oY aY z]) (sA Y_6 2 v7_9.toNatClampNeg ((ar Y_6 2 v7_9.toNatClampNeg) + (1 : Int32))) (fun Y_14 e => ?_)
          replace hf := bnd_at e hf
          clear e
          refine ww_inc (c := (-1)) h dX3_deal_49 6 rfl (by decide) (by decide) (fun v6_15 => [(6, .int v6_15), (7, .int v7_9), (0, .ref oY), (2, .ref (aY 2)), (3, .int p2), (4, .int p3), (5, .int v5_4)]) (fun _ => rfl) 52 rfl (fun v6_15 e => ?_)
          replace hf := bnd_at e hf
          clear e
          refine ww_lo [2, 3, 4, 5, 6, 0] (lo' := [(0, .ref oY), (2, .ref (aY 2)), (3, .int p2), (4, .int p3), (5, .int v5_4), (6, .int v6_15)]) rfl ?_
          exact hJ52_13 v5_4 v6_15 Y_14 hf
        · replace hf := ite_t c hf
          refine ww_inc (c := 1) h dX3_deal_35 5 rfl (by decide) (by decide) (fun v5_16 => [(5, .int v5_16), (7, .int v7_9), (0, .ref oY), (2, .ref (aY 2)), (3, .int p2), (4, .int p3), (6, .int v6_5)]) (fun _ => rfl) 38 rfl (fun v5_16 e => ?_)
          replace hf := bnd_at e hf
          clear e
          refine ww_goto h dX3_deal_38 52 (by decide) ?_
          refine ww_lo [2, 3, 4, 5, 0, 6] (lo' := [(0, .ref oY), (2, .ref (aY 2)), (3, .int p2), (4, .int p3), (5, .int v5_16), (6, .int v6_5)]) rfl ?_
          exact hJ52_13 v5_16 v6_5 Y_6 hf
  · clear h3
    show ww X D A 8 Q 0 0 55 [] [] [gX3 cy oY aY Y_17]
    obtain rfl := Option.some.inj hf
    exact ww_vret h dX3_deal_55 hQ ⟨rfl, rfl⟩
theorem dX3_dealTaken_0 : decode cX3_dealTaken 0 = .ok (.iload_n 2, 1) := by decide +kernel
theorem dX3_dealTaken_1 : decode cX3_dealTaken 1 = .ok (.istore 4, 2) := by decide +kernel
theorem dX3_dealTaken_3 : decode cX3_dealTaken 3 = .ok (.iload 4, 2) := by decide +kernel
theorem dX3_dealTaken_5 : decode cX3_dealTaken 5 = .ok (.iload_n 3, 1) := by decide +kernel
theorem dX3_dealTaken_6 : decode cX3_dealTaken 6 = .ok (.if_icmp .gt 46, 3) := by decide +kernel
theorem dX3_dealTaken_9 : decode cX3_dealTaken 9 = .ok (.aload_n 0, 1) := by decide +kernel
theorem dX3_dealTaken_10 : decode cX3_dealTaken 10 = .ok (.getfield 23, 3) := by decide +kernel
theorem dX3_dealTaken_13 : decode cX3_dealTaken 13 = .ok (.iload 4, 2) := by decide +kernel
theorem dX3_dealTaken_15 : decode cX3_dealTaken 15 = .ok (.aload_n 1, 1) := by decide +kernel
theorem dX3_dealTaken_16 : decode cX3_dealTaken 16 = .ok (.iconst 5, 1) := by decide +kernel
theorem dX3_dealTaken_17 : decode cX3_dealTaken 17 = .ok (.iload 4, 2) := by decide +kernel
theorem dX3_dealTaken_19 : decode cX3_dealTaken 19 = .ok (.invokevirtual 94, 3) := by decide +kernel
theorem dX3_dealTaken_22 : decode cX3_dealTaken 22 = .ok (.iastore, 1) := by decide +kernel
theorem dX3_dealTaken_23 : decode cX3_dealTaken 23 = .ok (.aload_n 0, 1) := by decide +kernel
theorem dX3_dealTaken_24 : decode cX3_dealTaken 24 = .ok (.getfield 26, 3) := by decide +kernel
theorem dX3_dealTaken_27 : decode cX3_dealTaken 27 = .ok (.iload 4, 2) := by decide +kernel
theorem dX3_dealTaken_29 : decode cX3_dealTaken 29 = .ok (.aload_n 1, 1) := by decide +kernel
theorem dX3_dealTaken_30 : decode cX3_dealTaken 30 = .ok (.bipush 6, 2) := by decide +kernel
theorem dX3_dealTaken_32 : decode cX3_dealTaken 32 = .ok (.iload 4, 2) := by decide +kernel
theorem dX3_dealTaken_34 : decode cX3_dealTaken 34 = .ok (.invokevirtual 94, 3) := by decide +kernel
theorem dX3_dealTaken_37 : decode cX3_dealTaken 37 = .ok (.iastore, 1) := by decide +kernel
theorem dX3_dealTaken_38 : decode cX3_dealTaken 38 = .ok (.aload_n 0, 1) := by decide +kernel
theorem dX3_dealTaken_39 : decode cX3_dealTaken 39 = .ok (.getfield 16, 3) := by decide +kernel
theorem dX3_dealTaken_42 : decode cX3_dealTaken 42 = .ok (.iload 4, 2) := by decide +kernel
theorem dX3_dealTaken_44 : decode cX3_dealTaken 44 = .ok (.iconst 0, 1) := by decide +kernel
theorem dX3_dealTaken_45 : decode cX3_dealTaken 45 = .ok (.iastore, 1) := by decide +kernel
theorem dX3_dealTaken_46 : decode cX3_dealTaken 46 = .ok (.iinc 4 1, 3) := by decide +kernel
theorem dX3_dealTaken_49 : decode cX3_dealTaken 49 = .ok (.goto (-46), 3) := by decide +kernel
theorem dX3_dealTaken_52 : decode cX3_dealTaken 52 = .ok (.aload_n 0, 1) := by decide +kernel
theorem dX3_dealTaken_53 : decode cX3_dealTaken 53 = .ok (.getfield 23, 3) := by decide +kernel
theorem dX3_dealTaken_56 : decode cX3_dealTaken 56 = .ok (.iload_n 3, 1) := by decide +kernel
theorem dX3_dealTaken_57 : decode cX3_dealTaken 57 = .ok (.aload_n 1, 1) := by decide +kernel
theorem dX3_dealTaken_58 : decode cX3_dealTaken 58 = .ok (.iload_n 3, 1) := by decide +kernel
theorem dX3_dealTaken_59 : decode cX3_dealTaken 59 = .ok (.invokevirtual 97, 3) := by decide +kernel
theorem dX3_dealTaken_62 : decode cX3_dealTaken 62 = .ok (.iastore, 1) := by decide +kernel
theorem dX3_dealTaken_63 : decode cX3_dealTaken 63 = .ok (.aload_n 0, 1) := by decide +kernel
theorem dX3_dealTaken_64 : decode cX3_dealTaken 64 = .ok (.aload_n 1, 1) := by decide +kernel
theorem dX3_dealTaken_65 : decode cX3_dealTaken 65 = .ok (.getfield 78, 3) := by decide +kernel
theorem dX3_dealTaken_68 : decode cX3_dealTaken 68 = .ok (.aload_n 0, 1) := by decide +kernel
theorem dX3_dealTaken_69 : decode cX3_dealTaken 69 = .ok (.getfield 16, 3) := by decide +kernel
theorem dX3_dealTaken_72 : decode cX3_dealTaken 72 = .ok (.iload_n 2, 1) := by decide +kernel
theorem dX3_dealTaken_73 : decode cX3_dealTaken 73 = .ok (.iload_n 3, 1) := by decide +kernel
theorem dX3_dealTaken_74 : decode cX3_dealTaken 74 = .ok (.invokevirtual 101, 3) := by decide +kernel
theorem dX3_dealTaken_77 : decode cX3_dealTaken 77 = .ok (.return_, 1) := by decide +kernel
theorem ok_X3_dealTaken : okY RX3 yX3_dealTaken 3 := ⟨rfl, by decide, by decide, by decide +kernel⟩
def s_X3_dealTaken_3_2 (oC : Nat) (oP : Nat) (R : OV) (C : OV) (P : OV) (p2 : Int32) : (Int32 × OV) → Option ((Int32 × OV) ⊕ (OV)) := un2 (fun v4_3 Y_4 => (if p2 < v4_3 then some (.inr Y_4) else (f_X7_factOf R oC C oP P (5 : Int32) v4_3).bind (un1 (fun r_5 => gd (ix v4_3 40) (bnd (sA Y_4 3 v4_3.toNatClampNeg r_5) (fun Y_7 => (f_X7_factOf R oC C oP P (6 : Int32) v4_3).bind (un1 (fun r_8 => gd (ix v4_3 40) (bnd (sA Y_7 4 v4_3.toNatClampNeg r_8) (fun Y_10 => gd (ix v4_3 40) (bnd (sA Y_10 1 v4_3.toNatClampNeg (0 : Int32)) (fun Y_11 => bnd (v4_3 + 1) (fun v4_12 => some (.inl (v4_12, Y_11)))))))))))))))
def f_X3_dealTaken (Y : OV) (R : OV) (oC : Nat) (C : OV) (oP : Nat) (P : OV) (p1 : Int32) (p2 : Int32) : Option (OV) := bnd p1 (fun v4_1 => ((lp (s_X3_dealTaken_3_2 oC oP R C P p2) 5000 (v4_1, Y)).bind (un1 (fun Y_13 => (f_X7_endGives R p2).bind (un1 (fun r_14 => gd (ix p2 40) (bnd (sA Y_13 3 p2.toNatClampNeg r_14) (fun Y_16 => (f_X3_deal_1 Y_16 (iv R 14) p1 p2).bind (un1 (fun Y_17 => some Y_17))))))))))
def r_X3_dealTaken : Room := { frames := 2, cells := 0, slots := 0, locals := 53 }
set_option maxHeartbeats 4000000 in
set_option maxRecDepth 100000 in
theorem c_X3_dealTaken (l : Launch) (D : va_G) (ev : EvT) (cy : Nat → ClassId) (oY : Nat) (aY : Nat → Nat) (Y : OV) (oR : Nat) (aR : Nat → Nat) (R : OV) (oC : Nat) (aC : Nat → Nat) (C : OV) (oP : Nat) (aP : Nat → Nat) (P : OV) (p1 : Int32) (p2 : Int32) (o : OV) (hf : f_X3_dealTaken Y R oC C oP P p1 p2 = some o) : Fn l yX3_dealTaken cX3_dealTaken 5 none r_X3_dealTaken D ev cy [.ref oY, .ref oR, .int p1, .int p2] [gX3 cy oY aY Y, gX7 cy oR aR R, gX1 cy oC aC C, gX4 cy oP aP P] (fun v G => v = none ∧ G = [gX3 cy oY aY o, gX7 cy oR aR R, gX1 cy oC aC C, gX4 cy oP aP P]) := by
  refine Fn_of (by decide) (Nat.le_of_ble_eq_true rfl) (fun X A Q h hQ _ => ?_)
  unfold f_X3_dealTaken at hf
  show ww X D A 5 Q 0 0 0 [(0, .ref oY), (1, .ref oR), (2, .int p1), (3, .int p2)] [] [gX3 cy oY aY Y, gX7 cy oR aR R, gX1 cy oC aC C, gX4 cy oP aP P]
  refine ww_iload_n h dX3_dealTaken_0 rfl 2 rfl 1 rfl ?_
  refine ww_ist h dX3_dealTaken_1 (by decide) (fun v4_1 => [(4, .int v4_1), (0, .ref oY), (1, .ref oR), (2, .int p1), (3, .int p2)]) (fun _ => rfl) 3 rfl (fun v4_1 e => ?_)
  replace hf := bnd_at e hf
  clear e
  refine ww_lo [1, 2, 3, 4, 0] (lo' := [(0, .ref oY), (1, .ref oR), (2, .int p1), (3, .int p2), (4, .int v4_1)]) rfl ?_
  obtain ⟨Y_13, h2, hf⟩ := ob1 hf
  refine lp_walk (un2 (fun v4_3 Y_4 => ww X D A 5 Q 0 0 3 [(0, .ref oY), (1, .ref oR), (2, .int p1), (3, .int p2), (4, .int v4_3)] [] [gX3 cy oY aY Y_4, gX7 cy oR aR R, gX1 cy oC aC C, gX4 cy oP aP P])) (un1 (fun Y_13 => ww X D A 5 Q 0 0 52 [(0, .ref oY), (1, .ref oR), (2, .int p1), (3, .int p2)] [] [gX3 cy oY aY Y_13, gX7 cy oR aR R, gX1 cy oC aC C, gX4 cy oP aP P])) ?_ _ _ _ h2 ?_
  · clear h2 hf
    intro s2 o2 hf hI2 hE2
    obtain ⟨v4_3, Y_4⟩ := s2
    unfold s_X3_dealTaken_3_2 at hf
    replace hf := un2_e hf
    show ww X D A 5 Q 0 0 3 [(0, .ref oY), (1, .ref oR), (2, .int p1), (3, .int p2), (4, .int v4_3)] [] [gX3 cy oY aY Y_4, gX7 cy oR aR R, gX1 cy oC aC C, gX4 cy oP aP P]
    refine ww_iload h dX3_dealTaken_3 4 rfl 5 rfl ?_
    refine ww_iload_n h dX3_dealTaken_5 rfl 3 rfl 6 rfl ?_
    refine ww_icmp_gt h dX3_dealTaken_6 52 (by decide) 9 rfl (fun c => ?_) (fun c => ?_)
    · replace hf := ite_t c hf
      refine ww_lo [0, 1, 2, 3] (lo' := [(0, .ref oY), (1, .ref oR), (2, .int p1), (3, .int p2)]) rfl ?_
      exact hE2 Y_4 (Option.some.inj hf).symm
    · replace hf := ite_f c hf
      refine ww_aload_n h dX3_dealTaken_9 rfl 0 rfl 10 rfl ?_
      refine ww_get h inG3 rfl 0 rfl rfl 3 (by decide) w_367 rfl dX3_dealTaken_10 13 rfl ?_
      refine ww_iload h dX3_dealTaken_13 4 rfl 15 rfl ?_
      refine ww_aload_n h dX3_dealTaken_15 rfl 1 rfl 16 rfl ?_
      refine ww_iconst (v := 5) h dX3_dealTaken_16 (by decide) 17 rfl ?_
      refine ww_iload h dX3_dealTaken_17 4 rfl 19 rfl ?_
      obtain ⟨r_5, hu6, hf⟩ := ob1 hf
      refine ww_cVi h (c_X7_factOf l D ev cy oR aR R oC aC C oP aP P (5 : Int32) v4_3 _ hu6) ⟨w_817, w_915, w_815, w_816, w_107, ok_X7_factOf⟩ ⟨by decide, by decide⟩ ⟨by decide, by decide⟩ ⟨rfl, rfl⟩ [1, 1, 1] rfl 0 rfl rfl rfl rfl (Nat.le_of_ble_eq_true rfl) dX3_dealTaken_19 22 rfl (Gs' := [gX7 cy oR aR R, gX1 cy oC aC C, gX4 cy oP aP P, gX3 cy oY aY Y_4]) rfl ?_
      clear hu6
      have hi := (gd_some hf).1
      replace hf := (gd_some hf).2
      refine ww_iast h 3 rfl 4 rfl (ix_in hi) dX3_dealTaken_22 23 rfl ?_
      clear hi
      refine ww_nm (fun z => [gX7 cy oR aR R, gX1 cy oC aC C, gX4 cy oP aP P, gX3 cy oY aY z]) (sA Y_4 3 v4_3.toNatClampNeg r_5) (fun Y_7 e => ?_)
      replace hf := bnd_at e hf
      clear e
      refine ww_aload_n h dX3_dealTaken_23 rfl 0 rfl 24 rfl ?_
      refine ww_get h inG3 rfl 3 rfl rfl 4 (by decide) w_368 rfl dX3_dealTaken_24 27 rfl ?_
      refine ww_iload h dX3_dealTaken_27 4 rfl 29 rfl ?_
      refine ww_aload_n h dX3_dealTaken_29 rfl 1 rfl 30 rfl ?_
      refine ww_bipush (v := 6) h dX3_dealTaken_30 (by decide) 32 rfl ?_
      refine ww_iload h dX3_dealTaken_32 4 rfl 34 rfl ?_
      obtain ⟨r_8, hu9, hf⟩ := ob1 hf
      refine ww_cVi h (c_X7_factOf l D ev cy oR aR R oC aC C oP aP P (6 : Int32) v4_3 _ hu9) ⟨w_817, w_915, w_815, w_816, w_107, ok_X7_factOf⟩ ⟨by decide, by decide⟩ ⟨by decide, by decide⟩ ⟨rfl, rfl⟩ [0, 0, 0] rfl 0 rfl rfl rfl rfl (Nat.le_of_ble_eq_true rfl) dX3_dealTaken_34 37 rfl (Gs' := [gX7 cy oR aR R, gX1 cy oC aC C, gX4 cy oP aP P, gX3 cy oY aY Y_7]) rfl ?_
      clear hu9
      have hi := (gd_some hf).1
      replace hf := (gd_some hf).2
      refine ww_iast h 3 rfl 5 rfl (ix_in hi) dX3_dealTaken_37 38 rfl ?_
      clear hi
      refine ww_nm (fun z => [gX7 cy oR aR R, gX1 cy oC aC C, gX4 cy oP aP P, gX3 cy oY aY z]) (sA Y_7 4 v4_3.toNatClampNeg r_8) (fun Y_10 e => ?_)
      replace hf := bnd_at e hf
      clear e
      refine ww_aload_n h dX3_dealTaken_38 rfl 0 rfl 39 rfl ?_
      refine ww_get h inG3 rfl 3 rfl rfl 1 (by decide) w_363 rfl dX3_dealTaken_39 42 rfl ?_
      refine ww_iload h dX3_dealTaken_42 4 rfl 44 rfl ?_
      refine ww_iconst (v := 0) h dX3_dealTaken_44 (by decide) 45 rfl ?_
      have hi := (gd_some hf).1
      replace hf := (gd_some hf).2
      refine ww_iast h 3 rfl 2 rfl (ix_in hi) dX3_dealTaken_45 46 rfl ?_
      clear hi
      refine ww_nm (fun z => [gX7 cy oR aR R, gX1 cy oC aC C, gX4 cy oP aP P, gX3 cy oY aY z]) (sA Y_10 1 v4_3.toNatClampNeg (0 : Int32)) (fun Y_11 e => ?_)
      replace hf := bnd_at e hf
      clear e
      refine ww_inc (c := 1) h dX3_dealTaken_46 4 rfl (by decide) (by decide) (fun v4_12 => [(4, .int v4_12), (0, .ref oY), (1, .ref oR), (2, .int p1), (3, .int p2)]) (fun _ => rfl) 49 rfl (fun v4_12 e => ?_)
      replace hf := bnd_at e hf
      clear e
      refine ww_goto h dX3_dealTaken_49 3 (by decide) ?_
      refine ww_lo [1, 2, 3, 4, 0] (lo' := [(0, .ref oY), (1, .ref oR), (2, .int p1), (3, .int p2), (4, .int v4_12)]) rfl ?_
      refine ww_perm [3, 0, 0, 0] (Gs' := [gX3 cy oY aY Y_11, gX7 cy oR aR R, gX1 cy oC aC C, gX4 cy oP aP P]) rfl ?_
      exact hI2 (v4_12, Y_11) (Option.some.inj hf).symm
  · clear h2
    show ww X D A 5 Q 0 0 52 [(0, .ref oY), (1, .ref oR), (2, .int p1), (3, .int p2)] [] [gX3 cy oY aY Y_13, gX7 cy oR aR R, gX1 cy oC aC C, gX4 cy oP aP P]
    refine ww_aload_n h dX3_dealTaken_52 rfl 0 rfl 53 rfl ?_
    refine ww_get h inG3 rfl 0 rfl rfl 3 (by decide) w_367 rfl dX3_dealTaken_53 56 rfl ?_
    refine ww_iload_n h dX3_dealTaken_56 rfl 3 rfl 57 rfl ?_
    refine ww_aload_n h dX3_dealTaken_57 rfl 1 rfl 58 rfl ?_
    refine ww_iload_n h dX3_dealTaken_58 rfl 3 rfl 59 rfl ?_
    obtain ⟨r_14, hu15, hf⟩ := ob1 hf
    refine ww_cVi h (c_X7_endGives l D ev cy oR aR R p2 _ hu15) ⟨w_919, w_916, w_917, w_918, w_107, ok_X7_endGives⟩ ⟨by decide, by decide⟩ ⟨by decide, by decide⟩ ⟨rfl, rfl⟩ [1] rfl 0 rfl rfl rfl rfl (Nat.le_of_ble_eq_true rfl) dX3_dealTaken_59 62 rfl (Gs' := [gX7 cy oR aR R, gX3 cy oY aY Y_13, gX1 cy oC aC C, gX4 cy oP aP P]) rfl ?_
    clear hu15
    have hi := (gd_some hf).1
    replace hf := (gd_some hf).2
    refine ww_iast h 1 rfl 4 rfl (ix_in hi) dX3_dealTaken_62 63 rfl ?_
    clear hi
    refine ww_nm (fun z => [gX7 cy oR aR R, gX3 cy oY aY z, gX1 cy oC aC C, gX4 cy oP aP P]) (sA Y_13 3 p2.toNatClampNeg r_14) (fun Y_16 e => ?_)
    replace hf := bnd_at e hf
    clear e
    refine ww_aload_n h dX3_dealTaken_63 rfl 0 rfl 64 rfl ?_
    refine ww_aload_n h dX3_dealTaken_64 rfl 1 rfl 65 rfl ?_
    refine ww_get h inG7 rfl 0 rfl rfl 14 (by decide) w_286 rfl dX3_dealTaken_65 68 rfl ?_
    refine ww_aload_n h dX3_dealTaken_68 rfl 0 rfl 69 rfl ?_
    refine ww_get h inG3 rfl 1 rfl rfl 1 (by decide) w_363 rfl dX3_dealTaken_69 72 rfl ?_
    refine ww_iload_n h dX3_dealTaken_72 rfl 2 rfl 73 rfl ?_
    refine ww_iload_n h dX3_dealTaken_73 rfl 3 rfl 74 rfl ?_
    obtain ⟨Y_17, hu18, hf⟩ := ob1 hf
    refine ww_cVv h (c_X3_deal_1 l D ev cy oY aY Y_16 (iv R 14) p1 p2 _ hu18) ⟨w_923, w_920, w_922, w_26, w_109, ok_X3_deal⟩ ⟨by decide, by decide⟩ ⟨by decide, by decide⟩ ⟨rfl, rfl⟩ [1] rfl 0 rfl rfl rfl rfl (Nat.le_of_ble_eq_true rfl) dX3_dealTaken_74 77 rfl (Gs' := [gX3 cy oY aY Y_17, gX7 cy oR aR R, gX1 cy oC aC C, gX4 cy oP aP P]) rfl ?_
    clear hu18
    obtain rfl := Option.some.inj hf
    exact ww_vret h dX3_dealTaken_77 hQ ⟨rfl, rfl⟩
theorem dX3_dealPutIn_0 : decode cX3_dealPutIn 0 = .ok (.iload_n 2, 1) := by decide +kernel
theorem dX3_dealPutIn_1 : decode cX3_dealPutIn 1 = .ok (.istore 4, 2) := by decide +kernel
theorem dX3_dealPutIn_3 : decode cX3_dealPutIn 3 = .ok (.iload 4, 2) := by decide +kernel
theorem dX3_dealPutIn_5 : decode cX3_dealPutIn 5 = .ok (.iload_n 3, 1) := by decide +kernel
theorem dX3_dealPutIn_6 : decode cX3_dealPutIn 6 = .ok (.if_icmp .gt 47, 3) := by decide +kernel
theorem dX3_dealPutIn_9 : decode cX3_dealPutIn 9 = .ok (.aload_n 0, 1) := by decide +kernel
theorem dX3_dealPutIn_10 : decode cX3_dealPutIn 10 = .ok (.getfield 23, 3) := by decide +kernel
theorem dX3_dealPutIn_13 : decode cX3_dealPutIn 13 = .ok (.iload 4, 2) := by decide +kernel
theorem dX3_dealPutIn_15 : decode cX3_dealPutIn 15 = .ok (.aload_n 1, 1) := by decide +kernel
theorem dX3_dealPutIn_16 : decode cX3_dealPutIn 16 = .ok (.bipush 7, 2) := by decide +kernel
theorem dX3_dealPutIn_18 : decode cX3_dealPutIn 18 = .ok (.iload 4, 2) := by decide +kernel
theorem dX3_dealPutIn_20 : decode cX3_dealPutIn 20 = .ok (.invokevirtual 94, 3) := by decide +kernel
theorem dX3_dealPutIn_23 : decode cX3_dealPutIn 23 = .ok (.iastore, 1) := by decide +kernel
theorem dX3_dealPutIn_24 : decode cX3_dealPutIn 24 = .ok (.aload_n 0, 1) := by decide +kernel
theorem dX3_dealPutIn_25 : decode cX3_dealPutIn 25 = .ok (.getfield 26, 3) := by decide +kernel
theorem dX3_dealPutIn_28 : decode cX3_dealPutIn 28 = .ok (.iload 4, 2) := by decide +kernel
theorem dX3_dealPutIn_30 : decode cX3_dealPutIn 30 = .ok (.aload_n 1, 1) := by decide +kernel
theorem dX3_dealPutIn_31 : decode cX3_dealPutIn 31 = .ok (.bipush 8, 2) := by decide +kernel
theorem dX3_dealPutIn_33 : decode cX3_dealPutIn 33 = .ok (.iload 4, 2) := by decide +kernel
theorem dX3_dealPutIn_35 : decode cX3_dealPutIn 35 = .ok (.invokevirtual 94, 3) := by decide +kernel
theorem dX3_dealPutIn_38 : decode cX3_dealPutIn 38 = .ok (.iastore, 1) := by decide +kernel
theorem dX3_dealPutIn_39 : decode cX3_dealPutIn 39 = .ok (.aload_n 0, 1) := by decide +kernel
theorem dX3_dealPutIn_40 : decode cX3_dealPutIn 40 = .ok (.getfield 20, 3) := by decide +kernel
theorem dX3_dealPutIn_43 : decode cX3_dealPutIn 43 = .ok (.iload 4, 2) := by decide +kernel
theorem dX3_dealPutIn_45 : decode cX3_dealPutIn 45 = .ok (.iconst 0, 1) := by decide +kernel
theorem dX3_dealPutIn_46 : decode cX3_dealPutIn 46 = .ok (.iastore, 1) := by decide +kernel
theorem dX3_dealPutIn_47 : decode cX3_dealPutIn 47 = .ok (.iinc 4 1, 3) := by decide +kernel
theorem dX3_dealPutIn_50 : decode cX3_dealPutIn 50 = .ok (.goto (-47), 3) := by decide +kernel
theorem dX3_dealPutIn_53 : decode cX3_dealPutIn 53 = .ok (.aload_n 0, 1) := by decide +kernel
theorem dX3_dealPutIn_54 : decode cX3_dealPutIn 54 = .ok (.getfield 23, 3) := by decide +kernel
theorem dX3_dealPutIn_57 : decode cX3_dealPutIn 57 = .ok (.iload_n 3, 1) := by decide +kernel
theorem dX3_dealPutIn_58 : decode cX3_dealPutIn 58 = .ok (.iconst 0, 1) := by decide +kernel
theorem dX3_dealPutIn_59 : decode cX3_dealPutIn 59 = .ok (.iastore, 1) := by decide +kernel
theorem dX3_dealPutIn_60 : decode cX3_dealPutIn 60 = .ok (.aload_n 0, 1) := by decide +kernel
theorem dX3_dealPutIn_61 : decode cX3_dealPutIn 61 = .ok (.aload_n 1, 1) := by decide +kernel
theorem dX3_dealPutIn_62 : decode cX3_dealPutIn 62 = .ok (.getfield 81, 3) := by decide +kernel
theorem dX3_dealPutIn_65 : decode cX3_dealPutIn 65 = .ok (.aload_n 0, 1) := by decide +kernel
theorem dX3_dealPutIn_66 : decode cX3_dealPutIn 66 = .ok (.getfield 20, 3) := by decide +kernel
theorem dX3_dealPutIn_69 : decode cX3_dealPutIn 69 = .ok (.iload_n 2, 1) := by decide +kernel
theorem dX3_dealPutIn_70 : decode cX3_dealPutIn 70 = .ok (.iload_n 3, 1) := by decide +kernel
theorem dX3_dealPutIn_71 : decode cX3_dealPutIn 71 = .ok (.invokevirtual 101, 3) := by decide +kernel
theorem dX3_dealPutIn_74 : decode cX3_dealPutIn 74 = .ok (.return_, 1) := by decide +kernel
theorem ok_X3_dealPutIn : okY RX3 yX3_dealPutIn 3 := ⟨rfl, by decide, by decide, by decide +kernel⟩
def s_X3_dealPutIn_3_2 (oC : Nat) (oP : Nat) (R : OV) (C : OV) (P : OV) (p2 : Int32) : (Int32 × OV) → Option ((Int32 × OV) ⊕ (OV)) := un2 (fun v4_3 Y_4 => (if p2 < v4_3 then some (.inr Y_4) else (f_X7_factOf R oC C oP P (7 : Int32) v4_3).bind (un1 (fun r_5 => gd (ix v4_3 40) (bnd (sA Y_4 3 v4_3.toNatClampNeg r_5) (fun Y_7 => (f_X7_factOf R oC C oP P (8 : Int32) v4_3).bind (un1 (fun r_8 => gd (ix v4_3 40) (bnd (sA Y_7 4 v4_3.toNatClampNeg r_8) (fun Y_10 => gd (ix v4_3 40) (bnd (sA Y_10 2 v4_3.toNatClampNeg (0 : Int32)) (fun Y_11 => bnd (v4_3 + 1) (fun v4_12 => some (.inl (v4_12, Y_11)))))))))))))))
def f_X3_dealPutIn (Y : OV) (R : OV) (oC : Nat) (C : OV) (oP : Nat) (P : OV) (p1 : Int32) (p2 : Int32) : Option (OV) := bnd p1 (fun v4_1 => ((lp (s_X3_dealPutIn_3_2 oC oP R C P p2) 5000 (v4_1, Y)).bind (un1 (fun Y_13 => gd (ix p2 40) (bnd (sA Y_13 3 p2.toNatClampNeg (0 : Int32)) (fun Y_14 => (f_X3_deal_2 Y_14 (iv R 15) p1 p2).bind (un1 (fun Y_15 => some Y_15))))))))
def r_X3_dealPutIn : Room := { frames := 2, cells := 0, slots := 0, locals := 53 }
set_option maxHeartbeats 4000000 in
set_option maxRecDepth 100000 in
theorem c_X3_dealPutIn (l : Launch) (D : va_G) (ev : EvT) (cy : Nat → ClassId) (oY : Nat) (aY : Nat → Nat) (Y : OV) (oR : Nat) (aR : Nat → Nat) (R : OV) (oC : Nat) (aC : Nat → Nat) (C : OV) (oP : Nat) (aP : Nat → Nat) (P : OV) (p1 : Int32) (p2 : Int32) (o : OV) (hf : f_X3_dealPutIn Y R oC C oP P p1 p2 = some o) : Fn l yX3_dealPutIn cX3_dealPutIn 5 none r_X3_dealPutIn D ev cy [.ref oY, .ref oR, .int p1, .int p2] [gX3 cy oY aY Y, gX7 cy oR aR R, gX1 cy oC aC C, gX4 cy oP aP P] (fun v G => v = none ∧ G = [gX3 cy oY aY o, gX7 cy oR aR R, gX1 cy oC aC C, gX4 cy oP aP P]) := by
  refine Fn_of (by decide) (Nat.le_of_ble_eq_true rfl) (fun X A Q h hQ _ => ?_)
  unfold f_X3_dealPutIn at hf
  show ww X D A 5 Q 0 0 0 [(0, .ref oY), (1, .ref oR), (2, .int p1), (3, .int p2)] [] [gX3 cy oY aY Y, gX7 cy oR aR R, gX1 cy oC aC C, gX4 cy oP aP P]
  refine ww_iload_n h dX3_dealPutIn_0 rfl 2 rfl 1 rfl ?_
  refine ww_ist h dX3_dealPutIn_1 (by decide) (fun v4_1 => [(4, .int v4_1), (0, .ref oY), (1, .ref oR), (2, .int p1), (3, .int p2)]) (fun _ => rfl) 3 rfl (fun v4_1 e => ?_)
  replace hf := bnd_at e hf
  clear e
  refine ww_lo [1, 2, 3, 4, 0] (lo' := [(0, .ref oY), (1, .ref oR), (2, .int p1), (3, .int p2), (4, .int v4_1)]) rfl ?_
  obtain ⟨Y_13, h2, hf⟩ := ob1 hf
  refine lp_walk (un2 (fun v4_3 Y_4 => ww X D A 5 Q 0 0 3 [(0, .ref oY), (1, .ref oR), (2, .int p1), (3, .int p2), (4, .int v4_3)] [] [gX3 cy oY aY Y_4, gX7 cy oR aR R, gX1 cy oC aC C, gX4 cy oP aP P])) (un1 (fun Y_13 => ww X D A 5 Q 0 0 53 [(0, .ref oY), (1, .ref oR), (2, .int p1), (3, .int p2)] [] [gX3 cy oY aY Y_13, gX7 cy oR aR R, gX1 cy oC aC C, gX4 cy oP aP P])) ?_ _ _ _ h2 ?_
  · clear h2 hf
    intro s2 o2 hf hI2 hE2
    obtain ⟨v4_3, Y_4⟩ := s2
    unfold s_X3_dealPutIn_3_2 at hf
    replace hf := un2_e hf
    show ww X D A 5 Q 0 0 3 [(0, .ref oY), (1, .ref oR), (2, .int p1), (3, .int p2), (4, .int v4_3)] [] [gX3 cy oY aY Y_4, gX7 cy oR aR R, gX1 cy oC aC C, gX4 cy oP aP P]
    refine ww_iload h dX3_dealPutIn_3 4 rfl 5 rfl ?_
    refine ww_iload_n h dX3_dealPutIn_5 rfl 3 rfl 6 rfl ?_
    refine ww_icmp_gt h dX3_dealPutIn_6 53 (by decide) 9 rfl (fun c => ?_) (fun c => ?_)
    · replace hf := ite_t c hf
      refine ww_lo [0, 1, 2, 3] (lo' := [(0, .ref oY), (1, .ref oR), (2, .int p1), (3, .int p2)]) rfl ?_
      exact hE2 Y_4 (Option.some.inj hf).symm
    · replace hf := ite_f c hf
      refine ww_aload_n h dX3_dealPutIn_9 rfl 0 rfl 10 rfl ?_
      refine ww_get h inG3 rfl 0 rfl rfl 3 (by decide) w_367 rfl dX3_dealPutIn_10 13 rfl ?_
      refine ww_iload h dX3_dealPutIn_13 4 rfl 15 rfl ?_
      refine ww_aload_n h dX3_dealPutIn_15 rfl 1 rfl 16 rfl ?_
      refine ww_bipush (v := 7) h dX3_dealPutIn_16 (by decide) 18 rfl ?_
      refine ww_iload h dX3_dealPutIn_18 4 rfl 20 rfl ?_
      obtain ⟨r_5, hu6, hf⟩ := ob1 hf
      refine ww_cVi h (c_X7_factOf l D ev cy oR aR R oC aC C oP aP P (7 : Int32) v4_3 _ hu6) ⟨w_817, w_915, w_815, w_816, w_107, ok_X7_factOf⟩ ⟨by decide, by decide⟩ ⟨by decide, by decide⟩ ⟨rfl, rfl⟩ [1, 1, 1] rfl 0 rfl rfl rfl rfl (Nat.le_of_ble_eq_true rfl) dX3_dealPutIn_20 23 rfl (Gs' := [gX7 cy oR aR R, gX1 cy oC aC C, gX4 cy oP aP P, gX3 cy oY aY Y_4]) rfl ?_
      clear hu6
      have hi := (gd_some hf).1
      replace hf := (gd_some hf).2
      refine ww_iast h 3 rfl 4 rfl (ix_in hi) dX3_dealPutIn_23 24 rfl ?_
      clear hi
      refine ww_nm (fun z => [gX7 cy oR aR R, gX1 cy oC aC C, gX4 cy oP aP P, gX3 cy oY aY z]) (sA Y_4 3 v4_3.toNatClampNeg r_5) (fun Y_7 e => ?_)
      replace hf := bnd_at e hf
      clear e
      refine ww_aload_n h dX3_dealPutIn_24 rfl 0 rfl 25 rfl ?_
      refine ww_get h inG3 rfl 3 rfl rfl 4 (by decide) w_368 rfl dX3_dealPutIn_25 28 rfl ?_
      refine ww_iload h dX3_dealPutIn_28 4 rfl 30 rfl ?_
      refine ww_aload_n h dX3_dealPutIn_30 rfl 1 rfl 31 rfl ?_
      refine ww_bipush (v := 8) h dX3_dealPutIn_31 (by decide) 33 rfl ?_
      refine ww_iload h dX3_dealPutIn_33 4 rfl 35 rfl ?_
      obtain ⟨r_8, hu9, hf⟩ := ob1 hf
      refine ww_cVi h (c_X7_factOf l D ev cy oR aR R oC aC C oP aP P (8 : Int32) v4_3 _ hu9) ⟨w_817, w_915, w_815, w_816, w_107, ok_X7_factOf⟩ ⟨by decide, by decide⟩ ⟨by decide, by decide⟩ ⟨rfl, rfl⟩ [0, 0, 0] rfl 0 rfl rfl rfl rfl (Nat.le_of_ble_eq_true rfl) dX3_dealPutIn_35 38 rfl (Gs' := [gX7 cy oR aR R, gX1 cy oC aC C, gX4 cy oP aP P, gX3 cy oY aY Y_7]) rfl ?_
      clear hu9
      have hi := (gd_some hf).1
      replace hf := (gd_some hf).2
      refine ww_iast h 3 rfl 5 rfl (ix_in hi) dX3_dealPutIn_38 39 rfl ?_
      clear hi
      refine ww_nm (fun z => [gX7 cy oR aR R, gX1 cy oC aC C, gX4 cy oP aP P, gX3 cy oY aY z]) (sA Y_7 4 v4_3.toNatClampNeg r_8) (fun Y_10 e => ?_)
      replace hf := bnd_at e hf
      clear e
      refine ww_aload_n h dX3_dealPutIn_39 rfl 0 rfl 40 rfl ?_
      refine ww_get h inG3 rfl 3 rfl rfl 2 (by decide) w_365 rfl dX3_dealPutIn_40 43 rfl ?_
      refine ww_iload h dX3_dealPutIn_43 4 rfl 45 rfl ?_
      refine ww_iconst (v := 0) h dX3_dealPutIn_45 (by decide) 46 rfl ?_
      have hi := (gd_some hf).1
      replace hf := (gd_some hf).2
      refine ww_iast h 3 rfl 3 rfl (ix_in hi) dX3_dealPutIn_46 47 rfl ?_
      clear hi
      refine ww_nm (fun z => [gX7 cy oR aR R, gX1 cy oC aC C, gX4 cy oP aP P, gX3 cy oY aY z]) (sA Y_10 2 v4_3.toNatClampNeg (0 : Int32)) (fun Y_11 e => ?_)
      replace hf := bnd_at e hf
      clear e
      refine ww_inc (c := 1) h dX3_dealPutIn_47 4 rfl (by decide) (by decide) (fun v4_12 => [(4, .int v4_12), (0, .ref oY), (1, .ref oR), (2, .int p1), (3, .int p2)]) (fun _ => rfl) 50 rfl (fun v4_12 e => ?_)
      replace hf := bnd_at e hf
      clear e
      refine ww_goto h dX3_dealPutIn_50 3 (by decide) ?_
      refine ww_lo [1, 2, 3, 4, 0] (lo' := [(0, .ref oY), (1, .ref oR), (2, .int p1), (3, .int p2), (4, .int v4_12)]) rfl ?_
      refine ww_perm [3, 0, 0, 0] (Gs' := [gX3 cy oY aY Y_11, gX7 cy oR aR R, gX1 cy oC aC C, gX4 cy oP aP P]) rfl ?_
      exact hI2 (v4_12, Y_11) (Option.some.inj hf).symm
  · clear h2
    show ww X D A 5 Q 0 0 53 [(0, .ref oY), (1, .ref oR), (2, .int p1), (3, .int p2)] [] [gX3 cy oY aY Y_13, gX7 cy oR aR R, gX1 cy oC aC C, gX4 cy oP aP P]
    refine ww_aload_n h dX3_dealPutIn_53 rfl 0 rfl 54 rfl ?_
    refine ww_get h inG3 rfl 0 rfl rfl 3 (by decide) w_367 rfl dX3_dealPutIn_54 57 rfl ?_
    refine ww_iload_n h dX3_dealPutIn_57 rfl 3 rfl 58 rfl ?_
    refine ww_iconst (v := 0) h dX3_dealPutIn_58 (by decide) 59 rfl ?_
    have hi := (gd_some hf).1
    replace hf := (gd_some hf).2
    refine ww_iast h 0 rfl 4 rfl (ix_in hi) dX3_dealPutIn_59 60 rfl ?_
    clear hi
    refine ww_nm (fun z => [gX3 cy oY aY z, gX7 cy oR aR R, gX1 cy oC aC C, gX4 cy oP aP P]) (sA Y_13 3 p2.toNatClampNeg (0 : Int32)) (fun Y_14 e => ?_)
    replace hf := bnd_at e hf
    clear e
    refine ww_aload_n h dX3_dealPutIn_60 rfl 0 rfl 61 rfl ?_
    refine ww_aload_n h dX3_dealPutIn_61 rfl 1 rfl 62 rfl ?_
    refine ww_get h inG7 rfl 1 rfl rfl 15 (by decide) w_288 rfl dX3_dealPutIn_62 65 rfl ?_
    refine ww_aload_n h dX3_dealPutIn_65 rfl 0 rfl 66 rfl ?_
    refine ww_get h inG3 rfl 0 rfl rfl 2 (by decide) w_365 rfl dX3_dealPutIn_66 69 rfl ?_
    refine ww_iload_n h dX3_dealPutIn_69 rfl 2 rfl 70 rfl ?_
    refine ww_iload_n h dX3_dealPutIn_70 rfl 3 rfl 71 rfl ?_
    obtain ⟨Y_15, hu16, hf⟩ := ob1 hf
    refine ww_cVv h (c_X3_deal_2 l D ev cy oY aY Y_14 (iv R 15) p1 p2 _ hu16) ⟨w_923, w_920, w_922, w_26, w_109, ok_X3_deal⟩ ⟨by decide, by decide⟩ ⟨by decide, by decide⟩ ⟨rfl, rfl⟩ [0] rfl 0 rfl rfl rfl rfl (Nat.le_of_ble_eq_true rfl) dX3_dealPutIn_71 74 rfl (Gs' := [gX3 cy oY aY Y_15, gX7 cy oR aR R, gX1 cy oC aC C, gX4 cy oP aP P]) rfl ?_
    clear hu16
    obtain rfl := Option.some.inj hf
    exact ww_vret h dX3_dealPutIn_74 hQ ⟨rfl, rfl⟩
theorem dX3_fill_0 : decode cX3_fill 0 = .ok (.aload_n 0, 1) := by decide +kernel
theorem dX3_fill_1 : decode cX3_fill 1 = .ok (.iconst 0, 1) := by decide +kernel
theorem dX3_fill_2 : decode cX3_fill 2 = .ok (.putfield 32, 3) := by decide +kernel
theorem dX3_fill_5 : decode cX3_fill 5 = .ok (.iconst 0, 1) := by decide +kernel
theorem dX3_fill_6 : decode cX3_fill 6 = .ok (.istore_n 3, 1) := by decide +kernel
theorem dX3_fill_7 : decode cX3_fill 7 = .ok (.iload_n 3, 1) := by decide +kernel
theorem dX3_fill_8 : decode cX3_fill 8 = .ok (.aload_n 1, 1) := by decide +kernel
theorem dX3_fill_9 : decode cX3_fill 9 = .ok (.invokevirtual 36, 3) := by decide +kernel
theorem dX3_fill_12 : decode cX3_fill 12 = .ok (.if_icmp .ge 70, 3) := by decide +kernel
theorem dX3_fill_15 : decode cX3_fill 15 = .ok (.aload_n 0, 1) := by decide +kernel
theorem dX3_fill_16 : decode cX3_fill 16 = .ok (.getfield 32, 3) := by decide +kernel
theorem dX3_fill_19 : decode cX3_fill 19 = .ok (.bipush 40, 2) := by decide +kernel
theorem dX3_fill_21 : decode cX3_fill 21 = .ok (.if_icmp .ge 61, 3) := by decide +kernel
theorem dX3_fill_24 : decode cX3_fill 24 = .ok (.iload_n 3, 1) := by decide +kernel
theorem dX3_fill_25 : decode cX3_fill 25 = .ok (.aload_n 2, 1) := by decide +kernel
theorem dX3_fill_26 : decode cX3_fill 26 = .ok (.iload_n 3, 1) := by decide +kernel
theorem dX3_fill_27 : decode cX3_fill 27 = .ok (.iaload, 1) := by decide +kernel
theorem dX3_fill_28 : decode cX3_fill 28 = .ok (.invokestatic 42, 3) := by decide +kernel
theorem dX3_fill_31 : decode cX3_fill 31 = .ok (.istore 4, 2) := by decide +kernel
theorem dX3_fill_33 : decode cX3_fill 33 = .ok (.aload_n 1, 1) := by decide +kernel
theorem dX3_fill_34 : decode cX3_fill 34 = .ok (.iload_n 3, 1) := by decide +kernel
theorem dX3_fill_35 : decode cX3_fill 35 = .ok (.iload 4, 2) := by decide +kernel
theorem dX3_fill_37 : decode cX3_fill 37 = .ok (.invokevirtual 48, 3) := by decide +kernel
theorem dX3_fill_40 : decode cX3_fill 40 = .ok (.aload_n 0, 1) := by decide +kernel
theorem dX3_fill_41 : decode cX3_fill 41 = .ok (.aload_n 1, 1) := by decide +kernel
theorem dX3_fill_42 : decode cX3_fill 42 = .ok (.iload_n 3, 1) := by decide +kernel
theorem dX3_fill_43 : decode cX3_fill 43 = .ok (.iload 4, 2) := by decide +kernel
theorem dX3_fill_45 : decode cX3_fill 45 = .ok (.invokevirtual 52, 3) := by decide +kernel
theorem dX3_fill_48 : decode cX3_fill 48 = .ok (.aload_n 0, 1) := by decide +kernel
theorem dX3_fill_49 : decode cX3_fill 49 = .ok (.aload_n 1, 1) := by decide +kernel
theorem dX3_fill_50 : decode cX3_fill 50 = .ok (.iload_n 3, 1) := by decide +kernel
theorem dX3_fill_51 : decode cX3_fill 51 = .ok (.iload 4, 2) := by decide +kernel
theorem dX3_fill_53 : decode cX3_fill 53 = .ok (.invokevirtual 56, 3) := by decide +kernel
theorem dX3_fill_56 : decode cX3_fill 56 = .ok (.aload_n 0, 1) := by decide +kernel
theorem dX3_fill_57 : decode cX3_fill 57 = .ok (.aload_n 1, 1) := by decide +kernel
theorem dX3_fill_58 : decode cX3_fill 58 = .ok (.iload_n 3, 1) := by decide +kernel
theorem dX3_fill_59 : decode cX3_fill 59 = .ok (.iload 4, 2) := by decide +kernel
theorem dX3_fill_61 : decode cX3_fill 61 = .ok (.invokevirtual 59, 3) := by decide +kernel
theorem dX3_fill_64 : decode cX3_fill 64 = .ok (.aload_n 0, 1) := by decide +kernel
theorem dX3_fill_65 : decode cX3_fill 65 = .ok (.dup, 1) := by decide +kernel
theorem dX3_fill_66 : decode cX3_fill 66 = .ok (.getfield 32, 3) := by decide +kernel
theorem dX3_fill_69 : decode cX3_fill 69 = .ok (.iconst 1, 1) := by decide +kernel
theorem dX3_fill_70 : decode cX3_fill 70 = .ok (.iadd, 1) := by decide +kernel
theorem dX3_fill_71 : decode cX3_fill 71 = .ok (.putfield 32, 3) := by decide +kernel
theorem dX3_fill_74 : decode cX3_fill 74 = .ok (.iload 4, 2) := by decide +kernel
theorem dX3_fill_76 : decode cX3_fill 76 = .ok (.iconst 1, 1) := by decide +kernel
theorem dX3_fill_77 : decode cX3_fill 77 = .ok (.iadd, 1) := by decide +kernel
theorem dX3_fill_78 : decode cX3_fill 78 = .ok (.istore_n 3, 1) := by decide +kernel
theorem dX3_fill_79 : decode cX3_fill 79 = .ok (.goto (-72), 3) := by decide +kernel
theorem dX3_fill_82 : decode cX3_fill 82 = .ok (.aload_n 0, 1) := by decide +kernel
theorem dX3_fill_83 : decode cX3_fill 83 = .ok (.iconst 1, 1) := by decide +kernel
theorem dX3_fill_84 : decode cX3_fill 84 = .ok (.putfield 62, 3) := by decide +kernel
theorem dX3_fill_87 : decode cX3_fill 87 = .ok (.return_, 1) := by decide +kernel
theorem ok_X3_fill : okY RX3 yX3_fill 2 := ⟨rfl, by decide, by decide, by decide +kernel⟩
def s_X3_fill_7_3 (oC : Nat) (oP : Nat) (C : OV) (P : OV) (N : OV) : (Int32 × OV × OV) → Option ((Int32 × OV × OV) ⊕ (OV × OV)) := un3 (fun v3_4 Y_5 R_6 => (f_X7_signs R_6 oP P).bind (un1 (fun r_7 => (if r_7 ≤ v3_4 then some (.inr (Y_5, R_6)) else (if (40 : Int32) ≤ (iv Y_5 6) then some (.inr (Y_5, R_6)) else gd (ix v3_4 41) (bnd (if v3_4 < (ar N 2 v3_4.toNatClampNeg) then (ar N 2 v3_4.toNatClampNeg) else v3_4) (fun v4_9 => (f_X7_measure R_6 oP P v3_4 v4_9).bind (un1 (fun R_10 => (f_X3_note Y_5 R_10 oP P v3_4 v4_9).bind (un1 (fun Y_12 => (f_X3_dealTaken Y_12 R_10 oC C oP P v3_4 v4_9).bind (un1 (fun Y_14 => (f_X3_dealPutIn Y_14 R_10 oC C oP P v3_4 v4_9).bind (un1 (fun Y_16 => bnd (sI Y_16 6 ((iv Y_16 6) + (1 : Int32))) (fun Y_18 => bnd (v4_9 + (1 : Int32)) (fun v3_19 => some (.inl (v3_19, Y_18, R_10)))))))))))))))))))
def f_X3_fill (Y : OV) (R : OV) (oC : Nat) (C : OV) (oP : Nat) (P : OV) (N : OV) : Option (OV × OV) := bnd (sI Y 6 (0 : Int32)) (fun Y_1 => bnd (0 : Int32) (fun v3_2 => ((lp (s_X3_fill_7_3 oC oP C P N) 5000 (v3_2, Y_1, R)).bind (un2 (fun Y_20 R_21 => bnd (sI Y_20 7 (1 : Int32)) (fun Y_22 => some (Y_22, R_21)))))))
def r_X3_fill : Room := { frames := 3, cells := 0, slots := 0, locals := 77 }
set_option maxHeartbeats 4000000 in
set_option maxRecDepth 100000 in
theorem c_X3_fill (l : Launch) (D : va_G) (ev : EvT) (cy : Nat → ClassId) (oY : Nat) (aY : Nat → Nat) (Y : OV) (oR : Nat) (aR : Nat → Nat) (R : OV) (oC : Nat) (aC : Nat → Nat) (C : OV) (oP : Nat) (aP : Nat → Nat) (P : OV) (oN : Nat) (aN : Nat → Nat) (N : OV) (o : OV × OV) (hf : f_X3_fill Y R oC C oP P N = some o) : Fn l yX3_fill cX3_fill 5 none r_X3_fill D ev cy [.ref oY, .ref oR, .ref (aN 2)] [gX3 cy oY aY Y, gX7 cy oR aR R, gX1 cy oC aC C, gX4 cy oP aP P, gX5 cy oN aN N] (fun v G => v = none ∧ G = [gX3 cy oY aY o.1, gX7 cy oR aR o.2, gX1 cy oC aC C, gX4 cy oP aP P, gX5 cy oN aN N]) := by
  refine Fn_of (by decide) (Nat.le_of_ble_eq_true rfl) (fun X A Q h hQ _ => ?_)
  unfold f_X3_fill at hf
  show ww X D A 5 Q 0 0 0 [(0, .ref oY), (1, .ref oR), (2, .ref (aN 2))] [] [gX3 cy oY aY Y, gX7 cy oR aR R, gX1 cy oC aC C, gX4 cy oP aP P, gX5 cy oN aN N]
  refine ww_aload_n h dX3_fill_0 rfl 0 rfl 1 rfl ?_
  refine ww_iconst (v := 0) h dX3_fill_1 (by decide) 2 rfl ?_
  refine ww_put (ty := .int) h inG3 tyX3_ok nmX3 rfl 0 rfl rfl 6 (by decide) w_370 rfl (by decide +kernel) rfl rfl (Nat.le_of_ble_eq_true rfl) (Nat.le_of_ble_eq_true rfl) dX3_fill_2 5 rfl ?_
  refine ww_nm (fun z => [gX3 cy oY aY z, gX7 cy oR aR R, gX1 cy oC aC C, gX4 cy oP aP P, gX5 cy oN aN N]) (sI Y 6 (0 : Int32)) (fun Y_1 e => ?_)
  replace hf := bnd_at e hf
  clear e
  refine ww_iconst (v := 0) h dX3_fill_5 (by decide) 6 rfl ?_
  refine ww_ist_n h dX3_fill_6 rfl (by decide) (fun v3_2 => [(3, .int v3_2), (0, .ref oY), (1, .ref oR), (2, .ref (aN 2))]) (fun _ => rfl) 7 rfl (fun v3_2 e => ?_)
  replace hf := bnd_at e hf
  clear e
  refine ww_lo [1, 2, 3, 0] (lo' := [(0, .ref oY), (1, .ref oR), (2, .ref (aN 2)), (3, .int v3_2)]) rfl ?_
  obtain ⟨Y_20, R_21, h3, hf⟩ := ob2 hf
  refine lp_walk (un3 (fun v3_4 Y_5 R_6 => ww X D A 5 Q 0 0 7 [(0, .ref oY), (1, .ref oR), (2, .ref (aN 2)), (3, .int v3_4)] [] [gX3 cy oY aY Y_5, gX7 cy oR aR R_6, gX1 cy oC aC C, gX4 cy oP aP P, gX5 cy oN aN N])) (un2 (fun Y_20 R_21 => ww X D A 5 Q 0 0 82 [(0, .ref oY)] [] [gX3 cy oY aY Y_20, gX7 cy oR aR R_21, gX1 cy oC aC C, gX4 cy oP aP P, gX5 cy oN aN N])) ?_ _ _ _ h3 ?_
  · clear h3 hf
    intro s3 o3 hf hI3 hE3
    obtain ⟨v3_4, Y_5, R_6⟩ := s3
    unfold s_X3_fill_7_3 at hf
    replace hf := un3_e hf
    show ww X D A 5 Q 0 0 7 [(0, .ref oY), (1, .ref oR), (2, .ref (aN 2)), (3, .int v3_4)] [] [gX3 cy oY aY Y_5, gX7 cy oR aR R_6, gX1 cy oC aC C, gX4 cy oP aP P, gX5 cy oN aN N]
    refine ww_iload_n h dX3_fill_7 rfl 3 rfl 8 rfl ?_
    refine ww_aload_n h dX3_fill_8 rfl 1 rfl 9 rfl ?_
    obtain ⟨r_7, hu8, hf⟩ := ob1 hf
    refine ww_cVi h (c_X7_signs l D ev cy oR aR R_6 oP aP P _ hu8) ⟨w_864, w_897, w_862, w_863, w_107, ok_X7_signs⟩ ⟨by decide, by decide⟩ ⟨by decide, by decide⟩ ⟨rfl, rfl⟩ [1, 2] rfl 0 rfl rfl rfl rfl (Nat.le_of_ble_eq_true rfl) dX3_fill_9 12 rfl (Gs' := [gX7 cy oR aR R_6, gX4 cy oP aP P, gX3 cy oY aY Y_5, gX1 cy oC aC C, gX5 cy oN aN N]) rfl ?_
    clear hu8
    refine ww_icmp_ge h dX3_fill_12 82 (by decide) 15 rfl (fun c => ?_) (fun c => ?_)
    · replace hf := ite_t c hf
      refine ww_lo [0] (lo' := [(0, .ref oY)]) rfl ?_
      refine ww_perm [2, 0, 1, 0, 0] (Gs' := [gX3 cy oY aY Y_5, gX7 cy oR aR R_6, gX1 cy oC aC C, gX4 cy oP aP P, gX5 cy oN aN N]) rfl ?_
      exact hE3 (Y_5, R_6) (Option.some.inj hf).symm
    · replace hf := ite_f c hf
      refine ww_aload_n h dX3_fill_15 rfl 0 rfl 16 rfl ?_
      refine ww_get h inG3 rfl 2 rfl rfl 6 (by decide) w_370 rfl dX3_fill_16 19 rfl ?_
      refine ww_bipush (v := 40) h dX3_fill_19 (by decide) 21 rfl ?_
      refine ww_icmp_ge h dX3_fill_21 82 (by decide) 24 rfl (fun c => ?_) (fun c => ?_)
      · replace hf := ite_t c hf
        refine ww_lo [0] (lo' := [(0, .ref oY)]) rfl ?_
        refine ww_perm [2, 0, 1, 0, 0] (Gs' := [gX3 cy oY aY Y_5, gX7 cy oR aR R_6, gX1 cy oC aC C, gX4 cy oP aP P, gX5 cy oN aN N]) rfl ?_
        exact hE3 (Y_5, R_6) (Option.some.inj hf).symm
      · replace hf := ite_f c hf
        refine ww_iload_n h dX3_fill_24 rfl 3 rfl 25 rfl ?_
        refine ww_aload_n h dX3_fill_25 rfl 2 rfl 26 rfl ?_
        refine ww_iload_n h dX3_fill_26 rfl 3 rfl 27 rfl ?_
        have hi := (gd_some hf).1
        replace hf := (gd_some hf).2
        refine ww_iald h 4 rfl 3 rfl (ix_in hi) dX3_fill_27 28 rfl ?_
        clear hi
        refine ww_max h w_898 w_134 w_103 w_135 ⟨by decide, Nat.le_of_ble_eq_true rfl, by decide, by decide⟩ dX3_fill_28 31 rfl ?_
        refine ww_ist h dX3_fill_31 (by decide) (fun v4_9 => [(4, .int v4_9), (0, .ref oY), (1, .ref oR), (2, .ref (aN 2)), (3, .int v3_4)]) (fun _ => rfl) 33 rfl (fun v4_9 e => ?_)
        replace hf := bnd_at e hf
        clear e
        refine ww_aload_n h dX3_fill_33 rfl 2 rfl 34 rfl ?_
        refine ww_iload_n h dX3_fill_34 rfl 4 rfl 35 rfl ?_
        refine ww_iload h dX3_fill_35 0 rfl 37 rfl ?_
        obtain ⟨R_10, hu11, hf⟩ := ob1 hf
        refine ww_cVv h (c_X7_measure l D ev cy oR aR R_6 oP aP P v3_4 v4_9 _ hu11) ⟨w_835, w_899, w_833, w_834, w_107, ok_X7_measure⟩ ⟨by decide, by decide⟩ ⟨by decide, by decide⟩ ⟨rfl, rfl⟩ [0, 0] rfl 0 rfl rfl rfl rfl (Nat.le_of_ble_eq_true rfl) dX3_fill_37 40 rfl (Gs' := [gX7 cy oR aR R_10, gX4 cy oP aP P, gX3 cy oY aY Y_5, gX1 cy oC aC C, gX5 cy oN aN N]) rfl ?_
        clear hu11
        refine ww_aload_n h dX3_fill_40 rfl 1 rfl 41 rfl ?_
        refine ww_aload_n h dX3_fill_41 rfl 2 rfl 42 rfl ?_
        refine ww_iload_n h dX3_fill_42 rfl 4 rfl 43 rfl ?_
        refine ww_iload h dX3_fill_43 0 rfl 45 rfl ?_
        obtain ⟨Y_12, hu13, hf⟩ := ob1 hf
        refine ww_cVv h (c_X3_note l D ev cy oY aY Y_5 oR aR R_10 oP aP P v3_4 v4_9 _ hu13) ⟨w_903, w_900, w_902, w_24, w_109, ok_X3_note⟩ ⟨by decide, by decide⟩ ⟨by decide, by decide⟩ ⟨rfl, rfl⟩ [2, 0, 0] rfl 0 rfl rfl rfl rfl (Nat.le_of_ble_eq_true rfl) dX3_fill_45 48 rfl (Gs' := [gX3 cy oY aY Y_12, gX7 cy oR aR R_10, gX4 cy oP aP P, gX1 cy oC aC C, gX5 cy oN aN N]) rfl ?_
        clear hu13
        refine ww_aload_n h dX3_fill_48 rfl 1 rfl 49 rfl ?_
        refine ww_aload_n h dX3_fill_49 rfl 2 rfl 50 rfl ?_
        refine ww_iload_n h dX3_fill_50 rfl 4 rfl 51 rfl ?_
        refine ww_iload h dX3_fill_51 0 rfl 53 rfl ?_
        obtain ⟨Y_14, hu15, hf⟩ := ob1 hf
        refine ww_cVv h (c_X3_dealTaken l D ev cy oY aY Y_12 oR aR R_10 oC aC C oP aP P v3_4 v4_9 _ hu15) ⟨w_914, w_911, w_913, w_25, w_109, ok_X3_dealTaken⟩ ⟨by decide, by decide⟩ ⟨by decide, by decide⟩ ⟨rfl, rfl⟩ [0, 0, 1, 0] rfl 0 rfl rfl rfl rfl (Nat.le_of_ble_eq_true rfl) dX3_fill_53 56 rfl (Gs' := [gX3 cy oY aY Y_14, gX7 cy oR aR R_10, gX1 cy oC aC C, gX4 cy oP aP P, gX5 cy oN aN N]) rfl ?_
        clear hu15
        refine ww_aload_n h dX3_fill_56 rfl 1 rfl 57 rfl ?_
        refine ww_aload_n h dX3_fill_57 rfl 2 rfl 58 rfl ?_
        refine ww_iload_n h dX3_fill_58 rfl 4 rfl 59 rfl ?_
        refine ww_iload h dX3_fill_59 0 rfl 61 rfl ?_
        obtain ⟨Y_16, hu17, hf⟩ := ob1 hf
        refine ww_cVv h (c_X3_dealPutIn l D ev cy oY aY Y_14 oR aR R_10 oC aC C oP aP P v3_4 v4_9 _ hu17) ⟨w_931, w_928, w_930, w_28, w_109, ok_X3_dealPutIn⟩ ⟨by decide, by decide⟩ ⟨by decide, by decide⟩ ⟨rfl, rfl⟩ [0, 0, 0, 0] rfl 0 rfl rfl rfl rfl (Nat.le_of_ble_eq_true rfl) dX3_fill_61 64 rfl (Gs' := [gX3 cy oY aY Y_16, gX7 cy oR aR R_10, gX1 cy oC aC C, gX4 cy oP aP P, gX5 cy oN aN N]) rfl ?_
        clear hu17
        refine ww_aload_n h dX3_fill_64 rfl 1 rfl 65 rfl ?_
        refine ww_dup h dX3_fill_65 rfl 66 rfl ?_
        refine ww_get h inG3 rfl 0 rfl rfl 6 (by decide) w_370 rfl dX3_fill_66 69 rfl ?_
        refine ww_iconst (v := 1) h dX3_fill_69 (by decide) 70 rfl ?_
        refine ww_iadd h dX3_fill_70 71 rfl ?_
        refine ww_put (ty := .int) h inG3 tyX3_ok nmX3 rfl 0 rfl rfl 6 (by decide) w_370 rfl (by decide +kernel) rfl rfl (Nat.le_of_ble_eq_true rfl) (Nat.le_of_ble_eq_true rfl) dX3_fill_71 74 rfl ?_
        refine ww_nm (fun z => [gX3 cy oY aY z, gX7 cy oR aR R_10, gX1 cy oC aC C, gX4 cy oP aP P, gX5 cy oN aN N]) (sI Y_16 6 ((iv Y_16 6) + (1 : Int32))) (fun Y_18 e => ?_)
        replace hf := bnd_at e hf
        clear e
        refine ww_iload h dX3_fill_74 0 rfl 76 rfl ?_
        refine ww_iconst (v := 1) h dX3_fill_76 (by decide) 77 rfl ?_
        refine ww_iadd h dX3_fill_77 78 rfl ?_
        refine ww_ist_n h dX3_fill_78 rfl (by decide) (fun v3_19 => [(3, .int v3_19), (4, .int v4_9), (0, .ref oY), (1, .ref oR), (2, .ref (aN 2))]) (fun _ => rfl) 79 rfl (fun v3_19 e => ?_)
        replace hf := bnd_at e hf
        clear e
        refine ww_goto h dX3_fill_79 7 (by decide) ?_
        refine ww_lo [2, 3, 4, 0] (lo' := [(0, .ref oY), (1, .ref oR), (2, .ref (aN 2)), (3, .int v3_19)]) rfl ?_
        exact hI3 (v3_19, Y_18, R_10) (Option.some.inj hf).symm
  · clear h3
    show ww X D A 5 Q 0 0 82 [(0, .ref oY)] [] [gX3 cy oY aY Y_20, gX7 cy oR aR R_21, gX1 cy oC aC C, gX4 cy oP aP P, gX5 cy oN aN N]
    refine ww_aload_n h dX3_fill_82 rfl 0 rfl 83 rfl ?_
    refine ww_iconst (v := 1) h dX3_fill_83 (by decide) 84 rfl ?_
    refine ww_put (ty := .boolean) h inG3 tyX3_ok nmX3 rfl 0 rfl rfl 7 (by decide) w_372 rfl (by decide +kernel) (by decide) (by decide) (Nat.le_of_ble_eq_true rfl) (Nat.le_of_ble_eq_true rfl) dX3_fill_84 87 rfl ?_
    refine ww_nm (fun z => [gX3 cy oY aY z, gX7 cy oR aR R_21, gX1 cy oC aC C, gX4 cy oP aP P, gX5 cy oN aN N]) (sI Y_20 7 (1 : Int32)) (fun Y_22 e => ?_)
    replace hf := bnd_at e hf
    clear e
    obtain rfl := Option.some.inj hf
    exact ww_vret h dX3_fill_87 hQ ⟨rfl, rfl⟩
