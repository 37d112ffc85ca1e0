theorem dX0_init_0 : decode cX0_init 0 = .ok (.aload_n 0, 1) := by decide +kernel
theorem dX0_init_1 : decode cX0_init 1 = .ok (.invokespecial 3, 3) := by decide +kernel
theorem dX0_init_4 : decode cX0_init 4 = .ok (.aload_n 0, 1) := by decide +kernel
theorem dX0_init_5 : decode cX0_init 5 = .ok (.iload_n 1, 1) := by decide +kernel
theorem dX0_init_6 : decode cX0_init 6 = .ok (.iconst 0, 1) := by decide +kernel
theorem dX0_init_7 : decode cX0_init 7 = .ok (.invokestatic 9, 3) := by decide +kernel
theorem dX0_init_10 : decode cX0_init 10 = .ok (.newarray .int, 2) := by decide +kernel
theorem dX0_init_12 : decode cX0_init 12 = .ok (.putfield 15, 3) := by decide +kernel
theorem dX0_init_15 : decode cX0_init 15 = .ok (.aload_n 0, 1) := by decide +kernel
theorem dX0_init_16 : decode cX0_init 16 = .ok (.iconst 0, 1) := by decide +kernel
theorem dX0_init_17 : decode cX0_init 17 = .ok (.putfield 21, 3) := by decide +kernel
theorem dX0_init_20 : decode cX0_init 20 = .ok (.return_, 1) := by decide +kernel
theorem ok_X0_init : okY RX0 yX0_init 1 := ⟨rfl, by decide, by decide, by decide +kernel⟩
def r_X0_init_500 : Room := { frames := 1, cells := 1, slots := 500, locals := 21 }
set_option maxHeartbeats 4000000 in
set_option maxRecDepth 100000 in
theorem c_X0_init_500 (l : Launch) (D : va_G) (ev : EvT) (cy : Nat → ClassId) (o : Nat) : Fn l yX0_init cX0_init 2 none r_X0_init_500 D ev cy [.ref o, .int 500] [[(o, .inr (0, [.null, .int 0]))]] (fun v G => v = none ∧ ∃ a : Nat → Nat, a 98 = 500 ∧ G = [gX0 cy o a OV0]) := by
  refine Fn_of (by decide) (Nat.le_of_ble_eq_true rfl) (fun X A Q h hQ hI0 => ?_)
  have hI := hI0 rfl
  clear hI0
  show ww X D A 2 Q 0 0 0 [(0, .ref o), (1, .int 500)] [] [[(o, .inr (0, [.null, .int 0]))]]
  refine ww_aload_n h dX0_init_0 rfl 0 rfl 1 rfl ?_
  refine ww_objInit h w_132 w_125 w_126 ⟨by decide, Nat.le_of_ble_eq_true rfl⟩ dX0_init_1 4 rfl ?_
  refine ww_aload_n h dX0_init_4 rfl 0 rfl 5 rfl ?_
  refine ww_iload_n h dX0_init_5 rfl 1 rfl 6 rfl ?_
  refine ww_iconst h dX0_init_6 (v := 0) (by decide) 7 rfl ?_
  refine ww_max h w_133 w_134 w_103 w_135 ⟨by decide, Nat.le_of_ble_eq_true rfl, by decide, by decide⟩ dX0_init_7 10 rfl ?_
  show ww X D A 2 Q 0 0 10 [(0, .ref o), (1, .int 500)] [.int 500, .ref o] [[(o, .inr (0, [.null, .int 0]))]]
  refine ww_newa (atype := .int) (a0 := (500, .inl (fun _ => 0))) h 0 rfl rfl rfl w_148 (fun _ => rfl) (by decide) (by decide) (by decide) ⟨by decide, by decide⟩ dX0_init_10 12 rfl rfl rfl (fun b1 => ?_)
  show ww X D A 2 Q 1 500 12 [(0, .ref o), (1, .int 500)] [.ref b1, .ref o] [[(o, .inr (0, [.null, .int 0]))], [(b1, .inl (cy 0, 500, .inl (fun _ => 0)))]]
  refine ww_putF (ty := (.array .int)) h hI inG0 tyX0_ok nmX0 rfl 0 rfl rfl 0 (by decide) w_136 rfl rfl (by decide +kernel) rfl rfl (Nat.le_of_ble_eq_true rfl) (Nat.le_of_ble_eq_true rfl) dX0_init_12 15 rfl (Gs' := [[(o, .inr (0, [.ref b1, .int 0]))], [(b1, .inl (cy 0, 500, .inl (fun _ => 0)))]]) rfl ?_
  refine ww_aload_n h dX0_init_15 rfl 0 rfl 16 rfl ?_
  refine ww_iconst h dX0_init_16 (v := 0) (by decide) 17 rfl ?_
  refine ww_put (ty := .int) h inG0 tyX0_ok nmX0 rfl 0 rfl rfl 1 (by decide) w_140 rfl (by decide +kernel) rfl rfl (Nat.le_of_ble_eq_true rfl) (Nat.le_of_ble_eq_true rfl) dX0_init_17 20 rfl ?_
  show ww X D A 2 Q 1 500 20 [(0, .ref o), (1, .int 500)] [] [[(o, .inr (0, [.ref b1, .int 0]))], [(b1, .inl (cy 0, 500, .inl (fun _ => 0)))]]
  refine ww_perm [0, 0] (Gs' := [[(o, .inr (0, [.ref b1, .int 0]))], [(b1, .inl (cy 0, 500, .inl (fun _ => 0)))]]) (by simp only [pk_g, List.getElem?_cons_zero, List.getElem?_cons_succ, List.eraseIdx]) ?_
  refine ww_fuse (Cs := [[(o, .inr (0, [.ref b1, .int 0]))], [(b1, .inl (cy 0, 500, .inl (fun _ => 0)))]]) (Rs := []) (c := gX0 cy o (aG [b1, 0, 0, 0, 0, 0, 0, 0, 0, 0, 0, 0, 0, 0, 0, 0, 0, 0, 0, 0, 0, 0, 0, 0, 0, 0, 0, 0, 0, 0, 0, 0, 0, 0, 0, 0, 0, 0, 0, 0, 0, 0, 0, 0, 0, 0, 0, 0, 0, 0, 0, 0, 0, 0, 0, 0, 0, 0, 0, 0, 0, 0, 0, 0, 0, 0, 0, 0, 0, 0, 0, 0, 0, 0, 0, 0, 0, 0, 0, 0, 0, 0, 0, 0, 0, 0, 0, 0, 0, 0, 0, 0, 0, 0, 0, 0, 0, 0, 500] 800 (fun _ => 0) 900 (fun _ => 0)) OV0) rfl rfl ?_
  exact ww_vret h dX0_init_20 hQ ⟨rfl, _, rfl, rfl⟩
def r_X0_init_1000 : Room := { frames := 1, cells := 1, slots := 1000, locals := 21 }
set_option maxHeartbeats 4000000 in
set_option maxRecDepth 100000 in
theorem c_X0_init_1000 (l : Launch) (D : va_G) (ev : EvT) (cy : Nat → ClassId) (o : Nat) : Fn l yX0_init cX0_init 2 none r_X0_init_1000 D ev cy [.ref o, .int 1000] [[(o, .inr (0, [.null, .int 0]))]] (fun v G => v = none ∧ ∃ a : Nat → Nat, a 98 = 1000 ∧ G = [gX0 cy o a OV0]) := by
  refine Fn_of (by decide) (Nat.le_of_ble_eq_true rfl) (fun X A Q h hQ hI0 => ?_)
  have hI := hI0 rfl
  clear hI0
  show ww X D A 2 Q 0 0 0 [(0, .ref o), (1, .int 1000)] [] [[(o, .inr (0, [.null, .int 0]))]]
  refine ww_aload_n h dX0_init_0 rfl 0 rfl 1 rfl ?_
  refine ww_objInit h w_132 w_125 w_126 ⟨by decide, Nat.le_of_ble_eq_true rfl⟩ dX0_init_1 4 rfl ?_
  refine ww_aload_n h dX0_init_4 rfl 0 rfl 5 rfl ?_
  refine ww_iload_n h dX0_init_5 rfl 1 rfl 6 rfl ?_
  refine ww_iconst h dX0_init_6 (v := 0) (by decide) 7 rfl ?_
  refine ww_max h w_133 w_134 w_103 w_135 ⟨by decide, Nat.le_of_ble_eq_true rfl, by decide, by decide⟩ dX0_init_7 10 rfl ?_
  show ww X D A 2 Q 0 0 10 [(0, .ref o), (1, .int 1000)] [.int 1000, .ref o] [[(o, .inr (0, [.null, .int 0]))]]
  refine ww_newa (atype := .int) (a0 := (1000, .inl (fun _ => 0))) h 0 rfl rfl rfl w_148 (fun _ => rfl) (by decide) (by decide) (by decide) ⟨by decide, by decide⟩ dX0_init_10 12 rfl rfl rfl (fun b1 => ?_)
  show ww X D A 2 Q 1 1000 12 [(0, .ref o), (1, .int 1000)] [.ref b1, .ref o] [[(o, .inr (0, [.null, .int 0]))], [(b1, .inl (cy 0, 1000, .inl (fun _ => 0)))]]
  refine ww_putF (ty := (.array .int)) h hI inG0 tyX0_ok nmX0 rfl 0 rfl rfl 0 (by decide) w_136 rfl rfl (by decide +kernel) rfl rfl (Nat.le_of_ble_eq_true rfl) (Nat.le_of_ble_eq_true rfl) dX0_init_12 15 rfl (Gs' := [[(o, .inr (0, [.ref b1, .int 0]))], [(b1, .inl (cy 0, 1000, .inl (fun _ => 0)))]]) rfl ?_
  refine ww_aload_n h dX0_init_15 rfl 0 rfl 16 rfl ?_
  refine ww_iconst h dX0_init_16 (v := 0) (by decide) 17 rfl ?_
  refine ww_put (ty := .int) h inG0 tyX0_ok nmX0 rfl 0 rfl rfl 1 (by decide) w_140 rfl (by decide +kernel) rfl rfl (Nat.le_of_ble_eq_true rfl) (Nat.le_of_ble_eq_true rfl) dX0_init_17 20 rfl ?_
  show ww X D A 2 Q 1 1000 20 [(0, .ref o), (1, .int 1000)] [] [[(o, .inr (0, [.ref b1, .int 0]))], [(b1, .inl (cy 0, 1000, .inl (fun _ => 0)))]]
  refine ww_perm [0, 0] (Gs' := [[(o, .inr (0, [.ref b1, .int 0]))], [(b1, .inl (cy 0, 1000, .inl (fun _ => 0)))]]) (by simp only [pk_g, List.getElem?_cons_zero, List.getElem?_cons_succ, List.eraseIdx]) ?_
  refine ww_fuse (Cs := [[(o, .inr (0, [.ref b1, .int 0]))], [(b1, .inl (cy 0, 1000, .inl (fun _ => 0)))]]) (Rs := []) (c := gX0 cy o (aG [b1, 0, 0, 0, 0, 0, 0, 0, 0, 0, 0, 0, 0, 0, 0, 0, 0, 0, 0, 0, 0, 0, 0, 0, 0, 0, 0, 0, 0, 0, 0, 0, 0, 0, 0, 0, 0, 0, 0, 0, 0, 0, 0, 0, 0, 0, 0, 0, 0, 0, 0, 0, 0, 0, 0, 0, 0, 0, 0, 0, 0, 0, 0, 0, 0, 0, 0, 0, 0, 0, 0, 0, 0, 0, 0, 0, 0, 0, 0, 0, 0, 0, 0, 0, 0, 0, 0, 0, 0, 0, 0, 0, 0, 0, 0, 0, 0, 0, 1000] 800 (fun _ => 0) 900 (fun _ => 0)) OV0) rfl rfl ?_
  exact ww_vret h dX0_init_20 hQ ⟨rfl, _, rfl, rfl⟩
theorem dX1_init_0 : decode cX1_init 0 = .ok (.aload_n 0, 1) := by decide +kernel
theorem dX1_init_1 : decode cX1_init 1 = .ok (.invokespecial 3, 3) := by decide +kernel
theorem dX1_init_4 : decode cX1_init 4 = .ok (.aload_n 0, 1) := by decide +kernel
theorem dX1_init_5 : decode cX1_init 5 = .ok (.bipush 9, 2) := by decide +kernel
theorem dX1_init_7 : decode cX1_init 7 = .ok (.bipush 26, 2) := by decide +kernel
theorem dX1_init_9 : decode cX1_init 9 = .ok (.multianewarray 9 2, 4) := by decide +kernel
theorem dX1_init_13 : decode cX1_init 13 = .ok (.putfield 11, 3) := by decide +kernel
theorem dX1_init_16 : decode cX1_init 16 = .ok (.aload_n 0, 1) := by decide +kernel
theorem dX1_init_17 : decode cX1_init 17 = .ok (.bipush 26, 2) := by decide +kernel
theorem dX1_init_19 : decode cX1_init 19 = .ok (.newarray .int, 2) := by decide +kernel
theorem dX1_init_21 : decode cX1_init 21 = .ok (.putfield 16, 3) := by decide +kernel
theorem dX1_init_24 : decode cX1_init 24 = .ok (.return_, 1) := by decide +kernel
theorem ok_X1_init : okY RX1 yX1_init 0 := ⟨rfl, by decide, by decide, by decide +kernel⟩
def r_X1_init : Room := { frames := 1, cells := 11, slots := 269, locals := 20 }
set_option maxHeartbeats 4000000 in
set_option maxRecDepth 100000 in
theorem c_X1_init (l : Launch) (D : va_G) (ev : EvT) (cy : Nat → ClassId) (o : Nat) : Fn l yX1_init cX1_init 1 none r_X1_init D ev cy [.ref o] [[(o, .inr (1, [.null, .null, .int 0, .int 0, .int 0, .int 0]))]] (fun v G => v = none ∧ ∃ a, G = [gX1 cy o a OV0]) := by
  refine Fn_of (by decide) (Nat.le_of_ble_eq_true rfl) (fun X A Q h hQ hI0 => ?_)
  have hI := hI0 rfl
  clear hI0
  show ww X D A 1 Q 0 0 0 [(0, .ref o)] [] [[(o, .inr (1, [.null, .null, .int 0, .int 0, .int 0, .int 0]))]]
  refine ww_aload_n h dX1_init_0 rfl 0 rfl 1 rfl ?_
  refine ww_objInit h w_154 w_125 w_126 ⟨by decide, Nat.le_of_ble_eq_true rfl⟩ dX1_init_1 4 rfl ?_
  refine ww_aload_n h dX1_init_4 rfl 0 rfl 5 rfl ?_
  refine ww_bipush h dX1_init_5 (v := 9) (by decide) 7 rfl ?_
  refine ww_bipush h dX1_init_7 (v := 26) (by decide) 9 rfl ?_
  refine ww_mna h w_155 w_148 (N := 9) (M := 26) (by decide) (by decide) (by decide) (by decide) (by decide) (by decide) ⟨by decide, by decide⟩ dX1_init_9 13 rfl rfl rfl (fun b1 r2 => ?_)
  show ww X D A 1 Q 10 243 13 [(0, .ref o)] [.ref b1, .ref o] [[(o, .inr (1, [.null, .null, .int 0, .int 0, .int 0, .int 0]))], [(b1, .inl (cy 4, 9, .inr (.inr (.inr (.inr (fun j => some (r2 j)))))))], (List.range 9).map (fun j => (r2 j, .inl (cy 0, 26, .inl (fun _ => 0))))]
  refine ww_putF (ty := (.array (.array .int))) h hI inG1 tyX1_ok nmX1 rfl 0 rfl rfl 0 (by decide) w_157 rfl rfl (by decide +kernel) rfl rfl (Nat.le_of_ble_eq_true rfl) (Nat.le_of_ble_eq_true rfl) dX1_init_13 16 rfl (Gs' := [[(o, .inr (1, [.ref b1, .null, .int 0, .int 0, .int 0, .int 0]))], [(b1, .inl (cy 4, 9, .inr (.inr (.inr (.inr (fun j => some (r2 j)))))))], (List.range 9).map (fun j => (r2 j, .inl (cy 0, 26, .inl (fun _ => 0))))]) rfl ?_
  refine ww_aload_n h dX1_init_16 rfl 0 rfl 17 rfl ?_
  refine ww_bipush h dX1_init_17 (v := 26) (by decide) 19 rfl ?_
  refine ww_newa (atype := .int) (a0 := (26, .inl (fun _ => 0))) h 0 rfl rfl rfl w_148 (fun _ => rfl) (by decide) (by decide) (by decide) ⟨by decide, by decide⟩ dX1_init_19 21 rfl rfl rfl (fun b3 => ?_)
  show ww X D A 1 Q 11 269 21 [(0, .ref o)] [.ref b3, .ref o] [[(o, .inr (1, [.ref b1, .null, .int 0, .int 0, .int 0, .int 0]))], [(b1, .inl (cy 4, 9, .inr (.inr (.inr (.inr (fun j => some (r2 j)))))))], (List.range 9).map (fun j => (r2 j, .inl (cy 0, 26, .inl (fun _ => 0)))), [(b3, .inl (cy 0, 26, .inl (fun _ => 0)))]]
  refine ww_putF (ty := (.array .int)) h hI inG1 tyX1_ok nmX1 rfl 0 rfl rfl 1 (by decide) w_161 rfl rfl (by decide +kernel) rfl rfl (Nat.le_of_ble_eq_true rfl) (Nat.le_of_ble_eq_true rfl) dX1_init_21 24 rfl (Gs' := [[(o, .inr (1, [.ref b1, .ref b3, .int 0, .int 0, .int 0, .int 0]))], [(b1, .inl (cy 4, 9, .inr (.inr (.inr (.inr (fun j => some (r2 j)))))))], (List.range 9).map (fun j => (r2 j, .inl (cy 0, 26, .inl (fun _ => 0)))), [(b3, .inl (cy 0, 26, .inl (fun _ => 0)))]]) rfl ?_
  refine ww_q 1 rfl (fun j => some ((aG [b1, b3, 0, 0, 0, 0] 100 r2 200 (fun _ => 0)) (100 + j))) (fun j hj => congrArg some (aG_1 (by omega) (by omega) (by omega)).symm) (Gs' := [[(o, .inr (1, [.ref b1, .ref b3, .int 0, .int 0, .int 0, .int 0]))], [(b1, .inl (cy 4, 9, .inr (.inr (.inr (.inr (fun j => some ((aG [b1, b3, 0, 0, 0, 0] 100 r2 200 (fun _ => 0)) (100 + j))))))))], (List.range 9).map (fun j => (r2 j, .inl (cy 0, 26, .inl (fun _ => 0)))), [(b3, .inl (cy 0, 26, .inl (fun _ => 0)))]]) rfl ?_
  refine ww_perm [0, 0, 1, 0] (Gs' := [[(o, .inr (1, [.ref b1, .ref b3, .int 0, .int 0, .int 0, .int 0]))], [(b1, .inl (cy 4, 9, .inr (.inr (.inr (.inr (fun j => some ((aG [b1, b3, 0, 0, 0, 0] 100 r2 200 (fun _ => 0)) (100 + j))))))))], [(b3, .inl (cy 0, 26, .inl (fun _ => 0)))], (List.range 9).map (fun j => (r2 j, .inl (cy 0, 26, .inl (fun _ => 0))))]) (by simp only [pk_g, List.getElem?_cons_zero, List.getElem?_cons_succ, List.eraseIdx]) ?_
  refine ww_fuse (Cs := [[(o, .inr (1, [.ref b1, .ref b3, .int 0, .int 0, .int 0, .int 0]))], [(b1, .inl (cy 4, 9, .inr (.inr (.inr (.inr (fun j => some ((aG [b1, b3, 0, 0, 0, 0] 100 r2 200 (fun _ => 0)) (100 + j))))))))], [(b3, .inl (cy 0, 26, .inl (fun _ => 0)))], (List.range 9).map (fun j => (r2 j, .inl (cy 0, 26, .inl (fun _ => 0))))]) (Rs := []) (c := gX1 cy o (aG [b1, b3, 0, 0, 0, 0] 100 r2 200 (fun _ => 0)) OV0) rfl rfl ?_
  exact ww_vret h dX1_init_24 hQ ⟨rfl, _, rfl⟩
theorem dX4_init_0 : decode cX4_init 0 = .ok (.aload_n 0, 1) := by decide +kernel
theorem dX4_init_1 : decode cX4_init 1 = .ok (.invokespecial 3, 3) := by decide +kernel
theorem dX4_init_4 : decode cX4_init 4 = .ok (.aload_n 0, 1) := by decide +kernel
theorem dX4_init_5 : decode cX4_init 5 = .ok (.bipush 40, 2) := by decide +kernel
theorem dX4_init_7 : decode cX4_init 7 = .ok (.newarray .int, 2) := by decide +kernel
theorem dX4_init_9 : decode cX4_init 9 = .ok (.putfield 9, 3) := by decide +kernel
theorem dX4_init_12 : decode cX4_init 12 = .ok (.aload_n 0, 1) := by decide +kernel
theorem dX4_init_13 : decode cX4_init 13 = .ok (.bipush 40, 2) := by decide +kernel
theorem dX4_init_15 : decode cX4_init 15 = .ok (.newarray .int, 2) := by decide +kernel
theorem dX4_init_17 : decode cX4_init 17 = .ok (.putfield 15, 3) := by decide +kernel
theorem dX4_init_20 : decode cX4_init 20 = .ok (.aload_n 0, 1) := by decide +kernel
theorem dX4_init_21 : decode cX4_init 21 = .ok (.bipush 26, 2) := by decide +kernel
theorem dX4_init_23 : decode cX4_init 23 = .ok (.newarray .int, 2) := by decide +kernel
theorem dX4_init_25 : decode cX4_init 25 = .ok (.putfield 18, 3) := by decide +kernel
theorem dX4_init_28 : decode cX4_init 28 = .ok (.aload_n 0, 1) := by decide +kernel
theorem dX4_init_29 : decode cX4_init 29 = .ok (.iconst 3, 1) := by decide +kernel
theorem dX4_init_30 : decode cX4_init 30 = .ok (.newarray .int, 2) := by decide +kernel
theorem dX4_init_32 : decode cX4_init 32 = .ok (.dup, 1) := by decide +kernel
theorem dX4_init_33 : decode cX4_init 33 = .ok (.iconst 0, 1) := by decide +kernel
theorem dX4_init_34 : decode cX4_init 34 = .ok (.iconst 2, 1) := by decide +kernel
theorem dX4_init_35 : decode cX4_init 35 = .ok (.iastore, 1) := by decide +kernel
theorem dX4_init_36 : decode cX4_init 36 = .ok (.dup, 1) := by decide +kernel
theorem dX4_init_37 : decode cX4_init 37 = .ok (.iconst 1, 1) := by decide +kernel
theorem dX4_init_38 : decode cX4_init 38 = .ok (.bipush 10, 2) := by decide +kernel
theorem dX4_init_40 : decode cX4_init 40 = .ok (.iastore, 1) := by decide +kernel
theorem dX4_init_41 : decode cX4_init 41 = .ok (.dup, 1) := by decide +kernel
theorem dX4_init_42 : decode cX4_init 42 = .ok (.iconst 2, 1) := by decide +kernel
theorem dX4_init_43 : decode cX4_init 43 = .ok (.sipush 1000, 3) := by decide +kernel
theorem dX4_init_46 : decode cX4_init 46 = .ok (.iastore, 1) := by decide +kernel
theorem dX4_init_47 : decode cX4_init 47 = .ok (.putfield 21, 3) := by decide +kernel
theorem dX4_init_50 : decode cX4_init 50 = .ok (.aload_n 0, 1) := by decide +kernel
theorem dX4_init_51 : decode cX4_init 51 = .ok (.bipush 20, 2) := by decide +kernel
theorem dX4_init_53 : decode cX4_init 53 = .ok (.putfield 24, 3) := by decide +kernel
theorem dX4_init_56 : decode cX4_init 56 = .ok (.return_, 1) := by decide +kernel
theorem ok_X4_init : okY RX4 yX4_init 0 := ⟨rfl, by decide, by decide, by decide +kernel⟩
def r_X4_init : Room := { frames := 1, cells := 4, slots := 109, locals := 20 }
set_option maxHeartbeats 4000000 in
set_option maxRecDepth 100000 in
theorem c_X4_init (l : Launch) (D : va_G) (ev : EvT) (cy : Nat → ClassId) (o : Nat) : Fn l yX4_init cX4_init 1 none r_X4_init D ev cy [.ref o] [[(o, .inr (4, [.null, .null, .null, .null, .int 0, .int 0, .int 0, .int 0, .int 0]))]] (fun v G => v = none ∧ ∃ a, G = [gX4 cy o a (sI (sW OV0 3 (upd (upd (upd (fun _ => 0) 0 2) 1 10) 2 1000)) 5 20)]) := by
  refine Fn_of (by decide) (Nat.le_of_ble_eq_true rfl) (fun X A Q h hQ hI0 => ?_)
  have hI := hI0 rfl
  clear hI0
  show ww X D A 1 Q 0 0 0 [(0, .ref o)] [] [[(o, .inr (4, [.null, .null, .null, .null, .int 0, .int 0, .int 0, .int 0, .int 0]))]]
  refine ww_aload_n h dX4_init_0 rfl 0 rfl 1 rfl ?_
  refine ww_objInit h w_194 w_125 w_126 ⟨by decide, Nat.le_of_ble_eq_true rfl⟩ dX4_init_1 4 rfl ?_
  refine ww_aload_n h dX4_init_4 rfl 0 rfl 5 rfl ?_
  refine ww_bipush h dX4_init_5 (v := 40) (by decide) 7 rfl ?_
  refine ww_newa (atype := .int) (a0 := (40, .inl (fun _ => 0))) h 0 rfl rfl rfl w_148 (fun _ => rfl) (by decide) (by decide) (by decide) ⟨by decide, by decide⟩ dX4_init_7 9 rfl rfl rfl (fun b1 => ?_)
  show ww X D A 1 Q 1 40 9 [(0, .ref o)] [.ref b1, .ref o] [[(o, .inr (4, [.null, .null, .null, .null, .int 0, .int 0, .int 0, .int 0, .int 0]))], [(b1, .inl (cy 0, 40, .inl (fun _ => 0)))]]
  refine ww_putF (ty := (.array .int)) h hI inG4 tyX4_ok nmX4 rfl 0 rfl rfl 0 (by decide) w_195 rfl rfl (by decide +kernel) rfl rfl (Nat.le_of_ble_eq_true rfl) (Nat.le_of_ble_eq_true rfl) dX4_init_9 12 rfl (Gs' := [[(o, .inr (4, [.ref b1, .null, .null, .null, .int 0, .int 0, .int 0, .int 0, .int 0]))], [(b1, .inl (cy 0, 40, .inl (fun _ => 0)))]]) rfl ?_
  refine ww_aload_n h dX4_init_12 rfl 0 rfl 13 rfl ?_
  refine ww_bipush h dX4_init_13 (v := 40) (by decide) 15 rfl ?_
  refine ww_newa (atype := .int) (a0 := (40, .inl (fun _ => 0))) h 0 rfl rfl rfl w_148 (fun _ => rfl) (by decide) (by decide) (by decide) ⟨by decide, by decide⟩ dX4_init_15 17 rfl rfl rfl (fun b2 => ?_)
  show ww X D A 1 Q 2 80 17 [(0, .ref o)] [.ref b2, .ref o] [[(o, .inr (4, [.ref b1, .null, .null, .null, .int 0, .int 0, .int 0, .int 0, .int 0]))], [(b1, .inl (cy 0, 40, .inl (fun _ => 0)))], [(b2, .inl (cy 0, 40, .inl (fun _ => 0)))]]
  refine ww_putF (ty := (.array .int)) h hI inG4 tyX4_ok nmX4 rfl 0 rfl rfl 1 (by decide) w_198 rfl rfl (by decide +kernel) rfl rfl (Nat.le_of_ble_eq_true rfl) (Nat.le_of_ble_eq_true rfl) dX4_init_17 20 rfl (Gs' := [[(o, .inr (4, [.ref b1, .ref b2, .null, .null, .int 0, .int 0, .int 0, .int 0, .int 0]))], [(b1, .inl (cy 0, 40, .inl (fun _ => 0)))], [(b2, .inl (cy 0, 40, .inl (fun _ => 0)))]]) rfl ?_
  refine ww_aload_n h dX4_init_20 rfl 0 rfl 21 rfl ?_
  refine ww_bipush h dX4_init_21 (v := 26) (by decide) 23 rfl ?_
  refine ww_newa (atype := .int) (a0 := (26, .inl (fun _ => 0))) h 0 rfl rfl rfl w_148 (fun _ => rfl) (by decide) (by decide) (by decide) ⟨by decide, by decide⟩ dX4_init_23 25 rfl rfl rfl (fun b3 => ?_)
  show ww X D A 1 Q 3 106 25 [(0, .ref o)] [.ref b3, .ref o] [[(o, .inr (4, [.ref b1, .ref b2, .null, .null, .int 0, .int 0, .int 0, .int 0, .int 0]))], [(b1, .inl (cy 0, 40, .inl (fun _ => 0)))], [(b2, .inl (cy 0, 40, .inl (fun _ => 0)))], [(b3, .inl (cy 0, 26, .inl (fun _ => 0)))]]
  refine ww_putF (ty := (.array .int)) h hI inG4 tyX4_ok nmX4 rfl 0 rfl rfl 2 (by decide) w_202 rfl rfl (by decide +kernel) rfl rfl (Nat.le_of_ble_eq_true rfl) (Nat.le_of_ble_eq_true rfl) dX4_init_25 28 rfl (Gs' := [[(o, .inr (4, [.ref b1, .ref b2, .ref b3, .null, .int 0, .int 0, .int 0, .int 0, .int 0]))], [(b1, .inl (cy 0, 40, .inl (fun _ => 0)))], [(b2, .inl (cy 0, 40, .inl (fun _ => 0)))], [(b3, .inl (cy 0, 26, .inl (fun _ => 0)))]]) rfl ?_
  refine ww_aload_n h dX4_init_28 rfl 0 rfl 29 rfl ?_
  refine ww_iconst h dX4_init_29 (v := 3) (by decide) 30 rfl ?_
  refine ww_newa (atype := .int) (a0 := (3, .inl (fun _ => 0))) h 0 rfl rfl rfl w_148 (fun _ => rfl) (by decide) (by decide) (by decide) ⟨by decide, by decide⟩ dX4_init_30 32 rfl rfl rfl (fun b4 => ?_)
  show ww X D A 1 Q 4 109 32 [(0, .ref o)] [.ref b4, .ref o] [[(o, .inr (4, [.ref b1, .ref b2, .ref b3, .null, .int 0, .int 0, .int 0, .int 0, .int 0]))], [(b1, .inl (cy 0, 40, .inl (fun _ => 0)))], [(b2, .inl (cy 0, 40, .inl (fun _ => 0)))], [(b3, .inl (cy 0, 26, .inl (fun _ => 0)))], [(b4, .inl (cy 0, 3, .inl (fun _ => 0)))]]
  refine ww_dup h dX4_init_32 rfl 33 rfl ?_
  refine ww_iconst h dX4_init_33 (v := 0) (by decide) 34 rfl ?_
  refine ww_iconst h dX4_init_34 (v := 2) (by decide) 35 rfl ?_
  refine ww_iast h 4 rfl 0 rfl (by unfold vp_in; decide) dX4_init_35 36 rfl ?_
  show ww X D A 1 Q 4 109 36 [(0, .ref o)] [.ref b4, .ref o] [[(o, .inr (4, [.ref b1, .ref b2, .ref b3, .null, .int 0, .int 0, .int 0, .int 0, .int 0]))], [(b1, .inl (cy 0, 40, .inl (fun _ => 0)))], [(b2, .inl (cy 0, 40, .inl (fun _ => 0)))], [(b3, .inl (cy 0, 26, .inl (fun _ => 0)))], [(b4, .inl (cy 0, 3, .inl (upd (fun _ => 0) 0 2)))]]
  refine ww_dup h dX4_init_36 rfl 37 rfl ?_
  refine ww_iconst h dX4_init_37 (v := 1) (by decide) 38 rfl ?_
  refine ww_bipush h dX4_init_38 (v := 10) (by decide) 40 rfl ?_
  refine ww_iast h 4 rfl 0 rfl (by unfold vp_in; decide) dX4_init_40 41 rfl ?_
  show ww X D A 1 Q 4 109 41 [(0, .ref o)] [.ref b4, .ref o] [[(o, .inr (4, [.ref b1, .ref b2, .ref b3, .null, .int 0, .int 0, .int 0, .int 0, .int 0]))], [(b1, .inl (cy 0, 40, .inl (fun _ => 0)))], [(b2, .inl (cy 0, 40, .inl (fun _ => 0)))], [(b3, .inl (cy 0, 26, .inl (fun _ => 0)))], [(b4, .inl (cy 0, 3, .inl (upd (upd (fun _ => 0) 0 2) 1 10)))]]
  refine ww_dup h dX4_init_41 rfl 42 rfl ?_
  refine ww_iconst h dX4_init_42 (v := 2) (by decide) 43 rfl ?_
  refine ww_sipush h dX4_init_43 (v := 1000) (by decide) 46 rfl ?_
  refine ww_iast h 4 rfl 0 rfl (by unfold vp_in; decide) dX4_init_46 47 rfl ?_
  show ww X D A 1 Q 4 109 47 [(0, .ref o)] [.ref b4, .ref o] [[(o, .inr (4, [.ref b1, .ref b2, .ref b3, .null, .int 0, .int 0, .int 0, .int 0, .int 0]))], [(b1, .inl (cy 0, 40, .inl (fun _ => 0)))], [(b2, .inl (cy 0, 40, .inl (fun _ => 0)))], [(b3, .inl (cy 0, 26, .inl (fun _ => 0)))], [(b4, .inl (cy 0, 3, .inl (upd (upd (upd (fun _ => 0) 0 2) 1 10) 2 1000)))]]
  refine ww_putF (ty := (.array .int)) h hI inG4 tyX4_ok nmX4 rfl 0 rfl rfl 3 (by decide) w_204 rfl rfl (by decide +kernel) rfl rfl (Nat.le_of_ble_eq_true rfl) (Nat.le_of_ble_eq_true rfl) dX4_init_47 50 rfl (Gs' := [[(o, .inr (4, [.ref b1, .ref b2, .ref b3, .ref b4, .int 0, .int 0, .int 0, .int 0, .int 0]))], [(b1, .inl (cy 0, 40, .inl (fun _ => 0)))], [(b2, .inl (cy 0, 40, .inl (fun _ => 0)))], [(b3, .inl (cy 0, 26, .inl (fun _ => 0)))], [(b4, .inl (cy 0, 3, .inl (upd (upd (upd (fun _ => 0) 0 2) 1 10) 2 1000)))]]) rfl ?_
  refine ww_aload_n h dX4_init_50 rfl 0 rfl 51 rfl ?_
  refine ww_bipush h dX4_init_51 (v := 20) (by decide) 53 rfl ?_
  refine ww_put (ty := .int) h inG4 tyX4_ok nmX4 rfl 0 rfl rfl 5 (by decide) w_210 rfl (by decide +kernel) rfl rfl (Nat.le_of_ble_eq_true rfl) (Nat.le_of_ble_eq_true rfl) dX4_init_53 56 rfl ?_
  show ww X D A 1 Q 4 109 56 [(0, .ref o)] [] [[(o, .inr (4, [.ref b1, .ref b2, .ref b3, .ref b4, .int 0, .int 20, .int 0, .int 0, .int 0]))], [(b1, .inl (cy 0, 40, .inl (fun _ => 0)))], [(b2, .inl (cy 0, 40, .inl (fun _ => 0)))], [(b3, .inl (cy 0, 26, .inl (fun _ => 0)))], [(b4, .inl (cy 0, 3, .inl (upd (upd (upd (fun _ => 0) 0 2) 1 10) 2 1000)))]]
  refine ww_perm [0, 0, 0, 0, 0] (Gs' := [[(o, .inr (4, [.ref b1, .ref b2, .ref b3, .ref b4, .int 0, .int 20, .int 0, .int 0, .int 0]))], [(b1, .inl (cy 0, 40, .inl (fun _ => 0)))], [(b2, .inl (cy 0, 40, .inl (fun _ => 0)))], [(b3, .inl (cy 0, 26, .inl (fun _ => 0)))], [(b4, .inl (cy 0, 3, .inl (upd (upd (upd (fun _ => 0) 0 2) 1 10) 2 1000)))]]) (by simp only [pk_g, List.getElem?_cons_zero, List.getElem?_cons_succ, List.eraseIdx]) ?_
  refine ww_fuse (Cs := [[(o, .inr (4, [.ref b1, .ref b2, .ref b3, .ref b4, .int 0, .int 20, .int 0, .int 0, .int 0]))], [(b1, .inl (cy 0, 40, .inl (fun _ => 0)))], [(b2, .inl (cy 0, 40, .inl (fun _ => 0)))], [(b3, .inl (cy 0, 26, .inl (fun _ => 0)))], [(b4, .inl (cy 0, 3, .inl (upd (upd (upd (fun _ => 0) 0 2) 1 10) 2 1000)))]]) (Rs := []) (c := gX4 cy o (aG [b1, b2, b3, b4, 0, 0, 0, 0, 0] 1500 (fun _ => 0) 1600 (fun _ => 0)) (sI (sW OV0 3 (upd (upd (upd (fun _ => 0) 0 2) 1 10) 2 1000)) 5 20)) rfl rfl ?_
  exact ww_vret h dX4_init_56 hQ ⟨rfl, _, rfl⟩
theorem dX5_init_0 : decode cX5_init 0 = .ok (.aload_n 0, 1) := by decide +kernel
theorem dX5_init_1 : decode cX5_init 1 = .ok (.invokespecial 3, 3) := by decide +kernel
theorem dX5_init_4 : decode cX5_init 4 = .ok (.aload_n 0, 1) := by decide +kernel
theorem dX5_init_5 : decode cX5_init 5 = .ok (.bipush 41, 2) := by decide +kernel
theorem dX5_init_7 : decode cX5_init 7 = .ok (.newarray .int, 2) := by decide +kernel
theorem dX5_init_9 : decode cX5_init 9 = .ok (.putfield 9, 3) := by decide +kernel
theorem dX5_init_12 : decode cX5_init 12 = .ok (.aload_n 0, 1) := by decide +kernel
theorem dX5_init_13 : decode cX5_init 13 = .ok (.bipush 41, 2) := by decide +kernel
theorem dX5_init_15 : decode cX5_init 15 = .ok (.newarray .int, 2) := by decide +kernel
theorem dX5_init_17 : decode cX5_init 17 = .ok (.putfield 15, 3) := by decide +kernel
theorem dX5_init_20 : decode cX5_init 20 = .ok (.aload_n 0, 1) := by decide +kernel
theorem dX5_init_21 : decode cX5_init 21 = .ok (.bipush 41, 2) := by decide +kernel
theorem dX5_init_23 : decode cX5_init 23 = .ok (.newarray .int, 2) := by decide +kernel
theorem dX5_init_25 : decode cX5_init 25 = .ok (.putfield 18, 3) := by decide +kernel
theorem dX5_init_28 : decode cX5_init 28 = .ok (.return_, 1) := by decide +kernel
theorem ok_X5_init : okY RX5 yX5_init 0 := ⟨rfl, by decide, by decide, by decide +kernel⟩
def r_X5_init : Room := { frames := 1, cells := 3, slots := 123, locals := 20 }
set_option maxHeartbeats 4000000 in
set_option maxRecDepth 100000 in
theorem c_X5_init (l : Launch) (D : va_G) (ev : EvT) (cy : Nat → ClassId) (o : Nat) : Fn l yX5_init cX5_init 1 none r_X5_init D ev cy [.ref o] [[(o, .inr (5, [.null, .null, .null]))]] (fun v G => v = none ∧ ∃ a, G = [gX5 cy o a OV0]) := by
  refine Fn_of (by decide) (Nat.le_of_ble_eq_true rfl) (fun X A Q h hQ hI0 => ?_)
  have hI := hI0 rfl
  clear hI0
  show ww X D A 1 Q 0 0 0 [(0, .ref o)] [] [[(o, .inr (5, [.null, .null, .null]))]]
  refine ww_aload_n h dX5_init_0 rfl 0 rfl 1 rfl ?_
  refine ww_objInit h w_339 w_125 w_126 ⟨by decide, Nat.le_of_ble_eq_true rfl⟩ dX5_init_1 4 rfl ?_
  refine ww_aload_n h dX5_init_4 rfl 0 rfl 5 rfl ?_
  refine ww_bipush h dX5_init_5 (v := 41) (by decide) 7 rfl ?_
  refine ww_newa (atype := .int) (a0 := (41, .inl (fun _ => 0))) h 0 rfl rfl rfl w_148 (fun _ => rfl) (by decide) (by decide) (by decide) ⟨by decide, by decide⟩ dX5_init_7 9 rfl rfl rfl (fun b1 => ?_)
  show ww X D A 1 Q 1 41 9 [(0, .ref o)] [.ref b1, .ref o] [[(o, .inr (5, [.null, .null, .null]))], [(b1, .inl (cy 0, 41, .inl (fun _ => 0)))]]
  refine ww_putF (ty := (.array .int)) h hI inG5 tyX5_ok nmX5 rfl 0 rfl rfl 0 (by decide) w_340 rfl rfl (by decide +kernel) rfl rfl (Nat.le_of_ble_eq_true rfl) (Nat.le_of_ble_eq_true rfl) dX5_init_9 12 rfl (Gs' := [[(o, .inr (5, [.ref b1, .null, .null]))], [(b1, .inl (cy 0, 41, .inl (fun _ => 0)))]]) rfl ?_
  refine ww_aload_n h dX5_init_12 rfl 0 rfl 13 rfl ?_
  refine ww_bipush h dX5_init_13 (v := 41) (by decide) 15 rfl ?_
  refine ww_newa (atype := .int) (a0 := (41, .inl (fun _ => 0))) h 0 rfl rfl rfl w_148 (fun _ => rfl) (by decide) (by decide) (by decide) ⟨by decide, by decide⟩ dX5_init_15 17 rfl rfl rfl (fun b2 => ?_)
  show ww X D A 1 Q 2 82 17 [(0, .ref o)] [.ref b2, .ref o] [[(o, .inr (5, [.ref b1, .null, .null]))], [(b1, .inl (cy 0, 41, .inl (fun _ => 0)))], [(b2, .inl (cy 0, 41, .inl (fun _ => 0)))]]
  refine ww_putF (ty := (.array .int)) h hI inG5 tyX5_ok nmX5 rfl 0 rfl rfl 1 (by decide) w_342 rfl rfl (by decide +kernel) rfl rfl (Nat.le_of_ble_eq_true rfl) (Nat.le_of_ble_eq_true rfl) dX5_init_17 20 rfl (Gs' := [[(o, .inr (5, [.ref b1, .ref b2, .null]))], [(b1, .inl (cy 0, 41, .inl (fun _ => 0)))], [(b2, .inl (cy 0, 41, .inl (fun _ => 0)))]]) rfl ?_
  refine ww_aload_n h dX5_init_20 rfl 0 rfl 21 rfl ?_
  refine ww_bipush h dX5_init_21 (v := 41) (by decide) 23 rfl ?_
  refine ww_newa (atype := .int) (a0 := (41, .inl (fun _ => 0))) h 0 rfl rfl rfl w_148 (fun _ => rfl) (by decide) (by decide) (by decide) ⟨by decide, by decide⟩ dX5_init_23 25 rfl rfl rfl (fun b3 => ?_)
  show ww X D A 1 Q 3 123 25 [(0, .ref o)] [.ref b3, .ref o] [[(o, .inr (5, [.ref b1, .ref b2, .null]))], [(b1, .inl (cy 0, 41, .inl (fun _ => 0)))], [(b2, .inl (cy 0, 41, .inl (fun _ => 0)))], [(b3, .inl (cy 0, 41, .inl (fun _ => 0)))]]
  refine ww_putF (ty := (.array .int)) h hI inG5 tyX5_ok nmX5 rfl 0 rfl rfl 2 (by decide) w_344 rfl rfl (by decide +kernel) rfl rfl (Nat.le_of_ble_eq_true rfl) (Nat.le_of_ble_eq_true rfl) dX5_init_25 28 rfl (Gs' := [[(o, .inr (5, [.ref b1, .ref b2, .ref b3]))], [(b1, .inl (cy 0, 41, .inl (fun _ => 0)))], [(b2, .inl (cy 0, 41, .inl (fun _ => 0)))], [(b3, .inl (cy 0, 41, .inl (fun _ => 0)))]]) rfl ?_
  refine ww_perm [0, 0, 0, 0] (Gs' := [[(o, .inr (5, [.ref b1, .ref b2, .ref b3]))], [(b1, .inl (cy 0, 41, .inl (fun _ => 0)))], [(b2, .inl (cy 0, 41, .inl (fun _ => 0)))], [(b3, .inl (cy 0, 41, .inl (fun _ => 0)))]]) (by simp only [pk_g, List.getElem?_cons_zero, List.getElem?_cons_succ, List.eraseIdx]) ?_
  refine ww_fuse (Cs := [[(o, .inr (5, [.ref b1, .ref b2, .ref b3]))], [(b1, .inl (cy 0, 41, .inl (fun _ => 0)))], [(b2, .inl (cy 0, 41, .inl (fun _ => 0)))], [(b3, .inl (cy 0, 41, .inl (fun _ => 0)))]]) (Rs := []) (c := gX5 cy o (aG [b1, b2, b3] 900 (fun _ => 0) 1000 (fun _ => 0)) OV0) rfl rfl ?_
  exact ww_vret h dX5_init_28 hQ ⟨rfl, _, rfl⟩
theorem dX3_init_0 : decode cX3_init 0 = .ok (.aload_n 0, 1) := by decide +kernel
theorem dX3_init_1 : decode cX3_init 1 = .ok (.invokespecial 3, 3) := by decide +kernel
theorem dX3_init_4 : decode cX3_init 4 = .ok (.aload_n 0, 1) := by decide +kernel
theorem dX3_init_5 : decode cX3_init 5 = .ok (.bipush 11, 2) := by decide +kernel
theorem dX3_init_7 : decode cX3_init 7 = .ok (.bipush 40, 2) := by decide +kernel
theorem dX3_init_9 : decode cX3_init 9 = .ok (.multianewarray 9 2, 4) := by decide +kernel
theorem dX3_init_13 : decode cX3_init 13 = .ok (.putfield 11, 3) := by decide +kernel
theorem dX3_init_16 : decode cX3_init 16 = .ok (.aload_n 0, 1) := by decide +kernel
theorem dX3_init_17 : decode cX3_init 17 = .ok (.bipush 40, 2) := by decide +kernel
theorem dX3_init_19 : decode cX3_init 19 = .ok (.newarray .int, 2) := by decide +kernel
theorem dX3_init_21 : decode cX3_init 21 = .ok (.putfield 16, 3) := by decide +kernel
theorem dX3_init_24 : decode cX3_init 24 = .ok (.aload_n 0, 1) := by decide +kernel
theorem dX3_init_25 : decode cX3_init 25 = .ok (.bipush 40, 2) := by decide +kernel
theorem dX3_init_27 : decode cX3_init 27 = .ok (.newarray .int, 2) := by decide +kernel
theorem dX3_init_29 : decode cX3_init 29 = .ok (.putfield 20, 3) := by decide +kernel
theorem dX3_init_32 : decode cX3_init 32 = .ok (.aload_n 0, 1) := by decide +kernel
theorem dX3_init_33 : decode cX3_init 33 = .ok (.bipush 40, 2) := by decide +kernel
theorem dX3_init_35 : decode cX3_init 35 = .ok (.newarray .int, 2) := by decide +kernel
theorem dX3_init_37 : decode cX3_init 37 = .ok (.putfield 23, 3) := by decide +kernel
theorem dX3_init_40 : decode cX3_init 40 = .ok (.aload_n 0, 1) := by decide +kernel
theorem dX3_init_41 : decode cX3_init 41 = .ok (.bipush 40, 2) := by decide +kernel
theorem dX3_init_43 : decode cX3_init 43 = .ok (.newarray .int, 2) := by decide +kernel
theorem dX3_init_45 : decode cX3_init 45 = .ok (.putfield 26, 3) := by decide +kernel
theorem dX3_init_48 : decode cX3_init 48 = .ok (.aload_n 0, 1) := by decide +kernel
theorem dX3_init_49 : decode cX3_init 49 = .ok (.bipush 80, 2) := by decide +kernel
theorem dX3_init_51 : decode cX3_init 51 = .ok (.newarray .int, 2) := by decide +kernel
theorem dX3_init_53 : decode cX3_init 53 = .ok (.putfield 29, 3) := by decide +kernel
theorem dX3_init_56 : decode cX3_init 56 = .ok (.return_, 1) := by decide +kernel
theorem ok_X3_init : okY RX3 yX3_init 0 := ⟨rfl, by decide, by decide, by decide +kernel⟩
def r_X3_init : Room := { frames := 1, cells := 17, slots := 691, locals := 20 }
set_option maxHeartbeats 4000000 in
set_option maxRecDepth 100000 in
theorem c_X3_init (l : Launch) (D : va_G) (ev : EvT) (cy : Nat → ClassId) (o : Nat) : Fn l yX3_init cX3_init 1 none r_X3_init D ev cy [.ref o] [[(o, .inr (3, [.null, .null, .null, .null, .null, .null, .int 0, .int 0]))]] (fun v G => v = none ∧ ∃ a, G = [gX3 cy o a OV0]) := by
  refine Fn_of (by decide) (Nat.le_of_ble_eq_true rfl) (fun X A Q h hQ hI0 => ?_)
  have hI := hI0 rfl
  clear hI0
  show ww X D A 1 Q 0 0 0 [(0, .ref o)] [] [[(o, .inr (3, [.null, .null, .null, .null, .null, .null, .int 0, .int 0]))]]
  refine ww_aload_n h dX3_init_0 rfl 0 rfl 1 rfl ?_
  refine ww_objInit h w_359 w_125 w_126 ⟨by decide, Nat.le_of_ble_eq_true rfl⟩ dX3_init_1 4 rfl ?_
  refine ww_aload_n h dX3_init_4 rfl 0 rfl 5 rfl ?_
  refine ww_bipush h dX3_init_5 (v := 11) (by decide) 7 rfl ?_
  refine ww_bipush h dX3_init_7 (v := 40) (by decide) 9 rfl ?_
  refine ww_mna h w_360 w_148 (N := 11) (M := 40) (by decide) (by decide) (by decide) (by decide) (by decide) (by decide) ⟨by decide, by decide⟩ dX3_init_9 13 rfl rfl rfl (fun b1 r2 => ?_)
  show ww X D A 1 Q 12 451 13 [(0, .ref o)] [.ref b1, .ref o] [[(o, .inr (3, [.null, .null, .null, .null, .null, .null, .int 0, .int 0]))], [(b1, .inl (cy 4, 11, .inr (.inr (.inr (.inr (fun j => some (r2 j)))))))], (List.range 11).map (fun j => (r2 j, .inl (cy 0, 40, .inl (fun _ => 0))))]
  refine ww_putF (ty := (.array (.array .int))) h hI inG3 tyX3_ok nmX3 rfl 0 rfl rfl 0 (by decide) w_361 rfl rfl (by decide +kernel) rfl rfl (Nat.le_of_ble_eq_true rfl) (Nat.le_of_ble_eq_true rfl) dX3_init_13 16 rfl (Gs' := [[(o, .inr (3, [.ref b1, .null, .null, .null, .null, .null, .int 0, .int 0]))], [(b1, .inl (cy 4, 11, .inr (.inr (.inr (.inr (fun j => some (r2 j)))))))], (List.range 11).map (fun j => (r2 j, .inl (cy 0, 40, .inl (fun _ => 0))))]) rfl ?_
  refine ww_aload_n h dX3_init_16 rfl 0 rfl 17 rfl ?_
  refine ww_bipush h dX3_init_17 (v := 40) (by decide) 19 rfl ?_
  refine ww_newa (atype := .int) (a0 := (40, .inl (fun _ => 0))) h 0 rfl rfl rfl w_148 (fun _ => rfl) (by decide) (by decide) (by decide) ⟨by decide, by decide⟩ dX3_init_19 21 rfl rfl rfl (fun b3 => ?_)
  show ww X D A 1 Q 13 491 21 [(0, .ref o)] [.ref b3, .ref o] [[(o, .inr (3, [.ref b1, .null, .null, .null, .null, .null, .int 0, .int 0]))], [(b1, .inl (cy 4, 11, .inr (.inr (.inr (.inr (fun j => some (r2 j)))))))], (List.range 11).map (fun j => (r2 j, .inl (cy 0, 40, .inl (fun _ => 0)))), [(b3, .inl (cy 0, 40, .inl (fun _ => 0)))]]
  refine ww_putF (ty := (.array .int)) h hI inG3 tyX3_ok nmX3 rfl 0 rfl rfl 1 (by decide) w_363 rfl rfl (by decide +kernel) rfl rfl (Nat.le_of_ble_eq_true rfl) (Nat.le_of_ble_eq_true rfl) dX3_init_21 24 rfl (Gs' := [[(o, .inr (3, [.ref b1, .ref b3, .null, .null, .null, .null, .int 0, .int 0]))], [(b1, .inl (cy 4, 11, .inr (.inr (.inr (.inr (fun j => some (r2 j)))))))], (List.range 11).map (fun j => (r2 j, .inl (cy 0, 40, .inl (fun _ => 0)))), [(b3, .inl (cy 0, 40, .inl (fun _ => 0)))]]) rfl ?_
  refine ww_aload_n h dX3_init_24 rfl 0 rfl 25 rfl ?_
  refine ww_bipush h dX3_init_25 (v := 40) (by decide) 27 rfl ?_
  refine ww_newa (atype := .int) (a0 := (40, .inl (fun _ => 0))) h 0 rfl rfl rfl w_148 (fun _ => rfl) (by decide) (by decide) (by decide) ⟨by decide, by decide⟩ dX3_init_27 29 rfl rfl rfl (fun b4 => ?_)
  show ww X D A 1 Q 14 531 29 [(0, .ref o)] [.ref b4, .ref o] [[(o, .inr (3, [.ref b1, .ref b3, .null, .null, .null, .null, .int 0, .int 0]))], [(b1, .inl (cy 4, 11, .inr (.inr (.inr (.inr (fun j => some (r2 j)))))))], (List.range 11).map (fun j => (r2 j, .inl (cy 0, 40, .inl (fun _ => 0)))), [(b3, .inl (cy 0, 40, .inl (fun _ => 0)))], [(b4, .inl (cy 0, 40, .inl (fun _ => 0)))]]
  refine ww_putF (ty := (.array .int)) h hI inG3 tyX3_ok nmX3 rfl 0 rfl rfl 2 (by decide) w_365 rfl rfl (by decide +kernel) rfl rfl (Nat.le_of_ble_eq_true rfl) (Nat.le_of_ble_eq_true rfl) dX3_init_29 32 rfl (Gs' := [[(o, .inr (3, [.ref b1, .ref b3, .ref b4, .null, .null, .null, .int 0, .int 0]))], [(b1, .inl (cy 4, 11, .inr (.inr (.inr (.inr (fun j => some (r2 j)))))))], (List.range 11).map (fun j => (r2 j, .inl (cy 0, 40, .inl (fun _ => 0)))), [(b3, .inl (cy 0, 40, .inl (fun _ => 0)))], [(b4, .inl (cy 0, 40, .inl (fun _ => 0)))]]) rfl ?_
  refine ww_aload_n h dX3_init_32 rfl 0 rfl 33 rfl ?_
  refine ww_bipush h dX3_init_33 (v := 40) (by decide) 35 rfl ?_
  refine ww_newa (atype := .int) (a0 := (40, .inl (fun _ => 0))) h 0 rfl rfl rfl w_148 (fun _ => rfl) (by decide) (by decide) (by decide) ⟨by decide, by decide⟩ dX3_init_35 37 rfl rfl rfl (fun b5 => ?_)
  show ww X D A 1 Q 15 571 37 [(0, .ref o)] [.ref b5, .ref o] [[(o, .inr (3, [.ref b1, .ref b3, .ref b4, .null, .null, .null, .int 0, .int 0]))], [(b1, .inl (cy 4, 11, .inr (.inr (.inr (.inr (fun j => some (r2 j)))))))], (List.range 11).map (fun j => (r2 j, .inl (cy 0, 40, .inl (fun _ => 0)))), [(b3, .inl (cy 0, 40, .inl (fun _ => 0)))], [(b4, .inl (cy 0, 40, .inl (fun _ => 0)))], [(b5, .inl (cy 0, 40, .inl (fun _ => 0)))]]
  refine ww_putF (ty := (.array .int)) h hI inG3 tyX3_ok nmX3 rfl 0 rfl rfl 3 (by decide) w_367 rfl rfl (by decide +kernel) rfl rfl (Nat.le_of_ble_eq_true rfl) (Nat.le_of_ble_eq_true rfl) dX3_init_37 40 rfl (Gs' := [[(o, .inr (3, [.ref b1, .ref b3, .ref b4, .ref b5, .null, .null, .int 0, .int 0]))], [(b1, .inl (cy 4, 11, .inr (.inr (.inr (.inr (fun j => some (r2 j)))))))], (List.range 11).map (fun j => (r2 j, .inl (cy 0, 40, .inl (fun _ => 0)))), [(b3, .inl (cy 0, 40, .inl (fun _ => 0)))], [(b4, .inl (cy 0, 40, .inl (fun _ => 0)))], [(b5, .inl (cy 0, 40, .inl (fun _ => 0)))]]) rfl ?_
  refine ww_aload_n h dX3_init_40 rfl 0 rfl 41 rfl ?_
  refine ww_bipush h dX3_init_41 (v := 40) (by decide) 43 rfl ?_
  refine ww_newa (atype := .int) (a0 := (40, .inl (fun _ => 0))) h 0 rfl rfl rfl w_148 (fun _ => rfl) (by decide) (by decide) (by decide) ⟨by decide, by decide⟩ dX3_init_43 45 rfl rfl rfl (fun b6 => ?_)
  show ww X D A 1 Q 16 611 45 [(0, .ref o)] [.ref b6, .ref o] [[(o, .inr (3, [.ref b1, .ref b3, .ref b4, .ref b5, .null, .null, .int 0, .int 0]))], [(b1, .inl (cy 4, 11, .inr (.inr (.inr (.inr (fun j => some (r2 j)))))))], (List.range 11).map (fun j => (r2 j, .inl (cy 0, 40, .inl (fun _ => 0)))), [(b3, .inl (cy 0, 40, .inl (fun _ => 0)))], [(b4, .inl (cy 0, 40, .inl (fun _ => 0)))], [(b5, .inl (cy 0, 40, .inl (fun _ => 0)))], [(b6, .inl (cy 0, 40, .inl (fun _ => 0)))]]
  refine ww_putF (ty := (.array .int)) h hI inG3 tyX3_ok nmX3 rfl 0 rfl rfl 4 (by decide) w_368 rfl rfl (by decide +kernel) rfl rfl (Nat.le_of_ble_eq_true rfl) (Nat.le_of_ble_eq_true rfl) dX3_init_45 48 rfl (Gs' := [[(o, .inr (3, [.ref b1, .ref b3, .ref b4, .ref b5, .ref b6, .null, .int 0, .int 0]))], [(b1, .inl (cy 4, 11, .inr (.inr (.inr (.inr (fun j => some (r2 j)))))))], (List.range 11).map (fun j => (r2 j, .inl (cy 0, 40, .inl (fun _ => 0)))), [(b3, .inl (cy 0, 40, .inl (fun _ => 0)))], [(b4, .inl (cy 0, 40, .inl (fun _ => 0)))], [(b5, .inl (cy 0, 40, .inl (fun _ => 0)))], [(b6, .inl (cy 0, 40, .inl (fun _ => 0)))]]) rfl ?_
  refine ww_aload_n h dX3_init_48 rfl 0 rfl 49 rfl ?_
  refine ww_bipush h dX3_init_49 (v := 80) (by decide) 51 rfl ?_
  refine ww_newa (atype := .int) (a0 := (80, .inl (fun _ => 0))) h 0 rfl rfl rfl w_148 (fun _ => rfl) (by decide) (by decide) (by decide) ⟨by decide, by decide⟩ dX3_init_51 53 rfl rfl rfl (fun b7 => ?_)
  show ww X D A 1 Q 17 691 53 [(0, .ref o)] [.ref b7, .ref o] [[(o, .inr (3, [.ref b1, .ref b3, .ref b4, .ref b5, .ref b6, .null, .int 0, .int 0]))], [(b1, .inl (cy 4, 11, .inr (.inr (.inr (.inr (fun j => some (r2 j)))))))], (List.range 11).map (fun j => (r2 j, .inl (cy 0, 40, .inl (fun _ => 0)))), [(b3, .inl (cy 0, 40, .inl (fun _ => 0)))], [(b4, .inl (cy 0, 40, .inl (fun _ => 0)))], [(b5, .inl (cy 0, 40, .inl (fun _ => 0)))], [(b6, .inl (cy 0, 40, .inl (fun _ => 0)))], [(b7, .inl (cy 0, 80, .inl (fun _ => 0)))]]
  refine ww_putF (ty := (.array .int)) h hI inG3 tyX3_ok nmX3 rfl 0 rfl rfl 5 (by decide) w_369 rfl rfl (by decide +kernel) rfl rfl (Nat.le_of_ble_eq_true rfl) (Nat.le_of_ble_eq_true rfl) dX3_init_53 56 rfl (Gs' := [[(o, .inr (3, [.ref b1, .ref b3, .ref b4, .ref b5, .ref b6, .ref b7, .int 0, .int 0]))], [(b1, .inl (cy 4, 11, .inr (.inr (.inr (.inr (fun j => some (r2 j)))))))], (List.range 11).map (fun j => (r2 j, .inl (cy 0, 40, .inl (fun _ => 0)))), [(b3, .inl (cy 0, 40, .inl (fun _ => 0)))], [(b4, .inl (cy 0, 40, .inl (fun _ => 0)))], [(b5, .inl (cy 0, 40, .inl (fun _ => 0)))], [(b6, .inl (cy 0, 40, .inl (fun _ => 0)))], [(b7, .inl (cy 0, 80, .inl (fun _ => 0)))]]) rfl ?_
  refine ww_q 1 rfl (fun j => some ((aG [b1, b3, b4, b5, b6, b7, 0, 0] 100 r2 200 (fun _ => 0)) (100 + j))) (fun j hj => congrArg some (aG_1 (by omega) (by omega) (by omega)).symm) (Gs' := [[(o, .inr (3, [.ref b1, .ref b3, .ref b4, .ref b5, .ref b6, .ref b7, .int 0, .int 0]))], [(b1, .inl (cy 4, 11, .inr (.inr (.inr (.inr (fun j => some ((aG [b1, b3, b4, b5, b6, b7, 0, 0] 100 r2 200 (fun _ => 0)) (100 + j))))))))], (List.range 11).map (fun j => (r2 j, .inl (cy 0, 40, .inl (fun _ => 0)))), [(b3, .inl (cy 0, 40, .inl (fun _ => 0)))], [(b4, .inl (cy 0, 40, .inl (fun _ => 0)))], [(b5, .inl (cy 0, 40, .inl (fun _ => 0)))], [(b6, .inl (cy 0, 40, .inl (fun _ => 0)))], [(b7, .inl (cy 0, 80, .inl (fun _ => 0)))]]) rfl ?_
  refine ww_perm [0, 0, 1, 1, 1, 1, 1, 0] (Gs' := [[(o, .inr (3, [.ref b1, .ref b3, .ref b4, .ref b5, .ref b6, .ref b7, .int 0, .int 0]))], [(b1, .inl (cy 4, 11, .inr (.inr (.inr (.inr (fun j => some ((aG [b1, b3, b4, b5, b6, b7, 0, 0] 100 r2 200 (fun _ => 0)) (100 + j))))))))], [(b3, .inl (cy 0, 40, .inl (fun _ => 0)))], [(b4, .inl (cy 0, 40, .inl (fun _ => 0)))], [(b5, .inl (cy 0, 40, .inl (fun _ => 0)))], [(b6, .inl (cy 0, 40, .inl (fun _ => 0)))], [(b7, .inl (cy 0, 80, .inl (fun _ => 0)))], (List.range 11).map (fun j => (r2 j, .inl (cy 0, 40, .inl (fun _ => 0))))]) (by simp only [pk_g, List.getElem?_cons_zero, List.getElem?_cons_succ, List.eraseIdx]) ?_
  refine ww_fuse (Cs := [[(o, .inr (3, [.ref b1, .ref b3, .ref b4, .ref b5, .ref b6, .ref b7, .int 0, .int 0]))], [(b1, .inl (cy 4, 11, .inr (.inr (.inr (.inr (fun j => some ((aG [b1, b3, b4, b5, b6, b7, 0, 0] 100 r2 200 (fun _ => 0)) (100 + j))))))))], [(b3, .inl (cy 0, 40, .inl (fun _ => 0)))], [(b4, .inl (cy 0, 40, .inl (fun _ => 0)))], [(b5, .inl (cy 0, 40, .inl (fun _ => 0)))], [(b6, .inl (cy 0, 40, .inl (fun _ => 0)))], [(b7, .inl (cy 0, 80, .inl (fun _ => 0)))], (List.range 11).map (fun j => (r2 j, .inl (cy 0, 40, .inl (fun _ => 0))))]) (Rs := []) (c := gX3 cy o (aG [b1, b3, b4, b5, b6, b7, 0, 0] 100 r2 200 (fun _ => 0)) OV0) rfl rfl ?_
  exact ww_vret h dX3_init_56 hQ ⟨rfl, _, rfl⟩
theorem dX8_init_0 : decode cX8_init 0 = .ok (.aload_n 0, 1) := by decide +kernel
theorem dX8_init_1 : decode cX8_init 1 = .ok (.invokespecial 3, 3) := by decide +kernel
theorem dX8_init_4 : decode cX8_init 4 = .ok (.aload_n 0, 1) := by decide +kernel
theorem dX8_init_5 : decode cX8_init 5 = .ok (.bipush 41, 2) := by decide +kernel
theorem dX8_init_7 : decode cX8_init 7 = .ok (.newarray .long, 2) := by decide +kernel
theorem dX8_init_9 : decode cX8_init 9 = .ok (.putfield 9, 3) := by decide +kernel
theorem dX8_init_12 : decode cX8_init 12 = .ok (.aload_n 0, 1) := by decide +kernel
theorem dX8_init_13 : decode cX8_init 13 = .ok (.bipush 41, 2) := by decide +kernel
theorem dX8_init_15 : decode cX8_init 15 = .ok (.newarray .int, 2) := by decide +kernel
theorem dX8_init_17 : decode cX8_init 17 = .ok (.putfield 15, 3) := by decide +kernel
theorem dX8_init_20 : decode cX8_init 20 = .ok (.return_, 1) := by decide +kernel
theorem ok_X8_init : okY RX8 yX8_init 0 := ⟨rfl, by decide, by decide, by decide +kernel⟩
def r_X8_init : Room := { frames := 1, cells := 2, slots := 82, locals := 20 }
set_option maxHeartbeats 4000000 in
set_option maxRecDepth 100000 in
theorem c_X8_init (l : Launch) (D : va_G) (ev : EvT) (cy : Nat → ClassId) (o : Nat) : Fn l yX8_init cX8_init 1 none r_X8_init D ev cy [.ref o] [[(o, .inr (8, [.null, .null, .int 0, .int 0]))]] (fun v G => v = none ∧ ∃ a, G = [gX8 cy o a OV0]) := by
  refine Fn_of (by decide) (Nat.le_of_ble_eq_true rfl) (fun X A Q h hQ hI0 => ?_)
  have hI := hI0 rfl
  clear hI0
  show ww X D A 1 Q 0 0 0 [(0, .ref o)] [] [[(o, .inr (8, [.null, .null, .int 0, .int 0]))]]
  refine ww_aload_n h dX8_init_0 rfl 0 rfl 1 rfl ?_
  refine ww_objInit h w_396 w_125 w_126 ⟨by decide, Nat.le_of_ble_eq_true rfl⟩ dX8_init_1 4 rfl ?_
  refine ww_aload_n h dX8_init_4 rfl 0 rfl 5 rfl ?_
  refine ww_bipush h dX8_init_5 (v := 41) (by decide) 7 rfl ?_
  refine ww_newa (atype := .long) (a0 := (41, .inr (.inl (fun _ => 0)))) h 2 rfl rfl rfl w_412 (fun _ => rfl) (by decide) (by decide) (by decide) ⟨by decide, by decide⟩ dX8_init_7 9 rfl rfl rfl (fun b1 => ?_)
  show ww X D A 1 Q 1 41 9 [(0, .ref o)] [.ref b1, .ref o] [[(o, .inr (8, [.null, .null, .int 0, .int 0]))], [(b1, .inl (cy 2, 41, .inr (.inl (fun _ => 0))))]]
  refine ww_putF (ty := (.array .long)) h hI inG8 tyX8_ok nmX8 rfl 0 rfl rfl 0 (by decide) w_397 rfl rfl (by decide +kernel) rfl rfl (Nat.le_of_ble_eq_true rfl) (Nat.le_of_ble_eq_true rfl) dX8_init_9 12 rfl (Gs' := [[(o, .inr (8, [.ref b1, .null, .int 0, .int 0]))], [(b1, .inl (cy 2, 41, .inr (.inl (fun _ => 0))))]]) rfl ?_
  refine ww_aload_n h dX8_init_12 rfl 0 rfl 13 rfl ?_
  refine ww_bipush h dX8_init_13 (v := 41) (by decide) 15 rfl ?_
  refine ww_newa (atype := .int) (a0 := (41, .inl (fun _ => 0))) h 0 rfl rfl rfl w_148 (fun _ => rfl) (by decide) (by decide) (by decide) ⟨by decide, by decide⟩ dX8_init_15 17 rfl rfl rfl (fun b2 => ?_)
  show ww X D A 1 Q 2 82 17 [(0, .ref o)] [.ref b2, .ref o] [[(o, .inr (8, [.ref b1, .null, .int 0, .int 0]))], [(b1, .inl (cy 2, 41, .inr (.inl (fun _ => 0))))], [(b2, .inl (cy 0, 41, .inl (fun _ => 0)))]]
  refine ww_putF (ty := (.array .int)) h hI inG8 tyX8_ok nmX8 rfl 0 rfl rfl 1 (by decide) w_398 rfl rfl (by decide +kernel) rfl rfl (Nat.le_of_ble_eq_true rfl) (Nat.le_of_ble_eq_true rfl) dX8_init_17 20 rfl (Gs' := [[(o, .inr (8, [.ref b1, .ref b2, .int 0, .int 0]))], [(b1, .inl (cy 2, 41, .inr (.inl (fun _ => 0))))], [(b2, .inl (cy 0, 41, .inl (fun _ => 0)))]]) rfl ?_
  refine ww_perm [0, 0, 0] (Gs' := [[(o, .inr (8, [.ref b1, .ref b2, .int 0, .int 0]))], [(b1, .inl (cy 2, 41, .inr (.inl (fun _ => 0))))], [(b2, .inl (cy 0, 41, .inl (fun _ => 0)))]]) (by simp only [pk_g, List.getElem?_cons_zero, List.getElem?_cons_succ, List.eraseIdx]) ?_
  refine ww_fuse (Cs := [[(o, .inr (8, [.ref b1, .ref b2, .int 0, .int 0]))], [(b1, .inl (cy 2, 41, .inr (.inl (fun _ => 0))))], [(b2, .inl (cy 0, 41, .inl (fun _ => 0)))]]) (Rs := []) (c := gX8 cy o (aG [b1, b2, 0, 0] 1000 (fun _ => 0) 1100 (fun _ => 0)) OV0) rfl rfl ?_
  exact ww_vret h dX8_init_20 hQ ⟨rfl, _, rfl⟩
theorem dX7_init_0 : decode cX7_init 0 = .ok (.aload_n 0, 1) := by decide +kernel
theorem dX7_init_1 : decode cX7_init 1 = .ok (.invokespecial 3, 3) := by decide +kernel
theorem dX7_init_4 : decode cX7_init 4 = .ok (.aload_n 0, 1) := by decide +kernel
theorem dX7_init_5 : decode cX7_init 5 = .ok (.bipush 41, 2) := by decide +kernel
theorem dX7_init_7 : decode cX7_init 7 = .ok (.newarray .int, 2) := by decide +kernel
theorem dX7_init_9 : decode cX7_init 9 = .ok (.putfield 9, 3) := by decide +kernel
theorem dX7_init_12 : decode cX7_init 12 = .ok (.aload_n 0, 1) := by decide +kernel
theorem dX7_init_13 : decode cX7_init 13 = .ok (.bipush 41, 2) := by decide +kernel
theorem dX7_init_15 : decode cX7_init 15 = .ok (.newarray .int, 2) := by decide +kernel
theorem dX7_init_17 : decode cX7_init 17 = .ok (.putfield 15, 3) := by decide +kernel
theorem dX7_init_20 : decode cX7_init 20 = .ok (.aload_n 0, 1) := by decide +kernel
theorem dX7_init_21 : decode cX7_init 21 = .ok (.iconst 4, 1) := by decide +kernel
theorem dX7_init_22 : decode cX7_init 22 = .ok (.bipush 41, 2) := by decide +kernel
theorem dX7_init_24 : decode cX7_init 24 = .ok (.multianewarray 18 2, 4) := by decide +kernel
theorem dX7_init_28 : decode cX7_init 28 = .ok (.putfield 20, 3) := by decide +kernel
theorem dX7_init_31 : decode cX7_init 31 = .ok (.aload_n 0, 1) := by decide +kernel
theorem dX7_init_32 : decode cX7_init 32 = .ok (.iconst 4, 1) := by decide +kernel
theorem dX7_init_33 : decode cX7_init 33 = .ok (.bipush 41, 2) := by decide +kernel
theorem dX7_init_35 : decode cX7_init 35 = .ok (.multianewarray 18 2, 4) := by decide +kernel
theorem dX7_init_39 : decode cX7_init 39 = .ok (.putfield 23, 3) := by decide +kernel
theorem dX7_init_42 : decode cX7_init 42 = .ok (.aload_n 0, 1) := by decide +kernel
theorem dX7_init_43 : decode cX7_init 43 = .ok (.bipush 40, 2) := by decide +kernel
theorem dX7_init_45 : decode cX7_init 45 = .ok (.newarray .int, 2) := by decide +kernel
theorem dX7_init_47 : decode cX7_init 47 = .ok (.putfield 26, 3) := by decide +kernel
theorem dX7_init_50 : decode cX7_init 50 = .ok (.aload_n 0, 1) := by decide +kernel
theorem dX7_init_51 : decode cX7_init 51 = .ok (.bipush 40, 2) := by decide +kernel
theorem dX7_init_53 : decode cX7_init 53 = .ok (.newarray .int, 2) := by decide +kernel
theorem dX7_init_55 : decode cX7_init 55 = .ok (.putfield 29, 3) := by decide +kernel
theorem dX7_init_58 : decode cX7_init 58 = .ok (.aload_n 0, 1) := by decide +kernel
theorem dX7_init_59 : decode cX7_init 59 = .ok (.bipush 40, 2) := by decide +kernel
theorem dX7_init_61 : decode cX7_init 61 = .ok (.newarray .int, 2) := by decide +kernel
theorem dX7_init_63 : decode cX7_init 63 = .ok (.putfield 32, 3) := by decide +kernel
theorem dX7_init_66 : decode cX7_init 66 = .ok (.aload_n 0, 1) := by decide +kernel
theorem dX7_init_67 : decode cX7_init 67 = .ok (.bipush 40, 2) := by decide +kernel
theorem dX7_init_69 : decode cX7_init 69 = .ok (.newarray .boolean, 2) := by decide +kernel
theorem dX7_init_71 : decode cX7_init 71 = .ok (.putfield 35, 3) := by decide +kernel
theorem dX7_init_74 : decode cX7_init 74 = .ok (.aload_n 0, 1) := by decide +kernel
theorem dX7_init_75 : decode cX7_init 75 = .ok (.bipush 40, 2) := by decide +kernel
theorem dX7_init_77 : decode cX7_init 77 = .ok (.newarray .boolean, 2) := by decide +kernel
theorem dX7_init_79 : decode cX7_init 79 = .ok (.putfield 39, 3) := by decide +kernel
theorem dX7_init_82 : decode cX7_init 82 = .ok (.aload_n 0, 1) := by decide +kernel
theorem dX7_init_83 : decode cX7_init 83 = .ok (.aload_n 1, 1) := by decide +kernel
theorem dX7_init_84 : decode cX7_init 84 = .ok (.putfield 42, 3) := by decide +kernel
theorem dX7_init_87 : decode cX7_init 87 = .ok (.aload_n 0, 1) := by decide +kernel
theorem dX7_init_88 : decode cX7_init 88 = .ok (.aload_n 2, 1) := by decide +kernel
theorem dX7_init_89 : decode cX7_init 89 = .ok (.putfield 46, 3) := by decide +kernel
theorem dX7_init_92 : decode cX7_init 92 = .ok (.return_, 1) := by decide +kernel
theorem ok_X7_init : okY RX7 yX7_init 2 := ⟨rfl, by decide, by decide, by decide +kernel⟩
def r_X7_init : Room := { frames := 1, cells := 17, slots := 618, locals := 20 }
set_option maxHeartbeats 4000000 in
set_option maxRecDepth 100000 in
theorem c_X7_init (l : Launch) (D : va_G) (ev : EvT) (cy : Nat → ClassId) (o : Nat) (w1 : Nat) (w2 : Nat) : Fn l yX7_init cX7_init 3 none r_X7_init D ev cy [.ref o, .ref w1, .ref w2] [[(o, .inr (7, [.null, .null, .null, .null, .null, .null, .null, .null, .null, .null, .null, .int 0, .int 0, .int 0, .int 0, .int 0, .int 0, .int 0]))]] (fun v G => v = none ∧ ∃ a, G = [gX7 cy o a (sN (sN OV0 0 w1) 1 w2)]) := by
  refine Fn_of (by decide) (Nat.le_of_ble_eq_true rfl) (fun X A Q h hQ hI0 => ?_)
  have hI := hI0 rfl
  clear hI0
  show ww X D A 3 Q 0 0 0 [(0, .ref o), (1, .ref w1), (2, .ref w2)] [] [[(o, .inr (7, [.null, .null, .null, .null, .null, .null, .null, .null, .null, .null, .null, .int 0, .int 0, .int 0, .int 0, .int 0, .int 0, .int 0]))]]
  refine ww_aload_n h dX7_init_0 rfl 0 rfl 1 rfl ?_
  refine ww_objInit h w_263 w_125 w_126 ⟨by decide, Nat.le_of_ble_eq_true rfl⟩ dX7_init_1 4 rfl ?_
  refine ww_aload_n h dX7_init_4 rfl 0 rfl 5 rfl ?_
  refine ww_bipush h dX7_init_5 (v := 41) (by decide) 7 rfl ?_
  refine ww_newa (atype := .int) (a0 := (41, .inl (fun _ => 0))) h 0 rfl rfl rfl w_148 (fun _ => rfl) (by decide) (by decide) (by decide) ⟨by decide, by decide⟩ dX7_init_7 9 rfl rfl rfl (fun b1 => ?_)
  show ww X D A 3 Q 1 41 9 [(0, .ref o), (1, .ref w1), (2, .ref w2)] [.ref b1, .ref o] [[(o, .inr (7, [.null, .null, .null, .null, .null, .null, .null, .null, .null, .null, .null, .int 0, .int 0, .int 0, .int 0, .int 0, .int 0, .int 0]))], [(b1, .inl (cy 0, 41, .inl (fun _ => 0)))]]
  refine ww_putF (ty := (.array .int)) h hI inG7 tyX7_ok nmX7 rfl 0 rfl rfl 2 (by decide) w_267 rfl rfl (by decide +kernel) rfl rfl (Nat.le_of_ble_eq_true rfl) (Nat.le_of_ble_eq_true rfl) dX7_init_9 12 rfl (Gs' := [[(o, .inr (7, [.null, .null, .ref b1, .null, .null, .null, .null, .null, .null, .null, .null, .int 0, .int 0, .int 0, .int 0, .int 0, .int 0, .int 0]))], [(b1, .inl (cy 0, 41, .inl (fun _ => 0)))]]) rfl ?_
  refine ww_aload_n h dX7_init_12 rfl 0 rfl 13 rfl ?_
  refine ww_bipush h dX7_init_13 (v := 41) (by decide) 15 rfl ?_
  refine ww_newa (atype := .int) (a0 := (41, .inl (fun _ => 0))) h 0 rfl rfl rfl w_148 (fun _ => rfl) (by decide) (by decide) (by decide) ⟨by decide, by decide⟩ dX7_init_15 17 rfl rfl rfl (fun b2 => ?_)
  show ww X D A 3 Q 2 82 17 [(0, .ref o), (1, .ref w1), (2, .ref w2)] [.ref b2, .ref o] [[(o, .inr (7, [.null, .null, .ref b1, .null, .null, .null, .null, .null, .null, .null, .null, .int 0, .int 0, .int 0, .int 0, .int 0, .int 0, .int 0]))], [(b1, .inl (cy 0, 41, .inl (fun _ => 0)))], [(b2, .inl (cy 0, 41, .inl (fun _ => 0)))]]
  refine ww_putF (ty := (.array .int)) h hI inG7 tyX7_ok nmX7 rfl 0 rfl rfl 3 (by decide) w_268 rfl rfl (by decide +kernel) rfl rfl (Nat.le_of_ble_eq_true rfl) (Nat.le_of_ble_eq_true rfl) dX7_init_17 20 rfl (Gs' := [[(o, .inr (7, [.null, .null, .ref b1, .ref b2, .null, .null, .null, .null, .null, .null, .null, .int 0, .int 0, .int 0, .int 0, .int 0, .int 0, .int 0]))], [(b1, .inl (cy 0, 41, .inl (fun _ => 0)))], [(b2, .inl (cy 0, 41, .inl (fun _ => 0)))]]) rfl ?_
  refine ww_aload_n h dX7_init_20 rfl 0 rfl 21 rfl ?_
  refine ww_iconst h dX7_init_21 (v := 4) (by decide) 22 rfl ?_
  refine ww_bipush h dX7_init_22 (v := 41) (by decide) 24 rfl ?_
  refine ww_mna h w_264 w_148 (N := 4) (M := 41) (by decide) (by decide) (by decide) (by decide) (by decide) (by decide) ⟨by decide, by decide⟩ dX7_init_24 28 rfl rfl rfl (fun b3 r4 => ?_)
  show ww X D A 3 Q 7 250 28 [(0, .ref o), (1, .ref w1), (2, .ref w2)] [.ref b3, .ref o] [[(o, .inr (7, [.null, .null, .ref b1, .ref b2, .null, .null, .null, .null, .null, .null, .null, .int 0, .int 0, .int 0, .int 0, .int 0, .int 0, .int 0]))], [(b1, .inl (cy 0, 41, .inl (fun _ => 0)))], [(b2, .inl (cy 0, 41, .inl (fun _ => 0)))], [(b3, .inl (cy 4, 4, .inr (.inr (.inr (.inr (fun j => some (r4 j)))))))], (List.range 4).map (fun j => (r4 j, .inl (cy 0, 41, .inl (fun _ => 0))))]
  refine ww_putF (ty := (.array (.array .int))) h hI inG7 tyX7_ok nmX7 rfl 0 rfl rfl 4 (by decide) w_269 rfl rfl (by decide +kernel) rfl rfl (Nat.le_of_ble_eq_true rfl) (Nat.le_of_ble_eq_true rfl) dX7_init_28 31 rfl (Gs' := [[(o, .inr (7, [.null, .null, .ref b1, .ref b2, .ref b3, .null, .null, .null, .null, .null, .null, .int 0, .int 0, .int 0, .int 0, .int 0, .int 0, .int 0]))], [(b1, .inl (cy 0, 41, .inl (fun _ => 0)))], [(b2, .inl (cy 0, 41, .inl (fun _ => 0)))], [(b3, .inl (cy 4, 4, .inr (.inr (.inr (.inr (fun j => some (r4 j)))))))], (List.range 4).map (fun j => (r4 j, .inl (cy 0, 41, .inl (fun _ => 0))))]) rfl ?_
  refine ww_aload_n h dX7_init_31 rfl 0 rfl 32 rfl ?_
  refine ww_iconst h dX7_init_32 (v := 4) (by decide) 33 rfl ?_
  refine ww_bipush h dX7_init_33 (v := 41) (by decide) 35 rfl ?_
  refine ww_mna h w_264 w_148 (N := 4) (M := 41) (by decide) (by decide) (by decide) (by decide) (by decide) (by decide) ⟨by decide, by decide⟩ dX7_init_35 39 rfl rfl rfl (fun b5 r6 => ?_)
  show ww X D A 3 Q 12 418 39 [(0, .ref o), (1, .ref w1), (2, .ref w2)] [.ref b5, .ref o] [[(o, .inr (7, [.null, .null, .ref b1, .ref b2, .ref b3, .null, .null, .null, .null, .null, .null, .int 0, .int 0, .int 0, .int 0, .int 0, .int 0, .int 0]))], [(b1, .inl (cy 0, 41, .inl (fun _ => 0)))], [(b2, .inl (cy 0, 41, .inl (fun _ => 0)))], [(b3, .inl (cy 4, 4, .inr (.inr (.inr (.inr (fun j => some (r4 j)))))))], (List.range 4).map (fun j => (r4 j, .inl (cy 0, 41, .inl (fun _ => 0)))), [(b5, .inl (cy 4, 4, .inr (.inr (.inr (.inr (fun j => some (r6 j)))))))], (List.range 4).map (fun j => (r6 j, .inl (cy 0, 41, .inl (fun _ => 0))))]
  refine ww_putF (ty := (.array (.array .int))) h hI inG7 tyX7_ok nmX7 rfl 0 rfl rfl 5 (by decide) w_270 rfl rfl (by decide +kernel) rfl rfl (Nat.le_of_ble_eq_true rfl) (Nat.le_of_ble_eq_true rfl) dX7_init_39 42 rfl (Gs' := [[(o, .inr (7, [.null, .null, .ref b1, .ref b2, .ref b3, .ref b5, .null, .null, .null, .null, .null, .int 0, .int 0, .int 0, .int 0, .int 0, .int 0, .int 0]))], [(b1, .inl (cy 0, 41, .inl (fun _ => 0)))], [(b2, .inl (cy 0, 41, .inl (fun _ => 0)))], [(b3, .inl (cy 4, 4, .inr (.inr (.inr (.inr (fun j => some (r4 j)))))))], (List.range 4).map (fun j => (r4 j, .inl (cy 0, 41, .inl (fun _ => 0)))), [(b5, .inl (cy 4, 4, .inr (.inr (.inr (.inr (fun j => some (r6 j)))))))], (List.range 4).map (fun j => (r6 j, .inl (cy 0, 41, .inl (fun _ => 0))))]) rfl ?_
  refine ww_aload_n h dX7_init_42 rfl 0 rfl 43 rfl ?_
  refine ww_bipush h dX7_init_43 (v := 40) (by decide) 45 rfl ?_
  refine ww_newa (atype := .int) (a0 := (40, .inl (fun _ => 0))) h 0 rfl rfl rfl w_148 (fun _ => rfl) (by decide) (by decide) (by decide) ⟨by decide, by decide⟩ dX7_init_45 47 rfl rfl rfl (fun b7 => ?_)
  show ww X D A 3 Q 13 458 47 [(0, .ref o), (1, .ref w1), (2, .ref w2)] [.ref b7, .ref o] [[(o, .inr (7, [.null, .null, .ref b1, .ref b2, .ref b3, .ref b5, .null, .null, .null, .null, .null, .int 0, .int 0, .int 0, .int 0, .int 0, .int 0, .int 0]))], [(b1, .inl (cy 0, 41, .inl (fun _ => 0)))], [(b2, .inl (cy 0, 41, .inl (fun _ => 0)))], [(b3, .inl (cy 4, 4, .inr (.inr (.inr (.inr (fun j => some (r4 j)))))))], (List.range 4).map (fun j => (r4 j, .inl (cy 0, 41, .inl (fun _ => 0)))), [(b5, .inl (cy 4, 4, .inr (.inr (.inr (.inr (fun j => some (r6 j)))))))], (List.range 4).map (fun j => (r6 j, .inl (cy 0, 41, .inl (fun _ => 0)))), [(b7, .inl (cy 0, 40, .inl (fun _ => 0)))]]
  refine ww_putF (ty := (.array .int)) h hI inG7 tyX7_ok nmX7 rfl 0 rfl rfl 6 (by decide) w_271 rfl rfl (by decide +kernel) rfl rfl (Nat.le_of_ble_eq_true rfl) (Nat.le_of_ble_eq_true rfl) dX7_init_47 50 rfl (Gs' := [[(o, .inr (7, [.null, .null, .ref b1, .ref b2, .ref b3, .ref b5, .ref b7, .null, .null, .null, .null, .int 0, .int 0, .int 0, .int 0, .int 0, .int 0, .int 0]))], [(b1, .inl (cy 0, 41, .inl (fun _ => 0)))], [(b2, .inl (cy 0, 41, .inl (fun _ => 0)))], [(b3, .inl (cy 4, 4, .inr (.inr (.inr (.inr (fun j => some (r4 j)))))))], (List.range 4).map (fun j => (r4 j, .inl (cy 0, 41, .inl (fun _ => 0)))), [(b5, .inl (cy 4, 4, .inr (.inr (.inr (.inr (fun j => some (r6 j)))))))], (List.range 4).map (fun j => (r6 j, .inl (cy 0, 41, .inl (fun _ => 0)))), [(b7, .inl (cy 0, 40, .inl (fun _ => 0)))]]) rfl ?_
  refine ww_aload_n h dX7_init_50 rfl 0 rfl 51 rfl ?_
  refine ww_bipush h dX7_init_51 (v := 40) (by decide) 53 rfl ?_
  refine ww_newa (atype := .int) (a0 := (40, .inl (fun _ => 0))) h 0 rfl rfl rfl w_148 (fun _ => rfl) (by decide) (by decide) (by decide) ⟨by decide, by decide⟩ dX7_init_53 55 rfl rfl rfl (fun b8 => ?_)
  show ww X D A 3 Q 14 498 55 [(0, .ref o), (1, .ref w1), (2, .ref w2)] [.ref b8, .ref o] [[(o, .inr (7, [.null, .null, .ref b1, .ref b2, .ref b3, .ref b5, .ref b7, .null, .null, .null, .null, .int 0, .int 0, .int 0, .int 0, .int 0, .int 0, .int 0]))], [(b1, .inl (cy 0, 41, .inl (fun _ => 0)))], [(b2, .inl (cy 0, 41, .inl (fun _ => 0)))], [(b3, .inl (cy 4, 4, .inr (.inr (.inr (.inr (fun j => some (r4 j)))))))], (List.range 4).map (fun j => (r4 j, .inl (cy 0, 41, .inl (fun _ => 0)))), [(b5, .inl (cy 4, 4, .inr (.inr (.inr (.inr (fun j => some (r6 j)))))))], (List.range 4).map (fun j => (r6 j, .inl (cy 0, 41, .inl (fun _ => 0)))), [(b7, .inl (cy 0, 40, .inl (fun _ => 0)))], [(b8, .inl (cy 0, 40, .inl (fun _ => 0)))]]
  refine ww_putF (ty := (.array .int)) h hI inG7 tyX7_ok nmX7 rfl 0 rfl rfl 7 (by decide) w_272 rfl rfl (by decide +kernel) rfl rfl (Nat.le_of_ble_eq_true rfl) (Nat.le_of_ble_eq_true rfl) dX7_init_55 58 rfl (Gs' := [[(o, .inr (7, [.null, .null, .ref b1, .ref b2, .ref b3, .ref b5, .ref b7, .ref b8, .null, .null, .null, .int 0, .int 0, .int 0, .int 0, .int 0, .int 0, .int 0]))], [(b1, .inl (cy 0, 41, .inl (fun _ => 0)))], [(b2, .inl (cy 0, 41, .inl (fun _ => 0)))], [(b3, .inl (cy 4, 4, .inr (.inr (.inr (.inr (fun j => some (r4 j)))))))], (List.range 4).map (fun j => (r4 j, .inl (cy 0, 41, .inl (fun _ => 0)))), [(b5, .inl (cy 4, 4, .inr (.inr (.inr (.inr (fun j => some (r6 j)))))))], (List.range 4).map (fun j => (r6 j, .inl (cy 0, 41, .inl (fun _ => 0)))), [(b7, .inl (cy 0, 40, .inl (fun _ => 0)))], [(b8, .inl (cy 0, 40, .inl (fun _ => 0)))]]) rfl ?_
  refine ww_aload_n h dX7_init_58 rfl 0 rfl 59 rfl ?_
  refine ww_bipush h dX7_init_59 (v := 40) (by decide) 61 rfl ?_
  refine ww_newa (atype := .int) (a0 := (40, .inl (fun _ => 0))) h 0 rfl rfl rfl w_148 (fun _ => rfl) (by decide) (by decide) (by decide) ⟨by decide, by decide⟩ dX7_init_61 63 rfl rfl rfl (fun b9 => ?_)
  show ww X D A 3 Q 15 538 63 [(0, .ref o), (1, .ref w1), (2, .ref w2)] [.ref b9, .ref o] [[(o, .inr (7, [.null, .null, .ref b1, .ref b2, .ref b3, .ref b5, .ref b7, .ref b8, .null, .null, .null, .int 0, .int 0, .int 0, .int 0, .int 0, .int 0, .int 0]))], [(b1, .inl (cy 0, 41, .inl (fun _ => 0)))], [(b2, .inl (cy 0, 41, .inl (fun _ => 0)))], [(b3, .inl (cy 4, 4, .inr (.inr (.inr (.inr (fun j => some (r4 j)))))))], (List.range 4).map (fun j => (r4 j, .inl (cy 0, 41, .inl (fun _ => 0)))), [(b5, .inl (cy 4, 4, .inr (.inr (.inr (.inr (fun j => some (r6 j)))))))], (List.range 4).map (fun j => (r6 j, .inl (cy 0, 41, .inl (fun _ => 0)))), [(b7, .inl (cy 0, 40, .inl (fun _ => 0)))], [(b8, .inl (cy 0, 40, .inl (fun _ => 0)))], [(b9, .inl (cy 0, 40, .inl (fun _ => 0)))]]
  refine ww_putF (ty := (.array .int)) h hI inG7 tyX7_ok nmX7 rfl 0 rfl rfl 8 (by decide) w_273 rfl rfl (by decide +kernel) rfl rfl (Nat.le_of_ble_eq_true rfl) (Nat.le_of_ble_eq_true rfl) dX7_init_63 66 rfl (Gs' := [[(o, .inr (7, [.null, .null, .ref b1, .ref b2, .ref b3, .ref b5, .ref b7, .ref b8, .ref b9, .null, .null, .int 0, .int 0, .int 0, .int 0, .int 0, .int 0, .int 0]))], [(b1, .inl (cy 0, 41, .inl (fun _ => 0)))], [(b2, .inl (cy 0, 41, .inl (fun _ => 0)))], [(b3, .inl (cy 4, 4, .inr (.inr (.inr (.inr (fun j => some (r4 j)))))))], (List.range 4).map (fun j => (r4 j, .inl (cy 0, 41, .inl (fun _ => 0)))), [(b5, .inl (cy 4, 4, .inr (.inr (.inr (.inr (fun j => some (r6 j)))))))], (List.range 4).map (fun j => (r6 j, .inl (cy 0, 41, .inl (fun _ => 0)))), [(b7, .inl (cy 0, 40, .inl (fun _ => 0)))], [(b8, .inl (cy 0, 40, .inl (fun _ => 0)))], [(b9, .inl (cy 0, 40, .inl (fun _ => 0)))]]) rfl ?_
  refine ww_aload_n h dX7_init_66 rfl 0 rfl 67 rfl ?_
  refine ww_bipush h dX7_init_67 (v := 40) (by decide) 69 rfl ?_
  refine ww_newa (atype := .boolean) (a0 := (40, .inl (fun _ => 0))) h 1 rfl rfl rfl w_333 (fun _ => rfl) (by decide) (by decide) (by decide) ⟨by decide, by decide⟩ dX7_init_69 71 rfl rfl rfl (fun b10 => ?_)
  show ww X D A 3 Q 16 578 71 [(0, .ref o), (1, .ref w1), (2, .ref w2)] [.ref b10, .ref o] [[(o, .inr (7, [.null, .null, .ref b1, .ref b2, .ref b3, .ref b5, .ref b7, .ref b8, .ref b9, .null, .null, .int 0, .int 0, .int 0, .int 0, .int 0, .int 0, .int 0]))], [(b1, .inl (cy 0, 41, .inl (fun _ => 0)))], [(b2, .inl (cy 0, 41, .inl (fun _ => 0)))], [(b3, .inl (cy 4, 4, .inr (.inr (.inr (.inr (fun j => some (r4 j)))))))], (List.range 4).map (fun j => (r4 j, .inl (cy 0, 41, .inl (fun _ => 0)))), [(b5, .inl (cy 4, 4, .inr (.inr (.inr (.inr (fun j => some (r6 j)))))))], (List.range 4).map (fun j => (r6 j, .inl (cy 0, 41, .inl (fun _ => 0)))), [(b7, .inl (cy 0, 40, .inl (fun _ => 0)))], [(b8, .inl (cy 0, 40, .inl (fun _ => 0)))], [(b9, .inl (cy 0, 40, .inl (fun _ => 0)))], [(b10, .inl (cy 1, 40, .inl (fun _ => 0)))]]
  refine ww_putF (ty := (.array .boolean)) h hI inG7 tyX7_ok nmX7 rfl 0 rfl rfl 9 (by decide) w_274 rfl rfl (by decide +kernel) rfl rfl (Nat.le_of_ble_eq_true rfl) (Nat.le_of_ble_eq_true rfl) dX7_init_71 74 rfl (Gs' := [[(o, .inr (7, [.null, .null, .ref b1, .ref b2, .ref b3, .ref b5, .ref b7, .ref b8, .ref b9, .ref b10, .null, .int 0, .int 0, .int 0, .int 0, .int 0, .int 0, .int 0]))], [(b1, .inl (cy 0, 41, .inl (fun _ => 0)))], [(b2, .inl (cy 0, 41, .inl (fun _ => 0)))], [(b3, .inl (cy 4, 4, .inr (.inr (.inr (.inr (fun j => some (r4 j)))))))], (List.range 4).map (fun j => (r4 j, .inl (cy 0, 41, .inl (fun _ => 0)))), [(b5, .inl (cy 4, 4, .inr (.inr (.inr (.inr (fun j => some (r6 j)))))))], (List.range 4).map (fun j => (r6 j, .inl (cy 0, 41, .inl (fun _ => 0)))), [(b7, .inl (cy 0, 40, .inl (fun _ => 0)))], [(b8, .inl (cy 0, 40, .inl (fun _ => 0)))], [(b9, .inl (cy 0, 40, .inl (fun _ => 0)))], [(b10, .inl (cy 1, 40, .inl (fun _ => 0)))]]) rfl ?_
  refine ww_aload_n h dX7_init_74 rfl 0 rfl 75 rfl ?_
  refine ww_bipush h dX7_init_75 (v := 40) (by decide) 77 rfl ?_
  refine ww_newa (atype := .boolean) (a0 := (40, .inl (fun _ => 0))) h 1 rfl rfl rfl w_333 (fun _ => rfl) (by decide) (by decide) (by decide) ⟨by decide, by decide⟩ dX7_init_77 79 rfl rfl rfl (fun b11 => ?_)
  show ww X D A 3 Q 17 618 79 [(0, .ref o), (1, .ref w1), (2, .ref w2)] [.ref b11, .ref o] [[(o, .inr (7, [.null, .null, .ref b1, .ref b2, .ref b3, .ref b5, .ref b7, .ref b8, .ref b9, .ref b10, .null, .int 0, .int 0, .int 0, .int 0, .int 0, .int 0, .int 0]))], [(b1, .inl (cy 0, 41, .inl (fun _ => 0)))], [(b2, .inl (cy 0, 41, .inl (fun _ => 0)))], [(b3, .inl (cy 4, 4, .inr (.inr (.inr (.inr (fun j => some (r4 j)))))))], (List.range 4).map (fun j => (r4 j, .inl (cy 0, 41, .inl (fun _ => 0)))), [(b5, .inl (cy 4, 4, .inr (.inr (.inr (.inr (fun j => some (r6 j)))))))], (List.range 4).map (fun j => (r6 j, .inl (cy 0, 41, .inl (fun _ => 0)))), [(b7, .inl (cy 0, 40, .inl (fun _ => 0)))], [(b8, .inl (cy 0, 40, .inl (fun _ => 0)))], [(b9, .inl (cy 0, 40, .inl (fun _ => 0)))], [(b10, .inl (cy 1, 40, .inl (fun _ => 0)))], [(b11, .inl (cy 1, 40, .inl (fun _ => 0)))]]
  refine ww_putF (ty := (.array .boolean)) h hI inG7 tyX7_ok nmX7 rfl 0 rfl rfl 10 (by decide) w_275 rfl rfl (by decide +kernel) rfl rfl (Nat.le_of_ble_eq_true rfl) (Nat.le_of_ble_eq_true rfl) dX7_init_79 82 rfl (Gs' := [[(o, .inr (7, [.null, .null, .ref b1, .ref b2, .ref b3, .ref b5, .ref b7, .ref b8, .ref b9, .ref b10, .ref b11, .int 0, .int 0, .int 0, .int 0, .int 0, .int 0, .int 0]))], [(b1, .inl (cy 0, 41, .inl (fun _ => 0)))], [(b2, .inl (cy 0, 41, .inl (fun _ => 0)))], [(b3, .inl (cy 4, 4, .inr (.inr (.inr (.inr (fun j => some (r4 j)))))))], (List.range 4).map (fun j => (r4 j, .inl (cy 0, 41, .inl (fun _ => 0)))), [(b5, .inl (cy 4, 4, .inr (.inr (.inr (.inr (fun j => some (r6 j)))))))], (List.range 4).map (fun j => (r6 j, .inl (cy 0, 41, .inl (fun _ => 0)))), [(b7, .inl (cy 0, 40, .inl (fun _ => 0)))], [(b8, .inl (cy 0, 40, .inl (fun _ => 0)))], [(b9, .inl (cy 0, 40, .inl (fun _ => 0)))], [(b10, .inl (cy 1, 40, .inl (fun _ => 0)))], [(b11, .inl (cy 1, 40, .inl (fun _ => 0)))]]) rfl ?_
  refine ww_aload_n h dX7_init_82 rfl 0 rfl 83 rfl ?_
  refine ww_aload_n h dX7_init_83 rfl 1 rfl 84 rfl ?_
  refine ww_put (ty := (.object "LineEnds$Classes")) h inG7 tyX7_ok nmX7 rfl 0 rfl rfl 0 (by decide) w_265 rfl (by decide +kernel) rfl rfl (Nat.le_of_ble_eq_true rfl) (Nat.le_of_ble_eq_true rfl) dX7_init_84 87 rfl ?_
  show ww X D A 3 Q 17 618 87 [(0, .ref o), (1, .ref w1), (2, .ref w2)] [] [[(o, .inr (7, [.ref w1, .null, .ref b1, .ref b2, .ref b3, .ref b5, .ref b7, .ref b8, .ref b9, .ref b10, .ref b11, .int 0, .int 0, .int 0, .int 0, .int 0, .int 0, .int 0]))], [(b1, .inl (cy 0, 41, .inl (fun _ => 0)))], [(b2, .inl (cy 0, 41, .inl (fun _ => 0)))], [(b3, .inl (cy 4, 4, .inr (.inr (.inr (.inr (fun j => some (r4 j)))))))], (List.range 4).map (fun j => (r4 j, .inl (cy 0, 41, .inl (fun _ => 0)))), [(b5, .inl (cy 4, 4, .inr (.inr (.inr (.inr (fun j => some (r6 j)))))))], (List.range 4).map (fun j => (r6 j, .inl (cy 0, 41, .inl (fun _ => 0)))), [(b7, .inl (cy 0, 40, .inl (fun _ => 0)))], [(b8, .inl (cy 0, 40, .inl (fun _ => 0)))], [(b9, .inl (cy 0, 40, .inl (fun _ => 0)))], [(b10, .inl (cy 1, 40, .inl (fun _ => 0)))], [(b11, .inl (cy 1, 40, .inl (fun _ => 0)))]]
  refine ww_aload_n h dX7_init_87 rfl 0 rfl 88 rfl ?_
  refine ww_aload_n h dX7_init_88 rfl 2 rfl 89 rfl ?_
  refine ww_put (ty := (.object "LineEnds$Page")) h inG7 tyX7_ok nmX7 rfl 0 rfl rfl 1 (by decide) w_266 rfl (by decide +kernel) rfl rfl (Nat.le_of_ble_eq_true rfl) (Nat.le_of_ble_eq_true rfl) dX7_init_89 92 rfl ?_
  show ww X D A 3 Q 17 618 92 [(0, .ref o), (1, .ref w1), (2, .ref w2)] [] [[(o, .inr (7, [.ref w1, .ref w2, .ref b1, .ref b2, .ref b3, .ref b5, .ref b7, .ref b8, .ref b9, .ref b10, .ref b11, .int 0, .int 0, .int 0, .int 0, .int 0, .int 0, .int 0]))], [(b1, .inl (cy 0, 41, .inl (fun _ => 0)))], [(b2, .inl (cy 0, 41, .inl (fun _ => 0)))], [(b3, .inl (cy 4, 4, .inr (.inr (.inr (.inr (fun j => some (r4 j)))))))], (List.range 4).map (fun j => (r4 j, .inl (cy 0, 41, .inl (fun _ => 0)))), [(b5, .inl (cy 4, 4, .inr (.inr (.inr (.inr (fun j => some (r6 j)))))))], (List.range 4).map (fun j => (r6 j, .inl (cy 0, 41, .inl (fun _ => 0)))), [(b7, .inl (cy 0, 40, .inl (fun _ => 0)))], [(b8, .inl (cy 0, 40, .inl (fun _ => 0)))], [(b9, .inl (cy 0, 40, .inl (fun _ => 0)))], [(b10, .inl (cy 1, 40, .inl (fun _ => 0)))], [(b11, .inl (cy 1, 40, .inl (fun _ => 0)))]]
  refine ww_q 3 rfl (fun j => some ((aG [0, 0, b1, b2, b3, b5, b7, b8, b9, b10, b11, 0, 0, 0, 0, 0, 0, 0] 500 r4 600 r6) (500 + j))) (fun j hj => congrArg some (aG_1 (by omega) (by omega) (by omega)).symm) (Gs' := [[(o, .inr (7, [.ref w1, .ref w2, .ref b1, .ref b2, .ref b3, .ref b5, .ref b7, .ref b8, .ref b9, .ref b10, .ref b11, .int 0, .int 0, .int 0, .int 0, .int 0, .int 0, .int 0]))], [(b1, .inl (cy 0, 41, .inl (fun _ => 0)))], [(b2, .inl (cy 0, 41, .inl (fun _ => 0)))], [(b3, .inl (cy 4, 4, .inr (.inr (.inr (.inr (fun j => some ((aG [0, 0, b1, b2, b3, b5, b7, b8, b9, b10, b11, 0, 0, 0, 0, 0, 0, 0] 500 r4 600 r6) (500 + j))))))))], (List.range 4).map (fun j => (r4 j, .inl (cy 0, 41, .inl (fun _ => 0)))), [(b5, .inl (cy 4, 4, .inr (.inr (.inr (.inr (fun j => some (r6 j)))))))], (List.range 4).map (fun j => (r6 j, .inl (cy 0, 41, .inl (fun _ => 0)))), [(b7, .inl (cy 0, 40, .inl (fun _ => 0)))], [(b8, .inl (cy 0, 40, .inl (fun _ => 0)))], [(b9, .inl (cy 0, 40, .inl (fun _ => 0)))], [(b10, .inl (cy 1, 40, .inl (fun _ => 0)))], [(b11, .inl (cy 1, 40, .inl (fun _ => 0)))]]) rfl ?_
  refine ww_q 5 rfl (fun j => some ((aG [0, 0, b1, b2, b3, b5, b7, b8, b9, b10, b11, 0, 0, 0, 0, 0, 0, 0] 500 r4 600 r6) (600 + j))) (fun j hj => congrArg some (aG_2 (by omega) (by omega)).symm) (Gs' := [[(o, .inr (7, [.ref w1, .ref w2, .ref b1, .ref b2, .ref b3, .ref b5, .ref b7, .ref b8, .ref b9, .ref b10, .ref b11, .int 0, .int 0, .int 0, .int 0, .int 0, .int 0, .int 0]))], [(b1, .inl (cy 0, 41, .inl (fun _ => 0)))], [(b2, .inl (cy 0, 41, .inl (fun _ => 0)))], [(b3, .inl (cy 4, 4, .inr (.inr (.inr (.inr (fun j => some ((aG [0, 0, b1, b2, b3, b5, b7, b8, b9, b10, b11, 0, 0, 0, 0, 0, 0, 0] 500 r4 600 r6) (500 + j))))))))], (List.range 4).map (fun j => (r4 j, .inl (cy 0, 41, .inl (fun _ => 0)))), [(b5, .inl (cy 4, 4, .inr (.inr (.inr (.inr (fun j => some ((aG [0, 0, b1, b2, b3, b5, b7, b8, b9, b10, b11, 0, 0, 0, 0, 0, 0, 0] 500 r4 600 r6) (600 + j))))))))], (List.range 4).map (fun j => (r6 j, .inl (cy 0, 41, .inl (fun _ => 0)))), [(b7, .inl (cy 0, 40, .inl (fun _ => 0)))], [(b8, .inl (cy 0, 40, .inl (fun _ => 0)))], [(b9, .inl (cy 0, 40, .inl (fun _ => 0)))], [(b10, .inl (cy 1, 40, .inl (fun _ => 0)))], [(b11, .inl (cy 1, 40, .inl (fun _ => 0)))]]) rfl ?_
  refine ww_perm [0, 0, 0, 0, 1, 2, 2, 2, 2, 2, 0, 0] (Gs' := [[(o, .inr (7, [.ref w1, .ref w2, .ref b1, .ref b2, .ref b3, .ref b5, .ref b7, .ref b8, .ref b9, .ref b10, .ref b11, .int 0, .int 0, .int 0, .int 0, .int 0, .int 0, .int 0]))], [(b1, .inl (cy 0, 41, .inl (fun _ => 0)))], [(b2, .inl (cy 0, 41, .inl (fun _ => 0)))], [(b3, .inl (cy 4, 4, .inr (.inr (.inr (.inr (fun j => some ((aG [0, 0, b1, b2, b3, b5, b7, b8, b9, b10, b11, 0, 0, 0, 0, 0, 0, 0] 500 r4 600 r6) (500 + j))))))))], [(b5, .inl (cy 4, 4, .inr (.inr (.inr (.inr (fun j => some ((aG [0, 0, b1, b2, b3, b5, b7, b8, b9, b10, b11, 0, 0, 0, 0, 0, 0, 0] 500 r4 600 r6) (600 + j))))))))], [(b7, .inl (cy 0, 40, .inl (fun _ => 0)))], [(b8, .inl (cy 0, 40, .inl (fun _ => 0)))], [(b9, .inl (cy 0, 40, .inl (fun _ => 0)))], [(b10, .inl (cy 1, 40, .inl (fun _ => 0)))], [(b11, .inl (cy 1, 40, .inl (fun _ => 0)))], (List.range 4).map (fun j => (r4 j, .inl (cy 0, 41, .inl (fun _ => 0)))), (List.range 4).map (fun j => (r6 j, .inl (cy 0, 41, .inl (fun _ => 0))))]) (by simp only [pk_g, List.getElem?_cons_zero, List.getElem?_cons_succ, List.eraseIdx]) ?_
  refine ww_fuse (Cs := [[(o, .inr (7, [.ref w1, .ref w2, .ref b1, .ref b2, .ref b3, .ref b5, .ref b7, .ref b8, .ref b9, .ref b10, .ref b11, .int 0, .int 0, .int 0, .int 0, .int 0, .int 0, .int 0]))], [(b1, .inl (cy 0, 41, .inl (fun _ => 0)))], [(b2, .inl (cy 0, 41, .inl (fun _ => 0)))], [(b3, .inl (cy 4, 4, .inr (.inr (.inr (.inr (fun j => some ((aG [0, 0, b1, b2, b3, b5, b7, b8, b9, b10, b11, 0, 0, 0, 0, 0, 0, 0] 500 r4 600 r6) (500 + j))))))))], [(b5, .inl (cy 4, 4, .inr (.inr (.inr (.inr (fun j => some ((aG [0, 0, b1, b2, b3, b5, b7, b8, b9, b10, b11, 0, 0, 0, 0, 0, 0, 0] 500 r4 600 r6) (600 + j))))))))], [(b7, .inl (cy 0, 40, .inl (fun _ => 0)))], [(b8, .inl (cy 0, 40, .inl (fun _ => 0)))], [(b9, .inl (cy 0, 40, .inl (fun _ => 0)))], [(b10, .inl (cy 1, 40, .inl (fun _ => 0)))], [(b11, .inl (cy 1, 40, .inl (fun _ => 0)))], (List.range 4).map (fun j => (r4 j, .inl (cy 0, 41, .inl (fun _ => 0)))), (List.range 4).map (fun j => (r6 j, .inl (cy 0, 41, .inl (fun _ => 0))))]) (Rs := []) (c := gX7 cy o (aG [0, 0, b1, b2, b3, b5, b7, b8, b9, b10, b11, 0, 0, 0, 0, 0, 0, 0] 500 r4 600 r6) (sN (sN OV0 0 w1) 1 w2)) rfl rfl ?_
  exact ww_vret h dX7_init_92 hQ ⟨rfl, _, rfl⟩
theorem dX6_init_0 : decode cX6_init 0 = .ok (.aload_n 0, 1) := by decide +kernel
theorem dX6_init_1 : decode cX6_init 1 = .ok (.invokespecial 3, 3) := by decide +kernel
theorem dX6_init_4 : decode cX6_init 4 = .ok (.aload_n 0, 1) := by decide +kernel
theorem dX6_init_5 : decode cX6_init 5 = .ok (.aload_n 1, 1) := by decide +kernel
theorem dX6_init_6 : decode cX6_init 6 = .ok (.putfield 9, 3) := by decide +kernel
theorem dX6_init_9 : decode cX6_init 9 = .ok (.aload_n 0, 1) := by decide +kernel
theorem dX6_init_10 : decode cX6_init 10 = .ok (.aload_n 2, 1) := by decide +kernel
theorem dX6_init_11 : decode cX6_init 11 = .ok (.putfield 15, 3) := by decide +kernel
theorem dX6_init_14 : decode cX6_init 14 = .ok (.aload_n 0, 1) := by decide +kernel
theorem dX6_init_15 : decode cX6_init 15 = .ok (.iconst 0, 1) := by decide +kernel
theorem dX6_init_16 : decode cX6_init 16 = .ok (.putfield 19, 3) := by decide +kernel
theorem dX6_init_19 : decode cX6_init 19 = .ok (.aload_n 0, 1) := by decide +kernel
theorem dX6_init_20 : decode cX6_init 20 = .ok (.iconst 0, 1) := by decide +kernel
theorem dX6_init_21 : decode cX6_init 21 = .ok (.putfield 23, 3) := by decide +kernel
theorem dX6_init_24 : decode cX6_init 24 = .ok (.aload_n 0, 1) := by decide +kernel
theorem dX6_init_25 : decode cX6_init 25 = .ok (.iconst 0, 1) := by decide +kernel
theorem dX6_init_26 : decode cX6_init 26 = .ok (.putfield 26, 3) := by decide +kernel
theorem dX6_init_29 : decode cX6_init 29 = .ok (.aload_n 0, 1) := by decide +kernel
theorem dX6_init_30 : decode cX6_init 30 = .ok (.iconst (-1), 1) := by decide +kernel
theorem dX6_init_31 : decode cX6_init 31 = .ok (.putfield 29, 3) := by decide +kernel
theorem dX6_init_34 : decode cX6_init 34 = .ok (.return_, 1) := by decide +kernel
theorem ok_X6_init : okY RX6 yX6_init 2 := ⟨rfl, by decide, by decide, by decide +kernel⟩
def r_X6_init : Room := { frames := 1, cells := 0, slots := 0, locals := 20 }
set_option maxHeartbeats 4000000 in
set_option maxRecDepth 100000 in
theorem c_X6_init (l : Launch) (D : va_G) (ev : EvT) (cy : Nat → ClassId) (o : Nat) (w1 : Nat) (w2 : Nat) : Fn l yX6_init cX6_init 3 none r_X6_init D ev cy [.ref o, .ref w1, .ref w2] [[(o, .inr (6, [.null, .null, .int 0, .int 0, .int 0, .int 0]))]] (fun v G => v = none ∧ G = [gX6 cy o (rdA w1 w2) RD0]) := by
  refine Fn_of (by decide) (Nat.le_of_ble_eq_true rfl) (fun X A Q h hQ hI0 => ?_)
  have hI := hI0 rfl
  clear hI0
  show ww X D A 3 Q 0 0 0 [(0, .ref o), (1, .ref w1), (2, .ref w2)] [] [[(o, .inr (6, [.null, .null, .int 0, .int 0, .int 0, .int 0]))]]
  refine ww_aload_n h dX6_init_0 rfl 0 rfl 1 rfl ?_
  refine ww_objInit h w_478 w_125 w_126 ⟨by decide, Nat.le_of_ble_eq_true rfl⟩ dX6_init_1 4 rfl ?_
  refine ww_aload_n h dX6_init_4 rfl 0 rfl 5 rfl ?_
  refine ww_aload_n h dX6_init_5 rfl 1 rfl 6 rfl ?_
  refine ww_putF (ty := (.object "LineEnds$Bytes")) h hI inG6 tyX6_ok nmX6 rfl 0 rfl rfl 0 (by decide) w_479 rfl rfl (by decide +kernel) rfl rfl (Nat.le_of_ble_eq_true rfl) (Nat.le_of_ble_eq_true rfl) dX6_init_6 9 rfl (Gs' := [[(o, .inr (6, [.ref w1, .null, .int 0, .int 0, .int 0, .int 0]))]]) rfl ?_
  refine ww_aload_n h dX6_init_9 rfl 0 rfl 10 rfl ?_
  refine ww_aload_n h dX6_init_10 rfl 2 rfl 11 rfl ?_
  refine ww_putF (ty := (.object "LineEnds$Classes")) h hI inG6 tyX6_ok nmX6 rfl 0 rfl rfl 1 (by decide) w_480 rfl rfl (by decide +kernel) rfl rfl (Nat.le_of_ble_eq_true rfl) (Nat.le_of_ble_eq_true rfl) dX6_init_11 14 rfl (Gs' := [[(o, .inr (6, [.ref w1, .ref w2, .int 0, .int 0, .int 0, .int 0]))]]) rfl ?_
  refine ww_aload_n h dX6_init_14 rfl 0 rfl 15 rfl ?_
  refine ww_iconst h dX6_init_15 (v := 0) (by decide) 16 rfl ?_
  refine ww_put (ty := .int) h inG6 tyX6_ok nmX6 rfl 0 rfl rfl 2 (by decide) w_481 rfl (by decide +kernel) rfl rfl (Nat.le_of_ble_eq_true rfl) (Nat.le_of_ble_eq_true rfl) dX6_init_16 19 rfl ?_
  show ww X D A 3 Q 0 0 19 [(0, .ref o), (1, .ref w1), (2, .ref w2)] [] [[(o, .inr (6, [.ref w1, .ref w2, .int 0, .int 0, .int 0, .int 0]))]]
  refine ww_aload_n h dX6_init_19 rfl 0 rfl 20 rfl ?_
  refine ww_iconst h dX6_init_20 (v := 0) (by decide) 21 rfl ?_
  refine ww_put (ty := .int) h inG6 tyX6_ok nmX6 rfl 0 rfl rfl 3 (by decide) w_482 rfl (by decide +kernel) rfl rfl (Nat.le_of_ble_eq_true rfl) (Nat.le_of_ble_eq_true rfl) dX6_init_21 24 rfl ?_
  show ww X D A 3 Q 0 0 24 [(0, .ref o), (1, .ref w1), (2, .ref w2)] [] [[(o, .inr (6, [.ref w1, .ref w2, .int 0, .int 0, .int 0, .int 0]))]]
  refine ww_aload_n h dX6_init_24 rfl 0 rfl 25 rfl ?_
  refine ww_iconst h dX6_init_25 (v := 0) (by decide) 26 rfl ?_
  refine ww_put (ty := .int) h inG6 tyX6_ok nmX6 rfl 0 rfl rfl 4 (by decide) w_483 rfl (by decide +kernel) rfl rfl (Nat.le_of_ble_eq_true rfl) (Nat.le_of_ble_eq_true rfl) dX6_init_26 29 rfl ?_
  show ww X D A 3 Q 0 0 29 [(0, .ref o), (1, .ref w1), (2, .ref w2)] [] [[(o, .inr (6, [.ref w1, .ref w2, .int 0, .int 0, .int 0, .int 0]))]]
  refine ww_aload_n h dX6_init_29 rfl 0 rfl 30 rfl ?_
  refine ww_iconst h dX6_init_30 (v := -1) (by decide) 31 rfl ?_
  refine ww_put (ty := .int) h inG6 tyX6_ok nmX6 rfl 0 rfl rfl 5 (by decide) w_484 rfl (by decide +kernel) rfl rfl (Nat.le_of_ble_eq_true rfl) (Nat.le_of_ble_eq_true rfl) dX6_init_31 34 rfl ?_
  show ww X D A 3 Q 0 0 34 [(0, .ref o), (1, .ref w1), (2, .ref w2)] [] [[(o, .inr (6, [.ref w1, .ref w2, .int 0, .int 0, .int 0, .int (-1)]))]]
  refine ww_perm [0] (Gs' := [[(o, .inr (6, [.ref w1, .ref w2, .int 0, .int 0, .int 0, .int (-1)]))]]) (by simp only [pk_g, List.getElem?_cons_zero, List.getElem?_cons_succ, List.eraseIdx]) ?_
  refine ww_fuse (Cs := [[(o, .inr (6, [.ref w1, .ref w2, .int 0, .int 0, .int 0, .int (-1)]))]]) (Rs := []) (c := gX6 cy o (rdA w1 w2) RD0) rfl rfl ?_
  exact ww_vret h dX6_init_34 hQ ⟨rfl, rfl⟩
