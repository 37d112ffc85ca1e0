set_option maxHeartbeats 4000000 in
set_option maxRecDepth 100000 in
theorem case_paragraph {X : Cx} {D : va_G} {ev : EvT} {cy : Nat → ClassId} {A : Nat → Prop} {Q : State → Prop} {l : Launch} {b Ln : Nat} {xs : Nat → Int32} {i : Int32} {k n : Nat} {I : LI} (C : lwC X D ev cy A l b Ln xs i k n) (ok : Ok_paragraph I) {o : Nat → Nat} {a aK : Nat → Nat → Nat} {Z B : Nat → OV} (hI : I o a aK Z B) (kk : lwK X D cy A Q b i k n I) : ww X D A 4 Q k n 327 [(3, .int i), (2, .ref (o 28)), (1, .ref (o 0)), (0, .ref b)] [] (WGs cy o a aK Z B) := by
  obtain ⟨h, hX, hbl, hbA, hin, hk, hn⟩ := C
  have hv := ok o a aK Z B hI ()
  obtain ⟨u, w, h1, h2, h3, h4⟩ := hv
  show ww X D A 4 Q k n 327 [(3, .int i), (2, .ref (o 28)), (1, .ref (o 0)), (0, .ref b)] [] (gX9 cy (o 0) (a 0) (Z 0) :: gX0 cy (a 0 0) (a 1) (Z 1) :: gX0 cy (a 0 1) (a 2) (Z 2) :: gX4 cy (a 0 2) (a 3) (Z 3) :: gX4 cy (a 0 3) (a 4) (Z 4) :: gX2 cy (a 0 4) (a 5) (Z 5) :: gX7 cy (a 0 5) (a 6) (Z 6) :: gX7 cy (a 0 6) (a 7) (Z 7) :: gX5 cy (a 0 7) (a 8) (Z 8) :: gX8 cy (a 0 9) (a 9) (Z 9) :: gX1 cy (o 10) (a 10) (Z 10) :: gX1 cy (o 11) (a 11) (Z 11) :: gX10 cy (o 28) (a 28) (Z 28) :: gX3 cy (a 0 (900 + 0)) (a (24 + 0)) (Z (24 + 0)) :: gX3 cy (a 0 (900 + 1)) (a (24 + 1)) (Z (24 + 1)) :: gX3 cy (a 0 (900 + 2)) (a (24 + 2)) (Z (24 + 2)) :: gX3 cy (a 0 (900 + 3)) (a (24 + 3)) (Z (24 + 3)) :: pgs (WGp cy a aK B))
  refine ww_aload_n h dL_law_327 rfl 2 rfl 328 rfl ?_
  refine ww_cVi h (c_X9_paragraph l D ev cy (o 0) (a 0) (Z 0) (a 1) (Z 1) (a 3) (Z 3) (a 5) (Z 5) (a 9) (Z 9) (o 10) (a 10) (Z 10) (a (24 + 0)) (Z (24 + 0)) (a (24 + 1)) (Z (24 + 1)) (a (24 + 2)) (Z (24 + 2)) (a (24 + 3)) (Z (24 + 3)) _ h1) ⟨w_656, w_653, w_654, w_655, w_101, ok_X9_paragraph⟩ ⟨by decide, by decide⟩ ⟨Nat.le_trans (Nat.le_add_right _ _) hk, Nat.le_trans (Nat.le_add_right _ _) hn⟩ ⟨rfl, rfl⟩ [0, 0, 1, 2, 5, 5, 7, 7, 7, 7] (by simp only [pk_g, List.getElem?_cons_zero, List.getElem?_cons_succ, List.eraseIdx]) 0 rfl rfl rfl rfl (Nat.le_of_ble_eq_true rfl) dL_law_328 331 rfl (Gs' := (gX9 cy (o 0) (a 0) u.2.1 :: gX0 cy (a 0 0) (a 1) u.2.2.1 :: gX4 cy (a 0 2) (a 3) u.2.2.2.1 :: gX2 cy (a 0 4) (a 5) u.2.2.2.2.1 :: gX8 cy (a 0 9) (a 9) u.2.2.2.2.2.1 :: gX1 cy (o 10) (a 10) (Z 10) :: gX3 cy (a 0 (900 + 0)) (a (24 + 0)) u.2.2.2.2.2.2.1 :: gX3 cy (a 0 (900 + 1)) (a (24 + 1)) u.2.2.2.2.2.2.2.1 :: gX3 cy (a 0 (900 + 2)) (a (24 + 2)) u.2.2.2.2.2.2.2.2.1 :: gX3 cy (a 0 (900 + 3)) (a (24 + 3)) u.2.2.2.2.2.2.2.2.2 :: gX0 cy (a 0 1) (a 2) (Z 2) :: gX4 cy (a 0 3) (a 4) (Z 4) :: gX7 cy (a 0 5) (a 6) (Z 6) :: gX7 cy (a 0 6) (a 7) (Z 7) :: gX5 cy (a 0 7) (a 8) (Z 8) :: gX1 cy (o 11) (a 11) (Z 11) :: gX10 cy (o 28) (a 28) (Z 28) :: pgs (WGp cy a aK B))) rfl ?_
  refine ww_aload_n h dL_law_331 rfl 1 rfl 332 rfl ?_
  refine ww_cVi h (c_X10_paragraph l D ev cy (o 28) (a 28) (Z 28) _ h2) ⟨w_1770, w_1767, w_1768, w_1769, w_111, ok_X10_paragraph⟩ ⟨by decide, by decide⟩ ⟨Nat.le_trans (Nat.le_add_right _ _) hk, Nat.le_trans (Nat.le_add_right _ _) hn⟩ ⟨rfl, rfl⟩ [16] (by simp only [pk_g, List.getElem?_cons_zero, List.getElem?_cons_succ, List.eraseIdx]) 0 rfl rfl rfl rfl (Nat.le_of_ble_eq_true rfl) dL_law_332 335 rfl (Gs' := (gX10 cy (o 28) (a 28) w.2 :: gX9 cy (o 0) (a 0) u.2.1 :: gX0 cy (a 0 0) (a 1) u.2.2.1 :: gX4 cy (a 0 2) (a 3) u.2.2.2.1 :: gX2 cy (a 0 4) (a 5) u.2.2.2.2.1 :: gX8 cy (a 0 9) (a 9) u.2.2.2.2.2.1 :: gX1 cy (o 10) (a 10) (Z 10) :: gX3 cy (a 0 (900 + 0)) (a (24 + 0)) u.2.2.2.2.2.2.1 :: gX3 cy (a 0 (900 + 1)) (a (24 + 1)) u.2.2.2.2.2.2.2.1 :: gX3 cy (a 0 (900 + 2)) (a (24 + 2)) u.2.2.2.2.2.2.2.2.1 :: gX3 cy (a 0 (900 + 3)) (a (24 + 3)) u.2.2.2.2.2.2.2.2.2 :: gX0 cy (a 0 1) (a 2) (Z 2) :: gX4 cy (a 0 3) (a 4) (Z 4) :: gX7 cy (a 0 5) (a 6) (Z 6) :: gX7 cy (a 0 6) (a 7) (Z 7) :: gX5 cy (a 0 7) (a 8) (Z 8) :: gX1 cy (o 11) (a 11) (Z 11) :: pgs (WGp cy a aK B))) rfl ?_
  refine ww_icmp_eq h dL_law_335 1591 (by decide) 338 rfl (fun _ => ?_) (fun c => absurd h3.symm c)
  refine ww_kn (Nat.le_succ k) (Nat.le_add_right n 6) ?_
  refine ww_permT [1, 1, 9, 1, 8, 1, 7, 7, 7, 1, 1, 5, 0, 0, 0, 0, 0] (Cs := [gX9 cy (o 0) (a 0) u.2.1, gX0 cy (a 0 0) (a 1) u.2.2.1, gX0 cy (a 0 1) (a 2) (Z 2), gX4 cy (a 0 2) (a 3) u.2.2.2.1, gX4 cy (a 0 3) (a 4) (Z 4), gX2 cy (a 0 4) (a 5) u.2.2.2.2.1, gX7 cy (a 0 5) (a 6) (Z 6), gX7 cy (a 0 6) (a 7) (Z 7), gX5 cy (a 0 7) (a 8) (Z 8), gX8 cy (a 0 9) (a 9) u.2.2.2.2.2.1, gX1 cy (o 10) (a 10) (Z 10), gX1 cy (o 11) (a 11) (Z 11), gX10 cy (o 28) (a 28) w.2, gX3 cy (a 0 (900 + 0)) (a (24 + 0)) u.2.2.2.2.2.2.1, gX3 cy (a 0 (900 + 1)) (a (24 + 1)) u.2.2.2.2.2.2.2.1, gX3 cy (a 0 (900 + 2)) (a (24 + 2)) u.2.2.2.2.2.2.2.2.1, gX3 cy (a 0 (900 + 3)) (a (24 + 3)) u.2.2.2.2.2.2.2.2.2]) (Rs := pgs (WGp cy a aK B)) (by simp only [pk_g, List.getElem?_cons_zero, List.getElem?_cons_succ, List.eraseIdx]) (Gs' := (gX9 cy (o 0) (a 0) u.2.1 :: gX0 cy (a 0 0) (a 1) u.2.2.1 :: gX0 cy (a 0 1) (a 2) (Z 2) :: gX4 cy (a 0 2) (a 3) u.2.2.2.1 :: gX4 cy (a 0 3) (a 4) (Z 4) :: gX2 cy (a 0 4) (a 5) u.2.2.2.2.1 :: gX7 cy (a 0 5) (a 6) (Z 6) :: gX7 cy (a 0 6) (a 7) (Z 7) :: gX5 cy (a 0 7) (a 8) (Z 8) :: gX8 cy (a 0 9) (a 9) u.2.2.2.2.2.1 :: gX1 cy (o 10) (a 10) (Z 10) :: gX1 cy (o 11) (a 11) (Z 11) :: gX10 cy (o 28) (a 28) w.2 :: gX3 cy (a 0 (900 + 0)) (a (24 + 0)) u.2.2.2.2.2.2.1 :: gX3 cy (a 0 (900 + 1)) (a (24 + 1)) u.2.2.2.2.2.2.2.1 :: gX3 cy (a 0 (900 + 2)) (a (24 + 2)) u.2.2.2.2.2.2.2.2.1 :: gX3 cy (a 0 (900 + 3)) (a (24 + 3)) u.2.2.2.2.2.2.2.2.2 :: pgs (WGp cy a aK B))) rfl ?_
  exact kk _ _ _ _ _ h4
set_option maxHeartbeats 4000000 in
set_option maxRecDepth 100000 in
theorem case_mark {X : Cx} {D : va_G} {ev : EvT} {cy : Nat → ClassId} {A : Nat → Prop} {Q : State → Prop} {l : Launch} {b Ln : Nat} {xs : Nat → Int32} {i : Int32} {k n : Nat} {I : LI} (C : lwC X D ev cy A l b Ln xs i k n) (ok : Ok_mark I) {o : Nat → Nat} {a aK : Nat → Nat → Nat} {Z B : Nat → OV} (hI : I o a aK Z B) (kk : lwK X D cy A Q b i k n I) : ww X D A 4 Q k n 515 [(3, .int i), (2, .ref (o 28)), (1, .ref (o 0)), (0, .ref b)] [] (WGs cy o a aK Z B) := by
  obtain ⟨h, hX, hbl, hbA, hin, hk, hn⟩ := C
  obtain ⟨x0, ex0⟩ : ∃ x : Int32, xs (i + 1).toNatClampNeg = x := ⟨_, rfl⟩
  obtain ⟨x1, ex1⟩ : ∃ x : Int32, xs (i + 2).toNatClampNeg = x := ⟨_, rfl⟩
  have hv := ok o a aK Z B hI x0 x1
  obtain ⟨j, hj, u, w, h1, h2, h3, h4⟩ := hv
  refine ww_pgOut hj ?_
  show ww X D A 4 Q k n 515 [(3, .int i), (2, .ref (o 28)), (1, .ref (o 0)), (0, .ref b)] [] (gX4 cy (a 5 (100 + j)) (aK j) (B j) :: gX9 cy (o 0) (a 0) (Z 0) :: gX0 cy (a 0 0) (a 1) (Z 1) :: gX0 cy (a 0 1) (a 2) (Z 2) :: gX4 cy (a 0 2) (a 3) (Z 3) :: gX4 cy (a 0 3) (a 4) (Z 4) :: gX2 cy (a 0 4) (a 5) (Z 5) :: gX7 cy (a 0 5) (a 6) (Z 6) :: gX7 cy (a 0 6) (a 7) (Z 7) :: gX5 cy (a 0 7) (a 8) (Z 8) :: gX8 cy (a 0 9) (a 9) (Z 9) :: gX1 cy (o 10) (a 10) (Z 10) :: gX1 cy (o 11) (a 11) (Z 11) :: gX10 cy (o 28) (a 28) (Z 28) :: gX3 cy (a 0 (900 + 0)) (a (24 + 0)) (Z (24 + 0)) :: gX3 cy (a 0 (900 + 1)) (a (24 + 1)) (Z (24 + 1)) :: gX3 cy (a 0 (900 + 2)) (a (24 + 2)) (Z (24 + 2)) :: gX3 cy (a 0 (900 + 3)) (a (24 + 3)) (Z (24 + 3)) :: pgR (WGp cy a aK B) j)
  refine ww_aload_n h dL_law_515 rfl 2 rfl 516 rfl ?_
  refine ww_aload_n h dL_law_516 rfl 3 rfl 517 rfl ?_
  refine ww_iload_n h dL_law_517 rfl 0 rfl 518 rfl ?_
  refine ww_iconst h dL_law_518 (v := 1) (by decide) 519 rfl ?_
  refine ww_iadd h dL_law_519 520 rfl ?_
  refine ww_scd h hX hbl hbA (hin 1 (by decide) (by decide)) ex0 dL_law_520 521 rfl ?_
  refine ww_aload_n h dL_law_521 rfl 3 rfl 522 rfl ?_
  refine ww_iload_n h dL_law_522 rfl 0 rfl 523 rfl ?_
  refine ww_iconst h dL_law_523 (v := 2) (by decide) 524 rfl ?_
  refine ww_iadd h dL_law_524 525 rfl ?_
  refine ww_scd h hX hbl hbA (hin 2 (by decide) (by decide)) ex1 dL_law_525 526 rfl ?_
  refine ww_cVi h (c_X9_mark l D ev cy (o 0) (a 0) (Z 0) (a 3) (Z 3) (a 5) (Z 5) (a 9) (Z 9) (a 5 (100 + j)) (aK j) (B j) (a (24 + 0)) (Z (24 + 0)) (a (24 + 1)) (Z (24 + 1)) (a (24 + 2)) (Z (24 + 2)) (a (24 + 3)) (Z (24 + 3)) x0 x1 _ h1) ⟨w_725, w_722, w_723, w_724, w_101, ok_X9_mark⟩ ⟨by decide, by decide⟩ ⟨Nat.le_trans (Nat.le_add_right _ _) hk, Nat.le_trans (Nat.le_add_right _ _) hn⟩ ⟨rfl, rfl⟩ [1, 3, 4, 7, 0, 9, 9, 9, 9] (by simp only [pk_g, List.getElem?_cons_zero, List.getElem?_cons_succ, List.eraseIdx]) 0 rfl rfl rfl rfl (Nat.le_of_ble_eq_true rfl) dL_law_526 529 rfl (Gs' := (gX9 cy (o 0) (a 0) u.2.1 :: gX4 cy (a 0 2) (a 3) u.2.2.1 :: gX2 cy (a 0 4) (a 5) u.2.2.2.1 :: gX8 cy (a 0 9) (a 9) u.2.2.2.2.1 :: gX4 cy (a 5 (100 + j)) (aK j) u.2.2.2.2.2.1 :: gX3 cy (a 0 (900 + 0)) (a (24 + 0)) u.2.2.2.2.2.2.1 :: gX3 cy (a 0 (900 + 1)) (a (24 + 1)) u.2.2.2.2.2.2.2.1 :: gX3 cy (a 0 (900 + 2)) (a (24 + 2)) u.2.2.2.2.2.2.2.2.1 :: gX3 cy (a 0 (900 + 3)) (a (24 + 3)) u.2.2.2.2.2.2.2.2.2 :: gX0 cy (a 0 0) (a 1) (Z 1) :: gX0 cy (a 0 1) (a 2) (Z 2) :: gX4 cy (a 0 3) (a 4) (Z 4) :: gX7 cy (a 0 5) (a 6) (Z 6) :: gX7 cy (a 0 6) (a 7) (Z 7) :: gX5 cy (a 0 7) (a 8) (Z 8) :: gX1 cy (o 10) (a 10) (Z 10) :: gX1 cy (o 11) (a 11) (Z 11) :: gX10 cy (o 28) (a 28) (Z 28) :: pgR (WGp cy a aK B) j)) rfl ?_
  refine ww_aload_n h dL_law_529 rfl 1 rfl 530 rfl ?_
  refine ww_aload_n h dL_law_530 rfl 3 rfl 531 rfl ?_
  refine ww_iload_n h dL_law_531 rfl 0 rfl 532 rfl ?_
  refine ww_iconst h dL_law_532 (v := 1) (by decide) 533 rfl ?_
  refine ww_iadd h dL_law_533 534 rfl ?_
  refine ww_scd h hX hbl hbA (hin 1 (by decide) (by decide)) ex0 dL_law_534 535 rfl ?_
  refine ww_aload_n h dL_law_535 rfl 3 rfl 536 rfl ?_
  refine ww_iload_n h dL_law_536 rfl 0 rfl 537 rfl ?_
  refine ww_iconst h dL_law_537 (v := 2) (by decide) 538 rfl ?_
  refine ww_iadd h dL_law_538 539 rfl ?_
  refine ww_scd h hX hbl hbA (hin 2 (by decide) (by decide)) ex1 dL_law_539 540 rfl ?_
  refine ww_cVi h (c_X10_mark l D ev cy (o 28) (a 28) (Z 28) x0 x1 _ h2) ⟨w_1389, w_1386, w_1387, w_1388, w_111, ok_X10_mark⟩ ⟨by decide, by decide⟩ ⟨Nat.le_trans (Nat.le_add_right _ _) hk, Nat.le_trans (Nat.le_add_right _ _) hn⟩ ⟨rfl, rfl⟩ [17] (by simp only [pk_g, List.getElem?_cons_zero, List.getElem?_cons_succ, List.eraseIdx]) 0 rfl rfl rfl rfl (Nat.le_of_ble_eq_true rfl) dL_law_540 543 rfl (Gs' := (gX10 cy (o 28) (a 28) w.2 :: gX9 cy (o 0) (a 0) u.2.1 :: gX4 cy (a 0 2) (a 3) u.2.2.1 :: gX2 cy (a 0 4) (a 5) u.2.2.2.1 :: gX8 cy (a 0 9) (a 9) u.2.2.2.2.1 :: gX4 cy (a 5 (100 + j)) (aK j) u.2.2.2.2.2.1 :: gX3 cy (a 0 (900 + 0)) (a (24 + 0)) u.2.2.2.2.2.2.1 :: gX3 cy (a 0 (900 + 1)) (a (24 + 1)) u.2.2.2.2.2.2.2.1 :: gX3 cy (a 0 (900 + 2)) (a (24 + 2)) u.2.2.2.2.2.2.2.2.1 :: gX3 cy (a 0 (900 + 3)) (a (24 + 3)) u.2.2.2.2.2.2.2.2.2 :: gX0 cy (a 0 0) (a 1) (Z 1) :: gX0 cy (a 0 1) (a 2) (Z 2) :: gX4 cy (a 0 3) (a 4) (Z 4) :: gX7 cy (a 0 5) (a 6) (Z 6) :: gX7 cy (a 0 6) (a 7) (Z 7) :: gX5 cy (a 0 7) (a 8) (Z 8) :: gX1 cy (o 10) (a 10) (Z 10) :: gX1 cy (o 11) (a 11) (Z 11) :: pgR (WGp cy a aK B) j)) rfl ?_
  refine ww_icmp_eq h dL_law_543 1591 (by decide) 546 rfl (fun _ => ?_) (fun c => absurd h3.symm c)
  refine ww_kn (Nat.le_succ k) (Nat.le_add_right n 6) ?_
  refine ww_permT [5, 1, 8, 8, 1, 7, 1, 6, 6, 6, 1, 5, 5, 0, 0, 0, 0, 0] (Cs := [gX4 cy (a 5 (100 + j)) (aK j) u.2.2.2.2.2.1, gX9 cy (o 0) (a 0) u.2.1, gX0 cy (a 0 0) (a 1) (Z 1), gX0 cy (a 0 1) (a 2) (Z 2), gX4 cy (a 0 2) (a 3) u.2.2.1, gX4 cy (a 0 3) (a 4) (Z 4), gX2 cy (a 0 4) (a 5) u.2.2.2.1, gX7 cy (a 0 5) (a 6) (Z 6), gX7 cy (a 0 6) (a 7) (Z 7), gX5 cy (a 0 7) (a 8) (Z 8), gX8 cy (a 0 9) (a 9) u.2.2.2.2.1, gX1 cy (o 10) (a 10) (Z 10), gX1 cy (o 11) (a 11) (Z 11), gX10 cy (o 28) (a 28) w.2, gX3 cy (a 0 (900 + 0)) (a (24 + 0)) u.2.2.2.2.2.2.1, gX3 cy (a 0 (900 + 1)) (a (24 + 1)) u.2.2.2.2.2.2.2.1, gX3 cy (a 0 (900 + 2)) (a (24 + 2)) u.2.2.2.2.2.2.2.2.1, gX3 cy (a 0 (900 + 3)) (a (24 + 3)) u.2.2.2.2.2.2.2.2.2]) (Rs := pgR (WGp cy a aK B) j) (by simp only [pk_g, List.getElem?_cons_zero, List.getElem?_cons_succ, List.eraseIdx]) (Gs' := (gX4 cy (a 5 (100 + j)) (aK j) u.2.2.2.2.2.1 :: gX9 cy (o 0) (a 0) u.2.1 :: gX0 cy (a 0 0) (a 1) (Z 1) :: gX0 cy (a 0 1) (a 2) (Z 2) :: gX4 cy (a 0 2) (a 3) u.2.2.1 :: gX4 cy (a 0 3) (a 4) (Z 4) :: gX2 cy (a 0 4) (a 5) u.2.2.2.1 :: gX7 cy (a 0 5) (a 6) (Z 6) :: gX7 cy (a 0 6) (a 7) (Z 7) :: gX5 cy (a 0 7) (a 8) (Z 8) :: gX8 cy (a 0 9) (a 9) u.2.2.2.2.1 :: gX1 cy (o 10) (a 10) (Z 10) :: gX1 cy (o 11) (a 11) (Z 11) :: gX10 cy (o 28) (a 28) w.2 :: gX3 cy (a 0 (900 + 0)) (a (24 + 0)) u.2.2.2.2.2.2.1 :: gX3 cy (a 0 (900 + 1)) (a (24 + 1)) u.2.2.2.2.2.2.2.1 :: gX3 cy (a 0 (900 + 2)) (a (24 + 2)) u.2.2.2.2.2.2.2.2.1 :: gX3 cy (a 0 (900 + 3)) (a (24 + 3)) u.2.2.2.2.2.2.2.2.2 :: pgR (WGp cy a aK B) j)) rfl ?_
  refine ww_pgIn (E := [gX9 cy (o 0) (a 0) u.2.1, gX0 cy (a 0 0) (a 1) (Z 1), gX0 cy (a 0 1) (a 2) (Z 2), gX4 cy (a 0 2) (a 3) u.2.2.1, gX4 cy (a 0 3) (a 4) (Z 4), gX2 cy (a 0 4) (a 5) u.2.2.2.1, gX7 cy (a 0 5) (a 6) (Z 6), gX7 cy (a 0 6) (a 7) (Z 7), gX5 cy (a 0 7) (a 8) (Z 8), gX8 cy (a 0 9) (a 9) u.2.2.2.2.1, gX1 cy (o 10) (a 10) (Z 10), gX1 cy (o 11) (a 11) (Z 11), gX10 cy (o 28) (a 28) w.2, gX3 cy (a 0 (900 + 0)) (a (24 + 0)) u.2.2.2.2.2.2.1, gX3 cy (a 0 (900 + 1)) (a (24 + 1)) u.2.2.2.2.2.2.2.1, gX3 cy (a 0 (900 + 2)) (a (24 + 2)) u.2.2.2.2.2.2.2.2.1, gX3 cy (a 0 (900 + 3)) (a (24 + 3)) u.2.2.2.2.2.2.2.2.2]) (g := WGp cy a aK (va_up B j u.2.2.2.2.2.1)) hj (by simp [WGp, va_up]) (fun i hi => by simp [WGp, va_up, hi]) ?_
  exact kk _ _ _ _ _ h4
set_option maxHeartbeats 4000000 in
set_option maxRecDepth 100000 in
theorem case_of {X : Cx} {D : va_G} {ev : EvT} {cy : Nat → ClassId} {A : Nat → Prop} {Q : State → Prop} {l : Launch} {b Ln : Nat} {xs : Nat → Int32} {i : Int32} {k n : Nat} {I : LI} (C : lwC X D ev cy A l b Ln xs i k n) (ok : Ok_of I) {o : Nat → Nat} {a aK : Nat → Nat → Nat} {Z B : Nat → OV} (hI : I o a aK Z B) (kk : lwK X D cy A Q b i k n I) : ww X D A 4 Q k n 699 [(3, .int i), (2, .ref (o 28)), (1, .ref (o 0)), (0, .ref b)] [] (WGs cy o a aK Z B) := by
  obtain ⟨h, hX, hbl, hbA, hin, hk, hn⟩ := C
  obtain ⟨x0, ex0⟩ : ∃ x : Int32, xs (i + 1).toNatClampNeg = x := ⟨_, rfl⟩
  obtain ⟨x1, ex1⟩ : ∃ x : Int32, xs (i + 2).toNatClampNeg = x := ⟨_, rfl⟩
  have hv := ok o a aK Z B hI x0 x1
  obtain ⟨u, w, h1, h2, h3, h4⟩ := hv
  show ww X D A 4 Q k n 699 [(3, .int i), (2, .ref (o 28)), (1, .ref (o 0)), (0, .ref b)] [] (gX9 cy (o 0) (a 0) (Z 0) :: gX0 cy (a 0 0) (a 1) (Z 1) :: gX0 cy (a 0 1) (a 2) (Z 2) :: gX4 cy (a 0 2) (a 3) (Z 3) :: gX4 cy (a 0 3) (a 4) (Z 4) :: gX2 cy (a 0 4) (a 5) (Z 5) :: gX7 cy (a 0 5) (a 6) (Z 6) :: gX7 cy (a 0 6) (a 7) (Z 7) :: gX5 cy (a 0 7) (a 8) (Z 8) :: gX8 cy (a 0 9) (a 9) (Z 9) :: gX1 cy (o 10) (a 10) (Z 10) :: gX1 cy (o 11) (a 11) (Z 11) :: gX10 cy (o 28) (a 28) (Z 28) :: gX3 cy (a 0 (900 + 0)) (a (24 + 0)) (Z (24 + 0)) :: gX3 cy (a 0 (900 + 1)) (a (24 + 1)) (Z (24 + 1)) :: gX3 cy (a 0 (900 + 2)) (a (24 + 2)) (Z (24 + 2)) :: gX3 cy (a 0 (900 + 3)) (a (24 + 3)) (Z (24 + 3)) :: pgs (WGp cy a aK B))
  refine ww_aload_n h dL_law_699 rfl 2 rfl 700 rfl ?_
  refine ww_aload_n h dL_law_700 rfl 3 rfl 701 rfl ?_
  refine ww_iload_n h dL_law_701 rfl 0 rfl 702 rfl ?_
  refine ww_iconst h dL_law_702 (v := 1) (by decide) 703 rfl ?_
  refine ww_iadd h dL_law_703 704 rfl ?_
  refine ww_scd h hX hbl hbA (hin 1 (by decide) (by decide)) ex0 dL_law_704 705 rfl ?_
  refine ww_aload_n h dL_law_705 rfl 3 rfl 706 rfl ?_
  refine ww_iload_n h dL_law_706 rfl 0 rfl 707 rfl ?_
  refine ww_iconst h dL_law_707 (v := 2) (by decide) 708 rfl ?_
  refine ww_iadd h dL_law_708 709 rfl ?_
  refine ww_scd h hX hbl hbA (hin 2 (by decide) (by decide)) ex1 dL_law_709 710 rfl ?_
  refine ww_cVi h (c_X9_of l D ev cy (o 0) (a 0) (Z 0) (a 3) (Z 3) (o 10) (a 10) (Z 10) x0 x1 _ h1) ⟨w_769, w_766, w_767, w_768, w_101, ok_X9_of⟩ ⟨by decide, by decide⟩ ⟨Nat.le_trans (Nat.le_add_right _ _) hk, Nat.le_trans (Nat.le_add_right _ _) hn⟩ ⟨rfl, rfl⟩ [0, 2, 8] (by simp only [pk_g, List.getElem?_cons_zero, List.getElem?_cons_succ, List.eraseIdx]) 0 rfl rfl rfl rfl (Nat.le_of_ble_eq_true rfl) dL_law_710 713 rfl (Gs' := (gX9 cy (o 0) (a 0) (Z 0) :: gX4 cy (a 0 2) (a 3) (Z 3) :: gX1 cy (o 10) (a 10) (Z 10) :: gX0 cy (a 0 0) (a 1) (Z 1) :: gX0 cy (a 0 1) (a 2) (Z 2) :: gX4 cy (a 0 3) (a 4) (Z 4) :: gX2 cy (a 0 4) (a 5) (Z 5) :: gX7 cy (a 0 5) (a 6) (Z 6) :: gX7 cy (a 0 6) (a 7) (Z 7) :: gX5 cy (a 0 7) (a 8) (Z 8) :: gX8 cy (a 0 9) (a 9) (Z 9) :: gX1 cy (o 11) (a 11) (Z 11) :: gX10 cy (o 28) (a 28) (Z 28) :: gX3 cy (a 0 (900 + 0)) (a (24 + 0)) (Z (24 + 0)) :: gX3 cy (a 0 (900 + 1)) (a (24 + 1)) (Z (24 + 1)) :: gX3 cy (a 0 (900 + 2)) (a (24 + 2)) (Z (24 + 2)) :: gX3 cy (a 0 (900 + 3)) (a (24 + 3)) (Z (24 + 3)) :: pgs (WGp cy a aK B))) rfl ?_
  refine ww_aload_n h dL_law_713 rfl 1 rfl 714 rfl ?_
  refine ww_aload_n h dL_law_714 rfl 3 rfl 715 rfl ?_
  refine ww_iload_n h dL_law_715 rfl 0 rfl 716 rfl ?_
  refine ww_iconst h dL_law_716 (v := 1) (by decide) 717 rfl ?_
  refine ww_iadd h dL_law_717 718 rfl ?_
  refine ww_scd h hX hbl hbA (hin 1 (by decide) (by decide)) ex0 dL_law_718 719 rfl ?_
  refine ww_aload_n h dL_law_719 rfl 3 rfl 720 rfl ?_
  refine ww_iload_n h dL_law_720 rfl 0 rfl 721 rfl ?_
  refine ww_iconst h dL_law_721 (v := 2) (by decide) 722 rfl ?_
  refine ww_iadd h dL_law_722 723 rfl ?_
  refine ww_scd h hX hbl hbA (hin 2 (by decide) (by decide)) ex1 dL_law_723 724 rfl ?_
  refine ww_cVi h (c_X10_of l D ev cy (o 28) (a 28) (Z 28) x0 x1 _ h2) ⟨w_1441, w_1438, w_1439, w_1440, w_111, ok_X10_of⟩ ⟨by decide, by decide⟩ ⟨Nat.le_trans (Nat.le_add_right _ _) hk, Nat.le_trans (Nat.le_add_right _ _) hn⟩ ⟨rfl, rfl⟩ [12] (by simp only [pk_g, List.getElem?_cons_zero, List.getElem?_cons_succ, List.eraseIdx]) 0 rfl rfl rfl rfl (Nat.le_of_ble_eq_true rfl) dL_law_724 727 rfl (Gs' := (gX10 cy (o 28) (a 28) (Z 28) :: gX9 cy (o 0) (a 0) (Z 0) :: gX4 cy (a 0 2) (a 3) (Z 3) :: gX1 cy (o 10) (a 10) (Z 10) :: gX0 cy (a 0 0) (a 1) (Z 1) :: gX0 cy (a 0 1) (a 2) (Z 2) :: gX4 cy (a 0 3) (a 4) (Z 4) :: gX2 cy (a 0 4) (a 5) (Z 5) :: gX7 cy (a 0 5) (a 6) (Z 6) :: gX7 cy (a 0 6) (a 7) (Z 7) :: gX5 cy (a 0 7) (a 8) (Z 8) :: gX8 cy (a 0 9) (a 9) (Z 9) :: gX1 cy (o 11) (a 11) (Z 11) :: gX3 cy (a 0 (900 + 0)) (a (24 + 0)) (Z (24 + 0)) :: gX3 cy (a 0 (900 + 1)) (a (24 + 1)) (Z (24 + 1)) :: gX3 cy (a 0 (900 + 2)) (a (24 + 2)) (Z (24 + 2)) :: gX3 cy (a 0 (900 + 3)) (a (24 + 3)) (Z (24 + 3)) :: pgs (WGp cy a aK B))) rfl ?_
  refine ww_icmp_eq h dL_law_727 1591 (by decide) 730 rfl (fun _ => ?_) (fun c => absurd h3.symm c)
  refine ww_kn (Nat.le_succ k) (Nat.le_add_right n 6) ?_
  refine ww_permT [1, 3, 3, 1, 2, 2, 2, 2, 2, 2, 1, 1, 0, 0, 0, 0, 0] (Cs := [gX9 cy (o 0) (a 0) (Z 0), gX0 cy (a 0 0) (a 1) (Z 1), gX0 cy (a 0 1) (a 2) (Z 2), gX4 cy (a 0 2) (a 3) (Z 3), gX4 cy (a 0 3) (a 4) (Z 4), gX2 cy (a 0 4) (a 5) (Z 5), gX7 cy (a 0 5) (a 6) (Z 6), gX7 cy (a 0 6) (a 7) (Z 7), gX5 cy (a 0 7) (a 8) (Z 8), gX8 cy (a 0 9) (a 9) (Z 9), gX1 cy (o 10) (a 10) (Z 10), gX1 cy (o 11) (a 11) (Z 11), gX10 cy (o 28) (a 28) (Z 28), gX3 cy (a 0 (900 + 0)) (a (24 + 0)) (Z (24 + 0)), gX3 cy (a 0 (900 + 1)) (a (24 + 1)) (Z (24 + 1)), gX3 cy (a 0 (900 + 2)) (a (24 + 2)) (Z (24 + 2)), gX3 cy (a 0 (900 + 3)) (a (24 + 3)) (Z (24 + 3))]) (Rs := pgs (WGp cy a aK B)) (by simp only [pk_g, List.getElem?_cons_zero, List.getElem?_cons_succ, List.eraseIdx]) (Gs' := (gX9 cy (o 0) (a 0) (Z 0) :: gX0 cy (a 0 0) (a 1) (Z 1) :: gX0 cy (a 0 1) (a 2) (Z 2) :: gX4 cy (a 0 2) (a 3) (Z 3) :: gX4 cy (a 0 3) (a 4) (Z 4) :: gX2 cy (a 0 4) (a 5) (Z 5) :: gX7 cy (a 0 5) (a 6) (Z 6) :: gX7 cy (a 0 6) (a 7) (Z 7) :: gX5 cy (a 0 7) (a 8) (Z 8) :: gX8 cy (a 0 9) (a 9) (Z 9) :: gX1 cy (o 10) (a 10) (Z 10) :: gX1 cy (o 11) (a 11) (Z 11) :: gX10 cy (o 28) (a 28) (Z 28) :: gX3 cy (a 0 (900 + 0)) (a (24 + 0)) (Z (24 + 0)) :: gX3 cy (a 0 (900 + 1)) (a (24 + 1)) (Z (24 + 1)) :: gX3 cy (a 0 (900 + 2)) (a (24 + 2)) (Z (24 + 2)) :: gX3 cy (a 0 (900 + 3)) (a (24 + 3)) (Z (24 + 3)) :: pgs (WGp cy a aK B))) rfl ?_
  exact kk _ _ _ _ _ h4
set_option maxHeartbeats 4000000 in
set_option maxRecDepth 100000 in
theorem case_natural {X : Cx} {D : va_G} {ev : EvT} {cy : Nat → ClassId} {A : Nat → Prop} {Q : State → Prop} {l : Launch} {b Ln : Nat} {xs : Nat → Int32} {i : Int32} {k n : Nat} {I : LI} (C : lwC X D ev cy A l b Ln xs i k n) (ok : Ok_natural I) {o : Nat → Nat} {a aK : Nat → Nat → Nat} {Z B : Nat → OV} (hI : I o a aK Z B) (kk : lwK X D cy A Q b i k n I) : ww X D A 4 Q k n 857 [(3, .int i), (2, .ref (o 28)), (1, .ref (o 0)), (0, .ref b)] [] (WGs cy o a aK Z B) := by
  obtain ⟨h, hX, hbl, hbA, hin, hk, hn⟩ := C
  obtain ⟨x0, ex0⟩ : ∃ x : Int32, xs (i + 1).toNatClampNeg = x := ⟨_, rfl⟩
  obtain ⟨x1, ex1⟩ : ∃ x : Int32, xs (i + 2).toNatClampNeg = x := ⟨_, rfl⟩
  have hv := ok o a aK Z B hI x0 x1
  obtain ⟨u, w, h1, h2, h3, h4⟩ := hv
  show ww X D A 4 Q k n 857 [(3, .int i), (2, .ref (o 28)), (1, .ref (o 0)), (0, .ref b)] [] (gX9 cy (o 0) (a 0) (Z 0) :: gX0 cy (a 0 0) (a 1) (Z 1) :: gX0 cy (a 0 1) (a 2) (Z 2) :: gX4 cy (a 0 2) (a 3) (Z 3) :: gX4 cy (a 0 3) (a 4) (Z 4) :: gX2 cy (a 0 4) (a 5) (Z 5) :: gX7 cy (a 0 5) (a 6) (Z 6) :: gX7 cy (a 0 6) (a 7) (Z 7) :: gX5 cy (a 0 7) (a 8) (Z 8) :: gX8 cy (a 0 9) (a 9) (Z 9) :: gX1 cy (o 10) (a 10) (Z 10) :: gX1 cy (o 11) (a 11) (Z 11) :: gX10 cy (o 28) (a 28) (Z 28) :: gX3 cy (a 0 (900 + 0)) (a (24 + 0)) (Z (24 + 0)) :: gX3 cy (a 0 (900 + 1)) (a (24 + 1)) (Z (24 + 1)) :: gX3 cy (a 0 (900 + 2)) (a (24 + 2)) (Z (24 + 2)) :: gX3 cy (a 0 (900 + 3)) (a (24 + 3)) (Z (24 + 3)) :: pgs (WGp cy a aK B))
  refine ww_aload_n h dL_law_857 rfl 2 rfl 858 rfl ?_
  refine ww_aload_n h dL_law_858 rfl 3 rfl 859 rfl ?_
  refine ww_iload_n h dL_law_859 rfl 0 rfl 860 rfl ?_
  refine ww_iconst h dL_law_860 (v := 1) (by decide) 861 rfl ?_
  refine ww_iadd h dL_law_861 862 rfl ?_
  refine ww_scd h hX hbl hbA (hin 1 (by decide) (by decide)) ex0 dL_law_862 863 rfl ?_
  refine ww_aload_n h dL_law_863 rfl 3 rfl 864 rfl ?_
  refine ww_iload_n h dL_law_864 rfl 0 rfl 865 rfl ?_
  refine ww_iconst h dL_law_865 (v := 2) (by decide) 866 rfl ?_
  refine ww_iadd h dL_law_866 867 rfl ?_
  refine ww_scd h hX hbl hbA (hin 2 (by decide) (by decide)) ex1 dL_law_867 868 rfl ?_
  refine ww_cVi h (c_X9_natural l D ev cy (o 0) (a 0) (Z 0) (a 3) (Z 3) (a 6) (Z 6) (o 10) (a 10) (Z 10) x0 x1 _ h1) ⟨w_805, w_802, w_803, w_804, w_101, ok_X9_natural⟩ ⟨by decide, by decide⟩ ⟨Nat.le_trans (Nat.le_add_right _ _) hk, Nat.le_trans (Nat.le_add_right _ _) hn⟩ ⟨rfl, rfl⟩ [0, 2, 4, 7] (by simp only [pk_g, List.getElem?_cons_zero, List.getElem?_cons_succ, List.eraseIdx]) 0 rfl rfl rfl rfl (Nat.le_of_ble_eq_true rfl) dL_law_868 871 rfl (Gs' := (gX9 cy (o 0) (a 0) u.2.1 :: gX4 cy (a 0 2) (a 3) (Z 3) :: gX7 cy (a 0 5) (a 6) u.2.2 :: gX1 cy (o 10) (a 10) (Z 10) :: gX0 cy (a 0 0) (a 1) (Z 1) :: gX0 cy (a 0 1) (a 2) (Z 2) :: gX4 cy (a 0 3) (a 4) (Z 4) :: gX2 cy (a 0 4) (a 5) (Z 5) :: gX7 cy (a 0 6) (a 7) (Z 7) :: gX5 cy (a 0 7) (a 8) (Z 8) :: gX8 cy (a 0 9) (a 9) (Z 9) :: gX1 cy (o 11) (a 11) (Z 11) :: gX10 cy (o 28) (a 28) (Z 28) :: gX3 cy (a 0 (900 + 0)) (a (24 + 0)) (Z (24 + 0)) :: gX3 cy (a 0 (900 + 1)) (a (24 + 1)) (Z (24 + 1)) :: gX3 cy (a 0 (900 + 2)) (a (24 + 2)) (Z (24 + 2)) :: gX3 cy (a 0 (900 + 3)) (a (24 + 3)) (Z (24 + 3)) :: pgs (WGp cy a aK B))) rfl ?_
  refine ww_aload_n h dL_law_871 rfl 1 rfl 872 rfl ?_
  refine ww_aload_n h dL_law_872 rfl 3 rfl 873 rfl ?_
  refine ww_iload_n h dL_law_873 rfl 0 rfl 874 rfl ?_
  refine ww_iconst h dL_law_874 (v := 1) (by decide) 875 rfl ?_
  refine ww_iadd h dL_law_875 876 rfl ?_
  refine ww_scd h hX hbl hbA (hin 1 (by decide) (by decide)) ex0 dL_law_876 877 rfl ?_
  refine ww_aload_n h dL_law_877 rfl 3 rfl 878 rfl ?_
  refine ww_iload_n h dL_law_878 rfl 0 rfl 879 rfl ?_
  refine ww_iconst h dL_law_879 (v := 2) (by decide) 880 rfl ?_
  refine ww_iadd h dL_law_880 881 rfl ?_
  refine ww_scd h hX hbl hbA (hin 2 (by decide) (by decide)) ex1 dL_law_881 882 rfl ?_
  refine ww_cVi h (c_X10_natural l D ev cy (o 28) (a 28) (Z 28) x0 x1 _ h2) ⟨w_1465, w_1462, w_1463, w_1464, w_111, ok_X10_natural⟩ ⟨by decide, by decide⟩ ⟨Nat.le_trans (Nat.le_add_right _ _) hk, Nat.le_trans (Nat.le_add_right _ _) hn⟩ ⟨rfl, rfl⟩ [12] (by simp only [pk_g, List.getElem?_cons_zero, List.getElem?_cons_succ, List.eraseIdx]) 0 rfl rfl rfl rfl (Nat.le_of_ble_eq_true rfl) dL_law_882 885 rfl (Gs' := (gX10 cy (o 28) (a 28) w.2 :: gX9 cy (o 0) (a 0) u.2.1 :: gX4 cy (a 0 2) (a 3) (Z 3) :: gX7 cy (a 0 5) (a 6) u.2.2 :: gX1 cy (o 10) (a 10) (Z 10) :: gX0 cy (a 0 0) (a 1) (Z 1) :: gX0 cy (a 0 1) (a 2) (Z 2) :: gX4 cy (a 0 3) (a 4) (Z 4) :: gX2 cy (a 0 4) (a 5) (Z 5) :: gX7 cy (a 0 6) (a 7) (Z 7) :: gX5 cy (a 0 7) (a 8) (Z 8) :: gX8 cy (a 0 9) (a 9) (Z 9) :: gX1 cy (o 11) (a 11) (Z 11) :: gX3 cy (a 0 (900 + 0)) (a (24 + 0)) (Z (24 + 0)) :: gX3 cy (a 0 (900 + 1)) (a (24 + 1)) (Z (24 + 1)) :: gX3 cy (a 0 (900 + 2)) (a (24 + 2)) (Z (24 + 2)) :: gX3 cy (a 0 (900 + 3)) (a (24 + 3)) (Z (24 + 3)) :: pgs (WGp cy a aK B))) rfl ?_
  refine ww_icmp_eq h dL_law_885 1591 (by decide) 888 rfl (fun _ => ?_) (fun c => absurd h3.symm c)
  refine ww_kn (Nat.le_succ k) (Nat.le_add_right n 6) ?_
  refine ww_permT [1, 4, 4, 1, 3, 3, 1, 2, 2, 2, 1, 1, 0, 0, 0, 0, 0] (Cs := [gX9 cy (o 0) (a 0) u.2.1, gX0 cy (a 0 0) (a 1) (Z 1), gX0 cy (a 0 1) (a 2) (Z 2), gX4 cy (a 0 2) (a 3) (Z 3), gX4 cy (a 0 3) (a 4) (Z 4), gX2 cy (a 0 4) (a 5) (Z 5), gX7 cy (a 0 5) (a 6) u.2.2, gX7 cy (a 0 6) (a 7) (Z 7), gX5 cy (a 0 7) (a 8) (Z 8), gX8 cy (a 0 9) (a 9) (Z 9), gX1 cy (o 10) (a 10) (Z 10), gX1 cy (o 11) (a 11) (Z 11), gX10 cy (o 28) (a 28) w.2, gX3 cy (a 0 (900 + 0)) (a (24 + 0)) (Z (24 + 0)), gX3 cy (a 0 (900 + 1)) (a (24 + 1)) (Z (24 + 1)), gX3 cy (a 0 (900 + 2)) (a (24 + 2)) (Z (24 + 2)), gX3 cy (a 0 (900 + 3)) (a (24 + 3)) (Z (24 + 3))]) (Rs := pgs (WGp cy a aK B)) (by simp only [pk_g, List.getElem?_cons_zero, List.getElem?_cons_succ, List.eraseIdx]) (Gs' := (gX9 cy (o 0) (a 0) u.2.1 :: gX0 cy (a 0 0) (a 1) (Z 1) :: gX0 cy (a 0 1) (a 2) (Z 2) :: gX4 cy (a 0 2) (a 3) (Z 3) :: gX4 cy (a 0 3) (a 4) (Z 4) :: gX2 cy (a 0 4) (a 5) (Z 5) :: gX7 cy (a 0 5) (a 6) u.2.2 :: gX7 cy (a 0 6) (a 7) (Z 7) :: gX5 cy (a 0 7) (a 8) (Z 8) :: gX8 cy (a 0 9) (a 9) (Z 9) :: gX1 cy (o 10) (a 10) (Z 10) :: gX1 cy (o 11) (a 11) (Z 11) :: gX10 cy (o 28) (a 28) w.2 :: gX3 cy (a 0 (900 + 0)) (a (24 + 0)) (Z (24 + 0)) :: gX3 cy (a 0 (900 + 1)) (a (24 + 1)) (Z (24 + 1)) :: gX3 cy (a 0 (900 + 2)) (a (24 + 2)) (Z (24 + 2)) :: gX3 cy (a 0 (900 + 3)) (a (24 + 3)) (Z (24 + 3)) :: pgs (WGp cy a aK B))) rfl ?_
  exact kk _ _ _ _ _ h4
set_option maxHeartbeats 4000000 in
set_option maxRecDepth 100000 in
theorem case_at {X : Cx} {D : va_G} {ev : EvT} {cy : Nat → ClassId} {A : Nat → Prop} {Q : State → Prop} {l : Launch} {b Ln : Nat} {xs : Nat → Int32} {i : Int32} {k n : Nat} {I : LI} (C : lwC X D ev cy A l b Ln xs i k n) (ok : Ok_at I) {o : Nat → Nat} {a aK : Nat → Nat → Nat} {Z B : Nat → OV} (hI : I o a aK Z B) (kk : lwK X D cy A Q b i k n I) : ww X D A 4 Q k n 1075 [(3, .int i), (2, .ref (o 28)), (1, .ref (o 0)), (0, .ref b)] [] (WGs cy o a aK Z B) := by
  obtain ⟨h, hX, hbl, hbA, hin, hk, hn⟩ := C
  obtain ⟨x0, ex0⟩ : ∃ x : Int32, xs (i + 1).toNatClampNeg = x := ⟨_, rfl⟩
  obtain ⟨x1, ex1⟩ : ∃ x : Int32, xs (i + 2).toNatClampNeg = x := ⟨_, rfl⟩
  obtain ⟨x2, ex2⟩ : ∃ x : Int32, xs (i + 3).toNatClampNeg = x := ⟨_, rfl⟩
  rcases ok o a aK Z B hI x0 x1 x2 with hv | hv | hv | hv
  · obtain ⟨u, w, h1, h2, h3, h4⟩ := hv
    show ww X D A 4 Q k n 1075 [(3, .int i), (2, .ref (o 28)), (1, .ref (o 0)), (0, .ref b)] [] (gX9 cy (o 0) (a 0) (Z 0) :: gX0 cy (a 0 0) (a 1) (Z 1) :: gX0 cy (a 0 1) (a 2) (Z 2) :: gX4 cy (a 0 2) (a 3) (Z 3) :: gX4 cy (a 0 3) (a 4) (Z 4) :: gX2 cy (a 0 4) (a 5) (Z 5) :: gX7 cy (a 0 5) (a 6) (Z 6) :: gX7 cy (a 0 6) (a 7) (Z 7) :: gX5 cy (a 0 7) (a 8) (Z 8) :: gX8 cy (a 0 9) (a 9) (Z 9) :: gX1 cy (o 10) (a 10) (Z 10) :: gX1 cy (o 11) (a 11) (Z 11) :: gX10 cy (o 28) (a 28) (Z 28) :: gX3 cy (a 0 (900 + 0)) (a (24 + 0)) (Z (24 + 0)) :: gX3 cy (a 0 (900 + 1)) (a (24 + 1)) (Z (24 + 1)) :: gX3 cy (a 0 (900 + 2)) (a (24 + 2)) (Z (24 + 2)) :: gX3 cy (a 0 (900 + 3)) (a (24 + 3)) (Z (24 + 3)) :: pgs (WGp cy a aK B))
    refine ww_aload_n h dL_law_1075 rfl 2 rfl 1076 rfl ?_
    refine ww_aload_n h dL_law_1076 rfl 3 rfl 1077 rfl ?_
    refine ww_iload_n h dL_law_1077 rfl 0 rfl 1078 rfl ?_
    refine ww_iconst h dL_law_1078 (v := 1) (by decide) 1079 rfl ?_
    refine ww_iadd h dL_law_1079 1080 rfl ?_
    refine ww_scd h hX hbl hbA (hin 1 (by decide) (by decide)) ex0 dL_law_1080 1081 rfl ?_
    refine ww_aload_n h dL_law_1081 rfl 3 rfl 1082 rfl ?_
    refine ww_iload_n h dL_law_1082 rfl 0 rfl 1083 rfl ?_
    refine ww_iconst h dL_law_1083 (v := 2) (by decide) 1084 rfl ?_
    refine ww_iadd h dL_law_1084 1085 rfl ?_
    refine ww_scd h hX hbl hbA (hin 2 (by decide) (by decide)) ex1 dL_law_1085 1086 rfl ?_
    refine ww_aload_n h dL_law_1086 rfl 3 rfl 1087 rfl ?_
    refine ww_iload_n h dL_law_1087 rfl 0 rfl 1088 rfl ?_
    refine ww_iconst h dL_law_1088 (v := 3) (by decide) 1089 rfl ?_
    refine ww_iadd h dL_law_1089 1090 rfl ?_
    refine ww_scd h hX hbl hbA (hin 3 (by decide) (by decide)) ex2 dL_law_1090 1091 rfl ?_
    refine ww_cVi h (c_X9_at l D ev cy (o 0) (a 0) (Z 0) (a 3) (Z 3) (a 6) (Z 6) (a 8) (Z 8) (o 10) (a 10) (Z 10) (a 0 (900 + 0)) (a (24 + 0)) (Z (24 + 0)) x0 x1 x2 _ h1) ⟨w_972, w_969, w_970, w_971, w_101, ok_X9_at⟩ ⟨by decide, by decide⟩ ⟨Nat.le_trans (Nat.le_add_right _ _) hk, Nat.le_trans (Nat.le_add_right _ _) hn⟩ ⟨rfl, rfl⟩ [0, 2, 4, 5, 6, 8] (by simp only [pk_g, List.getElem?_cons_zero, List.getElem?_cons_succ, List.eraseIdx]) 0 rfl rfl rfl rfl (Nat.le_of_ble_eq_true rfl) dL_law_1091 1094 rfl (Gs' := (gX9 cy (o 0) (a 0) u.2.1 :: gX4 cy (a 0 2) (a 3) (Z 3) :: gX7 cy (a 0 5) (a 6) u.2.2.1 :: gX5 cy (a 0 7) (a 8) u.2.2.2.1 :: gX1 cy (o 10) (a 10) (Z 10) :: gX3 cy (a 0 (900 + 0)) (a (24 + 0)) u.2.2.2.2 :: gX0 cy (a 0 0) (a 1) (Z 1) :: gX0 cy (a 0 1) (a 2) (Z 2) :: gX4 cy (a 0 3) (a 4) (Z 4) :: gX2 cy (a 0 4) (a 5) (Z 5) :: gX7 cy (a 0 6) (a 7) (Z 7) :: gX8 cy (a 0 9) (a 9) (Z 9) :: gX1 cy (o 11) (a 11) (Z 11) :: gX10 cy (o 28) (a 28) (Z 28) :: gX3 cy (a 0 (900 + 1)) (a (24 + 1)) (Z (24 + 1)) :: gX3 cy (a 0 (900 + 2)) (a (24 + 2)) (Z (24 + 2)) :: gX3 cy (a 0 (900 + 3)) (a (24 + 3)) (Z (24 + 3)) :: pgs (WGp cy a aK B))) rfl ?_
    refine ww_aload_n h dL_law_1094 rfl 1 rfl 1095 rfl ?_
    refine ww_aload_n h dL_law_1095 rfl 3 rfl 1096 rfl ?_
    refine ww_iload_n h dL_law_1096 rfl 0 rfl 1097 rfl ?_
    refine ww_iconst h dL_law_1097 (v := 1) (by decide) 1098 rfl ?_
    refine ww_iadd h dL_law_1098 1099 rfl ?_
    refine ww_scd h hX hbl hbA (hin 1 (by decide) (by decide)) ex0 dL_law_1099 1100 rfl ?_
    refine ww_aload_n h dL_law_1100 rfl 3 rfl 1101 rfl ?_
    refine ww_iload_n h dL_law_1101 rfl 0 rfl 1102 rfl ?_
    refine ww_iconst h dL_law_1102 (v := 2) (by decide) 1103 rfl ?_
    refine ww_iadd h dL_law_1103 1104 rfl ?_
    refine ww_scd h hX hbl hbA (hin 2 (by decide) (by decide)) ex1 dL_law_1104 1105 rfl ?_
    refine ww_aload_n h dL_law_1105 rfl 3 rfl 1106 rfl ?_
    refine ww_iload_n h dL_law_1106 rfl 0 rfl 1107 rfl ?_
    refine ww_iconst h dL_law_1107 (v := 3) (by decide) 1108 rfl ?_
    refine ww_iadd h dL_law_1108 1109 rfl ?_
    refine ww_scd h hX hbl hbA (hin 3 (by decide) (by decide)) ex2 dL_law_1109 1110 rfl ?_
    refine ww_cVi h (c_X10_at l D ev cy (o 28) (a 28) (Z 28) x0 x1 x2 _ h2) ⟨w_1569, w_1566, w_1567, w_1568, w_111, ok_X10_at⟩ ⟨by decide, by decide⟩ ⟨Nat.le_trans (Nat.le_add_right _ _) hk, Nat.le_trans (Nat.le_add_right _ _) hn⟩ ⟨rfl, rfl⟩ [13] (by simp only [pk_g, List.getElem?_cons_zero, List.getElem?_cons_succ, List.eraseIdx]) 0 rfl rfl rfl rfl (Nat.le_of_ble_eq_true rfl) dL_law_1110 1113 rfl (Gs' := (gX10 cy (o 28) (a 28) w.2 :: gX9 cy (o 0) (a 0) u.2.1 :: gX4 cy (a 0 2) (a 3) (Z 3) :: gX7 cy (a 0 5) (a 6) u.2.2.1 :: gX5 cy (a 0 7) (a 8) u.2.2.2.1 :: gX1 cy (o 10) (a 10) (Z 10) :: gX3 cy (a 0 (900 + 0)) (a (24 + 0)) u.2.2.2.2 :: gX0 cy (a 0 0) (a 1) (Z 1) :: gX0 cy (a 0 1) (a 2) (Z 2) :: gX4 cy (a 0 3) (a 4) (Z 4) :: gX2 cy (a 0 4) (a 5) (Z 5) :: gX7 cy (a 0 6) (a 7) (Z 7) :: gX8 cy (a 0 9) (a 9) (Z 9) :: gX1 cy (o 11) (a 11) (Z 11) :: gX3 cy (a 0 (900 + 1)) (a (24 + 1)) (Z (24 + 1)) :: gX3 cy (a 0 (900 + 2)) (a (24 + 2)) (Z (24 + 2)) :: gX3 cy (a 0 (900 + 3)) (a (24 + 3)) (Z (24 + 3)) :: pgs (WGp cy a aK B))) rfl ?_
    refine ww_icmp_eq h dL_law_1113 1591 (by decide) 1116 rfl (fun _ => ?_) (fun c => absurd h3.symm c)
    refine ww_kn (Nat.le_succ k) (Nat.le_add_right n 6) ?_
    refine ww_permT [1, 6, 6, 1, 5, 5, 1, 4, 1, 3, 1, 2, 0, 0, 0, 0, 0] (Cs := [gX9 cy (o 0) (a 0) u.2.1, gX0 cy (a 0 0) (a 1) (Z 1), gX0 cy (a 0 1) (a 2) (Z 2), gX4 cy (a 0 2) (a 3) (Z 3), gX4 cy (a 0 3) (a 4) (Z 4), gX2 cy (a 0 4) (a 5) (Z 5), gX7 cy (a 0 5) (a 6) u.2.2.1, gX7 cy (a 0 6) (a 7) (Z 7), gX5 cy (a 0 7) (a 8) u.2.2.2.1, gX8 cy (a 0 9) (a 9) (Z 9), gX1 cy (o 10) (a 10) (Z 10), gX1 cy (o 11) (a 11) (Z 11), gX10 cy (o 28) (a 28) w.2, gX3 cy (a 0 (900 + 0)) (a (24 + 0)) u.2.2.2.2, gX3 cy (a 0 (900 + 1)) (a (24 + 1)) (Z (24 + 1)), gX3 cy (a 0 (900 + 2)) (a (24 + 2)) (Z (24 + 2)), gX3 cy (a 0 (900 + 3)) (a (24 + 3)) (Z (24 + 3))]) (Rs := pgs (WGp cy a aK B)) (by simp only [pk_g, List.getElem?_cons_zero, List.getElem?_cons_succ, List.eraseIdx]) (Gs' := (gX9 cy (o 0) (a 0) u.2.1 :: gX0 cy (a 0 0) (a 1) (Z 1) :: gX0 cy (a 0 1) (a 2) (Z 2) :: gX4 cy (a 0 2) (a 3) (Z 3) :: gX4 cy (a 0 3) (a 4) (Z 4) :: gX2 cy (a 0 4) (a 5) (Z 5) :: gX7 cy (a 0 5) (a 6) u.2.2.1 :: gX7 cy (a 0 6) (a 7) (Z 7) :: gX5 cy (a 0 7) (a 8) u.2.2.2.1 :: gX8 cy (a 0 9) (a 9) (Z 9) :: gX1 cy (o 10) (a 10) (Z 10) :: gX1 cy (o 11) (a 11) (Z 11) :: gX10 cy (o 28) (a 28) w.2 :: gX3 cy (a 0 (900 + 0)) (a (24 + 0)) u.2.2.2.2 :: gX3 cy (a 0 (900 + 1)) (a (24 + 1)) (Z (24 + 1)) :: gX3 cy (a 0 (900 + 2)) (a (24 + 2)) (Z (24 + 2)) :: gX3 cy (a 0 (900 + 3)) (a (24 + 3)) (Z (24 + 3)) :: pgs (WGp cy a aK B))) rfl ?_
    exact kk _ _ _ _ _ h4
  · obtain ⟨u, w, h1, h2, h3, h4⟩ := hv
    show ww X D A 4 Q k n 1075 [(3, .int i), (2, .ref (o 28)), (1, .ref (o 0)), (0, .ref b)] [] (gX9 cy (o 0) (a 0) (Z 0) :: gX0 cy (a 0 0) (a 1) (Z 1) :: gX0 cy (a 0 1) (a 2) (Z 2) :: gX4 cy (a 0 2) (a 3) (Z 3) :: gX4 cy (a 0 3) (a 4) (Z 4) :: gX2 cy (a 0 4) (a 5) (Z 5) :: gX7 cy (a 0 5) (a 6) (Z 6) :: gX7 cy (a 0 6) (a 7) (Z 7) :: gX5 cy (a 0 7) (a 8) (Z 8) :: gX8 cy (a 0 9) (a 9) (Z 9) :: gX1 cy (o 10) (a 10) (Z 10) :: gX1 cy (o 11) (a 11) (Z 11) :: gX10 cy (o 28) (a 28) (Z 28) :: gX3 cy (a 0 (900 + 0)) (a (24 + 0)) (Z (24 + 0)) :: gX3 cy (a 0 (900 + 1)) (a (24 + 1)) (Z (24 + 1)) :: gX3 cy (a 0 (900 + 2)) (a (24 + 2)) (Z (24 + 2)) :: gX3 cy (a 0 (900 + 3)) (a (24 + 3)) (Z (24 + 3)) :: pgs (WGp cy a aK B))
    refine ww_aload_n h dL_law_1075 rfl 2 rfl 1076 rfl ?_
    refine ww_aload_n h dL_law_1076 rfl 3 rfl 1077 rfl ?_
    refine ww_iload_n h dL_law_1077 rfl 0 rfl 1078 rfl ?_
    refine ww_iconst h dL_law_1078 (v := 1) (by decide) 1079 rfl ?_
    refine ww_iadd h dL_law_1079 1080 rfl ?_
    refine ww_scd h hX hbl hbA (hin 1 (by decide) (by decide)) ex0 dL_law_1080 1081 rfl ?_
    refine ww_aload_n h dL_law_1081 rfl 3 rfl 1082 rfl ?_
    refine ww_iload_n h dL_law_1082 rfl 0 rfl 1083 rfl ?_
    refine ww_iconst h dL_law_1083 (v := 2) (by decide) 1084 rfl ?_
    refine ww_iadd h dL_law_1084 1085 rfl ?_
    refine ww_scd h hX hbl hbA (hin 2 (by decide) (by decide)) ex1 dL_law_1085 1086 rfl ?_
    refine ww_aload_n h dL_law_1086 rfl 3 rfl 1087 rfl ?_
    refine ww_iload_n h dL_law_1087 rfl 0 rfl 1088 rfl ?_
    refine ww_iconst h dL_law_1088 (v := 3) (by decide) 1089 rfl ?_
    refine ww_iadd h dL_law_1089 1090 rfl ?_
    refine ww_scd h hX hbl hbA (hin 3 (by decide) (by decide)) ex2 dL_law_1090 1091 rfl ?_
    refine ww_cVi h (c_X9_at l D ev cy (o 0) (a 0) (Z 0) (a 3) (Z 3) (a 6) (Z 6) (a 8) (Z 8) (o 10) (a 10) (Z 10) (a 0 (900 + 1)) (a (24 + 1)) (Z (24 + 1)) x0 x1 x2 _ h1) ⟨w_972, w_969, w_970, w_971, w_101, ok_X9_at⟩ ⟨by decide, by decide⟩ ⟨Nat.le_trans (Nat.le_add_right _ _) hk, Nat.le_trans (Nat.le_add_right _ _) hn⟩ ⟨rfl, rfl⟩ [0, 2, 4, 5, 6, 9] (by simp only [pk_g, List.getElem?_cons_zero, List.getElem?_cons_succ, List.eraseIdx]) 0 rfl rfl rfl rfl (Nat.le_of_ble_eq_true rfl) dL_law_1091 1094 rfl (Gs' := (gX9 cy (o 0) (a 0) u.2.1 :: gX4 cy (a 0 2) (a 3) (Z 3) :: gX7 cy (a 0 5) (a 6) u.2.2.1 :: gX5 cy (a 0 7) (a 8) u.2.2.2.1 :: gX1 cy (o 10) (a 10) (Z 10) :: gX3 cy (a 0 (900 + 1)) (a (24 + 1)) u.2.2.2.2 :: gX0 cy (a 0 0) (a 1) (Z 1) :: gX0 cy (a 0 1) (a 2) (Z 2) :: gX4 cy (a 0 3) (a 4) (Z 4) :: gX2 cy (a 0 4) (a 5) (Z 5) :: gX7 cy (a 0 6) (a 7) (Z 7) :: gX8 cy (a 0 9) (a 9) (Z 9) :: gX1 cy (o 11) (a 11) (Z 11) :: gX10 cy (o 28) (a 28) (Z 28) :: gX3 cy (a 0 (900 + 0)) (a (24 + 0)) (Z (24 + 0)) :: gX3 cy (a 0 (900 + 2)) (a (24 + 2)) (Z (24 + 2)) :: gX3 cy (a 0 (900 + 3)) (a (24 + 3)) (Z (24 + 3)) :: pgs (WGp cy a aK B))) rfl ?_
    refine ww_aload_n h dL_law_1094 rfl 1 rfl 1095 rfl ?_
    refine ww_aload_n h dL_law_1095 rfl 3 rfl 1096 rfl ?_
    refine ww_iload_n h dL_law_1096 rfl 0 rfl 1097 rfl ?_
    refine ww_iconst h dL_law_1097 (v := 1) (by decide) 1098 rfl ?_
    refine ww_iadd h dL_law_1098 1099 rfl ?_
    refine ww_scd h hX hbl hbA (hin 1 (by decide) (by decide)) ex0 dL_law_1099 1100 rfl ?_
    refine ww_aload_n h dL_law_1100 rfl 3 rfl 1101 rfl ?_
    refine ww_iload_n h dL_law_1101 rfl 0 rfl 1102 rfl ?_
    refine ww_iconst h dL_law_1102 (v := 2) (by decide) 1103 rfl ?_
    refine ww_iadd h dL_law_1103 1104 rfl ?_
    refine ww_scd h hX hbl hbA (hin 2 (by decide) (by decide)) ex1 dL_law_1104 1105 rfl ?_
    refine ww_aload_n h dL_law_1105 rfl 3 rfl 1106 rfl ?_
    refine ww_iload_n h dL_law_1106 rfl 0 rfl 1107 rfl ?_
    refine ww_iconst h dL_law_1107 (v := 3) (by decide) 1108 rfl ?_
    refine ww_iadd h dL_law_1108 1109 rfl ?_
    refine ww_scd h hX hbl hbA (hin 3 (by decide) (by decide)) ex2 dL_law_1109 1110 rfl ?_
    refine ww_cVi h (c_X10_at l D ev cy (o 28) (a 28) (Z 28) x0 x1 x2 _ h2) ⟨w_1569, w_1566, w_1567, w_1568, w_111, ok_X10_at⟩ ⟨by decide, by decide⟩ ⟨Nat.le_trans (Nat.le_add_right _ _) hk, Nat.le_trans (Nat.le_add_right _ _) hn⟩ ⟨rfl, rfl⟩ [13] (by simp only [pk_g, List.getElem?_cons_zero, List.getElem?_cons_succ, List.eraseIdx]) 0 rfl rfl rfl rfl (Nat.le_of_ble_eq_true rfl) dL_law_1110 1113 rfl (Gs' := (gX10 cy (o 28) (a 28) w.2 :: gX9 cy (o 0) (a 0) u.2.1 :: gX4 cy (a 0 2) (a 3) (Z 3) :: gX7 cy (a 0 5) (a 6) u.2.2.1 :: gX5 cy (a 0 7) (a 8) u.2.2.2.1 :: gX1 cy (o 10) (a 10) (Z 10) :: gX3 cy (a 0 (900 + 1)) (a (24 + 1)) u.2.2.2.2 :: gX0 cy (a 0 0) (a 1) (Z 1) :: gX0 cy (a 0 1) (a 2) (Z 2) :: gX4 cy (a 0 3) (a 4) (Z 4) :: gX2 cy (a 0 4) (a 5) (Z 5) :: gX7 cy (a 0 6) (a 7) (Z 7) :: gX8 cy (a 0 9) (a 9) (Z 9) :: gX1 cy (o 11) (a 11) (Z 11) :: gX3 cy (a 0 (900 + 0)) (a (24 + 0)) (Z (24 + 0)) :: gX3 cy (a 0 (900 + 2)) (a (24 + 2)) (Z (24 + 2)) :: gX3 cy (a 0 (900 + 3)) (a (24 + 3)) (Z (24 + 3)) :: pgs (WGp cy a aK B))) rfl ?_
    refine ww_icmp_eq h dL_law_1113 1591 (by decide) 1116 rfl (fun _ => ?_) (fun c => absurd h3.symm c)
    refine ww_kn (Nat.le_succ k) (Nat.le_add_right n 6) ?_
    refine ww_permT [1, 6, 6, 1, 5, 5, 1, 4, 1, 3, 1, 2, 0, 1, 0, 0, 0] (Cs := [gX9 cy (o 0) (a 0) u.2.1, gX0 cy (a 0 0) (a 1) (Z 1), gX0 cy (a 0 1) (a 2) (Z 2), gX4 cy (a 0 2) (a 3) (Z 3), gX4 cy (a 0 3) (a 4) (Z 4), gX2 cy (a 0 4) (a 5) (Z 5), gX7 cy (a 0 5) (a 6) u.2.2.1, gX7 cy (a 0 6) (a 7) (Z 7), gX5 cy (a 0 7) (a 8) u.2.2.2.1, gX8 cy (a 0 9) (a 9) (Z 9), gX1 cy (o 10) (a 10) (Z 10), gX1 cy (o 11) (a 11) (Z 11), gX10 cy (o 28) (a 28) w.2, gX3 cy (a 0 (900 + 0)) (a (24 + 0)) (Z (24 + 0)), gX3 cy (a 0 (900 + 1)) (a (24 + 1)) u.2.2.2.2, gX3 cy (a 0 (900 + 2)) (a (24 + 2)) (Z (24 + 2)), gX3 cy (a 0 (900 + 3)) (a (24 + 3)) (Z (24 + 3))]) (Rs := pgs (WGp cy a aK B)) (by simp only [pk_g, List.getElem?_cons_zero, List.getElem?_cons_succ, List.eraseIdx]) (Gs' := (gX9 cy (o 0) (a 0) u.2.1 :: gX0 cy (a 0 0) (a 1) (Z 1) :: gX0 cy (a 0 1) (a 2) (Z 2) :: gX4 cy (a 0 2) (a 3) (Z 3) :: gX4 cy (a 0 3) (a 4) (Z 4) :: gX2 cy (a 0 4) (a 5) (Z 5) :: gX7 cy (a 0 5) (a 6) u.2.2.1 :: gX7 cy (a 0 6) (a 7) (Z 7) :: gX5 cy (a 0 7) (a 8) u.2.2.2.1 :: gX8 cy (a 0 9) (a 9) (Z 9) :: gX1 cy (o 10) (a 10) (Z 10) :: gX1 cy (o 11) (a 11) (Z 11) :: gX10 cy (o 28) (a 28) w.2 :: gX3 cy (a 0 (900 + 0)) (a (24 + 0)) (Z (24 + 0)) :: gX3 cy (a 0 (900 + 1)) (a (24 + 1)) u.2.2.2.2 :: gX3 cy (a 0 (900 + 2)) (a (24 + 2)) (Z (24 + 2)) :: gX3 cy (a 0 (900 + 3)) (a (24 + 3)) (Z (24 + 3)) :: pgs (WGp cy a aK B))) rfl ?_
    exact kk _ _ _ _ _ h4
  · obtain ⟨u, w, h1, h2, h3, h4⟩ := hv
    show ww X D A 4 Q k n 1075 [(3, .int i), (2, .ref (o 28)), (1, .ref (o 0)), (0, .ref b)] [] (gX9 cy (o 0) (a 0) (Z 0) :: gX0 cy (a 0 0) (a 1) (Z 1) :: gX0 cy (a 0 1) (a 2) (Z 2) :: gX4 cy (a 0 2) (a 3) (Z 3) :: gX4 cy (a 0 3) (a 4) (Z 4) :: gX2 cy (a 0 4) (a 5) (Z 5) :: gX7 cy (a 0 5) (a 6) (Z 6) :: gX7 cy (a 0 6) (a 7) (Z 7) :: gX5 cy (a 0 7) (a 8) (Z 8) :: gX8 cy (a 0 9) (a 9) (Z 9) :: gX1 cy (o 10) (a 10) (Z 10) :: gX1 cy (o 11) (a 11) (Z 11) :: gX10 cy (o 28) (a 28) (Z 28) :: gX3 cy (a 0 (900 + 0)) (a (24 + 0)) (Z (24 + 0)) :: gX3 cy (a 0 (900 + 1)) (a (24 + 1)) (Z (24 + 1)) :: gX3 cy (a 0 (900 + 2)) (a (24 + 2)) (Z (24 + 2)) :: gX3 cy (a 0 (900 + 3)) (a (24 + 3)) (Z (24 + 3)) :: pgs (WGp cy a aK B))
    refine ww_aload_n h dL_law_1075 rfl 2 rfl 1076 rfl ?_
    refine ww_aload_n h dL_law_1076 rfl 3 rfl 1077 rfl ?_
    refine ww_iload_n h dL_law_1077 rfl 0 rfl 1078 rfl ?_
    refine ww_iconst h dL_law_1078 (v := 1) (by decide) 1079 rfl ?_
    refine ww_iadd h dL_law_1079 1080 rfl ?_
    refine ww_scd h hX hbl hbA (hin 1 (by decide) (by decide)) ex0 dL_law_1080 1081 rfl ?_
    refine ww_aload_n h dL_law_1081 rfl 3 rfl 1082 rfl ?_
    refine ww_iload_n h dL_law_1082 rfl 0 rfl 1083 rfl ?_
    refine ww_iconst h dL_law_1083 (v := 2) (by decide) 1084 rfl ?_
    refine ww_iadd h dL_law_1084 1085 rfl ?_
    refine ww_scd h hX hbl hbA (hin 2 (by decide) (by decide)) ex1 dL_law_1085 1086 rfl ?_
    refine ww_aload_n h dL_law_1086 rfl 3 rfl 1087 rfl ?_
    refine ww_iload_n h dL_law_1087 rfl 0 rfl 1088 rfl ?_
    refine ww_iconst h dL_law_1088 (v := 3) (by decide) 1089 rfl ?_
    refine ww_iadd h dL_law_1089 1090 rfl ?_
    refine ww_scd h hX hbl hbA (hin 3 (by decide) (by decide)) ex2 dL_law_1090 1091 rfl ?_
    refine ww_cVi h (c_X9_at l D ev cy (o 0) (a 0) (Z 0) (a 3) (Z 3) (a 6) (Z 6) (a 8) (Z 8) (o 10) (a 10) (Z 10) (a 0 (900 + 2)) (a (24 + 2)) (Z (24 + 2)) x0 x1 x2 _ h1) ⟨w_972, w_969, w_970, w_971, w_101, ok_X9_at⟩ ⟨by decide, by decide⟩ ⟨Nat.le_trans (Nat.le_add_right _ _) hk, Nat.le_trans (Nat.le_add_right _ _) hn⟩ ⟨rfl, rfl⟩ [0, 2, 4, 5, 6, 10] (by simp only [pk_g, List.getElem?_cons_zero, List.getElem?_cons_succ, List.eraseIdx]) 0 rfl rfl rfl rfl (Nat.le_of_ble_eq_true rfl) dL_law_1091 1094 rfl (Gs' := (gX9 cy (o 0) (a 0) u.2.1 :: gX4 cy (a 0 2) (a 3) (Z 3) :: gX7 cy (a 0 5) (a 6) u.2.2.1 :: gX5 cy (a 0 7) (a 8) u.2.2.2.1 :: gX1 cy (o 10) (a 10) (Z 10) :: gX3 cy (a 0 (900 + 2)) (a (24 + 2)) u.2.2.2.2 :: gX0 cy (a 0 0) (a 1) (Z 1) :: gX0 cy (a 0 1) (a 2) (Z 2) :: gX4 cy (a 0 3) (a 4) (Z 4) :: gX2 cy (a 0 4) (a 5) (Z 5) :: gX7 cy (a 0 6) (a 7) (Z 7) :: gX8 cy (a 0 9) (a 9) (Z 9) :: gX1 cy (o 11) (a 11) (Z 11) :: gX10 cy (o 28) (a 28) (Z 28) :: gX3 cy (a 0 (900 + 0)) (a (24 + 0)) (Z (24 + 0)) :: gX3 cy (a 0 (900 + 1)) (a (24 + 1)) (Z (24 + 1)) :: gX3 cy (a 0 (900 + 3)) (a (24 + 3)) (Z (24 + 3)) :: pgs (WGp cy a aK B))) rfl ?_
    refine ww_aload_n h dL_law_1094 rfl 1 rfl 1095 rfl ?_
    refine ww_aload_n h dL_law_1095 rfl 3 rfl 1096 rfl ?_
    refine ww_iload_n h dL_law_1096 rfl 0 rfl 1097 rfl ?_
    refine ww_iconst h dL_law_1097 (v := 1) (by decide) 1098 rfl ?_
    refine ww_iadd h dL_law_1098 1099 rfl ?_
    refine ww_scd h hX hbl hbA (hin 1 (by decide) (by decide)) ex0 dL_law_1099 1100 rfl ?_
    refine ww_aload_n h dL_law_1100 rfl 3 rfl 1101 rfl ?_
    refine ww_iload_n h dL_law_1101 rfl 0 rfl 1102 rfl ?_
    refine ww_iconst h dL_law_1102 (v := 2) (by decide) 1103 rfl ?_
    refine ww_iadd h dL_law_1103 1104 rfl ?_
    refine ww_scd h hX hbl hbA (hin 2 (by decide) (by decide)) ex1 dL_law_1104 1105 rfl ?_
    refine ww_aload_n h dL_law_1105 rfl 3 rfl 1106 rfl ?_
    refine ww_iload_n h dL_law_1106 rfl 0 rfl 1107 rfl ?_
    refine ww_iconst h dL_law_1107 (v := 3) (by decide) 1108 rfl ?_
    refine ww_iadd h dL_law_1108 1109 rfl ?_
    refine ww_scd h hX hbl hbA (hin 3 (by decide) (by decide)) ex2 dL_law_1109 1110 rfl ?_
    refine ww_cVi h (c_X10_at l D ev cy (o 28) (a 28) (Z 28) x0 x1 x2 _ h2) ⟨w_1569, w_1566, w_1567, w_1568, w_111, ok_X10_at⟩ ⟨by decide, by decide⟩ ⟨Nat.le_trans (Nat.le_add_right _ _) hk, Nat.le_trans (Nat.le_add_right _ _) hn⟩ ⟨rfl, rfl⟩ [13] (by simp only [pk_g, List.getElem?_cons_zero, List.getElem?_cons_succ, List.eraseIdx]) 0 rfl rfl rfl rfl (Nat.le_of_ble_eq_true rfl) dL_law_1110 1113 rfl (Gs' := (gX10 cy (o 28) (a 28) w.2 :: gX9 cy (o 0) (a 0) u.2.1 :: gX4 cy (a 0 2) (a 3) (Z 3) :: gX7 cy (a 0 5) (a 6) u.2.2.1 :: gX5 cy (a 0 7) (a 8) u.2.2.2.1 :: gX1 cy (o 10) (a 10) (Z 10) :: gX3 cy (a 0 (900 + 2)) (a (24 + 2)) u.2.2.2.2 :: gX0 cy (a 0 0) (a 1) (Z 1) :: gX0 cy (a 0 1) (a 2) (Z 2) :: gX4 cy (a 0 3) (a 4) (Z 4) :: gX2 cy (a 0 4) (a 5) (Z 5) :: gX7 cy (a 0 6) (a 7) (Z 7) :: gX8 cy (a 0 9) (a 9) (Z 9) :: gX1 cy (o 11) (a 11) (Z 11) :: gX3 cy (a 0 (900 + 0)) (a (24 + 0)) (Z (24 + 0)) :: gX3 cy (a 0 (900 + 1)) (a (24 + 1)) (Z (24 + 1)) :: gX3 cy (a 0 (900 + 3)) (a (24 + 3)) (Z (24 + 3)) :: pgs (WGp cy a aK B))) rfl ?_
    refine ww_icmp_eq h dL_law_1113 1591 (by decide) 1116 rfl (fun _ => ?_) (fun c => absurd h3.symm c)
    refine ww_kn (Nat.le_succ k) (Nat.le_add_right n 6) ?_
    refine ww_permT [1, 6, 6, 1, 5, 5, 1, 4, 1, 3, 1, 2, 0, 1, 1, 0, 0] (Cs := [gX9 cy (o 0) (a 0) u.2.1, gX0 cy (a 0 0) (a 1) (Z 1), gX0 cy (a 0 1) (a 2) (Z 2), gX4 cy (a 0 2) (a 3) (Z 3), gX4 cy (a 0 3) (a 4) (Z 4), gX2 cy (a 0 4) (a 5) (Z 5), gX7 cy (a 0 5) (a 6) u.2.2.1, gX7 cy (a 0 6) (a 7) (Z 7), gX5 cy (a 0 7) (a 8) u.2.2.2.1, gX8 cy (a 0 9) (a 9) (Z 9), gX1 cy (o 10) (a 10) (Z 10), gX1 cy (o 11) (a 11) (Z 11), gX10 cy (o 28) (a 28) w.2, gX3 cy (a 0 (900 + 0)) (a (24 + 0)) (Z (24 + 0)), gX3 cy (a 0 (900 + 1)) (a (24 + 1)) (Z (24 + 1)), gX3 cy (a 0 (900 + 2)) (a (24 + 2)) u.2.2.2.2, gX3 cy (a 0 (900 + 3)) (a (24 + 3)) (Z (24 + 3))]) (Rs := pgs (WGp cy a aK B)) (by simp only [pk_g, List.getElem?_cons_zero, List.getElem?_cons_succ, List.eraseIdx]) (Gs' := (gX9 cy (o 0) (a 0) u.2.1 :: gX0 cy (a 0 0) (a 1) (Z 1) :: gX0 cy (a 0 1) (a 2) (Z 2) :: gX4 cy (a 0 2) (a 3) (Z 3) :: gX4 cy (a 0 3) (a 4) (Z 4) :: gX2 cy (a 0 4) (a 5) (Z 5) :: gX7 cy (a 0 5) (a 6) u.2.2.1 :: gX7 cy (a 0 6) (a 7) (Z 7) :: gX5 cy (a 0 7) (a 8) u.2.2.2.1 :: gX8 cy (a 0 9) (a 9) (Z 9) :: gX1 cy (o 10) (a 10) (Z 10) :: gX1 cy (o 11) (a 11) (Z 11) :: gX10 cy (o 28) (a 28) w.2 :: gX3 cy (a 0 (900 + 0)) (a (24 + 0)) (Z (24 + 0)) :: gX3 cy (a 0 (900 + 1)) (a (24 + 1)) (Z (24 + 1)) :: gX3 cy (a 0 (900 + 2)) (a (24 + 2)) u.2.2.2.2 :: gX3 cy (a 0 (900 + 3)) (a (24 + 3)) (Z (24 + 3)) :: pgs (WGp cy a aK B))) rfl ?_
    exact kk _ _ _ _ _ h4
  · obtain ⟨u, w, h1, h2, h3, h4⟩ := hv
    show ww X D A 4 Q k n 1075 [(3, .int i), (2, .ref (o 28)), (1, .ref (o 0)), (0, .ref b)] [] (gX9 cy (o 0) (a 0) (Z 0) :: gX0 cy (a 0 0) (a 1) (Z 1) :: gX0 cy (a 0 1) (a 2) (Z 2) :: gX4 cy (a 0 2) (a 3) (Z 3) :: gX4 cy (a 0 3) (a 4) (Z 4) :: gX2 cy (a 0 4) (a 5) (Z 5) :: gX7 cy (a 0 5) (a 6) (Z 6) :: gX7 cy (a 0 6) (a 7) (Z 7) :: gX5 cy (a 0 7) (a 8) (Z 8) :: gX8 cy (a 0 9) (a 9) (Z 9) :: gX1 cy (o 10) (a 10) (Z 10) :: gX1 cy (o 11) (a 11) (Z 11) :: gX10 cy (o 28) (a 28) (Z 28) :: gX3 cy (a 0 (900 + 0)) (a (24 + 0)) (Z (24 + 0)) :: gX3 cy (a 0 (900 + 1)) (a (24 + 1)) (Z (24 + 1)) :: gX3 cy (a 0 (900 + 2)) (a (24 + 2)) (Z (24 + 2)) :: gX3 cy (a 0 (900 + 3)) (a (24 + 3)) (Z (24 + 3)) :: pgs (WGp cy a aK B))
    refine ww_aload_n h dL_law_1075 rfl 2 rfl 1076 rfl ?_
    refine ww_aload_n h dL_law_1076 rfl 3 rfl 1077 rfl ?_
    refine ww_iload_n h dL_law_1077 rfl 0 rfl 1078 rfl ?_
    refine ww_iconst h dL_law_1078 (v := 1) (by decide) 1079 rfl ?_
    refine ww_iadd h dL_law_1079 1080 rfl ?_
    refine ww_scd h hX hbl hbA (hin 1 (by decide) (by decide)) ex0 dL_law_1080 1081 rfl ?_
    refine ww_aload_n h dL_law_1081 rfl 3 rfl 1082 rfl ?_
    refine ww_iload_n h dL_law_1082 rfl 0 rfl 1083 rfl ?_
    refine ww_iconst h dL_law_1083 (v := 2) (by decide) 1084 rfl ?_
    refine ww_iadd h dL_law_1084 1085 rfl ?_
    refine ww_scd h hX hbl hbA (hin 2 (by decide) (by decide)) ex1 dL_law_1085 1086 rfl ?_
    refine ww_aload_n h dL_law_1086 rfl 3 rfl 1087 rfl ?_
    refine ww_iload_n h dL_law_1087 rfl 0 rfl 1088 rfl ?_
    refine ww_iconst h dL_law_1088 (v := 3) (by decide) 1089 rfl ?_
    refine ww_iadd h dL_law_1089 1090 rfl ?_
    refine ww_scd h hX hbl hbA (hin 3 (by decide) (by decide)) ex2 dL_law_1090 1091 rfl ?_
    refine ww_cVi h (c_X9_at l D ev cy (o 0) (a 0) (Z 0) (a 3) (Z 3) (a 6) (Z 6) (a 8) (Z 8) (o 10) (a 10) (Z 10) (a 0 (900 + 3)) (a (24 + 3)) (Z (24 + 3)) x0 x1 x2 _ h1) ⟨w_972, w_969, w_970, w_971, w_101, ok_X9_at⟩ ⟨by decide, by decide⟩ ⟨Nat.le_trans (Nat.le_add_right _ _) hk, Nat.le_trans (Nat.le_add_right _ _) hn⟩ ⟨rfl, rfl⟩ [0, 2, 4, 5, 6, 11] (by simp only [pk_g, List.getElem?_cons_zero, List.getElem?_cons_succ, List.eraseIdx]) 0 rfl rfl rfl rfl (Nat.le_of_ble_eq_true rfl) dL_law_1091 1094 rfl (Gs' := (gX9 cy (o 0) (a 0) u.2.1 :: gX4 cy (a 0 2) (a 3) (Z 3) :: gX7 cy (a 0 5) (a 6) u.2.2.1 :: gX5 cy (a 0 7) (a 8) u.2.2.2.1 :: gX1 cy (o 10) (a 10) (Z 10) :: gX3 cy (a 0 (900 + 3)) (a (24 + 3)) u.2.2.2.2 :: gX0 cy (a 0 0) (a 1) (Z 1) :: gX0 cy (a 0 1) (a 2) (Z 2) :: gX4 cy (a 0 3) (a 4) (Z 4) :: gX2 cy (a 0 4) (a 5) (Z 5) :: gX7 cy (a 0 6) (a 7) (Z 7) :: gX8 cy (a 0 9) (a 9) (Z 9) :: gX1 cy (o 11) (a 11) (Z 11) :: gX10 cy (o 28) (a 28) (Z 28) :: gX3 cy (a 0 (900 + 0)) (a (24 + 0)) (Z (24 + 0)) :: gX3 cy (a 0 (900 + 1)) (a (24 + 1)) (Z (24 + 1)) :: gX3 cy (a 0 (900 + 2)) (a (24 + 2)) (Z (24 + 2)) :: pgs (WGp cy a aK B))) rfl ?_
    refine ww_aload_n h dL_law_1094 rfl 1 rfl 1095 rfl ?_
    refine ww_aload_n h dL_law_1095 rfl 3 rfl 1096 rfl ?_
    refine ww_iload_n h dL_law_1096 rfl 0 rfl 1097 rfl ?_
    refine ww_iconst h dL_law_1097 (v := 1) (by decide) 1098 rfl ?_
    refine ww_iadd h dL_law_1098 1099 rfl ?_
    refine ww_scd h hX hbl hbA (hin 1 (by decide) (by decide)) ex0 dL_law_1099 1100 rfl ?_
    refine ww_aload_n h dL_law_1100 rfl 3 rfl 1101 rfl ?_
    refine ww_iload_n h dL_law_1101 rfl 0 rfl 1102 rfl ?_
    refine ww_iconst h dL_law_1102 (v := 2) (by decide) 1103 rfl ?_
    refine ww_iadd h dL_law_1103 1104 rfl ?_
    refine ww_scd h hX hbl hbA (hin 2 (by decide) (by decide)) ex1 dL_law_1104 1105 rfl ?_
    refine ww_aload_n h dL_law_1105 rfl 3 rfl 1106 rfl ?_
    refine ww_iload_n h dL_law_1106 rfl 0 rfl 1107 rfl ?_
    refine ww_iconst h dL_law_1107 (v := 3) (by decide) 1108 rfl ?_
    refine ww_iadd h dL_law_1108 1109 rfl ?_
    refine ww_scd h hX hbl hbA (hin 3 (by decide) (by decide)) ex2 dL_law_1109 1110 rfl ?_
    refine ww_cVi h (c_X10_at l D ev cy (o 28) (a 28) (Z 28) x0 x1 x2 _ h2) ⟨w_1569, w_1566, w_1567, w_1568, w_111, ok_X10_at⟩ ⟨by decide, by decide⟩ ⟨Nat.le_trans (Nat.le_add_right _ _) hk, Nat.le_trans (Nat.le_add_right _ _) hn⟩ ⟨rfl, rfl⟩ [13] (by simp only [pk_g, List.getElem?_cons_zero, List.getElem?_cons_succ, List.eraseIdx]) 0 rfl rfl rfl rfl (Nat.le_of_ble_eq_true rfl) dL_law_1110 1113 rfl (Gs' := (gX10 cy (o 28) (a 28) w.2 :: gX9 cy (o 0) (a 0) u.2.1 :: gX4 cy (a 0 2) (a 3) (Z 3) :: gX7 cy (a 0 5) (a 6) u.2.2.1 :: gX5 cy (a 0 7) (a 8) u.2.2.2.1 :: gX1 cy (o 10) (a 10) (Z 10) :: gX3 cy (a 0 (900 + 3)) (a (24 + 3)) u.2.2.2.2 :: gX0 cy (a 0 0) (a 1) (Z 1) :: gX0 cy (a 0 1) (a 2) (Z 2) :: gX4 cy (a 0 3) (a 4) (Z 4) :: gX2 cy (a 0 4) (a 5) (Z 5) :: gX7 cy (a 0 6) (a 7) (Z 7) :: gX8 cy (a 0 9) (a 9) (Z 9) :: gX1 cy (o 11) (a 11) (Z 11) :: gX3 cy (a 0 (900 + 0)) (a (24 + 0)) (Z (24 + 0)) :: gX3 cy (a 0 (900 + 1)) (a (24 + 1)) (Z (24 + 1)) :: gX3 cy (a 0 (900 + 2)) (a (24 + 2)) (Z (24 + 2)) :: pgs (WGp cy a aK B))) rfl ?_
    refine ww_icmp_eq h dL_law_1113 1591 (by decide) 1116 rfl (fun _ => ?_) (fun c => absurd h3.symm c)
    refine ww_kn (Nat.le_succ k) (Nat.le_add_right n 6) ?_
    refine ww_permT [1, 6, 6, 1, 5, 5, 1, 4, 1, 3, 1, 2, 0, 1, 1, 1, 0] (Cs := [gX9 cy (o 0) (a 0) u.2.1, gX0 cy (a 0 0) (a 1) (Z 1), gX0 cy (a 0 1) (a 2) (Z 2), gX4 cy (a 0 2) (a 3) (Z 3), gX4 cy (a 0 3) (a 4) (Z 4), gX2 cy (a 0 4) (a 5) (Z 5), gX7 cy (a 0 5) (a 6) u.2.2.1, gX7 cy (a 0 6) (a 7) (Z 7), gX5 cy (a 0 7) (a 8) u.2.2.2.1, gX8 cy (a 0 9) (a 9) (Z 9), gX1 cy (o 10) (a 10) (Z 10), gX1 cy (o 11) (a 11) (Z 11), gX10 cy (o 28) (a 28) w.2, gX3 cy (a 0 (900 + 0)) (a (24 + 0)) (Z (24 + 0)), gX3 cy (a 0 (900 + 1)) (a (24 + 1)) (Z (24 + 1)), gX3 cy (a 0 (900 + 2)) (a (24 + 2)) (Z (24 + 2)), gX3 cy (a 0 (900 + 3)) (a (24 + 3)) u.2.2.2.2]) (Rs := pgs (WGp cy a aK B)) (by simp only [pk_g, List.getElem?_cons_zero, List.getElem?_cons_succ, List.eraseIdx]) (Gs' := (gX9 cy (o 0) (a 0) u.2.1 :: gX0 cy (a 0 0) (a 1) (Z 1) :: gX0 cy (a 0 1) (a 2) (Z 2) :: gX4 cy (a 0 2) (a 3) (Z 3) :: gX4 cy (a 0 3) (a 4) (Z 4) :: gX2 cy (a 0 4) (a 5) (Z 5) :: gX7 cy (a 0 5) (a 6) u.2.2.1 :: gX7 cy (a 0 6) (a 7) (Z 7) :: gX5 cy (a 0 7) (a 8) u.2.2.2.1 :: gX8 cy (a 0 9) (a 9) (Z 9) :: gX1 cy (o 10) (a 10) (Z 10) :: gX1 cy (o 11) (a 11) (Z 11) :: gX10 cy (o 28) (a 28) w.2 :: gX3 cy (a 0 (900 + 0)) (a (24 + 0)) (Z (24 + 0)) :: gX3 cy (a 0 (900 + 1)) (a (24 + 1)) (Z (24 + 1)) :: gX3 cy (a 0 (900 + 2)) (a (24 + 2)) (Z (24 + 2)) :: gX3 cy (a 0 (900 + 3)) (a (24 + 3)) u.2.2.2.2 :: pgs (WGp cy a aK B))) rfl ?_
    exact kk _ _ _ _ _ h4
set_option maxHeartbeats 4000000 in
set_option maxRecDepth 100000 in
theorem case_spell {X : Cx} {D : va_G} {ev : EvT} {cy : Nat → ClassId} {A : Nat → Prop} {Q : State → Prop} {l : Launch} {b Ln : Nat} {xs : Nat → Int32} {i : Int32} {k n : Nat} {I : LI} (C : lwC X D ev cy A l b Ln xs i k n) (ok : Ok_spell I) {o : Nat → Nat} {a aK : Nat → Nat → Nat} {Z B : Nat → OV} (hI : I o a aK Z B) (kk : lwK X D cy A Q b i k n I) : ww X D A 4 Q k n 1279 [(3, .int i), (2, .ref (o 28)), (1, .ref (o 0)), (0, .ref b)] [] (WGs cy o a aK Z B) := by
  obtain ⟨h, hX, hbl, hbA, hin, hk, hn⟩ := C
  obtain ⟨x0, ex0⟩ : ∃ x : Int32, xs (i + 1).toNatClampNeg = x := ⟨_, rfl⟩
  obtain ⟨x1, ex1⟩ : ∃ x : Int32, xs (i + 2).toNatClampNeg = x := ⟨_, rfl⟩
  obtain ⟨x2, ex2⟩ : ∃ x : Int32, xs (i + 3).toNatClampNeg = x := ⟨_, rfl⟩
  rcases ok o a aK Z B hI x0 x1 x2 with hv | hv | hv | hv
  · obtain ⟨u, w, h1, h2, h3, h4⟩ := hv
    show ww X D A 4 Q k n 1279 [(3, .int i), (2, .ref (o 28)), (1, .ref (o 0)), (0, .ref b)] [] (gX9 cy (o 0) (a 0) (Z 0) :: gX0 cy (a 0 0) (a 1) (Z 1) :: gX0 cy (a 0 1) (a 2) (Z 2) :: gX4 cy (a 0 2) (a 3) (Z 3) :: gX4 cy (a 0 3) (a 4) (Z 4) :: gX2 cy (a 0 4) (a 5) (Z 5) :: gX7 cy (a 0 5) (a 6) (Z 6) :: gX7 cy (a 0 6) (a 7) (Z 7) :: gX5 cy (a 0 7) (a 8) (Z 8) :: gX8 cy (a 0 9) (a 9) (Z 9) :: gX1 cy (o 10) (a 10) (Z 10) :: gX1 cy (o 11) (a 11) (Z 11) :: gX10 cy (o 28) (a 28) (Z 28) :: gX3 cy (a 0 (900 + 0)) (a (24 + 0)) (Z (24 + 0)) :: gX3 cy (a 0 (900 + 1)) (a (24 + 1)) (Z (24 + 1)) :: gX3 cy (a 0 (900 + 2)) (a (24 + 2)) (Z (24 + 2)) :: gX3 cy (a 0 (900 + 3)) (a (24 + 3)) (Z (24 + 3)) :: pgs (WGp cy a aK B))
    refine ww_aload_n h dL_law_1279 rfl 2 rfl 1280 rfl ?_
    refine ww_aload_n h dL_law_1280 rfl 3 rfl 1281 rfl ?_
    refine ww_iload_n h dL_law_1281 rfl 0 rfl 1282 rfl ?_
    refine ww_iconst h dL_law_1282 (v := 1) (by decide) 1283 rfl ?_
    refine ww_iadd h dL_law_1283 1284 rfl ?_
    refine ww_scd h hX hbl hbA (hin 1 (by decide) (by decide)) ex0 dL_law_1284 1285 rfl ?_
    refine ww_aload_n h dL_law_1285 rfl 3 rfl 1286 rfl ?_
    refine ww_iload_n h dL_law_1286 rfl 0 rfl 1287 rfl ?_
    refine ww_iconst h dL_law_1287 (v := 2) (by decide) 1288 rfl ?_
    refine ww_iadd h dL_law_1288 1289 rfl ?_
    refine ww_scd h hX hbl hbA (hin 2 (by decide) (by decide)) ex1 dL_law_1289 1290 rfl ?_
    refine ww_aload_n h dL_law_1290 rfl 3 rfl 1291 rfl ?_
    refine ww_iload_n h dL_law_1291 rfl 0 rfl 1292 rfl ?_
    refine ww_iconst h dL_law_1292 (v := 3) (by decide) 1293 rfl ?_
    refine ww_iadd h dL_law_1293 1294 rfl ?_
    refine ww_scd h hX hbl hbA (hin 3 (by decide) (by decide)) ex2 dL_law_1294 1295 rfl ?_
    refine ww_cVi h (c_X9_spell l D ev cy (o 0) (a 0) (Z 0) (a 2) (Z 2) (a 3) (Z 3) (a 6) (Z 6) (a 8) (Z 8) (o 10) (a 10) (Z 10) (a 0 (900 + 0)) (a (24 + 0)) (Z (24 + 0)) x0 x1 x2 _ h1) ⟨w_1019, w_1016, w_1017, w_1018, w_101, ok_X9_spell⟩ ⟨by decide, by decide⟩ ⟨Nat.le_trans (Nat.le_add_right _ _) hk, Nat.le_trans (Nat.le_add_right _ _) hn⟩ ⟨rfl, rfl⟩ [0, 1, 1, 3, 4, 5, 7] (by simp only [pk_g, List.getElem?_cons_zero, List.getElem?_cons_succ, List.eraseIdx]) 0 rfl rfl rfl rfl (Nat.le_of_ble_eq_true rfl) dL_law_1295 1298 rfl (Gs' := (gX9 cy (o 0) (a 0) u.2.1 :: gX0 cy (a 0 1) (a 2) u.2.2.1 :: gX4 cy (a 0 2) (a 3) (Z 3) :: gX7 cy (a 0 5) (a 6) u.2.2.2.1 :: gX5 cy (a 0 7) (a 8) u.2.2.2.2.1 :: gX1 cy (o 10) (a 10) (Z 10) :: gX3 cy (a 0 (900 + 0)) (a (24 + 0)) u.2.2.2.2.2 :: gX0 cy (a 0 0) (a 1) (Z 1) :: gX4 cy (a 0 3) (a 4) (Z 4) :: gX2 cy (a 0 4) (a 5) (Z 5) :: gX7 cy (a 0 6) (a 7) (Z 7) :: gX8 cy (a 0 9) (a 9) (Z 9) :: gX1 cy (o 11) (a 11) (Z 11) :: gX10 cy (o 28) (a 28) (Z 28) :: gX3 cy (a 0 (900 + 1)) (a (24 + 1)) (Z (24 + 1)) :: gX3 cy (a 0 (900 + 2)) (a (24 + 2)) (Z (24 + 2)) :: gX3 cy (a 0 (900 + 3)) (a (24 + 3)) (Z (24 + 3)) :: pgs (WGp cy a aK B))) rfl ?_
    refine ww_aload_n h dL_law_1298 rfl 1 rfl 1299 rfl ?_
    refine ww_aload_n h dL_law_1299 rfl 3 rfl 1300 rfl ?_
    refine ww_iload_n h dL_law_1300 rfl 0 rfl 1301 rfl ?_
    refine ww_iconst h dL_law_1301 (v := 1) (by decide) 1302 rfl ?_
    refine ww_iadd h dL_law_1302 1303 rfl ?_
    refine ww_scd h hX hbl hbA (hin 1 (by decide) (by decide)) ex0 dL_law_1303 1304 rfl ?_
    refine ww_aload_n h dL_law_1304 rfl 3 rfl 1305 rfl ?_
    refine ww_iload_n h dL_law_1305 rfl 0 rfl 1306 rfl ?_
    refine ww_iconst h dL_law_1306 (v := 2) (by decide) 1307 rfl ?_
    refine ww_iadd h dL_law_1307 1308 rfl ?_
    refine ww_scd h hX hbl hbA (hin 2 (by decide) (by decide)) ex1 dL_law_1308 1309 rfl ?_
    refine ww_aload_n h dL_law_1309 rfl 3 rfl 1310 rfl ?_
    refine ww_iload_n h dL_law_1310 rfl 0 rfl 1311 rfl ?_
    refine ww_iconst h dL_law_1311 (v := 3) (by decide) 1312 rfl ?_
    refine ww_iadd h dL_law_1312 1313 rfl ?_
    refine ww_scd h hX hbl hbA (hin 3 (by decide) (by decide)) ex2 dL_law_1313 1314 rfl ?_
    refine ww_cVi h (c_X10_spell l D ev cy (o 28) (a 28) (Z 28) x0 x1 x2 _ h2) ⟨w_1593, w_1590, w_1591, w_1592, w_111, ok_X10_spell⟩ ⟨by decide, by decide⟩ ⟨Nat.le_trans (Nat.le_add_right _ _) hk, Nat.le_trans (Nat.le_add_right _ _) hn⟩ ⟨rfl, rfl⟩ [13] (by simp only [pk_g, List.getElem?_cons_zero, List.getElem?_cons_succ, List.eraseIdx]) 0 rfl rfl rfl rfl (Nat.le_of_ble_eq_true rfl) dL_law_1314 1317 rfl (Gs' := (gX10 cy (o 28) (a 28) w.2 :: gX9 cy (o 0) (a 0) u.2.1 :: gX0 cy (a 0 1) (a 2) u.2.2.1 :: gX4 cy (a 0 2) (a 3) (Z 3) :: gX7 cy (a 0 5) (a 6) u.2.2.2.1 :: gX5 cy (a 0 7) (a 8) u.2.2.2.2.1 :: gX1 cy (o 10) (a 10) (Z 10) :: gX3 cy (a 0 (900 + 0)) (a (24 + 0)) u.2.2.2.2.2 :: gX0 cy (a 0 0) (a 1) (Z 1) :: gX4 cy (a 0 3) (a 4) (Z 4) :: gX2 cy (a 0 4) (a 5) (Z 5) :: gX7 cy (a 0 6) (a 7) (Z 7) :: gX8 cy (a 0 9) (a 9) (Z 9) :: gX1 cy (o 11) (a 11) (Z 11) :: gX3 cy (a 0 (900 + 1)) (a (24 + 1)) (Z (24 + 1)) :: gX3 cy (a 0 (900 + 2)) (a (24 + 2)) (Z (24 + 2)) :: gX3 cy (a 0 (900 + 3)) (a (24 + 3)) (Z (24 + 3)) :: pgs (WGp cy a aK B))) rfl ?_
    refine ww_icmp_eq h dL_law_1317 1591 (by decide) 1320 rfl (fun _ => ?_) (fun c => absurd h3.symm c)
    refine ww_kn (Nat.le_succ k) (Nat.le_add_right n 6) ?_
    refine ww_permT [1, 7, 1, 1, 5, 5, 1, 4, 1, 3, 1, 2, 0, 0, 0, 0, 0] (Cs := [gX9 cy (o 0) (a 0) u.2.1, gX0 cy (a 0 0) (a 1) (Z 1), gX0 cy (a 0 1) (a 2) u.2.2.1, gX4 cy (a 0 2) (a 3) (Z 3), gX4 cy (a 0 3) (a 4) (Z 4), gX2 cy (a 0 4) (a 5) (Z 5), gX7 cy (a 0 5) (a 6) u.2.2.2.1, gX7 cy (a 0 6) (a 7) (Z 7), gX5 cy (a 0 7) (a 8) u.2.2.2.2.1, gX8 cy (a 0 9) (a 9) (Z 9), gX1 cy (o 10) (a 10) (Z 10), gX1 cy (o 11) (a 11) (Z 11), gX10 cy (o 28) (a 28) w.2, gX3 cy (a 0 (900 + 0)) (a (24 + 0)) u.2.2.2.2.2, gX3 cy (a 0 (900 + 1)) (a (24 + 1)) (Z (24 + 1)), gX3 cy (a 0 (900 + 2)) (a (24 + 2)) (Z (24 + 2)), gX3 cy (a 0 (900 + 3)) (a (24 + 3)) (Z (24 + 3))]) (Rs := pgs (WGp cy a aK B)) (by simp only [pk_g, List.getElem?_cons_zero, List.getElem?_cons_succ, List.eraseIdx]) (Gs' := (gX9 cy (o 0) (a 0) u.2.1 :: gX0 cy (a 0 0) (a 1) (Z 1) :: gX0 cy (a 0 1) (a 2) u.2.2.1 :: gX4 cy (a 0 2) (a 3) (Z 3) :: gX4 cy (a 0 3) (a 4) (Z 4) :: gX2 cy (a 0 4) (a 5) (Z 5) :: gX7 cy (a 0 5) (a 6) u.2.2.2.1 :: gX7 cy (a 0 6) (a 7) (Z 7) :: gX5 cy (a 0 7) (a 8) u.2.2.2.2.1 :: gX8 cy (a 0 9) (a 9) (Z 9) :: gX1 cy (o 10) (a 10) (Z 10) :: gX1 cy (o 11) (a 11) (Z 11) :: gX10 cy (o 28) (a 28) w.2 :: gX3 cy (a 0 (900 + 0)) (a (24 + 0)) u.2.2.2.2.2 :: gX3 cy (a 0 (900 + 1)) (a (24 + 1)) (Z (24 + 1)) :: gX3 cy (a 0 (900 + 2)) (a (24 + 2)) (Z (24 + 2)) :: gX3 cy (a 0 (900 + 3)) (a (24 + 3)) (Z (24 + 3)) :: pgs (WGp cy a aK B))) rfl ?_
    exact kk _ _ _ _ _ h4
  · obtain ⟨u, w, h1, h2, h3, h4⟩ := hv
    show ww X D A 4 Q k n 1279 [(3, .int i), (2, .ref (o 28)), (1, .ref (o 0)), (0, .ref b)] [] (gX9 cy (o 0) (a 0) (Z 0) :: gX0 cy (a 0 0) (a 1) (Z 1) :: gX0 cy (a 0 1) (a 2) (Z 2) :: gX4 cy (a 0 2) (a 3) (Z 3) :: gX4 cy (a 0 3) (a 4) (Z 4) :: gX2 cy (a 0 4) (a 5) (Z 5) :: gX7 cy (a 0 5) (a 6) (Z 6) :: gX7 cy (a 0 6) (a 7) (Z 7) :: gX5 cy (a 0 7) (a 8) (Z 8) :: gX8 cy (a 0 9) (a 9) (Z 9) :: gX1 cy (o 10) (a 10) (Z 10) :: gX1 cy (o 11) (a 11) (Z 11) :: gX10 cy (o 28) (a 28) (Z 28) :: gX3 cy (a 0 (900 + 0)) (a (24 + 0)) (Z (24 + 0)) :: gX3 cy (a 0 (900 + 1)) (a (24 + 1)) (Z (24 + 1)) :: gX3 cy (a 0 (900 + 2)) (a (24 + 2)) (Z (24 + 2)) :: gX3 cy (a 0 (900 + 3)) (a (24 + 3)) (Z (24 + 3)) :: pgs (WGp cy a aK B))
    refine ww_aload_n h dL_law_1279 rfl 2 rfl 1280 rfl ?_
    refine ww_aload_n h dL_law_1280 rfl 3 rfl 1281 rfl ?_
    refine ww_iload_n h dL_law_1281 rfl 0 rfl 1282 rfl ?_
    refine ww_iconst h dL_law_1282 (v := 1) (by decide) 1283 rfl ?_
    refine ww_iadd h dL_law_1283 1284 rfl ?_
    refine ww_scd h hX hbl hbA (hin 1 (by decide) (by decide)) ex0 dL_law_1284 1285 rfl ?_
    refine ww_aload_n h dL_law_1285 rfl 3 rfl 1286 rfl ?_
    refine ww_iload_n h dL_law_1286 rfl 0 rfl 1287 rfl ?_
    refine ww_iconst h dL_law_1287 (v := 2) (by decide) 1288 rfl ?_
    refine ww_iadd h dL_law_1288 1289 rfl ?_
    refine ww_scd h hX hbl hbA (hin 2 (by decide) (by decide)) ex1 dL_law_1289 1290 rfl ?_
    refine ww_aload_n h dL_law_1290 rfl 3 rfl 1291 rfl ?_
    refine ww_iload_n h dL_law_1291 rfl 0 rfl 1292 rfl ?_
    refine ww_iconst h dL_law_1292 (v := 3) (by decide) 1293 rfl ?_
    refine ww_iadd h dL_law_1293 1294 rfl ?_
    refine ww_scd h hX hbl hbA (hin 3 (by decide) (by decide)) ex2 dL_law_1294 1295 rfl ?_
    refine ww_cVi h (c_X9_spell l D ev cy (o 0) (a 0) (Z 0) (a 2) (Z 2) (a 3) (Z 3) (a 6) (Z 6) (a 8) (Z 8) (o 10) (a 10) (Z 10) (a 0 (900 + 1)) (a (24 + 1)) (Z (24 + 1)) x0 x1 x2 _ h1) ⟨w_1019, w_1016, w_1017, w_1018, w_101, ok_X9_spell⟩ ⟨by decide, by decide⟩ ⟨Nat.le_trans (Nat.le_add_right _ _) hk, Nat.le_trans (Nat.le_add_right _ _) hn⟩ ⟨rfl, rfl⟩ [0, 1, 1, 3, 4, 5, 8] (by simp only [pk_g, List.getElem?_cons_zero, List.getElem?_cons_succ, List.eraseIdx]) 0 rfl rfl rfl rfl (Nat.le_of_ble_eq_true rfl) dL_law_1295 1298 rfl (Gs' := (gX9 cy (o 0) (a 0) u.2.1 :: gX0 cy (a 0 1) (a 2) u.2.2.1 :: gX4 cy (a 0 2) (a 3) (Z 3) :: gX7 cy (a 0 5) (a 6) u.2.2.2.1 :: gX5 cy (a 0 7) (a 8) u.2.2.2.2.1 :: gX1 cy (o 10) (a 10) (Z 10) :: gX3 cy (a 0 (900 + 1)) (a (24 + 1)) u.2.2.2.2.2 :: gX0 cy (a 0 0) (a 1) (Z 1) :: gX4 cy (a 0 3) (a 4) (Z 4) :: gX2 cy (a 0 4) (a 5) (Z 5) :: gX7 cy (a 0 6) (a 7) (Z 7) :: gX8 cy (a 0 9) (a 9) (Z 9) :: gX1 cy (o 11) (a 11) (Z 11) :: gX10 cy (o 28) (a 28) (Z 28) :: gX3 cy (a 0 (900 + 0)) (a (24 + 0)) (Z (24 + 0)) :: gX3 cy (a 0 (900 + 2)) (a (24 + 2)) (Z (24 + 2)) :: gX3 cy (a 0 (900 + 3)) (a (24 + 3)) (Z (24 + 3)) :: pgs (WGp cy a aK B))) rfl ?_
    refine ww_aload_n h dL_law_1298 rfl 1 rfl 1299 rfl ?_
    refine ww_aload_n h dL_law_1299 rfl 3 rfl 1300 rfl ?_
    refine ww_iload_n h dL_law_1300 rfl 0 rfl 1301 rfl ?_
    refine ww_iconst h dL_law_1301 (v := 1) (by decide) 1302 rfl ?_
    refine ww_iadd h dL_law_1302 1303 rfl ?_
    refine ww_scd h hX hbl hbA (hin 1 (by decide) (by decide)) ex0 dL_law_1303 1304 rfl ?_
    refine ww_aload_n h dL_law_1304 rfl 3 rfl 1305 rfl ?_
    refine ww_iload_n h dL_law_1305 rfl 0 rfl 1306 rfl ?_
    refine ww_iconst h dL_law_1306 (v := 2) (by decide) 1307 rfl ?_
    refine ww_iadd h dL_law_1307 1308 rfl ?_
    refine ww_scd h hX hbl hbA (hin 2 (by decide) (by decide)) ex1 dL_law_1308 1309 rfl ?_
    refine ww_aload_n h dL_law_1309 rfl 3 rfl 1310 rfl ?_
    refine ww_iload_n h dL_law_1310 rfl 0 rfl 1311 rfl ?_
    refine ww_iconst h dL_law_1311 (v := 3) (by decide) 1312 rfl ?_
    refine ww_iadd h dL_law_1312 1313 rfl ?_
    refine ww_scd h hX hbl hbA (hin 3 (by decide) (by decide)) ex2 dL_law_1313 1314 rfl ?_
    refine ww_cVi h (c_X10_spell l D ev cy (o 28) (a 28) (Z 28) x0 x1 x2 _ h2) ⟨w_1593, w_1590, w_1591, w_1592, w_111, ok_X10_spell⟩ ⟨by decide, by decide⟩ ⟨Nat.le_trans (Nat.le_add_right _ _) hk, Nat.le_trans (Nat.le_add_right _ _) hn⟩ ⟨rfl, rfl⟩ [13] (by simp only [pk_g, List.getElem?_cons_zero, List.getElem?_cons_succ, List.eraseIdx]) 0 rfl rfl rfl rfl (Nat.le_of_ble_eq_true rfl) dL_law_1314 1317 rfl (Gs' := (gX10 cy (o 28) (a 28) w.2 :: gX9 cy (o 0) (a 0) u.2.1 :: gX0 cy (a 0 1) (a 2) u.2.2.1 :: gX4 cy (a 0 2) (a 3) (Z 3) :: gX7 cy (a 0 5) (a 6) u.2.2.2.1 :: gX5 cy (a 0 7) (a 8) u.2.2.2.2.1 :: gX1 cy (o 10) (a 10) (Z 10) :: gX3 cy (a 0 (900 + 1)) (a (24 + 1)) u.2.2.2.2.2 :: gX0 cy (a 0 0) (a 1) (Z 1) :: gX4 cy (a 0 3) (a 4) (Z 4) :: gX2 cy (a 0 4) (a 5) (Z 5) :: gX7 cy (a 0 6) (a 7) (Z 7) :: gX8 cy (a 0 9) (a 9) (Z 9) :: gX1 cy (o 11) (a 11) (Z 11) :: gX3 cy (a 0 (900 + 0)) (a (24 + 0)) (Z (24 + 0)) :: gX3 cy (a 0 (900 + 2)) (a (24 + 2)) (Z (24 + 2)) :: gX3 cy (a 0 (900 + 3)) (a (24 + 3)) (Z (24 + 3)) :: pgs (WGp cy a aK B))) rfl ?_
    refine ww_icmp_eq h dL_law_1317 1591 (by decide) 1320 rfl (fun _ => ?_) (fun c => absurd h3.symm c)
    refine ww_kn (Nat.le_succ k) (Nat.le_add_right n 6) ?_
    refine ww_permT [1, 7, 1, 1, 5, 5, 1, 4, 1, 3, 1, 2, 0, 1, 0, 0, 0] (Cs := [gX9 cy (o 0) (a 0) u.2.1, gX0 cy (a 0 0) (a 1) (Z 1), gX0 cy (a 0 1) (a 2) u.2.2.1, gX4 cy (a 0 2) (a 3) (Z 3), gX4 cy (a 0 3) (a 4) (Z 4), gX2 cy (a 0 4) (a 5) (Z 5), gX7 cy (a 0 5) (a 6) u.2.2.2.1, gX7 cy (a 0 6) (a 7) (Z 7), gX5 cy (a 0 7) (a 8) u.2.2.2.2.1, gX8 cy (a 0 9) (a 9) (Z 9), gX1 cy (o 10) (a 10) (Z 10), gX1 cy (o 11) (a 11) (Z 11), gX10 cy (o 28) (a 28) w.2, gX3 cy (a 0 (900 + 0)) (a (24 + 0)) (Z (24 + 0)), gX3 cy (a 0 (900 + 1)) (a (24 + 1)) u.2.2.2.2.2, gX3 cy (a 0 (900 + 2)) (a (24 + 2)) (Z (24 + 2)), gX3 cy (a 0 (900 + 3)) (a (24 + 3)) (Z (24 + 3))]) (Rs := pgs (WGp cy a aK B)) (by simp only [pk_g, List.getElem?_cons_zero, List.getElem?_cons_succ, List.eraseIdx]) (Gs' := (gX9 cy (o 0) (a 0) u.2.1 :: gX0 cy (a 0 0) (a 1) (Z 1) :: gX0 cy (a 0 1) (a 2) u.2.2.1 :: gX4 cy (a 0 2) (a 3) (Z 3) :: gX4 cy (a 0 3) (a 4) (Z 4) :: gX2 cy (a 0 4) (a 5) (Z 5) :: gX7 cy (a 0 5) (a 6) u.2.2.2.1 :: gX7 cy (a 0 6) (a 7) (Z 7) :: gX5 cy (a 0 7) (a 8) u.2.2.2.2.1 :: gX8 cy (a 0 9) (a 9) (Z 9) :: gX1 cy (o 10) (a 10) (Z 10) :: gX1 cy (o 11) (a 11) (Z 11) :: gX10 cy (o 28) (a 28) w.2 :: gX3 cy (a 0 (900 + 0)) (a (24 + 0)) (Z (24 + 0)) :: gX3 cy (a 0 (900 + 1)) (a (24 + 1)) u.2.2.2.2.2 :: gX3 cy (a 0 (900 + 2)) (a (24 + 2)) (Z (24 + 2)) :: gX3 cy (a 0 (900 + 3)) (a (24 + 3)) (Z (24 + 3)) :: pgs (WGp cy a aK B))) rfl ?_
    exact kk _ _ _ _ _ h4
  · obtain ⟨u, w, h1, h2, h3, h4⟩ := hv
    show ww X D A 4 Q k n 1279 [(3, .int i), (2, .ref (o 28)), (1, .ref (o 0)), (0, .ref b)] [] (gX9 cy (o 0) (a 0) (Z 0) :: gX0 cy (a 0 0) (a 1) (Z 1) :: gX0 cy (a 0 1) (a 2) (Z 2) :: gX4 cy (a 0 2) (a 3) (Z 3) :: gX4 cy (a 0 3) (a 4) (Z 4) :: gX2 cy (a 0 4) (a 5) (Z 5) :: gX7 cy (a 0 5) (a 6) (Z 6) :: gX7 cy (a 0 6) (a 7) (Z 7) :: gX5 cy (a 0 7) (a 8) (Z 8) :: gX8 cy (a 0 9) (a 9) (Z 9) :: gX1 cy (o 10) (a 10) (Z 10) :: gX1 cy (o 11) (a 11) (Z 11) :: gX10 cy (o 28) (a 28) (Z 28) :: gX3 cy (a 0 (900 + 0)) (a (24 + 0)) (Z (24 + 0)) :: gX3 cy (a 0 (900 + 1)) (a (24 + 1)) (Z (24 + 1)) :: gX3 cy (a 0 (900 + 2)) (a (24 + 2)) (Z (24 + 2)) :: gX3 cy (a 0 (900 + 3)) (a (24 + 3)) (Z (24 + 3)) :: pgs (WGp cy a aK B))
    refine ww_aload_n h dL_law_1279 rfl 2 rfl 1280 rfl ?_
    refine ww_aload_n h dL_law_1280 rfl 3 rfl 1281 rfl ?_
    refine ww_iload_n h dL_law_1281 rfl 0 rfl 1282 rfl ?_
    refine ww_iconst h dL_law_1282 (v := 1) (by decide) 1283 rfl ?_
    refine ww_iadd h dL_law_1283 1284 rfl ?_
    refine ww_scd h hX hbl hbA (hin 1 (by decide) (by decide)) ex0 dL_law_1284 1285 rfl ?_
    refine ww_aload_n h dL_law_1285 rfl 3 rfl 1286 rfl ?_
    refine ww_iload_n h dL_law_1286 rfl 0 rfl 1287 rfl ?_
    refine ww_iconst h dL_law_1287 (v := 2) (by decide) 1288 rfl ?_
    refine ww_iadd h dL_law_1288 1289 rfl ?_
    refine ww_scd h hX hbl hbA (hin 2 (by decide) (by decide)) ex1 dL_law_1289 1290 rfl ?_
    refine ww_aload_n h dL_law_1290 rfl 3 rfl 1291 rfl ?_
    refine ww_iload_n h dL_law_1291 rfl 0 rfl 1292 rfl ?_
    refine ww_iconst h dL_law_1292 (v := 3) (by decide) 1293 rfl ?_
    refine ww_iadd h dL_law_1293 1294 rfl ?_
    refine ww_scd h hX hbl hbA (hin 3 (by decide) (by decide)) ex2 dL_law_1294 1295 rfl ?_
    refine ww_cVi h (c_X9_spell l D ev cy (o 0) (a 0) (Z 0) (a 2) (Z 2) (a 3) (Z 3) (a 6) (Z 6) (a 8) (Z 8) (o 10) (a 10) (Z 10) (a 0 (900 + 2)) (a (24 + 2)) (Z (24 + 2)) x0 x1 x2 _ h1) ⟨w_1019, w_1016, w_1017, w_1018, w_101, ok_X9_spell⟩ ⟨by decide, by decide⟩ ⟨Nat.le_trans (Nat.le_add_right _ _) hk, Nat.le_trans (Nat.le_add_right _ _) hn⟩ ⟨rfl, rfl⟩ [0, 1, 1, 3, 4, 5, 9] (by simp only [pk_g, List.getElem?_cons_zero, List.getElem?_cons_succ, List.eraseIdx]) 0 rfl rfl rfl rfl (Nat.le_of_ble_eq_true rfl) dL_law_1295 1298 rfl (Gs' := (gX9 cy (o 0) (a 0) u.2.1 :: gX0 cy (a 0 1) (a 2) u.2.2.1 :: gX4 cy (a 0 2) (a 3) (Z 3) :: gX7 cy (a 0 5) (a 6) u.2.2.2.1 :: gX5 cy (a 0 7) (a 8) u.2.2.2.2.1 :: gX1 cy (o 10) (a 10) (Z 10) :: gX3 cy (a 0 (900 + 2)) (a (24 + 2)) u.2.2.2.2.2 :: gX0 cy (a 0 0) (a 1) (Z 1) :: gX4 cy (a 0 3) (a 4) (Z 4) :: gX2 cy (a 0 4) (a 5) (Z 5) :: gX7 cy (a 0 6) (a 7) (Z 7) :: gX8 cy (a 0 9) (a 9) (Z 9) :: gX1 cy (o 11) (a 11) (Z 11) :: gX10 cy (o 28) (a 28) (Z 28) :: gX3 cy (a 0 (900 + 0)) (a (24 + 0)) (Z (24 + 0)) :: gX3 cy (a 0 (900 + 1)) (a (24 + 1)) (Z (24 + 1)) :: gX3 cy (a 0 (900 + 3)) (a (24 + 3)) (Z (24 + 3)) :: pgs (WGp cy a aK B))) rfl ?_
    refine ww_aload_n h dL_law_1298 rfl 1 rfl 1299 rfl ?_
    refine ww_aload_n h dL_law_1299 rfl 3 rfl 1300 rfl ?_
    refine ww_iload_n h dL_law_1300 rfl 0 rfl 1301 rfl ?_
    refine ww_iconst h dL_law_1301 (v := 1) (by decide) 1302 rfl ?_
    refine ww_iadd h dL_law_1302 1303 rfl ?_
    refine ww_scd h hX hbl hbA (hin 1 (by decide) (by decide)) ex0 dL_law_1303 1304 rfl ?_
    refine ww_aload_n h dL_law_1304 rfl 3 rfl 1305 rfl ?_
    refine ww_iload_n h dL_law_1305 rfl 0 rfl 1306 rfl ?_
    refine ww_iconst h dL_law_1306 (v := 2) (by decide) 1307 rfl ?_
    refine ww_iadd h dL_law_1307 1308 rfl ?_
    refine ww_scd h hX hbl hbA (hin 2 (by decide) (by decide)) ex1 dL_law_1308 1309 rfl ?_
    refine ww_aload_n h dL_law_1309 rfl 3 rfl 1310 rfl ?_
    refine ww_iload_n h dL_law_1310 rfl 0 rfl 1311 rfl ?_
    refine ww_iconst h dL_law_1311 (v := 3) (by decide) 1312 rfl ?_
    refine ww_iadd h dL_law_1312 1313 rfl ?_
    refine ww_scd h hX hbl hbA (hin 3 (by decide) (by decide)) ex2 dL_law_1313 1314 rfl ?_
    refine ww_cVi h (c_X10_spell l D ev cy (o 28) (a 28) (Z 28) x0 x1 x2 _ h2) ⟨w_1593, w_1590, w_1591, w_1592, w_111, ok_X10_spell⟩ ⟨by decide, by decide⟩ ⟨Nat.le_trans (Nat.le_add_right _ _) hk, Nat.le_trans (Nat.le_add_right _ _) hn⟩ ⟨rfl, rfl⟩ [13] (by simp only [pk_g, List.getElem?_cons_zero, List.getElem?_cons_succ, List.eraseIdx]) 0 rfl rfl rfl rfl (Nat.le_of_ble_eq_true rfl) dL_law_1314 1317 rfl (Gs' := (gX10 cy (o 28) (a 28) w.2 :: gX9 cy (o 0) (a 0) u.2.1 :: gX0 cy (a 0 1) (a 2) u.2.2.1 :: gX4 cy (a 0 2) (a 3) (Z 3) :: gX7 cy (a 0 5) (a 6) u.2.2.2.1 :: gX5 cy (a 0 7) (a 8) u.2.2.2.2.1 :: gX1 cy (o 10) (a 10) (Z 10) :: gX3 cy (a 0 (900 + 2)) (a (24 + 2)) u.2.2.2.2.2 :: gX0 cy (a 0 0) (a 1) (Z 1) :: gX4 cy (a 0 3) (a 4) (Z 4) :: gX2 cy (a 0 4) (a 5) (Z 5) :: gX7 cy (a 0 6) (a 7) (Z 7) :: gX8 cy (a 0 9) (a 9) (Z 9) :: gX1 cy (o 11) (a 11) (Z 11) :: gX3 cy (a 0 (900 + 0)) (a (24 + 0)) (Z (24 + 0)) :: gX3 cy (a 0 (900 + 1)) (a (24 + 1)) (Z (24 + 1)) :: gX3 cy (a 0 (900 + 3)) (a (24 + 3)) (Z (24 + 3)) :: pgs (WGp cy a aK B))) rfl ?_
    refine ww_icmp_eq h dL_law_1317 1591 (by decide) 1320 rfl (fun _ => ?_) (fun c => absurd h3.symm c)
    refine ww_kn (Nat.le_succ k) (Nat.le_add_right n 6) ?_
    refine ww_permT [1, 7, 1, 1, 5, 5, 1, 4, 1, 3, 1, 2, 0, 1, 1, 0, 0] (Cs := [gX9 cy (o 0) (a 0) u.2.1, gX0 cy (a 0 0) (a 1) (Z 1), gX0 cy (a 0 1) (a 2) u.2.2.1, gX4 cy (a 0 2) (a 3) (Z 3), gX4 cy (a 0 3) (a 4) (Z 4), gX2 cy (a 0 4) (a 5) (Z 5), gX7 cy (a 0 5) (a 6) u.2.2.2.1, gX7 cy (a 0 6) (a 7) (Z 7), gX5 cy (a 0 7) (a 8) u.2.2.2.2.1, gX8 cy (a 0 9) (a 9) (Z 9), gX1 cy (o 10) (a 10) (Z 10), gX1 cy (o 11) (a 11) (Z 11), gX10 cy (o 28) (a 28) w.2, gX3 cy (a 0 (900 + 0)) (a (24 + 0)) (Z (24 + 0)), gX3 cy (a 0 (900 + 1)) (a (24 + 1)) (Z (24 + 1)), gX3 cy (a 0 (900 + 2)) (a (24 + 2)) u.2.2.2.2.2, gX3 cy (a 0 (900 + 3)) (a (24 + 3)) (Z (24 + 3))]) (Rs := pgs (WGp cy a aK B)) (by simp only [pk_g, List.getElem?_cons_zero, List.getElem?_cons_succ, List.eraseIdx]) (Gs' := (gX9 cy (o 0) (a 0) u.2.1 :: gX0 cy (a 0 0) (a 1) (Z 1) :: gX0 cy (a 0 1) (a 2) u.2.2.1 :: gX4 cy (a 0 2) (a 3) (Z 3) :: gX4 cy (a 0 3) (a 4) (Z 4) :: gX2 cy (a 0 4) (a 5) (Z 5) :: gX7 cy (a 0 5) (a 6) u.2.2.2.1 :: gX7 cy (a 0 6) (a 7) (Z 7) :: gX5 cy (a 0 7) (a 8) u.2.2.2.2.1 :: gX8 cy (a 0 9) (a 9) (Z 9) :: gX1 cy (o 10) (a 10) (Z 10) :: gX1 cy (o 11) (a 11) (Z 11) :: gX10 cy (o 28) (a 28) w.2 :: gX3 cy (a 0 (900 + 0)) (a (24 + 0)) (Z (24 + 0)) :: gX3 cy (a 0 (900 + 1)) (a (24 + 1)) (Z (24 + 1)) :: gX3 cy (a 0 (900 + 2)) (a (24 + 2)) u.2.2.2.2.2 :: gX3 cy (a 0 (900 + 3)) (a (24 + 3)) (Z (24 + 3)) :: pgs (WGp cy a aK B))) rfl ?_
    exact kk _ _ _ _ _ h4
  · obtain ⟨u, w, h1, h2, h3, h4⟩ := hv
    show ww X D A 4 Q k n 1279 [(3, .int i), (2, .ref (o 28)), (1, .ref (o 0)), (0, .ref b)] [] (gX9 cy (o 0) (a 0) (Z 0) :: gX0 cy (a 0 0) (a 1) (Z 1) :: gX0 cy (a 0 1) (a 2) (Z 2) :: gX4 cy (a 0 2) (a 3) (Z 3) :: gX4 cy (a 0 3) (a 4) (Z 4) :: gX2 cy (a 0 4) (a 5) (Z 5) :: gX7 cy (a 0 5) (a 6) (Z 6) :: gX7 cy (a 0 6) (a 7) (Z 7) :: gX5 cy (a 0 7) (a 8) (Z 8) :: gX8 cy (a 0 9) (a 9) (Z 9) :: gX1 cy (o 10) (a 10) (Z 10) :: gX1 cy (o 11) (a 11) (Z 11) :: gX10 cy (o 28) (a 28) (Z 28) :: gX3 cy (a 0 (900 + 0)) (a (24 + 0)) (Z (24 + 0)) :: gX3 cy (a 0 (900 + 1)) (a (24 + 1)) (Z (24 + 1)) :: gX3 cy (a 0 (900 + 2)) (a (24 + 2)) (Z (24 + 2)) :: gX3 cy (a 0 (900 + 3)) (a (24 + 3)) (Z (24 + 3)) :: pgs (WGp cy a aK B))
    refine ww_aload_n h dL_law_1279 rfl 2 rfl 1280 rfl ?_
    refine ww_aload_n h dL_law_1280 rfl 3 rfl 1281 rfl ?_
    refine ww_iload_n h dL_law_1281 rfl 0 rfl 1282 rfl ?_
    refine ww_iconst h dL_law_1282 (v := 1) (by decide) 1283 rfl ?_
    refine ww_iadd h dL_law_1283 1284 rfl ?_
    refine ww_scd h hX hbl hbA (hin 1 (by decide) (by decide)) ex0 dL_law_1284 1285 rfl ?_
    refine ww_aload_n h dL_law_1285 rfl 3 rfl 1286 rfl ?_
    refine ww_iload_n h dL_law_1286 rfl 0 rfl 1287 rfl ?_
    refine ww_iconst h dL_law_1287 (v := 2) (by decide) 1288 rfl ?_
    refine ww_iadd h dL_law_1288 1289 rfl ?_
    refine ww_scd h hX hbl hbA (hin 2 (by decide) (by decide)) ex1 dL_law_1289 1290 rfl ?_
    refine ww_aload_n h dL_law_1290 rfl 3 rfl 1291 rfl ?_
    refine ww_iload_n h dL_law_1291 rfl 0 rfl 1292 rfl ?_
    refine ww_iconst h dL_law_1292 (v := 3) (by decide) 1293 rfl ?_
    refine ww_iadd h dL_law_1293 1294 rfl ?_
    refine ww_scd h hX hbl hbA (hin 3 (by decide) (by decide)) ex2 dL_law_1294 1295 rfl ?_
    refine ww_cVi h (c_X9_spell l D ev cy (o 0) (a 0) (Z 0) (a 2) (Z 2) (a 3) (Z 3) (a 6) (Z 6) (a 8) (Z 8) (o 10) (a 10) (Z 10) (a 0 (900 + 3)) (a (24 + 3)) (Z (24 + 3)) x0 x1 x2 _ h1) ⟨w_1019, w_1016, w_1017, w_1018, w_101, ok_X9_spell⟩ ⟨by decide, by decide⟩ ⟨Nat.le_trans (Nat.le_add_right _ _) hk, Nat.le_trans (Nat.le_add_right _ _) hn⟩ ⟨rfl, rfl⟩ [0, 1, 1, 3, 4, 5, 10] (by simp only [pk_g, List.getElem?_cons_zero, List.getElem?_cons_succ, List.eraseIdx]) 0 rfl rfl rfl rfl (Nat.le_of_ble_eq_true rfl) dL_law_1295 1298 rfl (Gs' := (gX9 cy (o 0) (a 0) u.2.1 :: gX0 cy (a 0 1) (a 2) u.2.2.1 :: gX4 cy (a 0 2) (a 3) (Z 3) :: gX7 cy (a 0 5) (a 6) u.2.2.2.1 :: gX5 cy (a 0 7) (a 8) u.2.2.2.2.1 :: gX1 cy (o 10) (a 10) (Z 10) :: gX3 cy (a 0 (900 + 3)) (a (24 + 3)) u.2.2.2.2.2 :: gX0 cy (a 0 0) (a 1) (Z 1) :: gX4 cy (a 0 3) (a 4) (Z 4) :: gX2 cy (a 0 4) (a 5) (Z 5) :: gX7 cy (a 0 6) (a 7) (Z 7) :: gX8 cy (a 0 9) (a 9) (Z 9) :: gX1 cy (o 11) (a 11) (Z 11) :: gX10 cy (o 28) (a 28) (Z 28) :: gX3 cy (a 0 (900 + 0)) (a (24 + 0)) (Z (24 + 0)) :: gX3 cy (a 0 (900 + 1)) (a (24 + 1)) (Z (24 + 1)) :: gX3 cy (a 0 (900 + 2)) (a (24 + 2)) (Z (24 + 2)) :: pgs (WGp cy a aK B))) rfl ?_
    refine ww_aload_n h dL_law_1298 rfl 1 rfl 1299 rfl ?_
    refine ww_aload_n h dL_law_1299 rfl 3 rfl 1300 rfl ?_
    refine ww_iload_n h dL_law_1300 rfl 0 rfl 1301 rfl ?_
    refine ww_iconst h dL_law_1301 (v := 1) (by decide) 1302 rfl ?_
    refine ww_iadd h dL_law_1302 1303 rfl ?_
    refine ww_scd h hX hbl hbA (hin 1 (by decide) (by decide)) ex0 dL_law_1303 1304 rfl ?_
    refine ww_aload_n h dL_law_1304 rfl 3 rfl 1305 rfl ?_
    refine ww_iload_n h dL_law_1305 rfl 0 rfl 1306 rfl ?_
    refine ww_iconst h dL_law_1306 (v := 2) (by decide) 1307 rfl ?_
    refine ww_iadd h dL_law_1307 1308 rfl ?_
    refine ww_scd h hX hbl hbA (hin 2 (by decide) (by decide)) ex1 dL_law_1308 1309 rfl ?_
    refine ww_aload_n h dL_law_1309 rfl 3 rfl 1310 rfl ?_
    refine ww_iload_n h dL_law_1310 rfl 0 rfl 1311 rfl ?_
    refine ww_iconst h dL_law_1311 (v := 3) (by decide) 1312 rfl ?_
    refine ww_iadd h dL_law_1312 1313 rfl ?_
    refine ww_scd h hX hbl hbA (hin 3 (by decide) (by decide)) ex2 dL_law_1313 1314 rfl ?_
    refine ww_cVi h (c_X10_spell l D ev cy (o 28) (a 28) (Z 28) x0 x1 x2 _ h2) ⟨w_1593, w_1590, w_1591, w_1592, w_111, ok_X10_spell⟩ ⟨by decide, by decide⟩ ⟨Nat.le_trans (Nat.le_add_right _ _) hk, Nat.le_trans (Nat.le_add_right _ _) hn⟩ ⟨rfl, rfl⟩ [13] (by simp only [pk_g, List.getElem?_cons_zero, List.getElem?_cons_succ, List.eraseIdx]) 0 rfl rfl rfl rfl (Nat.le_of_ble_eq_true rfl) dL_law_1314 1317 rfl (Gs' := (gX10 cy (o 28) (a 28) w.2 :: gX9 cy (o 0) (a 0) u.2.1 :: gX0 cy (a 0 1) (a 2) u.2.2.1 :: gX4 cy (a 0 2) (a 3) (Z 3) :: gX7 cy (a 0 5) (a 6) u.2.2.2.1 :: gX5 cy (a 0 7) (a 8) u.2.2.2.2.1 :: gX1 cy (o 10) (a 10) (Z 10) :: gX3 cy (a 0 (900 + 3)) (a (24 + 3)) u.2.2.2.2.2 :: gX0 cy (a 0 0) (a 1) (Z 1) :: gX4 cy (a 0 3) (a 4) (Z 4) :: gX2 cy (a 0 4) (a 5) (Z 5) :: gX7 cy (a 0 6) (a 7) (Z 7) :: gX8 cy (a 0 9) (a 9) (Z 9) :: gX1 cy (o 11) (a 11) (Z 11) :: gX3 cy (a 0 (900 + 0)) (a (24 + 0)) (Z (24 + 0)) :: gX3 cy (a 0 (900 + 1)) (a (24 + 1)) (Z (24 + 1)) :: gX3 cy (a 0 (900 + 2)) (a (24 + 2)) (Z (24 + 2)) :: pgs (WGp cy a aK B))) rfl ?_
    refine ww_icmp_eq h dL_law_1317 1591 (by decide) 1320 rfl (fun _ => ?_) (fun c => absurd h3.symm c)
    refine ww_kn (Nat.le_succ k) (Nat.le_add_right n 6) ?_
    refine ww_permT [1, 7, 1, 1, 5, 5, 1, 4, 1, 3, 1, 2, 0, 1, 1, 1, 0] (Cs := [gX9 cy (o 0) (a 0) u.2.1, gX0 cy (a 0 0) (a 1) (Z 1), gX0 cy (a 0 1) (a 2) u.2.2.1, gX4 cy (a 0 2) (a 3) (Z 3), gX4 cy (a 0 3) (a 4) (Z 4), gX2 cy (a 0 4) (a 5) (Z 5), gX7 cy (a 0 5) (a 6) u.2.2.2.1, gX7 cy (a 0 6) (a 7) (Z 7), gX5 cy (a 0 7) (a 8) u.2.2.2.2.1, gX8 cy (a 0 9) (a 9) (Z 9), gX1 cy (o 10) (a 10) (Z 10), gX1 cy (o 11) (a 11) (Z 11), gX10 cy (o 28) (a 28) w.2, gX3 cy (a 0 (900 + 0)) (a (24 + 0)) (Z (24 + 0)), gX3 cy (a 0 (900 + 1)) (a (24 + 1)) (Z (24 + 1)), gX3 cy (a 0 (900 + 2)) (a (24 + 2)) (Z (24 + 2)), gX3 cy (a 0 (900 + 3)) (a (24 + 3)) u.2.2.2.2.2]) (Rs := pgs (WGp cy a aK B)) (by simp only [pk_g, List.getElem?_cons_zero, List.getElem?_cons_succ, List.eraseIdx]) (Gs' := (gX9 cy (o 0) (a 0) u.2.1 :: gX0 cy (a 0 0) (a 1) (Z 1) :: gX0 cy (a 0 1) (a 2) u.2.2.1 :: gX4 cy (a 0 2) (a 3) (Z 3) :: gX4 cy (a 0 3) (a 4) (Z 4) :: gX2 cy (a 0 4) (a 5) (Z 5) :: gX7 cy (a 0 5) (a 6) u.2.2.2.1 :: gX7 cy (a 0 6) (a 7) (Z 7) :: gX5 cy (a 0 7) (a 8) u.2.2.2.2.1 :: gX8 cy (a 0 9) (a 9) (Z 9) :: gX1 cy (o 10) (a 10) (Z 10) :: gX1 cy (o 11) (a 11) (Z 11) :: gX10 cy (o 28) (a 28) w.2 :: gX3 cy (a 0 (900 + 0)) (a (24 + 0)) (Z (24 + 0)) :: gX3 cy (a 0 (900 + 1)) (a (24 + 1)) (Z (24 + 1)) :: gX3 cy (a 0 (900 + 2)) (a (24 + 2)) (Z (24 + 2)) :: gX3 cy (a 0 (900 + 3)) (a (24 + 3)) u.2.2.2.2.2 :: pgs (WGp cy a aK B))) rfl ?_
    exact kk _ _ _ _ _ h4
set_option maxHeartbeats 4000000 in
set_option maxRecDepth 100000 in
theorem case_costMarked {X : Cx} {D : va_G} {ev : EvT} {cy : Nat → ClassId} {A : Nat → Prop} {Q : State → Prop} {l : Launch} {b Ln : Nat} {xs : Nat → Int32} {i : Int32} {k n : Nat} {I : LI} (C : lwC X D ev cy A l b Ln xs i k n) (ok : Ok_costMarked I) {o : Nat → Nat} {a aK : Nat → Nat → Nat} {Z B : Nat → OV} (hI : I o a aK Z B) (kk : lwK X D cy A Q b i k n I) : ww X D A 4 Q k n 1417 [(3, .int i), (2, .ref (o 28)), (1, .ref (o 0)), (0, .ref b)] [] (WGs cy o a aK Z B) := by
  obtain ⟨h, hX, hbl, hbA, hin, hk, hn⟩ := C
  obtain ⟨x0, ex0⟩ : ∃ x : Int32, xs (i + 1).toNatClampNeg = x := ⟨_, rfl⟩
  obtain ⟨x1, ex1⟩ : ∃ x : Int32, xs (i + 2).toNatClampNeg = x := ⟨_, rfl⟩
  have hv := ok o a aK Z B hI x0 x1
  obtain ⟨u, w, h1, h2, h3, h4⟩ := hv
  show ww X D A 4 Q k n 1417 [(3, .int i), (2, .ref (o 28)), (1, .ref (o 0)), (0, .ref b)] [] (gX9 cy (o 0) (a 0) (Z 0) :: gX0 cy (a 0 0) (a 1) (Z 1) :: gX0 cy (a 0 1) (a 2) (Z 2) :: gX4 cy (a 0 2) (a 3) (Z 3) :: gX4 cy (a 0 3) (a 4) (Z 4) :: gX2 cy (a 0 4) (a 5) (Z 5) :: gX7 cy (a 0 5) (a 6) (Z 6) :: gX7 cy (a 0 6) (a 7) (Z 7) :: gX5 cy (a 0 7) (a 8) (Z 8) :: gX8 cy (a 0 9) (a 9) (Z 9) :: gX1 cy (o 10) (a 10) (Z 10) :: gX1 cy (o 11) (a 11) (Z 11) :: gX10 cy (o 28) (a 28) (Z 28) :: gX3 cy (a 0 (900 + 0)) (a (24 + 0)) (Z (24 + 0)) :: gX3 cy (a 0 (900 + 1)) (a (24 + 1)) (Z (24 + 1)) :: gX3 cy (a 0 (900 + 2)) (a (24 + 2)) (Z (24 + 2)) :: gX3 cy (a 0 (900 + 3)) (a (24 + 3)) (Z (24 + 3)) :: pgs (WGp cy a aK B))
  refine ww_aload_n h dL_law_1417 rfl 2 rfl 1418 rfl ?_
  refine ww_aload_n h dL_law_1418 rfl 3 rfl 1419 rfl ?_
  refine ww_iload_n h dL_law_1419 rfl 0 rfl 1420 rfl ?_
  refine ww_iconst h dL_law_1420 (v := 1) (by decide) 1421 rfl ?_
  refine ww_iadd h dL_law_1421 1422 rfl ?_
  refine ww_scd h hX hbl hbA (hin 1 (by decide) (by decide)) ex0 dL_law_1422 1423 rfl ?_
  refine ww_aload_n h dL_law_1423 rfl 3 rfl 1424 rfl ?_
  refine ww_iload_n h dL_law_1424 rfl 0 rfl 1425 rfl ?_
  refine ww_iconst h dL_law_1425 (v := 2) (by decide) 1426 rfl ?_
  refine ww_iadd h dL_law_1426 1427 rfl ?_
  refine ww_scd h hX hbl hbA (hin 2 (by decide) (by decide)) ex1 dL_law_1427 1428 rfl ?_
  refine ww_cVi h (c_X9_costMarked l D ev cy (o 0) (a 0) (Z 0) (a 3) (Z 3) (a 4) (Z 4) (a 7) (Z 7) (a 8) (Z 8) (o 10) (a 10) (Z 10) x0 x1 _ h1) ⟨w_1117, w_1114, w_1115, w_1116, w_101, ok_X9_costMarked⟩ ⟨by decide, by decide⟩ ⟨Nat.le_trans (Nat.le_add_right _ _) hk, Nat.le_trans (Nat.le_add_right _ _) hn⟩ ⟨rfl, rfl⟩ [0, 2, 2, 4, 4, 5] (by simp only [pk_g, List.getElem?_cons_zero, List.getElem?_cons_succ, List.eraseIdx]) 0 rfl rfl rfl rfl (Nat.le_of_ble_eq_true rfl) dL_law_1428 1431 rfl (Gs' := (gX9 cy (o 0) (a 0) (Z 0) :: gX4 cy (a 0 2) (a 3) (Z 3) :: gX4 cy (a 0 3) (a 4) u.2.1 :: gX7 cy (a 0 6) (a 7) u.2.2.1 :: gX5 cy (a 0 7) (a 8) u.2.2.2 :: gX1 cy (o 10) (a 10) (Z 10) :: gX0 cy (a 0 0) (a 1) (Z 1) :: gX0 cy (a 0 1) (a 2) (Z 2) :: gX2 cy (a 0 4) (a 5) (Z 5) :: gX7 cy (a 0 5) (a 6) (Z 6) :: gX8 cy (a 0 9) (a 9) (Z 9) :: gX1 cy (o 11) (a 11) (Z 11) :: gX10 cy (o 28) (a 28) (Z 28) :: gX3 cy (a 0 (900 + 0)) (a (24 + 0)) (Z (24 + 0)) :: gX3 cy (a 0 (900 + 1)) (a (24 + 1)) (Z (24 + 1)) :: gX3 cy (a 0 (900 + 2)) (a (24 + 2)) (Z (24 + 2)) :: gX3 cy (a 0 (900 + 3)) (a (24 + 3)) (Z (24 + 3)) :: pgs (WGp cy a aK B))) rfl ?_
  refine ww_aload_n h dL_law_1431 rfl 1 rfl 1432 rfl ?_
  refine ww_aload_n h dL_law_1432 rfl 3 rfl 1433 rfl ?_
  refine ww_iload_n h dL_law_1433 rfl 0 rfl 1434 rfl ?_
  refine ww_iconst h dL_law_1434 (v := 1) (by decide) 1435 rfl ?_
  refine ww_iadd h dL_law_1435 1436 rfl ?_
  refine ww_scd h hX hbl hbA (hin 1 (by decide) (by decide)) ex0 dL_law_1436 1437 rfl ?_
  refine ww_aload_n h dL_law_1437 rfl 3 rfl 1438 rfl ?_
  refine ww_iload_n h dL_law_1438 rfl 0 rfl 1439 rfl ?_
  refine ww_iconst h dL_law_1439 (v := 2) (by decide) 1440 rfl ?_
  refine ww_iadd h dL_law_1440 1441 rfl ?_
  refine ww_scd h hX hbl hbA (hin 2 (by decide) (by decide)) ex1 dL_law_1441 1442 rfl ?_
  refine ww_cVi h (c_X10_costMarked l D ev cy (o 28) (a 28) (Z 28) x0 x1 _ h2) ⟨w_1662, w_1659, w_1660, w_1661, w_111, ok_X10_costMarked⟩ ⟨by decide, by decide⟩ ⟨Nat.le_trans (Nat.le_add_right _ _) hk, Nat.le_trans (Nat.le_add_right _ _) hn⟩ ⟨rfl, rfl⟩ [12] (by simp only [pk_g, List.getElem?_cons_zero, List.getElem?_cons_succ, List.eraseIdx]) 0 rfl rfl rfl rfl (Nat.le_of_ble_eq_true rfl) dL_law_1442 1445 rfl (Gs' := (gX10 cy (o 28) (a 28) w.2 :: gX9 cy (o 0) (a 0) (Z 0) :: gX4 cy (a 0 2) (a 3) (Z 3) :: gX4 cy (a 0 3) (a 4) u.2.1 :: gX7 cy (a 0 6) (a 7) u.2.2.1 :: gX5 cy (a 0 7) (a 8) u.2.2.2 :: gX1 cy (o 10) (a 10) (Z 10) :: gX0 cy (a 0 0) (a 1) (Z 1) :: gX0 cy (a 0 1) (a 2) (Z 2) :: gX2 cy (a 0 4) (a 5) (Z 5) :: gX7 cy (a 0 5) (a 6) (Z 6) :: gX8 cy (a 0 9) (a 9) (Z 9) :: gX1 cy (o 11) (a 11) (Z 11) :: gX3 cy (a 0 (900 + 0)) (a (24 + 0)) (Z (24 + 0)) :: gX3 cy (a 0 (900 + 1)) (a (24 + 1)) (Z (24 + 1)) :: gX3 cy (a 0 (900 + 2)) (a (24 + 2)) (Z (24 + 2)) :: gX3 cy (a 0 (900 + 3)) (a (24 + 3)) (Z (24 + 3)) :: pgs (WGp cy a aK B))) rfl ?_
  refine ww_icmp_eq h dL_law_1445 1591 (by decide) 1448 rfl (fun _ => ?_) (fun c => absurd h3.symm c)
  refine ww_kn (Nat.le_succ k) (Nat.le_add_right n 6) ?_
  refine ww_permT [1, 6, 6, 1, 1, 4, 4, 1, 1, 2, 1, 1, 0, 0, 0, 0, 0] (Cs := [gX9 cy (o 0) (a 0) (Z 0), gX0 cy (a 0 0) (a 1) (Z 1), gX0 cy (a 0 1) (a 2) (Z 2), gX4 cy (a 0 2) (a 3) (Z 3), gX4 cy (a 0 3) (a 4) u.2.1, gX2 cy (a 0 4) (a 5) (Z 5), gX7 cy (a 0 5) (a 6) (Z 6), gX7 cy (a 0 6) (a 7) u.2.2.1, gX5 cy (a 0 7) (a 8) u.2.2.2, gX8 cy (a 0 9) (a 9) (Z 9), gX1 cy (o 10) (a 10) (Z 10), gX1 cy (o 11) (a 11) (Z 11), gX10 cy (o 28) (a 28) w.2, gX3 cy (a 0 (900 + 0)) (a (24 + 0)) (Z (24 + 0)), gX3 cy (a 0 (900 + 1)) (a (24 + 1)) (Z (24 + 1)), gX3 cy (a 0 (900 + 2)) (a (24 + 2)) (Z (24 + 2)), gX3 cy (a 0 (900 + 3)) (a (24 + 3)) (Z (24 + 3))]) (Rs := pgs (WGp cy a aK B)) (by simp only [pk_g, List.getElem?_cons_zero, List.getElem?_cons_succ, List.eraseIdx]) (Gs' := (gX9 cy (o 0) (a 0) (Z 0) :: gX0 cy (a 0 0) (a 1) (Z 1) :: gX0 cy (a 0 1) (a 2) (Z 2) :: gX4 cy (a 0 2) (a 3) (Z 3) :: gX4 cy (a 0 3) (a 4) u.2.1 :: gX2 cy (a 0 4) (a 5) (Z 5) :: gX7 cy (a 0 5) (a 6) (Z 6) :: gX7 cy (a 0 6) (a 7) u.2.2.1 :: gX5 cy (a 0 7) (a 8) u.2.2.2 :: gX8 cy (a 0 9) (a 9) (Z 9) :: gX1 cy (o 10) (a 10) (Z 10) :: gX1 cy (o 11) (a 11) (Z 11) :: gX10 cy (o 28) (a 28) w.2 :: gX3 cy (a 0 (900 + 0)) (a (24 + 0)) (Z (24 + 0)) :: gX3 cy (a 0 (900 + 1)) (a (24 + 1)) (Z (24 + 1)) :: gX3 cy (a 0 (900 + 2)) (a (24 + 2)) (Z (24 + 2)) :: gX3 cy (a 0 (900 + 3)) (a (24 + 3)) (Z (24 + 3)) :: pgs (WGp cy a aK B))) rfl ?_
  exact kk _ _ _ _ _ h4
