set_option maxHeartbeats 4000000 in
set_option maxRecDepth 100000 in
theorem case_back {X : Cx} {D : va_G} {ev : EvT} {cy : Nat → ClassId} {A : Nat → Prop} {Q : State → Prop} {l : Launch} {b Ln : Nat} {xs : Nat → Int32} {i : Int32} {k n : Nat} {I : LI} (C : lwC X D ev cy A l b Ln xs i k n) (ok : Ok_back I) {o : Nat → Nat} {a aK : Nat → Nat → Nat} {Z B : Nat → OV} (hI : I o a aK Z B) (kk : lwK X D cy A Q b i k n I) : ww X D A 4 Q k n 291 [(3, .int i), (2, .ref (o 28)), (1, .ref (o 0)), (0, .ref b)] [] (WGs cy o a aK Z B) := by
  obtain ⟨h, hX, hbl, hbA, hin, hk, hn⟩ := C
  obtain ⟨x0, ex0⟩ : ∃ x : Int32, xs (i + 1).toNatClampNeg = x := ⟨_, rfl⟩
  have hv := ok o a aK Z B hI x0
  obtain ⟨u, w, h1, h2, h3, h4⟩ := hv
  show ww X D A 4 Q k n 291 [(3, .int i), (2, .ref (o 28)), (1, .ref (o 0)), (0, .ref b)] [] (gX9 cy (o 0) (a 0) (Z 0) :: gX0 cy (a 0 0) (a 1) (Z 1) :: gX0 cy (a 0 1) (a 2) (Z 2) :: gX4 cy (a 0 2) (a 3) (Z 3) :: gX4 cy (a 0 3) (a 4) (Z 4) :: gX2 cy (a 0 4) (a 5) (Z 5) :: gX7 cy (a 0 5) (a 6) (Z 6) :: gX7 cy (a 0 6) (a 7) (Z 7) :: gX5 cy (a 0 7) (a 8) (Z 8) :: gX8 cy (a 0 9) (a 9) (Z 9) :: gX1 cy (o 10) (a 10) (Z 10) :: gX1 cy (o 11) (a 11) (Z 11) :: gX10 cy (o 28) (a 28) (Z 28) :: gX3 cy (a 0 (900 + 0)) (a (24 + 0)) (Z (24 + 0)) :: gX3 cy (a 0 (900 + 1)) (a (24 + 1)) (Z (24 + 1)) :: gX3 cy (a 0 (900 + 2)) (a (24 + 2)) (Z (24 + 2)) :: gX3 cy (a 0 (900 + 3)) (a (24 + 3)) (Z (24 + 3)) :: pgs (WGp cy a aK B))
  refine ww_aload_n h dL_law_291 rfl 2 rfl 292 rfl ?_
  refine ww_aload_n h dL_law_292 rfl 3 rfl 293 rfl ?_
  refine ww_iload_n h dL_law_293 rfl 0 rfl 294 rfl ?_
  refine ww_iconst h dL_law_294 (v := 1) (by decide) 295 rfl ?_
  refine ww_iadd h dL_law_295 296 rfl ?_
  refine ww_scd h hX hbl hbA (hin 1 (by decide) (by decide)) ex0 dL_law_296 297 rfl ?_
  refine ww_cVi h (c_X9_back l D ev cy (o 0) (a 0) (Z 0) (a 1) (Z 1) x0 _ h1) ⟨w_468, w_465, w_466, w_467, w_101, ok_X9_back⟩ ⟨by decide, by decide⟩ ⟨Nat.le_trans (Nat.le_add_right _ _) hk, Nat.le_trans (Nat.le_add_right _ _) hn⟩ ⟨rfl, rfl⟩ [0, 0] (by simp only [pk_g, List.getElem?_cons_zero, List.getElem?_cons_succ, List.eraseIdx]) 0 rfl rfl rfl rfl (Nat.le_of_ble_eq_true rfl) dL_law_297 300 rfl (Gs' := (gX9 cy (o 0) (a 0) (Z 0) :: gX0 cy (a 0 0) (a 1) u.2 :: gX0 cy (a 0 1) (a 2) (Z 2) :: gX4 cy (a 0 2) (a 3) (Z 3) :: gX4 cy (a 0 3) (a 4) (Z 4) :: gX2 cy (a 0 4) (a 5) (Z 5) :: gX7 cy (a 0 5) (a 6) (Z 6) :: gX7 cy (a 0 6) (a 7) (Z 7) :: gX5 cy (a 0 7) (a 8) (Z 8) :: gX8 cy (a 0 9) (a 9) (Z 9) :: gX1 cy (o 10) (a 10) (Z 10) :: gX1 cy (o 11) (a 11) (Z 11) :: gX10 cy (o 28) (a 28) (Z 28) :: gX3 cy (a 0 (900 + 0)) (a (24 + 0)) (Z (24 + 0)) :: gX3 cy (a 0 (900 + 1)) (a (24 + 1)) (Z (24 + 1)) :: gX3 cy (a 0 (900 + 2)) (a (24 + 2)) (Z (24 + 2)) :: gX3 cy (a 0 (900 + 3)) (a (24 + 3)) (Z (24 + 3)) :: pgs (WGp cy a aK B))) rfl ?_
  refine ww_aload_n h dL_law_300 rfl 1 rfl 301 rfl ?_
  refine ww_aload_n h dL_law_301 rfl 3 rfl 302 rfl ?_
  refine ww_iload_n h dL_law_302 rfl 0 rfl 303 rfl ?_
  refine ww_iconst h dL_law_303 (v := 1) (by decide) 304 rfl ?_
  refine ww_iadd h dL_law_304 305 rfl ?_
  refine ww_scd h hX hbl hbA (hin 1 (by decide) (by decide)) ex0 dL_law_305 306 rfl ?_
  refine ww_cVi h (c_X10_back l D ev cy (o 28) (a 28) (Z 28) x0 _ h2) ⟨w_1710, w_1707, w_1708, w_1709, w_111, ok_X10_back⟩ ⟨by decide, by decide⟩ ⟨Nat.le_trans (Nat.le_add_right _ _) hk, Nat.le_trans (Nat.le_add_right _ _) hn⟩ ⟨rfl, rfl⟩ [12] (by simp only [pk_g, List.getElem?_cons_zero, List.getElem?_cons_succ, List.eraseIdx]) 0 rfl rfl rfl rfl (Nat.le_of_ble_eq_true rfl) dL_law_306 309 rfl (Gs' := (gX10 cy (o 28) (a 28) w.2 :: gX9 cy (o 0) (a 0) (Z 0) :: gX0 cy (a 0 0) (a 1) u.2 :: gX0 cy (a 0 1) (a 2) (Z 2) :: gX4 cy (a 0 2) (a 3) (Z 3) :: gX4 cy (a 0 3) (a 4) (Z 4) :: gX2 cy (a 0 4) (a 5) (Z 5) :: gX7 cy (a 0 5) (a 6) (Z 6) :: gX7 cy (a 0 6) (a 7) (Z 7) :: gX5 cy (a 0 7) (a 8) (Z 8) :: gX8 cy (a 0 9) (a 9) (Z 9) :: gX1 cy (o 10) (a 10) (Z 10) :: gX1 cy (o 11) (a 11) (Z 11) :: gX3 cy (a 0 (900 + 0)) (a (24 + 0)) (Z (24 + 0)) :: gX3 cy (a 0 (900 + 1)) (a (24 + 1)) (Z (24 + 1)) :: gX3 cy (a 0 (900 + 2)) (a (24 + 2)) (Z (24 + 2)) :: gX3 cy (a 0 (900 + 3)) (a (24 + 3)) (Z (24 + 3)) :: pgs (WGp cy a aK B))) rfl ?_
  refine ww_icmp_eq h dL_law_309 1591 (by decide) 312 rfl (fun _ => ?_) (fun c => absurd h3.symm c)
  refine ww_kn (Nat.le_succ k) (Nat.le_add_right n 6) ?_
  refine ww_permT [1, 1, 1, 1, 1, 1, 1, 1, 1, 1, 1, 1, 0, 0, 0, 0, 0] (Cs := [gX9 cy (o 0) (a 0) (Z 0), gX0 cy (a 0 0) (a 1) u.2, gX0 cy (a 0 1) (a 2) (Z 2), gX4 cy (a 0 2) (a 3) (Z 3), gX4 cy (a 0 3) (a 4) (Z 4), gX2 cy (a 0 4) (a 5) (Z 5), gX7 cy (a 0 5) (a 6) (Z 6), gX7 cy (a 0 6) (a 7) (Z 7), gX5 cy (a 0 7) (a 8) (Z 8), gX8 cy (a 0 9) (a 9) (Z 9), gX1 cy (o 10) (a 10) (Z 10), gX1 cy (o 11) (a 11) (Z 11), gX10 cy (o 28) (a 28) w.2, gX3 cy (a 0 (900 + 0)) (a (24 + 0)) (Z (24 + 0)), gX3 cy (a 0 (900 + 1)) (a (24 + 1)) (Z (24 + 1)), gX3 cy (a 0 (900 + 2)) (a (24 + 2)) (Z (24 + 2)), gX3 cy (a 0 (900 + 3)) (a (24 + 3)) (Z (24 + 3))]) (Rs := pgs (WGp cy a aK B)) (by simp only [pk_g, List.getElem?_cons_zero, List.getElem?_cons_succ, List.eraseIdx]) (Gs' := (gX9 cy (o 0) (a 0) (Z 0) :: gX0 cy (a 0 0) (a 1) u.2 :: gX0 cy (a 0 1) (a 2) (Z 2) :: gX4 cy (a 0 2) (a 3) (Z 3) :: gX4 cy (a 0 3) (a 4) (Z 4) :: gX2 cy (a 0 4) (a 5) (Z 5) :: gX7 cy (a 0 5) (a 6) (Z 6) :: gX7 cy (a 0 6) (a 7) (Z 7) :: gX5 cy (a 0 7) (a 8) (Z 8) :: gX8 cy (a 0 9) (a 9) (Z 9) :: gX1 cy (o 10) (a 10) (Z 10) :: gX1 cy (o 11) (a 11) (Z 11) :: gX10 cy (o 28) (a 28) w.2 :: gX3 cy (a 0 (900 + 0)) (a (24 + 0)) (Z (24 + 0)) :: gX3 cy (a 0 (900 + 1)) (a (24 + 1)) (Z (24 + 1)) :: gX3 cy (a 0 (900 + 2)) (a (24 + 2)) (Z (24 + 2)) :: gX3 cy (a 0 (900 + 3)) (a (24 + 3)) (Z (24 + 3)) :: pgs (WGp cy a aK B))) rfl ?_
  exact kk _ _ _ _ _ h4
set_option maxHeartbeats 4000000 in
set_option maxRecDepth 100000 in
theorem case_shift {X : Cx} {D : va_G} {ev : EvT} {cy : Nat → ClassId} {A : Nat → Prop} {Q : State → Prop} {l : Launch} {b Ln : Nat} {xs : Nat → Int32} {i : Int32} {k n : Nat} {I : LI} (C : lwC X D ev cy A l b Ln xs i k n) (ok : Ok_shift I) {o : Nat → Nat} {a aK : Nat → Nat → Nat} {Z B : Nat → OV} (hI : I o a aK Z B) (kk : lwK X D cy A Q b i k n I) : ww X D A 4 Q k n 439 [(3, .int i), (2, .ref (o 28)), (1, .ref (o 0)), (0, .ref b)] [] (WGs cy o a aK Z B) := by
  obtain ⟨h, hX, hbl, hbA, hin, hk, hn⟩ := C
  obtain ⟨x0, ex0⟩ : ∃ x : Int32, xs (i + 1).toNatClampNeg = x := ⟨_, rfl⟩
  obtain ⟨x1, ex1⟩ : ∃ x : Int32, xs (i + 2).toNatClampNeg = x := ⟨_, rfl⟩
  obtain ⟨x2, ex2⟩ : ∃ x : Int32, xs (i + 3).toNatClampNeg = x := ⟨_, rfl⟩
  have hv := ok o a aK Z B hI x0 x1 x2
  obtain ⟨j, hj, u, w, h1, h2, h3, h4⟩ := hv
  refine ww_pgOut hj ?_
  show ww X D A 4 Q k n 439 [(3, .int i), (2, .ref (o 28)), (1, .ref (o 0)), (0, .ref b)] [] (gX4 cy (a 5 (100 + j)) (aK j) (B j) :: gX9 cy (o 0) (a 0) (Z 0) :: gX0 cy (a 0 0) (a 1) (Z 1) :: gX0 cy (a 0 1) (a 2) (Z 2) :: gX4 cy (a 0 2) (a 3) (Z 3) :: gX4 cy (a 0 3) (a 4) (Z 4) :: gX2 cy (a 0 4) (a 5) (Z 5) :: gX7 cy (a 0 5) (a 6) (Z 6) :: gX7 cy (a 0 6) (a 7) (Z 7) :: gX5 cy (a 0 7) (a 8) (Z 8) :: gX8 cy (a 0 9) (a 9) (Z 9) :: gX1 cy (o 10) (a 10) (Z 10) :: gX1 cy (o 11) (a 11) (Z 11) :: gX10 cy (o 28) (a 28) (Z 28) :: gX3 cy (a 0 (900 + 0)) (a (24 + 0)) (Z (24 + 0)) :: gX3 cy (a 0 (900 + 1)) (a (24 + 1)) (Z (24 + 1)) :: gX3 cy (a 0 (900 + 2)) (a (24 + 2)) (Z (24 + 2)) :: gX3 cy (a 0 (900 + 3)) (a (24 + 3)) (Z (24 + 3)) :: pgR (WGp cy a aK B) j)
  refine ww_aload_n h dL_law_439 rfl 2 rfl 440 rfl ?_
  refine ww_aload_n h dL_law_440 rfl 3 rfl 441 rfl ?_
  refine ww_iload_n h dL_law_441 rfl 0 rfl 442 rfl ?_
  refine ww_iconst h dL_law_442 (v := 1) (by decide) 443 rfl ?_
  refine ww_iadd h dL_law_443 444 rfl ?_
  refine ww_scd h hX hbl hbA (hin 1 (by decide) (by decide)) ex0 dL_law_444 445 rfl ?_
  refine ww_aload_n h dL_law_445 rfl 3 rfl 446 rfl ?_
  refine ww_iload_n h dL_law_446 rfl 0 rfl 447 rfl ?_
  refine ww_iconst h dL_law_447 (v := 2) (by decide) 448 rfl ?_
  refine ww_iadd h dL_law_448 449 rfl ?_
  refine ww_scd h hX hbl hbA (hin 2 (by decide) (by decide)) ex1 dL_law_449 450 rfl ?_
  refine ww_aload_n h dL_law_450 rfl 3 rfl 451 rfl ?_
  refine ww_iload_n h dL_law_451 rfl 0 rfl 452 rfl ?_
  refine ww_iconst h dL_law_452 (v := 3) (by decide) 453 rfl ?_
  refine ww_iadd h dL_law_453 454 rfl ?_
  refine ww_scd h hX hbl hbA (hin 3 (by decide) (by decide)) ex2 dL_law_454 455 rfl ?_
  refine ww_cVi h (c_X9_shift l D ev cy (o 0) (a 0) (Z 0) (a 3) (Z 3) (a 4) (Z 4) (a 5) (Z 5) (a 9) (Z 9) (a 5 (100 + j)) (aK j) (B j) (a (24 + 0)) (Z (24 + 0)) (a (24 + 1)) (Z (24 + 1)) (a (24 + 2)) (Z (24 + 2)) (a (24 + 3)) (Z (24 + 3)) x0 x1 x2 _ h1) ⟨w_708, w_705, w_706, w_707, w_101, ok_X9_shift⟩ ⟨by decide, by decide⟩ ⟨Nat.le_trans (Nat.le_add_right _ _) hk, Nat.le_trans (Nat.le_add_right _ _) hn⟩ ⟨rfl, rfl⟩ [1, 3, 3, 3, 6, 0, 8, 8, 8, 8] (by simp only [pk_g, List.getElem?_cons_zero, List.getElem?_cons_succ, List.eraseIdx]) 0 rfl rfl rfl rfl (Nat.le_of_ble_eq_true rfl) dL_law_455 458 rfl (Gs' := (gX9 cy (o 0) (a 0) u.2.1 :: gX4 cy (a 0 2) (a 3) u.2.2.1 :: gX4 cy (a 0 3) (a 4) u.2.2.2.1 :: gX2 cy (a 0 4) (a 5) u.2.2.2.2.1 :: gX8 cy (a 0 9) (a 9) u.2.2.2.2.2.1 :: gX4 cy (a 5 (100 + j)) (aK j) u.2.2.2.2.2.2.1 :: gX3 cy (a 0 (900 + 0)) (a (24 + 0)) u.2.2.2.2.2.2.2.1 :: gX3 cy (a 0 (900 + 1)) (a (24 + 1)) u.2.2.2.2.2.2.2.2.1 :: gX3 cy (a 0 (900 + 2)) (a (24 + 2)) u.2.2.2.2.2.2.2.2.2.1 :: gX3 cy (a 0 (900 + 3)) (a (24 + 3)) u.2.2.2.2.2.2.2.2.2.2 :: gX0 cy (a 0 0) (a 1) (Z 1) :: gX0 cy (a 0 1) (a 2) (Z 2) :: gX7 cy (a 0 5) (a 6) (Z 6) :: gX7 cy (a 0 6) (a 7) (Z 7) :: gX5 cy (a 0 7) (a 8) (Z 8) :: gX1 cy (o 10) (a 10) (Z 10) :: gX1 cy (o 11) (a 11) (Z 11) :: gX10 cy (o 28) (a 28) (Z 28) :: pgR (WGp cy a aK B) j)) rfl ?_
  refine ww_aload_n h dL_law_458 rfl 1 rfl 459 rfl ?_
  refine ww_aload_n h dL_law_459 rfl 3 rfl 460 rfl ?_
  refine ww_iload_n h dL_law_460 rfl 0 rfl 461 rfl ?_
  refine ww_iconst h dL_law_461 (v := 1) (by decide) 462 rfl ?_
  refine ww_iadd h dL_law_462 463 rfl ?_
  refine ww_scd h hX hbl hbA (hin 1 (by decide) (by decide)) ex0 dL_law_463 464 rfl ?_
  refine ww_aload_n h dL_law_464 rfl 3 rfl 465 rfl ?_
  refine ww_iload_n h dL_law_465 rfl 0 rfl 466 rfl ?_
  refine ww_iconst h dL_law_466 (v := 2) (by decide) 467 rfl ?_
  refine ww_iadd h dL_law_467 468 rfl ?_
  refine ww_scd h hX hbl hbA (hin 2 (by decide) (by decide)) ex1 dL_law_468 469 rfl ?_
  refine ww_aload_n h dL_law_469 rfl 3 rfl 470 rfl ?_
  refine ww_iload_n h dL_law_470 rfl 0 rfl 471 rfl ?_
  refine ww_iconst h dL_law_471 (v := 3) (by decide) 472 rfl ?_
  refine ww_iadd h dL_law_472 473 rfl ?_
  refine ww_scd h hX hbl hbA (hin 3 (by decide) (by decide)) ex2 dL_law_473 474 rfl ?_
  refine ww_cVi h (c_X10_shift l D ev cy (o 28) (a 28) (Z 28) x0 x1 x2 _ h2) ⟨w_1373, w_1370, w_1371, w_1372, w_111, ok_X10_shift⟩ ⟨by decide, by decide⟩ ⟨Nat.le_trans (Nat.le_add_right _ _) hk, Nat.le_trans (Nat.le_add_right _ _) hn⟩ ⟨rfl, rfl⟩ [17] (by simp only [pk_g, List.getElem?_cons_zero, List.getElem?_cons_succ, List.eraseIdx]) 0 rfl rfl rfl rfl (Nat.le_of_ble_eq_true rfl) dL_law_474 477 rfl (Gs' := (gX10 cy (o 28) (a 28) w.2 :: gX9 cy (o 0) (a 0) u.2.1 :: gX4 cy (a 0 2) (a 3) u.2.2.1 :: gX4 cy (a 0 3) (a 4) u.2.2.2.1 :: gX2 cy (a 0 4) (a 5) u.2.2.2.2.1 :: gX8 cy (a 0 9) (a 9) u.2.2.2.2.2.1 :: gX4 cy (a 5 (100 + j)) (aK j) u.2.2.2.2.2.2.1 :: gX3 cy (a 0 (900 + 0)) (a (24 + 0)) u.2.2.2.2.2.2.2.1 :: gX3 cy (a 0 (900 + 1)) (a (24 + 1)) u.2.2.2.2.2.2.2.2.1 :: gX3 cy (a 0 (900 + 2)) (a (24 + 2)) u.2.2.2.2.2.2.2.2.2.1 :: gX3 cy (a 0 (900 + 3)) (a (24 + 3)) u.2.2.2.2.2.2.2.2.2.2 :: gX0 cy (a 0 0) (a 1) (Z 1) :: gX0 cy (a 0 1) (a 2) (Z 2) :: gX7 cy (a 0 5) (a 6) (Z 6) :: gX7 cy (a 0 6) (a 7) (Z 7) :: gX5 cy (a 0 7) (a 8) (Z 8) :: gX1 cy (o 10) (a 10) (Z 10) :: gX1 cy (o 11) (a 11) (Z 11) :: pgR (WGp cy a aK B) j)) rfl ?_
  refine ww_icmp_eq h dL_law_477 1591 (by decide) 480 rfl (fun _ => ?_) (fun c => absurd h3.symm c)
  refine ww_kn (Nat.le_succ k) (Nat.le_add_right n 6) ?_
  refine ww_permT [6, 1, 9, 9, 1, 1, 1, 6, 6, 6, 1, 5, 5, 0, 0, 0, 0, 0] (Cs := [gX4 cy (a 5 (100 + j)) (aK j) u.2.2.2.2.2.2.1, gX9 cy (o 0) (a 0) u.2.1, gX0 cy (a 0 0) (a 1) (Z 1), gX0 cy (a 0 1) (a 2) (Z 2), gX4 cy (a 0 2) (a 3) u.2.2.1, gX4 cy (a 0 3) (a 4) u.2.2.2.1, gX2 cy (a 0 4) (a 5) u.2.2.2.2.1, gX7 cy (a 0 5) (a 6) (Z 6), gX7 cy (a 0 6) (a 7) (Z 7), gX5 cy (a 0 7) (a 8) (Z 8), gX8 cy (a 0 9) (a 9) u.2.2.2.2.2.1, gX1 cy (o 10) (a 10) (Z 10), gX1 cy (o 11) (a 11) (Z 11), gX10 cy (o 28) (a 28) w.2, gX3 cy (a 0 (900 + 0)) (a (24 + 0)) u.2.2.2.2.2.2.2.1, gX3 cy (a 0 (900 + 1)) (a (24 + 1)) u.2.2.2.2.2.2.2.2.1, gX3 cy (a 0 (900 + 2)) (a (24 + 2)) u.2.2.2.2.2.2.2.2.2.1, gX3 cy (a 0 (900 + 3)) (a (24 + 3)) u.2.2.2.2.2.2.2.2.2.2]) (Rs := pgR (WGp cy a aK B) j) (by simp only [pk_g, List.getElem?_cons_zero, List.getElem?_cons_succ, List.eraseIdx]) (Gs' := (gX4 cy (a 5 (100 + j)) (aK j) u.2.2.2.2.2.2.1 :: gX9 cy (o 0) (a 0) u.2.1 :: gX0 cy (a 0 0) (a 1) (Z 1) :: gX0 cy (a 0 1) (a 2) (Z 2) :: gX4 cy (a 0 2) (a 3) u.2.2.1 :: gX4 cy (a 0 3) (a 4) u.2.2.2.1 :: gX2 cy (a 0 4) (a 5) u.2.2.2.2.1 :: gX7 cy (a 0 5) (a 6) (Z 6) :: gX7 cy (a 0 6) (a 7) (Z 7) :: gX5 cy (a 0 7) (a 8) (Z 8) :: gX8 cy (a 0 9) (a 9) u.2.2.2.2.2.1 :: gX1 cy (o 10) (a 10) (Z 10) :: gX1 cy (o 11) (a 11) (Z 11) :: gX10 cy (o 28) (a 28) w.2 :: gX3 cy (a 0 (900 + 0)) (a (24 + 0)) u.2.2.2.2.2.2.2.1 :: gX3 cy (a 0 (900 + 1)) (a (24 + 1)) u.2.2.2.2.2.2.2.2.1 :: gX3 cy (a 0 (900 + 2)) (a (24 + 2)) u.2.2.2.2.2.2.2.2.2.1 :: gX3 cy (a 0 (900 + 3)) (a (24 + 3)) u.2.2.2.2.2.2.2.2.2.2 :: pgR (WGp cy a aK B) j)) rfl ?_
  refine ww_pgIn (E := [gX9 cy (o 0) (a 0) u.2.1, gX0 cy (a 0 0) (a 1) (Z 1), gX0 cy (a 0 1) (a 2) (Z 2), gX4 cy (a 0 2) (a 3) u.2.2.1, gX4 cy (a 0 3) (a 4) u.2.2.2.1, gX2 cy (a 0 4) (a 5) u.2.2.2.2.1, gX7 cy (a 0 5) (a 6) (Z 6), gX7 cy (a 0 6) (a 7) (Z 7), gX5 cy (a 0 7) (a 8) (Z 8), gX8 cy (a 0 9) (a 9) u.2.2.2.2.2.1, gX1 cy (o 10) (a 10) (Z 10), gX1 cy (o 11) (a 11) (Z 11), gX10 cy (o 28) (a 28) w.2, gX3 cy (a 0 (900 + 0)) (a (24 + 0)) u.2.2.2.2.2.2.2.1, gX3 cy (a 0 (900 + 1)) (a (24 + 1)) u.2.2.2.2.2.2.2.2.1, gX3 cy (a 0 (900 + 2)) (a (24 + 2)) u.2.2.2.2.2.2.2.2.2.1, gX3 cy (a 0 (900 + 3)) (a (24 + 3)) u.2.2.2.2.2.2.2.2.2.2]) (g := WGp cy a aK (va_up B j u.2.2.2.2.2.2.1)) hj (by simp [WGp, va_up]) (fun i hi => by simp [WGp, va_up, hi]) ?_
  exact kk _ _ _ _ _ h4
set_option maxHeartbeats 4000000 in
set_option maxRecDepth 100000 in
theorem case_weigh {X : Cx} {D : va_G} {ev : EvT} {cy : Nat → ClassId} {A : Nat → Prop} {Q : State → Prop} {l : Launch} {b Ln : Nat} {xs : Nat → Int32} {i : Int32} {k n : Nat} {I : LI} (C : lwC X D ev cy A l b Ln xs i k n) (ok : Ok_weigh I) {o : Nat → Nat} {a aK : Nat → Nat → Nat} {Z B : Nat → OV} (hI : I o a aK Z B) (kk : lwK X D cy A Q b i k n I) : ww X D A 4 Q k n 653 [(3, .int i), (2, .ref (o 28)), (1, .ref (o 0)), (0, .ref b)] [] (WGs cy o a aK Z B) := by
  obtain ⟨h, hX, hbl, hbA, hin, hk, hn⟩ := C
  obtain ⟨x0, ex0⟩ : ∃ x : Int32, xs (i + 1).toNatClampNeg = x := ⟨_, rfl⟩
  obtain ⟨x1, ex1⟩ : ∃ x : Int32, xs (i + 2).toNatClampNeg = x := ⟨_, rfl⟩
  have hv := ok o a aK Z B hI x0 x1
  obtain ⟨j, hj, u, w, h1, h2, h3, h4⟩ := hv
  refine ww_pgOut hj ?_
  show ww X D A 4 Q k n 653 [(3, .int i), (2, .ref (o 28)), (1, .ref (o 0)), (0, .ref b)] [] (gX4 cy (a 5 (100 + j)) (aK j) (B j) :: gX9 cy (o 0) (a 0) (Z 0) :: gX0 cy (a 0 0) (a 1) (Z 1) :: gX0 cy (a 0 1) (a 2) (Z 2) :: gX4 cy (a 0 2) (a 3) (Z 3) :: gX4 cy (a 0 3) (a 4) (Z 4) :: gX2 cy (a 0 4) (a 5) (Z 5) :: gX7 cy (a 0 5) (a 6) (Z 6) :: gX7 cy (a 0 6) (a 7) (Z 7) :: gX5 cy (a 0 7) (a 8) (Z 8) :: gX8 cy (a 0 9) (a 9) (Z 9) :: gX1 cy (o 10) (a 10) (Z 10) :: gX1 cy (o 11) (a 11) (Z 11) :: gX10 cy (o 28) (a 28) (Z 28) :: gX3 cy (a 0 (900 + 0)) (a (24 + 0)) (Z (24 + 0)) :: gX3 cy (a 0 (900 + 1)) (a (24 + 1)) (Z (24 + 1)) :: gX3 cy (a 0 (900 + 2)) (a (24 + 2)) (Z (24 + 2)) :: gX3 cy (a 0 (900 + 3)) (a (24 + 3)) (Z (24 + 3)) :: pgR (WGp cy a aK B) j)
  refine ww_aload_n h dL_law_653 rfl 2 rfl 654 rfl ?_
  refine ww_aload_n h dL_law_654 rfl 3 rfl 655 rfl ?_
  refine ww_iload_n h dL_law_655 rfl 0 rfl 656 rfl ?_
  refine ww_iconst h dL_law_656 (v := 1) (by decide) 657 rfl ?_
  refine ww_iadd h dL_law_657 658 rfl ?_
  refine ww_scd h hX hbl hbA (hin 1 (by decide) (by decide)) ex0 dL_law_658 659 rfl ?_
  refine ww_aload_n h dL_law_659 rfl 3 rfl 660 rfl ?_
  refine ww_iload_n h dL_law_660 rfl 0 rfl 661 rfl ?_
  refine ww_iconst h dL_law_661 (v := 2) (by decide) 662 rfl ?_
  refine ww_iadd h dL_law_662 663 rfl ?_
  refine ww_scd h hX hbl hbA (hin 2 (by decide) (by decide)) ex1 dL_law_663 664 rfl ?_
  refine ww_cVi h (c_X9_weigh l D ev cy (o 0) (a 0) (Z 0) (a 3) (Z 3) (a 5) (Z 5) (a 9) (Z 9) (a 5 (100 + j)) (aK j) (B j) (a (24 + 0)) (Z (24 + 0)) (a (24 + 1)) (Z (24 + 1)) (a (24 + 2)) (Z (24 + 2)) (a (24 + 3)) (Z (24 + 3)) x0 x1 _ h1) ⟨w_753, w_750, w_751, w_752, w_101, ok_X9_weigh⟩ ⟨by decide, by decide⟩ ⟨Nat.le_trans (Nat.le_add_right _ _) hk, Nat.le_trans (Nat.le_add_right _ _) hn⟩ ⟨rfl, rfl⟩ [1, 3, 4, 7, 0, 9, 9, 9, 9] (by simp only [pk_g, List.getElem?_cons_zero, List.getElem?_cons_succ, List.eraseIdx]) 0 rfl rfl rfl rfl (Nat.le_of_ble_eq_true rfl) dL_law_664 667 rfl (Gs' := (gX9 cy (o 0) (a 0) u.2.1 :: gX4 cy (a 0 2) (a 3) u.2.2.1 :: gX2 cy (a 0 4) (a 5) u.2.2.2.1 :: gX8 cy (a 0 9) (a 9) u.2.2.2.2.1 :: gX4 cy (a 5 (100 + j)) (aK j) u.2.2.2.2.2.1 :: gX3 cy (a 0 (900 + 0)) (a (24 + 0)) u.2.2.2.2.2.2.1 :: gX3 cy (a 0 (900 + 1)) (a (24 + 1)) u.2.2.2.2.2.2.2.1 :: gX3 cy (a 0 (900 + 2)) (a (24 + 2)) u.2.2.2.2.2.2.2.2.1 :: gX3 cy (a 0 (900 + 3)) (a (24 + 3)) u.2.2.2.2.2.2.2.2.2 :: gX0 cy (a 0 0) (a 1) (Z 1) :: gX0 cy (a 0 1) (a 2) (Z 2) :: gX4 cy (a 0 3) (a 4) (Z 4) :: gX7 cy (a 0 5) (a 6) (Z 6) :: gX7 cy (a 0 6) (a 7) (Z 7) :: gX5 cy (a 0 7) (a 8) (Z 8) :: gX1 cy (o 10) (a 10) (Z 10) :: gX1 cy (o 11) (a 11) (Z 11) :: gX10 cy (o 28) (a 28) (Z 28) :: pgR (WGp cy a aK B) j)) rfl ?_
  refine ww_aload_n h dL_law_667 rfl 1 rfl 668 rfl ?_
  refine ww_aload_n h dL_law_668 rfl 3 rfl 669 rfl ?_
  refine ww_iload_n h dL_law_669 rfl 0 rfl 670 rfl ?_
  refine ww_iconst h dL_law_670 (v := 1) (by decide) 671 rfl ?_
  refine ww_iadd h dL_law_671 672 rfl ?_
  refine ww_scd h hX hbl hbA (hin 1 (by decide) (by decide)) ex0 dL_law_672 673 rfl ?_
  refine ww_aload_n h dL_law_673 rfl 3 rfl 674 rfl ?_
  refine ww_iload_n h dL_law_674 rfl 0 rfl 675 rfl ?_
  refine ww_iconst h dL_law_675 (v := 2) (by decide) 676 rfl ?_
  refine ww_iadd h dL_law_676 677 rfl ?_
  refine ww_scd h hX hbl hbA (hin 2 (by decide) (by decide)) ex1 dL_law_677 678 rfl ?_
  refine ww_cVi h (c_X10_weigh l D ev cy (o 28) (a 28) (Z 28) x0 x1 _ h2) ⟨w_1427, w_1424, w_1425, w_1426, w_111, ok_X10_weigh⟩ ⟨by decide, by decide⟩ ⟨Nat.le_trans (Nat.le_add_right _ _) hk, Nat.le_trans (Nat.le_add_right _ _) hn⟩ ⟨rfl, rfl⟩ [17] (by simp only [pk_g, List.getElem?_cons_zero, List.getElem?_cons_succ, List.eraseIdx]) 0 rfl rfl rfl rfl (Nat.le_of_ble_eq_true rfl) dL_law_678 681 rfl (Gs' := (gX10 cy (o 28) (a 28) w.2 :: gX9 cy (o 0) (a 0) u.2.1 :: gX4 cy (a 0 2) (a 3) u.2.2.1 :: gX2 cy (a 0 4) (a 5) u.2.2.2.1 :: gX8 cy (a 0 9) (a 9) u.2.2.2.2.1 :: gX4 cy (a 5 (100 + j)) (aK j) u.2.2.2.2.2.1 :: gX3 cy (a 0 (900 + 0)) (a (24 + 0)) u.2.2.2.2.2.2.1 :: gX3 cy (a 0 (900 + 1)) (a (24 + 1)) u.2.2.2.2.2.2.2.1 :: gX3 cy (a 0 (900 + 2)) (a (24 + 2)) u.2.2.2.2.2.2.2.2.1 :: gX3 cy (a 0 (900 + 3)) (a (24 + 3)) u.2.2.2.2.2.2.2.2.2 :: gX0 cy (a 0 0) (a 1) (Z 1) :: gX0 cy (a 0 1) (a 2) (Z 2) :: gX4 cy (a 0 3) (a 4) (Z 4) :: gX7 cy (a 0 5) (a 6) (Z 6) :: gX7 cy (a 0 6) (a 7) (Z 7) :: gX5 cy (a 0 7) (a 8) (Z 8) :: gX1 cy (o 10) (a 10) (Z 10) :: gX1 cy (o 11) (a 11) (Z 11) :: pgR (WGp cy a aK B) j)) rfl ?_
  refine ww_icmp_eq h dL_law_681 1591 (by decide) 684 rfl (fun _ => ?_) (fun c => absurd h3.symm c)
  refine ww_kn (Nat.le_succ k) (Nat.le_add_right n 6) ?_
  refine ww_permT [5, 1, 8, 8, 1, 7, 1, 6, 6, 6, 1, 5, 5, 0, 0, 0, 0, 0] (Cs := [gX4 cy (a 5 (100 + j)) (aK j) u.2.2.2.2.2.1, gX9 cy (o 0) (a 0) u.2.1, gX0 cy (a 0 0) (a 1) (Z 1), gX0 cy (a 0 1) (a 2) (Z 2), gX4 cy (a 0 2) (a 3) u.2.2.1, gX4 cy (a 0 3) (a 4) (Z 4), gX2 cy (a 0 4) (a 5) u.2.2.2.1, gX7 cy (a 0 5) (a 6) (Z 6), gX7 cy (a 0 6) (a 7) (Z 7), gX5 cy (a 0 7) (a 8) (Z 8), gX8 cy (a 0 9) (a 9) u.2.2.2.2.1, gX1 cy (o 10) (a 10) (Z 10), gX1 cy (o 11) (a 11) (Z 11), gX10 cy (o 28) (a 28) w.2, gX3 cy (a 0 (900 + 0)) (a (24 + 0)) u.2.2.2.2.2.2.1, gX3 cy (a 0 (900 + 1)) (a (24 + 1)) u.2.2.2.2.2.2.2.1, gX3 cy (a 0 (900 + 2)) (a (24 + 2)) u.2.2.2.2.2.2.2.2.1, gX3 cy (a 0 (900 + 3)) (a (24 + 3)) u.2.2.2.2.2.2.2.2.2]) (Rs := pgR (WGp cy a aK B) j) (by simp only [pk_g, List.getElem?_cons_zero, List.getElem?_cons_succ, List.eraseIdx]) (Gs' := (gX4 cy (a 5 (100 + j)) (aK j) u.2.2.2.2.2.1 :: gX9 cy (o 0) (a 0) u.2.1 :: gX0 cy (a 0 0) (a 1) (Z 1) :: gX0 cy (a 0 1) (a 2) (Z 2) :: gX4 cy (a 0 2) (a 3) u.2.2.1 :: gX4 cy (a 0 3) (a 4) (Z 4) :: gX2 cy (a 0 4) (a 5) u.2.2.2.1 :: gX7 cy (a 0 5) (a 6) (Z 6) :: gX7 cy (a 0 6) (a 7) (Z 7) :: gX5 cy (a 0 7) (a 8) (Z 8) :: gX8 cy (a 0 9) (a 9) u.2.2.2.2.1 :: gX1 cy (o 10) (a 10) (Z 10) :: gX1 cy (o 11) (a 11) (Z 11) :: gX10 cy (o 28) (a 28) w.2 :: gX3 cy (a 0 (900 + 0)) (a (24 + 0)) u.2.2.2.2.2.2.1 :: gX3 cy (a 0 (900 + 1)) (a (24 + 1)) u.2.2.2.2.2.2.2.1 :: gX3 cy (a 0 (900 + 2)) (a (24 + 2)) u.2.2.2.2.2.2.2.2.1 :: gX3 cy (a 0 (900 + 3)) (a (24 + 3)) u.2.2.2.2.2.2.2.2.2 :: pgR (WGp cy a aK B) j)) rfl ?_
  refine ww_pgIn (E := [gX9 cy (o 0) (a 0) u.2.1, gX0 cy (a 0 0) (a 1) (Z 1), gX0 cy (a 0 1) (a 2) (Z 2), gX4 cy (a 0 2) (a 3) u.2.2.1, gX4 cy (a 0 3) (a 4) (Z 4), gX2 cy (a 0 4) (a 5) u.2.2.2.1, gX7 cy (a 0 5) (a 6) (Z 6), gX7 cy (a 0 6) (a 7) (Z 7), gX5 cy (a 0 7) (a 8) (Z 8), gX8 cy (a 0 9) (a 9) u.2.2.2.2.1, gX1 cy (o 10) (a 10) (Z 10), gX1 cy (o 11) (a 11) (Z 11), gX10 cy (o 28) (a 28) w.2, gX3 cy (a 0 (900 + 0)) (a (24 + 0)) u.2.2.2.2.2.2.1, gX3 cy (a 0 (900 + 1)) (a (24 + 1)) u.2.2.2.2.2.2.2.1, gX3 cy (a 0 (900 + 2)) (a (24 + 2)) u.2.2.2.2.2.2.2.2.1, gX3 cy (a 0 (900 + 3)) (a (24 + 3)) u.2.2.2.2.2.2.2.2.2]) (g := WGp cy a aK (va_up B j u.2.2.2.2.2.1)) hj (by simp [WGp, va_up]) (fun i hi => by simp [WGp, va_up, hi]) ?_
  exact kk _ _ _ _ _ h4
set_option maxHeartbeats 4000000 in
set_option maxRecDepth 100000 in
theorem case_sign {X : Cx} {D : va_G} {ev : EvT} {cy : Nat → ClassId} {A : Nat → Prop} {Q : State → Prop} {l : Launch} {b Ln : Nat} {xs : Nat → Int32} {i : Int32} {k n : Nat} {I : LI} (C : lwC X D ev cy A l b Ln xs i k n) (ok : Ok_sign I) {o : Nat → Nat} {a aK : Nat → Nat → Nat} {Z B : Nat → OV} (hI : I o a aK Z B) (kk : lwK X D cy A Q b i k n I) : ww X D A 4 Q k n 811 [(3, .int i), (2, .ref (o 28)), (1, .ref (o 0)), (0, .ref b)] [] (WGs cy o a aK Z B) := by
  obtain ⟨h, hX, hbl, hbA, hin, hk, hn⟩ := C
  obtain ⟨x0, ex0⟩ : ∃ x : Int32, xs (i + 1).toNatClampNeg = x := ⟨_, rfl⟩
  have hv := ok o a aK Z B hI x0
  obtain ⟨u, w, h1, h2, h3, h4⟩ := hv
  show ww X D A 4 Q k n 811 [(3, .int i), (2, .ref (o 28)), (1, .ref (o 0)), (0, .ref b)] [] (gX9 cy (o 0) (a 0) (Z 0) :: gX0 cy (a 0 0) (a 1) (Z 1) :: gX0 cy (a 0 1) (a 2) (Z 2) :: gX4 cy (a 0 2) (a 3) (Z 3) :: gX4 cy (a 0 3) (a 4) (Z 4) :: gX2 cy (a 0 4) (a 5) (Z 5) :: gX7 cy (a 0 5) (a 6) (Z 6) :: gX7 cy (a 0 6) (a 7) (Z 7) :: gX5 cy (a 0 7) (a 8) (Z 8) :: gX8 cy (a 0 9) (a 9) (Z 9) :: gX1 cy (o 10) (a 10) (Z 10) :: gX1 cy (o 11) (a 11) (Z 11) :: gX10 cy (o 28) (a 28) (Z 28) :: gX3 cy (a 0 (900 + 0)) (a (24 + 0)) (Z (24 + 0)) :: gX3 cy (a 0 (900 + 1)) (a (24 + 1)) (Z (24 + 1)) :: gX3 cy (a 0 (900 + 2)) (a (24 + 2)) (Z (24 + 2)) :: gX3 cy (a 0 (900 + 3)) (a (24 + 3)) (Z (24 + 3)) :: pgs (WGp cy a aK B))
  refine ww_aload_n h dL_law_811 rfl 2 rfl 812 rfl ?_
  refine ww_aload_n h dL_law_812 rfl 3 rfl 813 rfl ?_
  refine ww_iload_n h dL_law_813 rfl 0 rfl 814 rfl ?_
  refine ww_iconst h dL_law_814 (v := 1) (by decide) 815 rfl ?_
  refine ww_iadd h dL_law_815 816 rfl ?_
  refine ww_scd h hX hbl hbA (hin 1 (by decide) (by decide)) ex0 dL_law_816 817 rfl ?_
  refine ww_cVi h (c_X9_sign l D ev cy (o 0) (a 0) (Z 0) (a 3) (Z 3) x0 _ h1) ⟨w_793, w_790, w_791, w_792, w_101, ok_X9_sign⟩ ⟨by decide, by decide⟩ ⟨Nat.le_trans (Nat.le_add_right _ _) hk, Nat.le_trans (Nat.le_add_right _ _) hn⟩ ⟨rfl, rfl⟩ [0, 2] (by simp only [pk_g, List.getElem?_cons_zero, List.getElem?_cons_succ, List.eraseIdx]) 0 rfl rfl rfl rfl (Nat.le_of_ble_eq_true rfl) dL_law_817 820 rfl (Gs' := (gX9 cy (o 0) (a 0) (Z 0) :: gX4 cy (a 0 2) (a 3) (Z 3) :: gX0 cy (a 0 0) (a 1) (Z 1) :: gX0 cy (a 0 1) (a 2) (Z 2) :: gX4 cy (a 0 3) (a 4) (Z 4) :: gX2 cy (a 0 4) (a 5) (Z 5) :: gX7 cy (a 0 5) (a 6) (Z 6) :: gX7 cy (a 0 6) (a 7) (Z 7) :: gX5 cy (a 0 7) (a 8) (Z 8) :: gX8 cy (a 0 9) (a 9) (Z 9) :: gX1 cy (o 10) (a 10) (Z 10) :: gX1 cy (o 11) (a 11) (Z 11) :: gX10 cy (o 28) (a 28) (Z 28) :: gX3 cy (a 0 (900 + 0)) (a (24 + 0)) (Z (24 + 0)) :: gX3 cy (a 0 (900 + 1)) (a (24 + 1)) (Z (24 + 1)) :: gX3 cy (a 0 (900 + 2)) (a (24 + 2)) (Z (24 + 2)) :: gX3 cy (a 0 (900 + 3)) (a (24 + 3)) (Z (24 + 3)) :: pgs (WGp cy a aK B))) rfl ?_
  refine ww_aload_n h dL_law_820 rfl 1 rfl 821 rfl ?_
  refine ww_aload_n h dL_law_821 rfl 3 rfl 822 rfl ?_
  refine ww_iload_n h dL_law_822 rfl 0 rfl 823 rfl ?_
  refine ww_iconst h dL_law_823 (v := 1) (by decide) 824 rfl ?_
  refine ww_iadd h dL_law_824 825 rfl ?_
  refine ww_scd h hX hbl hbA (hin 1 (by decide) (by decide)) ex0 dL_law_825 826 rfl ?_
  refine ww_cVi h (c_X10_sign l D ev cy (o 28) (a 28) (Z 28) x0 _ h2) ⟨w_1453, w_1450, w_1451, w_1452, w_111, ok_X10_sign⟩ ⟨by decide, by decide⟩ ⟨Nat.le_trans (Nat.le_add_right _ _) hk, Nat.le_trans (Nat.le_add_right _ _) hn⟩ ⟨rfl, rfl⟩ [12] (by simp only [pk_g, List.getElem?_cons_zero, List.getElem?_cons_succ, List.eraseIdx]) 0 rfl rfl rfl rfl (Nat.le_of_ble_eq_true rfl) dL_law_826 829 rfl (Gs' := (gX10 cy (o 28) (a 28) (Z 28) :: gX9 cy (o 0) (a 0) (Z 0) :: gX4 cy (a 0 2) (a 3) (Z 3) :: gX0 cy (a 0 0) (a 1) (Z 1) :: gX0 cy (a 0 1) (a 2) (Z 2) :: gX4 cy (a 0 3) (a 4) (Z 4) :: gX2 cy (a 0 4) (a 5) (Z 5) :: gX7 cy (a 0 5) (a 6) (Z 6) :: gX7 cy (a 0 6) (a 7) (Z 7) :: gX5 cy (a 0 7) (a 8) (Z 8) :: gX8 cy (a 0 9) (a 9) (Z 9) :: gX1 cy (o 10) (a 10) (Z 10) :: gX1 cy (o 11) (a 11) (Z 11) :: gX3 cy (a 0 (900 + 0)) (a (24 + 0)) (Z (24 + 0)) :: gX3 cy (a 0 (900 + 1)) (a (24 + 1)) (Z (24 + 1)) :: gX3 cy (a 0 (900 + 2)) (a (24 + 2)) (Z (24 + 2)) :: gX3 cy (a 0 (900 + 3)) (a (24 + 3)) (Z (24 + 3)) :: pgs (WGp cy a aK B))) rfl ?_
  refine ww_icmp_eq h dL_law_829 1591 (by decide) 832 rfl (fun _ => ?_) (fun c => absurd h3.symm c)
  refine ww_kn (Nat.le_succ k) (Nat.le_add_right n 6) ?_
  refine ww_permT [1, 2, 2, 1, 1, 1, 1, 1, 1, 1, 1, 1, 0, 0, 0, 0, 0] (Cs := [gX9 cy (o 0) (a 0) (Z 0), gX0 cy (a 0 0) (a 1) (Z 1), gX0 cy (a 0 1) (a 2) (Z 2), gX4 cy (a 0 2) (a 3) (Z 3), gX4 cy (a 0 3) (a 4) (Z 4), gX2 cy (a 0 4) (a 5) (Z 5), gX7 cy (a 0 5) (a 6) (Z 6), gX7 cy (a 0 6) (a 7) (Z 7), gX5 cy (a 0 7) (a 8) (Z 8), gX8 cy (a 0 9) (a 9) (Z 9), gX1 cy (o 10) (a 10) (Z 10), gX1 cy (o 11) (a 11) (Z 11), gX10 cy (o 28) (a 28) (Z 28), gX3 cy (a 0 (900 + 0)) (a (24 + 0)) (Z (24 + 0)), gX3 cy (a 0 (900 + 1)) (a (24 + 1)) (Z (24 + 1)), gX3 cy (a 0 (900 + 2)) (a (24 + 2)) (Z (24 + 2)), gX3 cy (a 0 (900 + 3)) (a (24 + 3)) (Z (24 + 3))]) (Rs := pgs (WGp cy a aK B)) (by simp only [pk_g, List.getElem?_cons_zero, List.getElem?_cons_succ, List.eraseIdx]) (Gs' := (gX9 cy (o 0) (a 0) (Z 0) :: gX0 cy (a 0 0) (a 1) (Z 1) :: gX0 cy (a 0 1) (a 2) (Z 2) :: gX4 cy (a 0 2) (a 3) (Z 3) :: gX4 cy (a 0 3) (a 4) (Z 4) :: gX2 cy (a 0 4) (a 5) (Z 5) :: gX7 cy (a 0 5) (a 6) (Z 6) :: gX7 cy (a 0 6) (a 7) (Z 7) :: gX5 cy (a 0 7) (a 8) (Z 8) :: gX8 cy (a 0 9) (a 9) (Z 9) :: gX1 cy (o 10) (a 10) (Z 10) :: gX1 cy (o 11) (a 11) (Z 11) :: gX10 cy (o 28) (a 28) (Z 28) :: gX3 cy (a 0 (900 + 0)) (a (24 + 0)) (Z (24 + 0)) :: gX3 cy (a 0 (900 + 1)) (a (24 + 1)) (Z (24 + 1)) :: gX3 cy (a 0 (900 + 2)) (a (24 + 2)) (Z (24 + 2)) :: gX3 cy (a 0 (900 + 3)) (a (24 + 3)) (Z (24 + 3)) :: pgs (WGp cy a aK B))) rfl ?_
  exact kk _ _ _ _ _ h4
set_option maxHeartbeats 4000000 in
set_option maxRecDepth 100000 in
theorem case_lineOf {X : Cx} {D : va_G} {ev : EvT} {cy : Nat → ClassId} {A : Nat → Prop} {Q : State → Prop} {l : Launch} {b Ln : Nat} {xs : Nat → Int32} {i : Int32} {k n : Nat} {I : LI} (C : lwC X D ev cy A l b Ln xs i k n) (ok : Ok_lineOf I) {o : Nat → Nat} {a aK : Nat → Nat → Nat} {Z B : Nat → OV} (hI : I o a aK Z B) (kk : lwK X D cy A Q b i k n I) : ww X D A 4 Q k n 999 [(3, .int i), (2, .ref (o 28)), (1, .ref (o 0)), (0, .ref b)] [] (WGs cy o a aK Z B) := by
  obtain ⟨h, hX, hbl, hbA, hin, hk, hn⟩ := C
  obtain ⟨x0, ex0⟩ : ∃ x : Int32, xs (i + 1).toNatClampNeg = x := ⟨_, rfl⟩
  obtain ⟨x1, ex1⟩ : ∃ x : Int32, xs (i + 2).toNatClampNeg = x := ⟨_, rfl⟩
  rcases ok o a aK Z B hI x0 x1 with hv | hv | hv | hv
  · obtain ⟨u, w, h1, h2, h3, h4⟩ := hv
    show ww X D A 4 Q k n 999 [(3, .int i), (2, .ref (o 28)), (1, .ref (o 0)), (0, .ref b)] [] (gX9 cy (o 0) (a 0) (Z 0) :: gX0 cy (a 0 0) (a 1) (Z 1) :: gX0 cy (a 0 1) (a 2) (Z 2) :: gX4 cy (a 0 2) (a 3) (Z 3) :: gX4 cy (a 0 3) (a 4) (Z 4) :: gX2 cy (a 0 4) (a 5) (Z 5) :: gX7 cy (a 0 5) (a 6) (Z 6) :: gX7 cy (a 0 6) (a 7) (Z 7) :: gX5 cy (a 0 7) (a 8) (Z 8) :: gX8 cy (a 0 9) (a 9) (Z 9) :: gX1 cy (o 10) (a 10) (Z 10) :: gX1 cy (o 11) (a 11) (Z 11) :: gX10 cy (o 28) (a 28) (Z 28) :: gX3 cy (a 0 (900 + 0)) (a (24 + 0)) (Z (24 + 0)) :: gX3 cy (a 0 (900 + 1)) (a (24 + 1)) (Z (24 + 1)) :: gX3 cy (a 0 (900 + 2)) (a (24 + 2)) (Z (24 + 2)) :: gX3 cy (a 0 (900 + 3)) (a (24 + 3)) (Z (24 + 3)) :: pgs (WGp cy a aK B))
    refine ww_aload_n h dL_law_999 rfl 2 rfl 1000 rfl ?_
    refine ww_aload_n h dL_law_1000 rfl 3 rfl 1001 rfl ?_
    refine ww_iload_n h dL_law_1001 rfl 0 rfl 1002 rfl ?_
    refine ww_iconst h dL_law_1002 (v := 1) (by decide) 1003 rfl ?_
    refine ww_iadd h dL_law_1003 1004 rfl ?_
    refine ww_scd h hX hbl hbA (hin 1 (by decide) (by decide)) ex0 dL_law_1004 1005 rfl ?_
    refine ww_aload_n h dL_law_1005 rfl 3 rfl 1006 rfl ?_
    refine ww_iload_n h dL_law_1006 rfl 0 rfl 1007 rfl ?_
    refine ww_iconst h dL_law_1007 (v := 2) (by decide) 1008 rfl ?_
    refine ww_iadd h dL_law_1008 1009 rfl ?_
    refine ww_scd h hX hbl hbA (hin 2 (by decide) (by decide)) ex1 dL_law_1009 1010 rfl ?_
    refine ww_cVi h (c_X9_lineOf l D ev cy (o 0) (a 0) (Z 0) (a 3) (Z 3) (a 6) (Z 6) (a 8) (Z 8) (o 10) (a 10) (Z 10) (a 0 (900 + 0)) (a (24 + 0)) (Z (24 + 0)) x0 x1 _ h1) ⟨w_951, w_948, w_949, w_950, w_101, ok_X9_lineOf⟩ ⟨by decide, by decide⟩ ⟨Nat.le_trans (Nat.le_add_right _ _) hk, Nat.le_trans (Nat.le_add_right _ _) hn⟩ ⟨rfl, rfl⟩ [0, 2, 4, 5, 6, 8] (by simp only [pk_g, List.getElem?_cons_zero, List.getElem?_cons_succ, List.eraseIdx]) 0 rfl rfl rfl rfl (Nat.le_of_ble_eq_true rfl) dL_law_1010 1013 rfl (Gs' := (gX9 cy (o 0) (a 0) u.2.1 :: gX4 cy (a 0 2) (a 3) (Z 3) :: gX7 cy (a 0 5) (a 6) u.2.2.1 :: gX5 cy (a 0 7) (a 8) u.2.2.2.1 :: gX1 cy (o 10) (a 10) (Z 10) :: gX3 cy (a 0 (900 + 0)) (a (24 + 0)) u.2.2.2.2 :: gX0 cy (a 0 0) (a 1) (Z 1) :: gX0 cy (a 0 1) (a 2) (Z 2) :: gX4 cy (a 0 3) (a 4) (Z 4) :: gX2 cy (a 0 4) (a 5) (Z 5) :: gX7 cy (a 0 6) (a 7) (Z 7) :: gX8 cy (a 0 9) (a 9) (Z 9) :: gX1 cy (o 11) (a 11) (Z 11) :: gX10 cy (o 28) (a 28) (Z 28) :: gX3 cy (a 0 (900 + 1)) (a (24 + 1)) (Z (24 + 1)) :: gX3 cy (a 0 (900 + 2)) (a (24 + 2)) (Z (24 + 2)) :: gX3 cy (a 0 (900 + 3)) (a (24 + 3)) (Z (24 + 3)) :: pgs (WGp cy a aK B))) rfl ?_
    refine ww_aload_n h dL_law_1013 rfl 1 rfl 1014 rfl ?_
    refine ww_aload_n h dL_law_1014 rfl 3 rfl 1015 rfl ?_
    refine ww_iload_n h dL_law_1015 rfl 0 rfl 1016 rfl ?_
    refine ww_iconst h dL_law_1016 (v := 1) (by decide) 1017 rfl ?_
    refine ww_iadd h dL_law_1017 1018 rfl ?_
    refine ww_scd h hX hbl hbA (hin 1 (by decide) (by decide)) ex0 dL_law_1018 1019 rfl ?_
    refine ww_aload_n h dL_law_1019 rfl 3 rfl 1020 rfl ?_
    refine ww_iload_n h dL_law_1020 rfl 0 rfl 1021 rfl ?_
    refine ww_iconst h dL_law_1021 (v := 2) (by decide) 1022 rfl ?_
    refine ww_iadd h dL_law_1022 1023 rfl ?_
    refine ww_scd h hX hbl hbA (hin 2 (by decide) (by decide)) ex1 dL_law_1023 1024 rfl ?_
    refine ww_cVi h (c_X10_lineOf l D ev cy (o 28) (a 28) (Z 28) x0 x1 _ h2) ⟨w_1541, w_1538, w_1539, w_1540, w_111, ok_X10_lineOf⟩ ⟨by decide, by decide⟩ ⟨Nat.le_trans (Nat.le_add_right _ _) hk, Nat.le_trans (Nat.le_add_right _ _) hn⟩ ⟨rfl, rfl⟩ [13] (by simp only [pk_g, List.getElem?_cons_zero, List.getElem?_cons_succ, List.eraseIdx]) 0 rfl rfl rfl rfl (Nat.le_of_ble_eq_true rfl) dL_law_1024 1027 rfl (Gs' := (gX10 cy (o 28) (a 28) w.2 :: gX9 cy (o 0) (a 0) u.2.1 :: gX4 cy (a 0 2) (a 3) (Z 3) :: gX7 cy (a 0 5) (a 6) u.2.2.1 :: gX5 cy (a 0 7) (a 8) u.2.2.2.1 :: gX1 cy (o 10) (a 10) (Z 10) :: gX3 cy (a 0 (900 + 0)) (a (24 + 0)) u.2.2.2.2 :: gX0 cy (a 0 0) (a 1) (Z 1) :: gX0 cy (a 0 1) (a 2) (Z 2) :: gX4 cy (a 0 3) (a 4) (Z 4) :: gX2 cy (a 0 4) (a 5) (Z 5) :: gX7 cy (a 0 6) (a 7) (Z 7) :: gX8 cy (a 0 9) (a 9) (Z 9) :: gX1 cy (o 11) (a 11) (Z 11) :: gX3 cy (a 0 (900 + 1)) (a (24 + 1)) (Z (24 + 1)) :: gX3 cy (a 0 (900 + 2)) (a (24 + 2)) (Z (24 + 2)) :: gX3 cy (a 0 (900 + 3)) (a (24 + 3)) (Z (24 + 3)) :: pgs (WGp cy a aK B))) rfl ?_
    refine ww_icmp_eq h dL_law_1027 1591 (by decide) 1030 rfl (fun _ => ?_) (fun c => absurd h3.symm c)
    refine ww_kn (Nat.le_succ k) (Nat.le_add_right n 6) ?_
    refine ww_permT [1, 6, 6, 1, 5, 5, 1, 4, 1, 3, 1, 2, 0, 0, 0, 0, 0] (Cs := [gX9 cy (o 0) (a 0) u.2.1, gX0 cy (a 0 0) (a 1) (Z 1), gX0 cy (a 0 1) (a 2) (Z 2), gX4 cy (a 0 2) (a 3) (Z 3), gX4 cy (a 0 3) (a 4) (Z 4), gX2 cy (a 0 4) (a 5) (Z 5), gX7 cy (a 0 5) (a 6) u.2.2.1, gX7 cy (a 0 6) (a 7) (Z 7), gX5 cy (a 0 7) (a 8) u.2.2.2.1, gX8 cy (a 0 9) (a 9) (Z 9), gX1 cy (o 10) (a 10) (Z 10), gX1 cy (o 11) (a 11) (Z 11), gX10 cy (o 28) (a 28) w.2, gX3 cy (a 0 (900 + 0)) (a (24 + 0)) u.2.2.2.2, gX3 cy (a 0 (900 + 1)) (a (24 + 1)) (Z (24 + 1)), gX3 cy (a 0 (900 + 2)) (a (24 + 2)) (Z (24 + 2)), gX3 cy (a 0 (900 + 3)) (a (24 + 3)) (Z (24 + 3))]) (Rs := pgs (WGp cy a aK B)) (by simp only [pk_g, List.getElem?_cons_zero, List.getElem?_cons_succ, List.eraseIdx]) (Gs' := (gX9 cy (o 0) (a 0) u.2.1 :: gX0 cy (a 0 0) (a 1) (Z 1) :: gX0 cy (a 0 1) (a 2) (Z 2) :: gX4 cy (a 0 2) (a 3) (Z 3) :: gX4 cy (a 0 3) (a 4) (Z 4) :: gX2 cy (a 0 4) (a 5) (Z 5) :: gX7 cy (a 0 5) (a 6) u.2.2.1 :: gX7 cy (a 0 6) (a 7) (Z 7) :: gX5 cy (a 0 7) (a 8) u.2.2.2.1 :: gX8 cy (a 0 9) (a 9) (Z 9) :: gX1 cy (o 10) (a 10) (Z 10) :: gX1 cy (o 11) (a 11) (Z 11) :: gX10 cy (o 28) (a 28) w.2 :: gX3 cy (a 0 (900 + 0)) (a (24 + 0)) u.2.2.2.2 :: gX3 cy (a 0 (900 + 1)) (a (24 + 1)) (Z (24 + 1)) :: gX3 cy (a 0 (900 + 2)) (a (24 + 2)) (Z (24 + 2)) :: gX3 cy (a 0 (900 + 3)) (a (24 + 3)) (Z (24 + 3)) :: pgs (WGp cy a aK B))) rfl ?_
    exact kk _ _ _ _ _ h4
  · obtain ⟨u, w, h1, h2, h3, h4⟩ := hv
    show ww X D A 4 Q k n 999 [(3, .int i), (2, .ref (o 28)), (1, .ref (o 0)), (0, .ref b)] [] (gX9 cy (o 0) (a 0) (Z 0) :: gX0 cy (a 0 0) (a 1) (Z 1) :: gX0 cy (a 0 1) (a 2) (Z 2) :: gX4 cy (a 0 2) (a 3) (Z 3) :: gX4 cy (a 0 3) (a 4) (Z 4) :: gX2 cy (a 0 4) (a 5) (Z 5) :: gX7 cy (a 0 5) (a 6) (Z 6) :: gX7 cy (a 0 6) (a 7) (Z 7) :: gX5 cy (a 0 7) (a 8) (Z 8) :: gX8 cy (a 0 9) (a 9) (Z 9) :: gX1 cy (o 10) (a 10) (Z 10) :: gX1 cy (o 11) (a 11) (Z 11) :: gX10 cy (o 28) (a 28) (Z 28) :: gX3 cy (a 0 (900 + 0)) (a (24 + 0)) (Z (24 + 0)) :: gX3 cy (a 0 (900 + 1)) (a (24 + 1)) (Z (24 + 1)) :: gX3 cy (a 0 (900 + 2)) (a (24 + 2)) (Z (24 + 2)) :: gX3 cy (a 0 (900 + 3)) (a (24 + 3)) (Z (24 + 3)) :: pgs (WGp cy a aK B))
    refine ww_aload_n h dL_law_999 rfl 2 rfl 1000 rfl ?_
    refine ww_aload_n h dL_law_1000 rfl 3 rfl 1001 rfl ?_
    refine ww_iload_n h dL_law_1001 rfl 0 rfl 1002 rfl ?_
    refine ww_iconst h dL_law_1002 (v := 1) (by decide) 1003 rfl ?_
    refine ww_iadd h dL_law_1003 1004 rfl ?_
    refine ww_scd h hX hbl hbA (hin 1 (by decide) (by decide)) ex0 dL_law_1004 1005 rfl ?_
    refine ww_aload_n h dL_law_1005 rfl 3 rfl 1006 rfl ?_
    refine ww_iload_n h dL_law_1006 rfl 0 rfl 1007 rfl ?_
    refine ww_iconst h dL_law_1007 (v := 2) (by decide) 1008 rfl ?_
    refine ww_iadd h dL_law_1008 1009 rfl ?_
    refine ww_scd h hX hbl hbA (hin 2 (by decide) (by decide)) ex1 dL_law_1009 1010 rfl ?_
    refine ww_cVi h (c_X9_lineOf l D ev cy (o 0) (a 0) (Z 0) (a 3) (Z 3) (a 6) (Z 6) (a 8) (Z 8) (o 10) (a 10) (Z 10) (a 0 (900 + 1)) (a (24 + 1)) (Z (24 + 1)) x0 x1 _ h1) ⟨w_951, w_948, w_949, w_950, w_101, ok_X9_lineOf⟩ ⟨by decide, by decide⟩ ⟨Nat.le_trans (Nat.le_add_right _ _) hk, Nat.le_trans (Nat.le_add_right _ _) hn⟩ ⟨rfl, rfl⟩ [0, 2, 4, 5, 6, 9] (by simp only [pk_g, List.getElem?_cons_zero, List.getElem?_cons_succ, List.eraseIdx]) 0 rfl rfl rfl rfl (Nat.le_of_ble_eq_true rfl) dL_law_1010 1013 rfl (Gs' := (gX9 cy (o 0) (a 0) u.2.1 :: gX4 cy (a 0 2) (a 3) (Z 3) :: gX7 cy (a 0 5) (a 6) u.2.2.1 :: gX5 cy (a 0 7) (a 8) u.2.2.2.1 :: gX1 cy (o 10) (a 10) (Z 10) :: gX3 cy (a 0 (900 + 1)) (a (24 + 1)) u.2.2.2.2 :: gX0 cy (a 0 0) (a 1) (Z 1) :: gX0 cy (a 0 1) (a 2) (Z 2) :: gX4 cy (a 0 3) (a 4) (Z 4) :: gX2 cy (a 0 4) (a 5) (Z 5) :: gX7 cy (a 0 6) (a 7) (Z 7) :: gX8 cy (a 0 9) (a 9) (Z 9) :: gX1 cy (o 11) (a 11) (Z 11) :: gX10 cy (o 28) (a 28) (Z 28) :: gX3 cy (a 0 (900 + 0)) (a (24 + 0)) (Z (24 + 0)) :: gX3 cy (a 0 (900 + 2)) (a (24 + 2)) (Z (24 + 2)) :: gX3 cy (a 0 (900 + 3)) (a (24 + 3)) (Z (24 + 3)) :: pgs (WGp cy a aK B))) rfl ?_
    refine ww_aload_n h dL_law_1013 rfl 1 rfl 1014 rfl ?_
    refine ww_aload_n h dL_law_1014 rfl 3 rfl 1015 rfl ?_
    refine ww_iload_n h dL_law_1015 rfl 0 rfl 1016 rfl ?_
    refine ww_iconst h dL_law_1016 (v := 1) (by decide) 1017 rfl ?_
    refine ww_iadd h dL_law_1017 1018 rfl ?_
    refine ww_scd h hX hbl hbA (hin 1 (by decide) (by decide)) ex0 dL_law_1018 1019 rfl ?_
    refine ww_aload_n h dL_law_1019 rfl 3 rfl 1020 rfl ?_
    refine ww_iload_n h dL_law_1020 rfl 0 rfl 1021 rfl ?_
    refine ww_iconst h dL_law_1021 (v := 2) (by decide) 1022 rfl ?_
    refine ww_iadd h dL_law_1022 1023 rfl ?_
    refine ww_scd h hX hbl hbA (hin 2 (by decide) (by decide)) ex1 dL_law_1023 1024 rfl ?_
    refine ww_cVi h (c_X10_lineOf l D ev cy (o 28) (a 28) (Z 28) x0 x1 _ h2) ⟨w_1541, w_1538, w_1539, w_1540, w_111, ok_X10_lineOf⟩ ⟨by decide, by decide⟩ ⟨Nat.le_trans (Nat.le_add_right _ _) hk, Nat.le_trans (Nat.le_add_right _ _) hn⟩ ⟨rfl, rfl⟩ [13] (by simp only [pk_g, List.getElem?_cons_zero, List.getElem?_cons_succ, List.eraseIdx]) 0 rfl rfl rfl rfl (Nat.le_of_ble_eq_true rfl) dL_law_1024 1027 rfl (Gs' := (gX10 cy (o 28) (a 28) w.2 :: gX9 cy (o 0) (a 0) u.2.1 :: gX4 cy (a 0 2) (a 3) (Z 3) :: gX7 cy (a 0 5) (a 6) u.2.2.1 :: gX5 cy (a 0 7) (a 8) u.2.2.2.1 :: gX1 cy (o 10) (a 10) (Z 10) :: gX3 cy (a 0 (900 + 1)) (a (24 + 1)) u.2.2.2.2 :: gX0 cy (a 0 0) (a 1) (Z 1) :: gX0 cy (a 0 1) (a 2) (Z 2) :: gX4 cy (a 0 3) (a 4) (Z 4) :: gX2 cy (a 0 4) (a 5) (Z 5) :: gX7 cy (a 0 6) (a 7) (Z 7) :: gX8 cy (a 0 9) (a 9) (Z 9) :: gX1 cy (o 11) (a 11) (Z 11) :: gX3 cy (a 0 (900 + 0)) (a (24 + 0)) (Z (24 + 0)) :: gX3 cy (a 0 (900 + 2)) (a (24 + 2)) (Z (24 + 2)) :: gX3 cy (a 0 (900 + 3)) (a (24 + 3)) (Z (24 + 3)) :: pgs (WGp cy a aK B))) rfl ?_
    refine ww_icmp_eq h dL_law_1027 1591 (by decide) 1030 rfl (fun _ => ?_) (fun c => absurd h3.symm c)
    refine ww_kn (Nat.le_succ k) (Nat.le_add_right n 6) ?_
    refine ww_permT [1, 6, 6, 1, 5, 5, 1, 4, 1, 3, 1, 2, 0, 1, 0, 0, 0] (Cs := [gX9 cy (o 0) (a 0) u.2.1, gX0 cy (a 0 0) (a 1) (Z 1), gX0 cy (a 0 1) (a 2) (Z 2), gX4 cy (a 0 2) (a 3) (Z 3), gX4 cy (a 0 3) (a 4) (Z 4), gX2 cy (a 0 4) (a 5) (Z 5), gX7 cy (a 0 5) (a 6) u.2.2.1, gX7 cy (a 0 6) (a 7) (Z 7), gX5 cy (a 0 7) (a 8) u.2.2.2.1, gX8 cy (a 0 9) (a 9) (Z 9), gX1 cy (o 10) (a 10) (Z 10), gX1 cy (o 11) (a 11) (Z 11), gX10 cy (o 28) (a 28) w.2, gX3 cy (a 0 (900 + 0)) (a (24 + 0)) (Z (24 + 0)), gX3 cy (a 0 (900 + 1)) (a (24 + 1)) u.2.2.2.2, gX3 cy (a 0 (900 + 2)) (a (24 + 2)) (Z (24 + 2)), gX3 cy (a 0 (900 + 3)) (a (24 + 3)) (Z (24 + 3))]) (Rs := pgs (WGp cy a aK B)) (by simp only [pk_g, List.getElem?_cons_zero, List.getElem?_cons_succ, List.eraseIdx]) (Gs' := (gX9 cy (o 0) (a 0) u.2.1 :: gX0 cy (a 0 0) (a 1) (Z 1) :: gX0 cy (a 0 1) (a 2) (Z 2) :: gX4 cy (a 0 2) (a 3) (Z 3) :: gX4 cy (a 0 3) (a 4) (Z 4) :: gX2 cy (a 0 4) (a 5) (Z 5) :: gX7 cy (a 0 5) (a 6) u.2.2.1 :: gX7 cy (a 0 6) (a 7) (Z 7) :: gX5 cy (a 0 7) (a 8) u.2.2.2.1 :: gX8 cy (a 0 9) (a 9) (Z 9) :: gX1 cy (o 10) (a 10) (Z 10) :: gX1 cy (o 11) (a 11) (Z 11) :: gX10 cy (o 28) (a 28) w.2 :: gX3 cy (a 0 (900 + 0)) (a (24 + 0)) (Z (24 + 0)) :: gX3 cy (a 0 (900 + 1)) (a (24 + 1)) u.2.2.2.2 :: gX3 cy (a 0 (900 + 2)) (a (24 + 2)) (Z (24 + 2)) :: gX3 cy (a 0 (900 + 3)) (a (24 + 3)) (Z (24 + 3)) :: pgs (WGp cy a aK B))) rfl ?_
    exact kk _ _ _ _ _ h4
  · obtain ⟨u, w, h1, h2, h3, h4⟩ := hv
    show ww X D A 4 Q k n 999 [(3, .int i), (2, .ref (o 28)), (1, .ref (o 0)), (0, .ref b)] [] (gX9 cy (o 0) (a 0) (Z 0) :: gX0 cy (a 0 0) (a 1) (Z 1) :: gX0 cy (a 0 1) (a 2) (Z 2) :: gX4 cy (a 0 2) (a 3) (Z 3) :: gX4 cy (a 0 3) (a 4) (Z 4) :: gX2 cy (a 0 4) (a 5) (Z 5) :: gX7 cy (a 0 5) (a 6) (Z 6) :: gX7 cy (a 0 6) (a 7) (Z 7) :: gX5 cy (a 0 7) (a 8) (Z 8) :: gX8 cy (a 0 9) (a 9) (Z 9) :: gX1 cy (o 10) (a 10) (Z 10) :: gX1 cy (o 11) (a 11) (Z 11) :: gX10 cy (o 28) (a 28) (Z 28) :: gX3 cy (a 0 (900 + 0)) (a (24 + 0)) (Z (24 + 0)) :: gX3 cy (a 0 (900 + 1)) (a (24 + 1)) (Z (24 + 1)) :: gX3 cy (a 0 (900 + 2)) (a (24 + 2)) (Z (24 + 2)) :: gX3 cy (a 0 (900 + 3)) (a (24 + 3)) (Z (24 + 3)) :: pgs (WGp cy a aK B))
    refine ww_aload_n h dL_law_999 rfl 2 rfl 1000 rfl ?_
    refine ww_aload_n h dL_law_1000 rfl 3 rfl 1001 rfl ?_
    refine ww_iload_n h dL_law_1001 rfl 0 rfl 1002 rfl ?_
    refine ww_iconst h dL_law_1002 (v := 1) (by decide) 1003 rfl ?_
    refine ww_iadd h dL_law_1003 1004 rfl ?_
    refine ww_scd h hX hbl hbA (hin 1 (by decide) (by decide)) ex0 dL_law_1004 1005 rfl ?_
    refine ww_aload_n h dL_law_1005 rfl 3 rfl 1006 rfl ?_
    refine ww_iload_n h dL_law_1006 rfl 0 rfl 1007 rfl ?_
    refine ww_iconst h dL_law_1007 (v := 2) (by decide) 1008 rfl ?_
    refine ww_iadd h dL_law_1008 1009 rfl ?_
    refine ww_scd h hX hbl hbA (hin 2 (by decide) (by decide)) ex1 dL_law_1009 1010 rfl ?_
    refine ww_cVi h (c_X9_lineOf l D ev cy (o 0) (a 0) (Z 0) (a 3) (Z 3) (a 6) (Z 6) (a 8) (Z 8) (o 10) (a 10) (Z 10) (a 0 (900 + 2)) (a (24 + 2)) (Z (24 + 2)) x0 x1 _ h1) ⟨w_951, w_948, w_949, w_950, w_101, ok_X9_lineOf⟩ ⟨by decide, by decide⟩ ⟨Nat.le_trans (Nat.le_add_right _ _) hk, Nat.le_trans (Nat.le_add_right _ _) hn⟩ ⟨rfl, rfl⟩ [0, 2, 4, 5, 6, 10] (by simp only [pk_g, List.getElem?_cons_zero, List.getElem?_cons_succ, List.eraseIdx]) 0 rfl rfl rfl rfl (Nat.le_of_ble_eq_true rfl) dL_law_1010 1013 rfl (Gs' := (gX9 cy (o 0) (a 0) u.2.1 :: gX4 cy (a 0 2) (a 3) (Z 3) :: gX7 cy (a 0 5) (a 6) u.2.2.1 :: gX5 cy (a 0 7) (a 8) u.2.2.2.1 :: gX1 cy (o 10) (a 10) (Z 10) :: gX3 cy (a 0 (900 + 2)) (a (24 + 2)) u.2.2.2.2 :: gX0 cy (a 0 0) (a 1) (Z 1) :: gX0 cy (a 0 1) (a 2) (Z 2) :: gX4 cy (a 0 3) (a 4) (Z 4) :: gX2 cy (a 0 4) (a 5) (Z 5) :: gX7 cy (a 0 6) (a 7) (Z 7) :: gX8 cy (a 0 9) (a 9) (Z 9) :: gX1 cy (o 11) (a 11) (Z 11) :: gX10 cy (o 28) (a 28) (Z 28) :: gX3 cy (a 0 (900 + 0)) (a (24 + 0)) (Z (24 + 0)) :: gX3 cy (a 0 (900 + 1)) (a (24 + 1)) (Z (24 + 1)) :: gX3 cy (a 0 (900 + 3)) (a (24 + 3)) (Z (24 + 3)) :: pgs (WGp cy a aK B))) rfl ?_
    refine ww_aload_n h dL_law_1013 rfl 1 rfl 1014 rfl ?_
    refine ww_aload_n h dL_law_1014 rfl 3 rfl 1015 rfl ?_
    refine ww_iload_n h dL_law_1015 rfl 0 rfl 1016 rfl ?_
    refine ww_iconst h dL_law_1016 (v := 1) (by decide) 1017 rfl ?_
    refine ww_iadd h dL_law_1017 1018 rfl ?_
    refine ww_scd h hX hbl hbA (hin 1 (by decide) (by decide)) ex0 dL_law_1018 1019 rfl ?_
    refine ww_aload_n h dL_law_1019 rfl 3 rfl 1020 rfl ?_
    refine ww_iload_n h dL_law_1020 rfl 0 rfl 1021 rfl ?_
    refine ww_iconst h dL_law_1021 (v := 2) (by decide) 1022 rfl ?_
    refine ww_iadd h dL_law_1022 1023 rfl ?_
    refine ww_scd h hX hbl hbA (hin 2 (by decide) (by decide)) ex1 dL_law_1023 1024 rfl ?_
    refine ww_cVi h (c_X10_lineOf l D ev cy (o 28) (a 28) (Z 28) x0 x1 _ h2) ⟨w_1541, w_1538, w_1539, w_1540, w_111, ok_X10_lineOf⟩ ⟨by decide, by decide⟩ ⟨Nat.le_trans (Nat.le_add_right _ _) hk, Nat.le_trans (Nat.le_add_right _ _) hn⟩ ⟨rfl, rfl⟩ [13] (by simp only [pk_g, List.getElem?_cons_zero, List.getElem?_cons_succ, List.eraseIdx]) 0 rfl rfl rfl rfl (Nat.le_of_ble_eq_true rfl) dL_law_1024 1027 rfl (Gs' := (gX10 cy (o 28) (a 28) w.2 :: gX9 cy (o 0) (a 0) u.2.1 :: gX4 cy (a 0 2) (a 3) (Z 3) :: gX7 cy (a 0 5) (a 6) u.2.2.1 :: gX5 cy (a 0 7) (a 8) u.2.2.2.1 :: gX1 cy (o 10) (a 10) (Z 10) :: gX3 cy (a 0 (900 + 2)) (a (24 + 2)) u.2.2.2.2 :: gX0 cy (a 0 0) (a 1) (Z 1) :: gX0 cy (a 0 1) (a 2) (Z 2) :: gX4 cy (a 0 3) (a 4) (Z 4) :: gX2 cy (a 0 4) (a 5) (Z 5) :: gX7 cy (a 0 6) (a 7) (Z 7) :: gX8 cy (a 0 9) (a 9) (Z 9) :: gX1 cy (o 11) (a 11) (Z 11) :: gX3 cy (a 0 (900 + 0)) (a (24 + 0)) (Z (24 + 0)) :: gX3 cy (a 0 (900 + 1)) (a (24 + 1)) (Z (24 + 1)) :: gX3 cy (a 0 (900 + 3)) (a (24 + 3)) (Z (24 + 3)) :: pgs (WGp cy a aK B))) rfl ?_
    refine ww_icmp_eq h dL_law_1027 1591 (by decide) 1030 rfl (fun _ => ?_) (fun c => absurd h3.symm c)
    refine ww_kn (Nat.le_succ k) (Nat.le_add_right n 6) ?_
    refine ww_permT [1, 6, 6, 1, 5, 5, 1, 4, 1, 3, 1, 2, 0, 1, 1, 0, 0] (Cs := [gX9 cy (o 0) (a 0) u.2.1, gX0 cy (a 0 0) (a 1) (Z 1), gX0 cy (a 0 1) (a 2) (Z 2), gX4 cy (a 0 2) (a 3) (Z 3), gX4 cy (a 0 3) (a 4) (Z 4), gX2 cy (a 0 4) (a 5) (Z 5), gX7 cy (a 0 5) (a 6) u.2.2.1, gX7 cy (a 0 6) (a 7) (Z 7), gX5 cy (a 0 7) (a 8) u.2.2.2.1, gX8 cy (a 0 9) (a 9) (Z 9), gX1 cy (o 10) (a 10) (Z 10), gX1 cy (o 11) (a 11) (Z 11), gX10 cy (o 28) (a 28) w.2, gX3 cy (a 0 (900 + 0)) (a (24 + 0)) (Z (24 + 0)), gX3 cy (a 0 (900 + 1)) (a (24 + 1)) (Z (24 + 1)), gX3 cy (a 0 (900 + 2)) (a (24 + 2)) u.2.2.2.2, gX3 cy (a 0 (900 + 3)) (a (24 + 3)) (Z (24 + 3))]) (Rs := pgs (WGp cy a aK B)) (by simp only [pk_g, List.getElem?_cons_zero, List.getElem?_cons_succ, List.eraseIdx]) (Gs' := (gX9 cy (o 0) (a 0) u.2.1 :: gX0 cy (a 0 0) (a 1) (Z 1) :: gX0 cy (a 0 1) (a 2) (Z 2) :: gX4 cy (a 0 2) (a 3) (Z 3) :: gX4 cy (a 0 3) (a 4) (Z 4) :: gX2 cy (a 0 4) (a 5) (Z 5) :: gX7 cy (a 0 5) (a 6) u.2.2.1 :: gX7 cy (a 0 6) (a 7) (Z 7) :: gX5 cy (a 0 7) (a 8) u.2.2.2.1 :: gX8 cy (a 0 9) (a 9) (Z 9) :: gX1 cy (o 10) (a 10) (Z 10) :: gX1 cy (o 11) (a 11) (Z 11) :: gX10 cy (o 28) (a 28) w.2 :: gX3 cy (a 0 (900 + 0)) (a (24 + 0)) (Z (24 + 0)) :: gX3 cy (a 0 (900 + 1)) (a (24 + 1)) (Z (24 + 1)) :: gX3 cy (a 0 (900 + 2)) (a (24 + 2)) u.2.2.2.2 :: gX3 cy (a 0 (900 + 3)) (a (24 + 3)) (Z (24 + 3)) :: pgs (WGp cy a aK B))) rfl ?_
    exact kk _ _ _ _ _ h4
  · obtain ⟨u, w, h1, h2, h3, h4⟩ := hv
    show ww X D A 4 Q k n 999 [(3, .int i), (2, .ref (o 28)), (1, .ref (o 0)), (0, .ref b)] [] (gX9 cy (o 0) (a 0) (Z 0) :: gX0 cy (a 0 0) (a 1) (Z 1) :: gX0 cy (a 0 1) (a 2) (Z 2) :: gX4 cy (a 0 2) (a 3) (Z 3) :: gX4 cy (a 0 3) (a 4) (Z 4) :: gX2 cy (a 0 4) (a 5) (Z 5) :: gX7 cy (a 0 5) (a 6) (Z 6) :: gX7 cy (a 0 6) (a 7) (Z 7) :: gX5 cy (a 0 7) (a 8) (Z 8) :: gX8 cy (a 0 9) (a 9) (Z 9) :: gX1 cy (o 10) (a 10) (Z 10) :: gX1 cy (o 11) (a 11) (Z 11) :: gX10 cy (o 28) (a 28) (Z 28) :: gX3 cy (a 0 (900 + 0)) (a (24 + 0)) (Z (24 + 0)) :: gX3 cy (a 0 (900 + 1)) (a (24 + 1)) (Z (24 + 1)) :: gX3 cy (a 0 (900 + 2)) (a (24 + 2)) (Z (24 + 2)) :: gX3 cy (a 0 (900 + 3)) (a (24 + 3)) (Z (24 + 3)) :: pgs (WGp cy a aK B))
    refine ww_aload_n h dL_law_999 rfl 2 rfl 1000 rfl ?_
    refine ww_aload_n h dL_law_1000 rfl 3 rfl 1001 rfl ?_
    refine ww_iload_n h dL_law_1001 rfl 0 rfl 1002 rfl ?_
    refine ww_iconst h dL_law_1002 (v := 1) (by decide) 1003 rfl ?_
    refine ww_iadd h dL_law_1003 1004 rfl ?_
    refine ww_scd h hX hbl hbA (hin 1 (by decide) (by decide)) ex0 dL_law_1004 1005 rfl ?_
    refine ww_aload_n h dL_law_1005 rfl 3 rfl 1006 rfl ?_
    refine ww_iload_n h dL_law_1006 rfl 0 rfl 1007 rfl ?_
    refine ww_iconst h dL_law_1007 (v := 2) (by decide) 1008 rfl ?_
    refine ww_iadd h dL_law_1008 1009 rfl ?_
    refine ww_scd h hX hbl hbA (hin 2 (by decide) (by decide)) ex1 dL_law_1009 1010 rfl ?_
    refine ww_cVi h (c_X9_lineOf l D ev cy (o 0) (a 0) (Z 0) (a 3) (Z 3) (a 6) (Z 6) (a 8) (Z 8) (o 10) (a 10) (Z 10) (a 0 (900 + 3)) (a (24 + 3)) (Z (24 + 3)) x0 x1 _ h1) ⟨w_951, w_948, w_949, w_950, w_101, ok_X9_lineOf⟩ ⟨by decide, by decide⟩ ⟨Nat.le_trans (Nat.le_add_right _ _) hk, Nat.le_trans (Nat.le_add_right _ _) hn⟩ ⟨rfl, rfl⟩ [0, 2, 4, 5, 6, 11] (by simp only [pk_g, List.getElem?_cons_zero, List.getElem?_cons_succ, List.eraseIdx]) 0 rfl rfl rfl rfl (Nat.le_of_ble_eq_true rfl) dL_law_1010 1013 rfl (Gs' := (gX9 cy (o 0) (a 0) u.2.1 :: gX4 cy (a 0 2) (a 3) (Z 3) :: gX7 cy (a 0 5) (a 6) u.2.2.1 :: gX5 cy (a 0 7) (a 8) u.2.2.2.1 :: gX1 cy (o 10) (a 10) (Z 10) :: gX3 cy (a 0 (900 + 3)) (a (24 + 3)) u.2.2.2.2 :: gX0 cy (a 0 0) (a 1) (Z 1) :: gX0 cy (a 0 1) (a 2) (Z 2) :: gX4 cy (a 0 3) (a 4) (Z 4) :: gX2 cy (a 0 4) (a 5) (Z 5) :: gX7 cy (a 0 6) (a 7) (Z 7) :: gX8 cy (a 0 9) (a 9) (Z 9) :: gX1 cy (o 11) (a 11) (Z 11) :: gX10 cy (o 28) (a 28) (Z 28) :: gX3 cy (a 0 (900 + 0)) (a (24 + 0)) (Z (24 + 0)) :: gX3 cy (a 0 (900 + 1)) (a (24 + 1)) (Z (24 + 1)) :: gX3 cy (a 0 (900 + 2)) (a (24 + 2)) (Z (24 + 2)) :: pgs (WGp cy a aK B))) rfl ?_
    refine ww_aload_n h dL_law_1013 rfl 1 rfl 1014 rfl ?_
    refine ww_aload_n h dL_law_1014 rfl 3 rfl 1015 rfl ?_
    refine ww_iload_n h dL_law_1015 rfl 0 rfl 1016 rfl ?_
    refine ww_iconst h dL_law_1016 (v := 1) (by decide) 1017 rfl ?_
    refine ww_iadd h dL_law_1017 1018 rfl ?_
    refine ww_scd h hX hbl hbA (hin 1 (by decide) (by decide)) ex0 dL_law_1018 1019 rfl ?_
    refine ww_aload_n h dL_law_1019 rfl 3 rfl 1020 rfl ?_
    refine ww_iload_n h dL_law_1020 rfl 0 rfl 1021 rfl ?_
    refine ww_iconst h dL_law_1021 (v := 2) (by decide) 1022 rfl ?_
    refine ww_iadd h dL_law_1022 1023 rfl ?_
    refine ww_scd h hX hbl hbA (hin 2 (by decide) (by decide)) ex1 dL_law_1023 1024 rfl ?_
    refine ww_cVi h (c_X10_lineOf l D ev cy (o 28) (a 28) (Z 28) x0 x1 _ h2) ⟨w_1541, w_1538, w_1539, w_1540, w_111, ok_X10_lineOf⟩ ⟨by decide, by decide⟩ ⟨Nat.le_trans (Nat.le_add_right _ _) hk, Nat.le_trans (Nat.le_add_right _ _) hn⟩ ⟨rfl, rfl⟩ [13] (by simp only [pk_g, List.getElem?_cons_zero, List.getElem?_cons_succ, List.eraseIdx]) 0 rfl rfl rfl rfl (Nat.le_of_ble_eq_true rfl) dL_law_1024 1027 rfl (Gs' := (gX10 cy (o 28) (a 28) w.2 :: gX9 cy (o 0) (a 0) u.2.1 :: gX4 cy (a 0 2) (a 3) (Z 3) :: gX7 cy (a 0 5) (a 6) u.2.2.1 :: gX5 cy (a 0 7) (a 8) u.2.2.2.1 :: gX1 cy (o 10) (a 10) (Z 10) :: gX3 cy (a 0 (900 + 3)) (a (24 + 3)) u.2.2.2.2 :: gX0 cy (a 0 0) (a 1) (Z 1) :: gX0 cy (a 0 1) (a 2) (Z 2) :: gX4 cy (a 0 3) (a 4) (Z 4) :: gX2 cy (a 0 4) (a 5) (Z 5) :: gX7 cy (a 0 6) (a 7) (Z 7) :: gX8 cy (a 0 9) (a 9) (Z 9) :: gX1 cy (o 11) (a 11) (Z 11) :: gX3 cy (a 0 (900 + 0)) (a (24 + 0)) (Z (24 + 0)) :: gX3 cy (a 0 (900 + 1)) (a (24 + 1)) (Z (24 + 1)) :: gX3 cy (a 0 (900 + 2)) (a (24 + 2)) (Z (24 + 2)) :: pgs (WGp cy a aK B))) rfl ?_
    refine ww_icmp_eq h dL_law_1027 1591 (by decide) 1030 rfl (fun _ => ?_) (fun c => absurd h3.symm c)
    refine ww_kn (Nat.le_succ k) (Nat.le_add_right n 6) ?_
    refine ww_permT [1, 6, 6, 1, 5, 5, 1, 4, 1, 3, 1, 2, 0, 1, 1, 1, 0] (Cs := [gX9 cy (o 0) (a 0) u.2.1, gX0 cy (a 0 0) (a 1) (Z 1), gX0 cy (a 0 1) (a 2) (Z 2), gX4 cy (a 0 2) (a 3) (Z 3), gX4 cy (a 0 3) (a 4) (Z 4), gX2 cy (a 0 4) (a 5) (Z 5), gX7 cy (a 0 5) (a 6) u.2.2.1, gX7 cy (a 0 6) (a 7) (Z 7), gX5 cy (a 0 7) (a 8) u.2.2.2.1, gX8 cy (a 0 9) (a 9) (Z 9), gX1 cy (o 10) (a 10) (Z 10), gX1 cy (o 11) (a 11) (Z 11), gX10 cy (o 28) (a 28) w.2, gX3 cy (a 0 (900 + 0)) (a (24 + 0)) (Z (24 + 0)), gX3 cy (a 0 (900 + 1)) (a (24 + 1)) (Z (24 + 1)), gX3 cy (a 0 (900 + 2)) (a (24 + 2)) (Z (24 + 2)), gX3 cy (a 0 (900 + 3)) (a (24 + 3)) u.2.2.2.2]) (Rs := pgs (WGp cy a aK B)) (by simp only [pk_g, List.getElem?_cons_zero, List.getElem?_cons_succ, List.eraseIdx]) (Gs' := (gX9 cy (o 0) (a 0) u.2.1 :: gX0 cy (a 0 0) (a 1) (Z 1) :: gX0 cy (a 0 1) (a 2) (Z 2) :: gX4 cy (a 0 2) (a 3) (Z 3) :: gX4 cy (a 0 3) (a 4) (Z 4) :: gX2 cy (a 0 4) (a 5) (Z 5) :: gX7 cy (a 0 5) (a 6) u.2.2.1 :: gX7 cy (a 0 6) (a 7) (Z 7) :: gX5 cy (a 0 7) (a 8) u.2.2.2.1 :: gX8 cy (a 0 9) (a 9) (Z 9) :: gX1 cy (o 10) (a 10) (Z 10) :: gX1 cy (o 11) (a 11) (Z 11) :: gX10 cy (o 28) (a 28) w.2 :: gX3 cy (a 0 (900 + 0)) (a (24 + 0)) (Z (24 + 0)) :: gX3 cy (a 0 (900 + 1)) (a (24 + 1)) (Z (24 + 1)) :: gX3 cy (a 0 (900 + 2)) (a (24 + 2)) (Z (24 + 2)) :: gX3 cy (a 0 (900 + 3)) (a (24 + 3)) u.2.2.2.2 :: pgs (WGp cy a aK B))) rfl ?_
    exact kk _ _ _ _ _ h4
set_option maxHeartbeats 4000000 in
set_option maxRecDepth 100000 in
theorem case_units {X : Cx} {D : va_G} {ev : EvT} {cy : Nat → ClassId} {A : Nat → Prop} {Q : State → Prop} {l : Launch} {b Ln : Nat} {xs : Nat → Int32} {i : Int32} {k n : Nat} {I : LI} (C : lwC X D ev cy A l b Ln xs i k n) (ok : Ok_units I) {o : Nat → Nat} {a aK : Nat → Nat → Nat} {Z B : Nat → OV} (hI : I o a aK Z B) (kk : lwK X D cy A Q b i k n I) : ww X D A 4 Q k n 1197 [(3, .int i), (2, .ref (o 28)), (1, .ref (o 0)), (0, .ref b)] [] (WGs cy o a aK Z B) := by
  obtain ⟨h, hX, hbl, hbA, hin, hk, hn⟩ := C
  obtain ⟨x0, ex0⟩ : ∃ x : Int32, xs (i + 1).toNatClampNeg = x := ⟨_, rfl⟩
  obtain ⟨x1, ex1⟩ : ∃ x : Int32, xs (i + 2).toNatClampNeg = x := ⟨_, rfl⟩
  obtain ⟨x2, ex2⟩ : ∃ x : Int32, xs (i + 3).toNatClampNeg = x := ⟨_, rfl⟩
  by_cases hx : x2 = 0
  · skip
    rcases ok o a aK Z B hI x0 x1 0 with hv | hv | hv | hv
    · obtain ⟨u, w, h1, h2, h3, h4⟩ := hv
      show ww X D A 4 Q k n 1197 [(3, .int i), (2, .ref (o 28)), (1, .ref (o 0)), (0, .ref b)] [] (gX9 cy (o 0) (a 0) (Z 0) :: gX0 cy (a 0 0) (a 1) (Z 1) :: gX0 cy (a 0 1) (a 2) (Z 2) :: gX4 cy (a 0 2) (a 3) (Z 3) :: gX4 cy (a 0 3) (a 4) (Z 4) :: gX2 cy (a 0 4) (a 5) (Z 5) :: gX7 cy (a 0 5) (a 6) (Z 6) :: gX7 cy (a 0 6) (a 7) (Z 7) :: gX5 cy (a 0 7) (a 8) (Z 8) :: gX8 cy (a 0 9) (a 9) (Z 9) :: gX1 cy (o 10) (a 10) (Z 10) :: gX1 cy (o 11) (a 11) (Z 11) :: gX10 cy (o 28) (a 28) (Z 28) :: gX3 cy (a 0 (900 + 0)) (a (24 + 0)) (Z (24 + 0)) :: gX3 cy (a 0 (900 + 1)) (a (24 + 1)) (Z (24 + 1)) :: gX3 cy (a 0 (900 + 2)) (a (24 + 2)) (Z (24 + 2)) :: gX3 cy (a 0 (900 + 3)) (a (24 + 3)) (Z (24 + 3)) :: pgs (WGp cy a aK B))
      refine ww_aload_n h dL_law_1197 rfl 2 rfl 1198 rfl ?_
      refine ww_aload_n h dL_law_1198 rfl 3 rfl 1199 rfl ?_
      refine ww_iload_n h dL_law_1199 rfl 0 rfl 1200 rfl ?_
      refine ww_iconst h dL_law_1200 (v := 1) (by decide) 1201 rfl ?_
      refine ww_iadd h dL_law_1201 1202 rfl ?_
      refine ww_scd h hX hbl hbA (hin 1 (by decide) (by decide)) ex0 dL_law_1202 1203 rfl ?_
      refine ww_aload_n h dL_law_1203 rfl 3 rfl 1204 rfl ?_
      refine ww_iload_n h dL_law_1204 rfl 0 rfl 1205 rfl ?_
      refine ww_iconst h dL_law_1205 (v := 2) (by decide) 1206 rfl ?_
      refine ww_iadd h dL_law_1206 1207 rfl ?_
      refine ww_scd h hX hbl hbA (hin 2 (by decide) (by decide)) ex1 dL_law_1207 1208 rfl ?_
      refine ww_aload_n h dL_law_1208 rfl 3 rfl 1209 rfl ?_
      refine ww_iload_n h dL_law_1209 rfl 0 rfl 1210 rfl ?_
      refine ww_iconst h dL_law_1210 (v := 3) (by decide) 1211 rfl ?_
      refine ww_iadd h dL_law_1211 1212 rfl ?_
      refine ww_scd h hX hbl hbA (hin 3 (by decide) (by decide)) ex2 dL_law_1212 1213 rfl ?_
      refine ww_if_eq h dL_law_1213 1220 (by decide) 1216 rfl (fun _ => ?_) (fun c => absurd hx c)
      refine ww_iconst h dL_law_1220 (v := 0) (by decide) 1221 rfl ?_
      refine ww_cVi h (c_X9_units l D ev cy (o 0) (a 0) (Z 0) (a 3) (Z 3) (a 6) (Z 6) (a 8) (Z 8) (o 10) (a 10) (Z 10) (a 0 (900 + 0)) (a (24 + 0)) (Z (24 + 0)) x0 x1 0 _ h1) ⟨w_997, w_994, w_995, w_996, w_101, ok_X9_units⟩ ⟨by decide, by decide⟩ ⟨Nat.le_trans (Nat.le_add_right _ _) hk, Nat.le_trans (Nat.le_add_right _ _) hn⟩ ⟨rfl, rfl⟩ [0, 2, 4, 5, 6, 8] (by simp only [pk_g, List.getElem?_cons_zero, List.getElem?_cons_succ, List.eraseIdx]) 0 rfl rfl rfl rfl (Nat.le_of_ble_eq_true rfl) dL_law_1221 1224 rfl (Gs' := (gX9 cy (o 0) (a 0) u.2.1 :: gX4 cy (a 0 2) (a 3) (Z 3) :: gX7 cy (a 0 5) (a 6) u.2.2.1 :: gX5 cy (a 0 7) (a 8) u.2.2.2.1 :: gX1 cy (o 10) (a 10) (Z 10) :: gX3 cy (a 0 (900 + 0)) (a (24 + 0)) u.2.2.2.2 :: gX0 cy (a 0 0) (a 1) (Z 1) :: gX0 cy (a 0 1) (a 2) (Z 2) :: gX4 cy (a 0 3) (a 4) (Z 4) :: gX2 cy (a 0 4) (a 5) (Z 5) :: gX7 cy (a 0 6) (a 7) (Z 7) :: gX8 cy (a 0 9) (a 9) (Z 9) :: gX1 cy (o 11) (a 11) (Z 11) :: gX10 cy (o 28) (a 28) (Z 28) :: gX3 cy (a 0 (900 + 1)) (a (24 + 1)) (Z (24 + 1)) :: gX3 cy (a 0 (900 + 2)) (a (24 + 2)) (Z (24 + 2)) :: gX3 cy (a 0 (900 + 3)) (a (24 + 3)) (Z (24 + 3)) :: pgs (WGp cy a aK B))) rfl ?_
      refine ww_aload_n h dL_law_1224 rfl 1 rfl 1225 rfl ?_
      refine ww_aload_n h dL_law_1225 rfl 3 rfl 1226 rfl ?_
      refine ww_iload_n h dL_law_1226 rfl 0 rfl 1227 rfl ?_
      refine ww_iconst h dL_law_1227 (v := 1) (by decide) 1228 rfl ?_
      refine ww_iadd h dL_law_1228 1229 rfl ?_
      refine ww_scd h hX hbl hbA (hin 1 (by decide) (by decide)) ex0 dL_law_1229 1230 rfl ?_
      refine ww_aload_n h dL_law_1230 rfl 3 rfl 1231 rfl ?_
      refine ww_iload_n h dL_law_1231 rfl 0 rfl 1232 rfl ?_
      refine ww_iconst h dL_law_1232 (v := 2) (by decide) 1233 rfl ?_
      refine ww_iadd h dL_law_1233 1234 rfl ?_
      refine ww_scd h hX hbl hbA (hin 2 (by decide) (by decide)) ex1 dL_law_1234 1235 rfl ?_
      refine ww_aload_n h dL_law_1235 rfl 3 rfl 1236 rfl ?_
      refine ww_iload_n h dL_law_1236 rfl 0 rfl 1237 rfl ?_
      refine ww_iconst h dL_law_1237 (v := 3) (by decide) 1238 rfl ?_
      refine ww_iadd h dL_law_1238 1239 rfl ?_
      refine ww_scd h hX hbl hbA (hin 3 (by decide) (by decide)) ex2 dL_law_1239 1240 rfl ?_
      refine ww_if_eq h dL_law_1240 1247 (by decide) 1243 rfl (fun _ => ?_) (fun c => absurd hx c)
      refine ww_iconst h dL_law_1247 (v := 0) (by decide) 1248 rfl ?_
      refine ww_cVi h (c_X10_units l D ev cy (o 28) (a 28) (Z 28) x0 x1 0 _ h2) ⟨w_1585, w_1582, w_1583, w_1584, w_111, ok_X10_units⟩ ⟨by decide, by decide⟩ ⟨Nat.le_trans (Nat.le_add_right _ _) hk, Nat.le_trans (Nat.le_add_right _ _) hn⟩ ⟨rfl, rfl⟩ [13] (by simp only [pk_g, List.getElem?_cons_zero, List.getElem?_cons_succ, List.eraseIdx]) 0 rfl rfl rfl rfl (Nat.le_of_ble_eq_true rfl) dL_law_1248 1251 rfl (Gs' := (gX10 cy (o 28) (a 28) w.2 :: gX9 cy (o 0) (a 0) u.2.1 :: gX4 cy (a 0 2) (a 3) (Z 3) :: gX7 cy (a 0 5) (a 6) u.2.2.1 :: gX5 cy (a 0 7) (a 8) u.2.2.2.1 :: gX1 cy (o 10) (a 10) (Z 10) :: gX3 cy (a 0 (900 + 0)) (a (24 + 0)) u.2.2.2.2 :: gX0 cy (a 0 0) (a 1) (Z 1) :: gX0 cy (a 0 1) (a 2) (Z 2) :: gX4 cy (a 0 3) (a 4) (Z 4) :: gX2 cy (a 0 4) (a 5) (Z 5) :: gX7 cy (a 0 6) (a 7) (Z 7) :: gX8 cy (a 0 9) (a 9) (Z 9) :: gX1 cy (o 11) (a 11) (Z 11) :: gX3 cy (a 0 (900 + 1)) (a (24 + 1)) (Z (24 + 1)) :: gX3 cy (a 0 (900 + 2)) (a (24 + 2)) (Z (24 + 2)) :: gX3 cy (a 0 (900 + 3)) (a (24 + 3)) (Z (24 + 3)) :: pgs (WGp cy a aK B))) rfl ?_
      refine ww_icmp_eq h dL_law_1251 1591 (by decide) 1254 rfl (fun _ => ?_) (fun c => absurd h3.symm c)
      refine ww_kn (Nat.le_succ k) (Nat.le_add_right n 6) ?_
      refine ww_permT [1, 6, 6, 1, 5, 5, 1, 4, 1, 3, 1, 2, 0, 0, 0, 0, 0] (Cs := [gX9 cy (o 0) (a 0) u.2.1, gX0 cy (a 0 0) (a 1) (Z 1), gX0 cy (a 0 1) (a 2) (Z 2), gX4 cy (a 0 2) (a 3) (Z 3), gX4 cy (a 0 3) (a 4) (Z 4), gX2 cy (a 0 4) (a 5) (Z 5), gX7 cy (a 0 5) (a 6) u.2.2.1, gX7 cy (a 0 6) (a 7) (Z 7), gX5 cy (a 0 7) (a 8) u.2.2.2.1, gX8 cy (a 0 9) (a 9) (Z 9), gX1 cy (o 10) (a 10) (Z 10), gX1 cy (o 11) (a 11) (Z 11), gX10 cy (o 28) (a 28) w.2, gX3 cy (a 0 (900 + 0)) (a (24 + 0)) u.2.2.2.2, gX3 cy (a 0 (900 + 1)) (a (24 + 1)) (Z (24 + 1)), gX3 cy (a 0 (900 + 2)) (a (24 + 2)) (Z (24 + 2)), gX3 cy (a 0 (900 + 3)) (a (24 + 3)) (Z (24 + 3))]) (Rs := pgs (WGp cy a aK B)) (by simp only [pk_g, List.getElem?_cons_zero, List.getElem?_cons_succ, List.eraseIdx]) (Gs' := (gX9 cy (o 0) (a 0) u.2.1 :: gX0 cy (a 0 0) (a 1) (Z 1) :: gX0 cy (a 0 1) (a 2) (Z 2) :: gX4 cy (a 0 2) (a 3) (Z 3) :: gX4 cy (a 0 3) (a 4) (Z 4) :: gX2 cy (a 0 4) (a 5) (Z 5) :: gX7 cy (a 0 5) (a 6) u.2.2.1 :: gX7 cy (a 0 6) (a 7) (Z 7) :: gX5 cy (a 0 7) (a 8) u.2.2.2.1 :: gX8 cy (a 0 9) (a 9) (Z 9) :: gX1 cy (o 10) (a 10) (Z 10) :: gX1 cy (o 11) (a 11) (Z 11) :: gX10 cy (o 28) (a 28) w.2 :: gX3 cy (a 0 (900 + 0)) (a (24 + 0)) u.2.2.2.2 :: gX3 cy (a 0 (900 + 1)) (a (24 + 1)) (Z (24 + 1)) :: gX3 cy (a 0 (900 + 2)) (a (24 + 2)) (Z (24 + 2)) :: gX3 cy (a 0 (900 + 3)) (a (24 + 3)) (Z (24 + 3)) :: pgs (WGp cy a aK B))) rfl ?_
      exact kk _ _ _ _ _ h4
    · obtain ⟨u, w, h1, h2, h3, h4⟩ := hv
      show ww X D A 4 Q k n 1197 [(3, .int i), (2, .ref (o 28)), (1, .ref (o 0)), (0, .ref b)] [] (gX9 cy (o 0) (a 0) (Z 0) :: gX0 cy (a 0 0) (a 1) (Z 1) :: gX0 cy (a 0 1) (a 2) (Z 2) :: gX4 cy (a 0 2) (a 3) (Z 3) :: gX4 cy (a 0 3) (a 4) (Z 4) :: gX2 cy (a 0 4) (a 5) (Z 5) :: gX7 cy (a 0 5) (a 6) (Z 6) :: gX7 cy (a 0 6) (a 7) (Z 7) :: gX5 cy (a 0 7) (a 8) (Z 8) :: gX8 cy (a 0 9) (a 9) (Z 9) :: gX1 cy (o 10) (a 10) (Z 10) :: gX1 cy (o 11) (a 11) (Z 11) :: gX10 cy (o 28) (a 28) (Z 28) :: gX3 cy (a 0 (900 + 0)) (a (24 + 0)) (Z (24 + 0)) :: gX3 cy (a 0 (900 + 1)) (a (24 + 1)) (Z (24 + 1)) :: gX3 cy (a 0 (900 + 2)) (a (24 + 2)) (Z (24 + 2)) :: gX3 cy (a 0 (900 + 3)) (a (24 + 3)) (Z (24 + 3)) :: pgs (WGp cy a aK B))
      refine ww_aload_n h dL_law_1197 rfl 2 rfl 1198 rfl ?_
      refine ww_aload_n h dL_law_1198 rfl 3 rfl 1199 rfl ?_
      refine ww_iload_n h dL_law_1199 rfl 0 rfl 1200 rfl ?_
      refine ww_iconst h dL_law_1200 (v := 1) (by decide) 1201 rfl ?_
      refine ww_iadd h dL_law_1201 1202 rfl ?_
      refine ww_scd h hX hbl hbA (hin 1 (by decide) (by decide)) ex0 dL_law_1202 1203 rfl ?_
      refine ww_aload_n h dL_law_1203 rfl 3 rfl 1204 rfl ?_
      refine ww_iload_n h dL_law_1204 rfl 0 rfl 1205 rfl ?_
      refine ww_iconst h dL_law_1205 (v := 2) (by decide) 1206 rfl ?_
      refine ww_iadd h dL_law_1206 1207 rfl ?_
      refine ww_scd h hX hbl hbA (hin 2 (by decide) (by decide)) ex1 dL_law_1207 1208 rfl ?_
      refine ww_aload_n h dL_law_1208 rfl 3 rfl 1209 rfl ?_
      refine ww_iload_n h dL_law_1209 rfl 0 rfl 1210 rfl ?_
      refine ww_iconst h dL_law_1210 (v := 3) (by decide) 1211 rfl ?_
      refine ww_iadd h dL_law_1211 1212 rfl ?_
      refine ww_scd h hX hbl hbA (hin 3 (by decide) (by decide)) ex2 dL_law_1212 1213 rfl ?_
      refine ww_if_eq h dL_law_1213 1220 (by decide) 1216 rfl (fun _ => ?_) (fun c => absurd hx c)
      refine ww_iconst h dL_law_1220 (v := 0) (by decide) 1221 rfl ?_
      refine ww_cVi h (c_X9_units l D ev cy (o 0) (a 0) (Z 0) (a 3) (Z 3) (a 6) (Z 6) (a 8) (Z 8) (o 10) (a 10) (Z 10) (a 0 (900 + 1)) (a (24 + 1)) (Z (24 + 1)) x0 x1 0 _ h1) ⟨w_997, w_994, w_995, w_996, w_101, ok_X9_units⟩ ⟨by decide, by decide⟩ ⟨Nat.le_trans (Nat.le_add_right _ _) hk, Nat.le_trans (Nat.le_add_right _ _) hn⟩ ⟨rfl, rfl⟩ [0, 2, 4, 5, 6, 9] (by simp only [pk_g, List.getElem?_cons_zero, List.getElem?_cons_succ, List.eraseIdx]) 0 rfl rfl rfl rfl (Nat.le_of_ble_eq_true rfl) dL_law_1221 1224 rfl (Gs' := (gX9 cy (o 0) (a 0) u.2.1 :: gX4 cy (a 0 2) (a 3) (Z 3) :: gX7 cy (a 0 5) (a 6) u.2.2.1 :: gX5 cy (a 0 7) (a 8) u.2.2.2.1 :: gX1 cy (o 10) (a 10) (Z 10) :: gX3 cy (a 0 (900 + 1)) (a (24 + 1)) u.2.2.2.2 :: gX0 cy (a 0 0) (a 1) (Z 1) :: gX0 cy (a 0 1) (a 2) (Z 2) :: gX4 cy (a 0 3) (a 4) (Z 4) :: gX2 cy (a 0 4) (a 5) (Z 5) :: gX7 cy (a 0 6) (a 7) (Z 7) :: gX8 cy (a 0 9) (a 9) (Z 9) :: gX1 cy (o 11) (a 11) (Z 11) :: gX10 cy (o 28) (a 28) (Z 28) :: gX3 cy (a 0 (900 + 0)) (a (24 + 0)) (Z (24 + 0)) :: gX3 cy (a 0 (900 + 2)) (a (24 + 2)) (Z (24 + 2)) :: gX3 cy (a 0 (900 + 3)) (a (24 + 3)) (Z (24 + 3)) :: pgs (WGp cy a aK B))) rfl ?_
      refine ww_aload_n h dL_law_1224 rfl 1 rfl 1225 rfl ?_
      refine ww_aload_n h dL_law_1225 rfl 3 rfl 1226 rfl ?_
      refine ww_iload_n h dL_law_1226 rfl 0 rfl 1227 rfl ?_
      refine ww_iconst h dL_law_1227 (v := 1) (by decide) 1228 rfl ?_
      refine ww_iadd h dL_law_1228 1229 rfl ?_
      refine ww_scd h hX hbl hbA (hin 1 (by decide) (by decide)) ex0 dL_law_1229 1230 rfl ?_
      refine ww_aload_n h dL_law_1230 rfl 3 rfl 1231 rfl ?_
      refine ww_iload_n h dL_law_1231 rfl 0 rfl 1232 rfl ?_
      refine ww_iconst h dL_law_1232 (v := 2) (by decide) 1233 rfl ?_
      refine ww_iadd h dL_law_1233 1234 rfl ?_
      refine ww_scd h hX hbl hbA (hin 2 (by decide) (by decide)) ex1 dL_law_1234 1235 rfl ?_
      refine ww_aload_n h dL_law_1235 rfl 3 rfl 1236 rfl ?_
      refine ww_iload_n h dL_law_1236 rfl 0 rfl 1237 rfl ?_
      refine ww_iconst h dL_law_1237 (v := 3) (by decide) 1238 rfl ?_
      refine ww_iadd h dL_law_1238 1239 rfl ?_
      refine ww_scd h hX hbl hbA (hin 3 (by decide) (by decide)) ex2 dL_law_1239 1240 rfl ?_
      refine ww_if_eq h dL_law_1240 1247 (by decide) 1243 rfl (fun _ => ?_) (fun c => absurd hx c)
      refine ww_iconst h dL_law_1247 (v := 0) (by decide) 1248 rfl ?_
      refine ww_cVi h (c_X10_units l D ev cy (o 28) (a 28) (Z 28) x0 x1 0 _ h2) ⟨w_1585, w_1582, w_1583, w_1584, w_111, ok_X10_units⟩ ⟨by decide, by decide⟩ ⟨Nat.le_trans (Nat.le_add_right _ _) hk, Nat.le_trans (Nat.le_add_right _ _) hn⟩ ⟨rfl, rfl⟩ [13] (by simp only [pk_g, List.getElem?_cons_zero, List.getElem?_cons_succ, List.eraseIdx]) 0 rfl rfl rfl rfl (Nat.le_of_ble_eq_true rfl) dL_law_1248 1251 rfl (Gs' := (gX10 cy (o 28) (a 28) w.2 :: gX9 cy (o 0) (a 0) u.2.1 :: gX4 cy (a 0 2) (a 3) (Z 3) :: gX7 cy (a 0 5) (a 6) u.2.2.1 :: gX5 cy (a 0 7) (a 8) u.2.2.2.1 :: gX1 cy (o 10) (a 10) (Z 10) :: gX3 cy (a 0 (900 + 1)) (a (24 + 1)) u.2.2.2.2 :: gX0 cy (a 0 0) (a 1) (Z 1) :: gX0 cy (a 0 1) (a 2) (Z 2) :: gX4 cy (a 0 3) (a 4) (Z 4) :: gX2 cy (a 0 4) (a 5) (Z 5) :: gX7 cy (a 0 6) (a 7) (Z 7) :: gX8 cy (a 0 9) (a 9) (Z 9) :: gX1 cy (o 11) (a 11) (Z 11) :: gX3 cy (a 0 (900 + 0)) (a (24 + 0)) (Z (24 + 0)) :: gX3 cy (a 0 (900 + 2)) (a (24 + 2)) (Z (24 + 2)) :: gX3 cy (a 0 (900 + 3)) (a (24 + 3)) (Z (24 + 3)) :: pgs (WGp cy a aK B))) rfl ?_
      refine ww_icmp_eq h dL_law_1251 1591 (by decide) 1254 rfl (fun _ => ?_) (fun c => absurd h3.symm c)
      refine ww_kn (Nat.le_succ k) (Nat.le_add_right n 6) ?_
      refine ww_permT [1, 6, 6, 1, 5, 5, 1, 4, 1, 3, 1, 2, 0, 1, 0, 0, 0] (Cs := [gX9 cy (o 0) (a 0) u.2.1, gX0 cy (a 0 0) (a 1) (Z 1), gX0 cy (a 0 1) (a 2) (Z 2), gX4 cy (a 0 2) (a 3) (Z 3), gX4 cy (a 0 3) (a 4) (Z 4), gX2 cy (a 0 4) (a 5) (Z 5), gX7 cy (a 0 5) (a 6) u.2.2.1, gX7 cy (a 0 6) (a 7) (Z 7), gX5 cy (a 0 7) (a 8) u.2.2.2.1, gX8 cy (a 0 9) (a 9) (Z 9), gX1 cy (o 10) (a 10) (Z 10), gX1 cy (o 11) (a 11) (Z 11), gX10 cy (o 28) (a 28) w.2, gX3 cy (a 0 (900 + 0)) (a (24 + 0)) (Z (24 + 0)), gX3 cy (a 0 (900 + 1)) (a (24 + 1)) u.2.2.2.2, gX3 cy (a 0 (900 + 2)) (a (24 + 2)) (Z (24 + 2)), gX3 cy (a 0 (900 + 3)) (a (24 + 3)) (Z (24 + 3))]) (Rs := pgs (WGp cy a aK B)) (by simp only [pk_g, List.getElem?_cons_zero, List.getElem?_cons_succ, List.eraseIdx]) (Gs' := (gX9 cy (o 0) (a 0) u.2.1 :: gX0 cy (a 0 0) (a 1) (Z 1) :: gX0 cy (a 0 1) (a 2) (Z 2) :: gX4 cy (a 0 2) (a 3) (Z 3) :: gX4 cy (a 0 3) (a 4) (Z 4) :: gX2 cy (a 0 4) (a 5) (Z 5) :: gX7 cy (a 0 5) (a 6) u.2.2.1 :: gX7 cy (a 0 6) (a 7) (Z 7) :: gX5 cy (a 0 7) (a 8) u.2.2.2.1 :: gX8 cy (a 0 9) (a 9) (Z 9) :: gX1 cy (o 10) (a 10) (Z 10) :: gX1 cy (o 11) (a 11) (Z 11) :: gX10 cy (o 28) (a 28) w.2 :: gX3 cy (a 0 (900 + 0)) (a (24 + 0)) (Z (24 + 0)) :: gX3 cy (a 0 (900 + 1)) (a (24 + 1)) u.2.2.2.2 :: gX3 cy (a 0 (900 + 2)) (a (24 + 2)) (Z (24 + 2)) :: gX3 cy (a 0 (900 + 3)) (a (24 + 3)) (Z (24 + 3)) :: pgs (WGp cy a aK B))) rfl ?_
      exact kk _ _ _ _ _ h4
    · obtain ⟨u, w, h1, h2, h3, h4⟩ := hv
      show ww X D A 4 Q k n 1197 [(3, .int i), (2, .ref (o 28)), (1, .ref (o 0)), (0, .ref b)] [] (gX9 cy (o 0) (a 0) (Z 0) :: gX0 cy (a 0 0) (a 1) (Z 1) :: gX0 cy (a 0 1) (a 2) (Z 2) :: gX4 cy (a 0 2) (a 3) (Z 3) :: gX4 cy (a 0 3) (a 4) (Z 4) :: gX2 cy (a 0 4) (a 5) (Z 5) :: gX7 cy (a 0 5) (a 6) (Z 6) :: gX7 cy (a 0 6) (a 7) (Z 7) :: gX5 cy (a 0 7) (a 8) (Z 8) :: gX8 cy (a 0 9) (a 9) (Z 9) :: gX1 cy (o 10) (a 10) (Z 10) :: gX1 cy (o 11) (a 11) (Z 11) :: gX10 cy (o 28) (a 28) (Z 28) :: gX3 cy (a 0 (900 + 0)) (a (24 + 0)) (Z (24 + 0)) :: gX3 cy (a 0 (900 + 1)) (a (24 + 1)) (Z (24 + 1)) :: gX3 cy (a 0 (900 + 2)) (a (24 + 2)) (Z (24 + 2)) :: gX3 cy (a 0 (900 + 3)) (a (24 + 3)) (Z (24 + 3)) :: pgs (WGp cy a aK B))
      refine ww_aload_n h dL_law_1197 rfl 2 rfl 1198 rfl ?_
      refine ww_aload_n h dL_law_1198 rfl 3 rfl 1199 rfl ?_
      refine ww_iload_n h dL_law_1199 rfl 0 rfl 1200 rfl ?_
      refine ww_iconst h dL_law_1200 (v := 1) (by decide) 1201 rfl ?_
      refine ww_iadd h dL_law_1201 1202 rfl ?_
      refine ww_scd h hX hbl hbA (hin 1 (by decide) (by decide)) ex0 dL_law_1202 1203 rfl ?_
      refine ww_aload_n h dL_law_1203 rfl 3 rfl 1204 rfl ?_
      refine ww_iload_n h dL_law_1204 rfl 0 rfl 1205 rfl ?_
      refine ww_iconst h dL_law_1205 (v := 2) (by decide) 1206 rfl ?_
      refine ww_iadd h dL_law_1206 1207 rfl ?_
      refine ww_scd h hX hbl hbA (hin 2 (by decide) (by decide)) ex1 dL_law_1207 1208 rfl ?_
      refine ww_aload_n h dL_law_1208 rfl 3 rfl 1209 rfl ?_
      refine ww_iload_n h dL_law_1209 rfl 0 rfl 1210 rfl ?_
      refine ww_iconst h dL_law_1210 (v := 3) (by decide) 1211 rfl ?_
      refine ww_iadd h dL_law_1211 1212 rfl ?_
      refine ww_scd h hX hbl hbA (hin 3 (by decide) (by decide)) ex2 dL_law_1212 1213 rfl ?_
      refine ww_if_eq h dL_law_1213 1220 (by decide) 1216 rfl (fun _ => ?_) (fun c => absurd hx c)
      refine ww_iconst h dL_law_1220 (v := 0) (by decide) 1221 rfl ?_
      refine ww_cVi h (c_X9_units l D ev cy (o 0) (a 0) (Z 0) (a 3) (Z 3) (a 6) (Z 6) (a 8) (Z 8) (o 10) (a 10) (Z 10) (a 0 (900 + 2)) (a (24 + 2)) (Z (24 + 2)) x0 x1 0 _ h1) ⟨w_997, w_994, w_995, w_996, w_101, ok_X9_units⟩ ⟨by decide, by decide⟩ ⟨Nat.le_trans (Nat.le_add_right _ _) hk, Nat.le_trans (Nat.le_add_right _ _) hn⟩ ⟨rfl, rfl⟩ [0, 2, 4, 5, 6, 10] (by simp only [pk_g, List.getElem?_cons_zero, List.getElem?_cons_succ, List.eraseIdx]) 0 rfl rfl rfl rfl (Nat.le_of_ble_eq_true rfl) dL_law_1221 1224 rfl (Gs' := (gX9 cy (o 0) (a 0) u.2.1 :: gX4 cy (a 0 2) (a 3) (Z 3) :: gX7 cy (a 0 5) (a 6) u.2.2.1 :: gX5 cy (a 0 7) (a 8) u.2.2.2.1 :: gX1 cy (o 10) (a 10) (Z 10) :: gX3 cy (a 0 (900 + 2)) (a (24 + 2)) u.2.2.2.2 :: gX0 cy (a 0 0) (a 1) (Z 1) :: gX0 cy (a 0 1) (a 2) (Z 2) :: gX4 cy (a 0 3) (a 4) (Z 4) :: gX2 cy (a 0 4) (a 5) (Z 5) :: gX7 cy (a 0 6) (a 7) (Z 7) :: gX8 cy (a 0 9) (a 9) (Z 9) :: gX1 cy (o 11) (a 11) (Z 11) :: gX10 cy (o 28) (a 28) (Z 28) :: gX3 cy (a 0 (900 + 0)) (a (24 + 0)) (Z (24 + 0)) :: gX3 cy (a 0 (900 + 1)) (a (24 + 1)) (Z (24 + 1)) :: gX3 cy (a 0 (900 + 3)) (a (24 + 3)) (Z (24 + 3)) :: pgs (WGp cy a aK B))) rfl ?_
      refine ww_aload_n h dL_law_1224 rfl 1 rfl 1225 rfl ?_
      refine ww_aload_n h dL_law_1225 rfl 3 rfl 1226 rfl ?_
      refine ww_iload_n h dL_law_1226 rfl 0 rfl 1227 rfl ?_
      refine ww_iconst h dL_law_1227 (v := 1) (by decide) 1228 rfl ?_
      refine ww_iadd h dL_law_1228 1229 rfl ?_
      refine ww_scd h hX hbl hbA (hin 1 (by decide) (by decide)) ex0 dL_law_1229 1230 rfl ?_
      refine ww_aload_n h dL_law_1230 rfl 3 rfl 1231 rfl ?_
      refine ww_iload_n h dL_law_1231 rfl 0 rfl 1232 rfl ?_
      refine ww_iconst h dL_law_1232 (v := 2) (by decide) 1233 rfl ?_
      refine ww_iadd h dL_law_1233 1234 rfl ?_
      refine ww_scd h hX hbl hbA (hin 2 (by decide) (by decide)) ex1 dL_law_1234 1235 rfl ?_
      refine ww_aload_n h dL_law_1235 rfl 3 rfl 1236 rfl ?_
      refine ww_iload_n h dL_law_1236 rfl 0 rfl 1237 rfl ?_
      refine ww_iconst h dL_law_1237 (v := 3) (by decide) 1238 rfl ?_
      refine ww_iadd h dL_law_1238 1239 rfl ?_
      refine ww_scd h hX hbl hbA (hin 3 (by decide) (by decide)) ex2 dL_law_1239 1240 rfl ?_
      refine ww_if_eq h dL_law_1240 1247 (by decide) 1243 rfl (fun _ => ?_) (fun c => absurd hx c)
      refine ww_iconst h dL_law_1247 (v := 0) (by decide) 1248 rfl ?_
      refine ww_cVi h (c_X10_units l D ev cy (o 28) (a 28) (Z 28) x0 x1 0 _ h2) ⟨w_1585, w_1582, w_1583, w_1584, w_111, ok_X10_units⟩ ⟨by decide, by decide⟩ ⟨Nat.le_trans (Nat.le_add_right _ _) hk, Nat.le_trans (Nat.le_add_right _ _) hn⟩ ⟨rfl, rfl⟩ [13] (by simp only [pk_g, List.getElem?_cons_zero, List.getElem?_cons_succ, List.eraseIdx]) 0 rfl rfl rfl rfl (Nat.le_of_ble_eq_true rfl) dL_law_1248 1251 rfl (Gs' := (gX10 cy (o 28) (a 28) w.2 :: gX9 cy (o 0) (a 0) u.2.1 :: gX4 cy (a 0 2) (a 3) (Z 3) :: gX7 cy (a 0 5) (a 6) u.2.2.1 :: gX5 cy (a 0 7) (a 8) u.2.2.2.1 :: gX1 cy (o 10) (a 10) (Z 10) :: gX3 cy (a 0 (900 + 2)) (a (24 + 2)) u.2.2.2.2 :: gX0 cy (a 0 0) (a 1) (Z 1) :: gX0 cy (a 0 1) (a 2) (Z 2) :: gX4 cy (a 0 3) (a 4) (Z 4) :: gX2 cy (a 0 4) (a 5) (Z 5) :: gX7 cy (a 0 6) (a 7) (Z 7) :: gX8 cy (a 0 9) (a 9) (Z 9) :: gX1 cy (o 11) (a 11) (Z 11) :: gX3 cy (a 0 (900 + 0)) (a (24 + 0)) (Z (24 + 0)) :: gX3 cy (a 0 (900 + 1)) (a (24 + 1)) (Z (24 + 1)) :: gX3 cy (a 0 (900 + 3)) (a (24 + 3)) (Z (24 + 3)) :: pgs (WGp cy a aK B))) rfl ?_
      refine ww_icmp_eq h dL_law_1251 1591 (by decide) 1254 rfl (fun _ => ?_) (fun c => absurd h3.symm c)
      refine ww_kn (Nat.le_succ k) (Nat.le_add_right n 6) ?_
      refine ww_permT [1, 6, 6, 1, 5, 5, 1, 4, 1, 3, 1, 2, 0, 1, 1, 0, 0] (Cs := [gX9 cy (o 0) (a 0) u.2.1, gX0 cy (a 0 0) (a 1) (Z 1), gX0 cy (a 0 1) (a 2) (Z 2), gX4 cy (a 0 2) (a 3) (Z 3), gX4 cy (a 0 3) (a 4) (Z 4), gX2 cy (a 0 4) (a 5) (Z 5), gX7 cy (a 0 5) (a 6) u.2.2.1, gX7 cy (a 0 6) (a 7) (Z 7), gX5 cy (a 0 7) (a 8) u.2.2.2.1, gX8 cy (a 0 9) (a 9) (Z 9), gX1 cy (o 10) (a 10) (Z 10), gX1 cy (o 11) (a 11) (Z 11), gX10 cy (o 28) (a 28) w.2, gX3 cy (a 0 (900 + 0)) (a (24 + 0)) (Z (24 + 0)), gX3 cy (a 0 (900 + 1)) (a (24 + 1)) (Z (24 + 1)), gX3 cy (a 0 (900 + 2)) (a (24 + 2)) u.2.2.2.2, gX3 cy (a 0 (900 + 3)) (a (24 + 3)) (Z (24 + 3))]) (Rs := pgs (WGp cy a aK B)) (by simp only [pk_g, List.getElem?_cons_zero, List.getElem?_cons_succ, List.eraseIdx]) (Gs' := (gX9 cy (o 0) (a 0) u.2.1 :: gX0 cy (a 0 0) (a 1) (Z 1) :: gX0 cy (a 0 1) (a 2) (Z 2) :: gX4 cy (a 0 2) (a 3) (Z 3) :: gX4 cy (a 0 3) (a 4) (Z 4) :: gX2 cy (a 0 4) (a 5) (Z 5) :: gX7 cy (a 0 5) (a 6) u.2.2.1 :: gX7 cy (a 0 6) (a 7) (Z 7) :: gX5 cy (a 0 7) (a 8) u.2.2.2.1 :: gX8 cy (a 0 9) (a 9) (Z 9) :: gX1 cy (o 10) (a 10) (Z 10) :: gX1 cy (o 11) (a 11) (Z 11) :: gX10 cy (o 28) (a 28) w.2 :: gX3 cy (a 0 (900 + 0)) (a (24 + 0)) (Z (24 + 0)) :: gX3 cy (a 0 (900 + 1)) (a (24 + 1)) (Z (24 + 1)) :: gX3 cy (a 0 (900 + 2)) (a (24 + 2)) u.2.2.2.2 :: gX3 cy (a 0 (900 + 3)) (a (24 + 3)) (Z (24 + 3)) :: pgs (WGp cy a aK B))) rfl ?_
      exact kk _ _ _ _ _ h4
    · obtain ⟨u, w, h1, h2, h3, h4⟩ := hv
      show ww X D A 4 Q k n 1197 [(3, .int i), (2, .ref (o 28)), (1, .ref (o 0)), (0, .ref b)] [] (gX9 cy (o 0) (a 0) (Z 0) :: gX0 cy (a 0 0) (a 1) (Z 1) :: gX0 cy (a 0 1) (a 2) (Z 2) :: gX4 cy (a 0 2) (a 3) (Z 3) :: gX4 cy (a 0 3) (a 4) (Z 4) :: gX2 cy (a 0 4) (a 5) (Z 5) :: gX7 cy (a 0 5) (a 6) (Z 6) :: gX7 cy (a 0 6) (a 7) (Z 7) :: gX5 cy (a 0 7) (a 8) (Z 8) :: gX8 cy (a 0 9) (a 9) (Z 9) :: gX1 cy (o 10) (a 10) (Z 10) :: gX1 cy (o 11) (a 11) (Z 11) :: gX10 cy (o 28) (a 28) (Z 28) :: gX3 cy (a 0 (900 + 0)) (a (24 + 0)) (Z (24 + 0)) :: gX3 cy (a 0 (900 + 1)) (a (24 + 1)) (Z (24 + 1)) :: gX3 cy (a 0 (900 + 2)) (a (24 + 2)) (Z (24 + 2)) :: gX3 cy (a 0 (900 + 3)) (a (24 + 3)) (Z (24 + 3)) :: pgs (WGp cy a aK B))
      refine ww_aload_n h dL_law_1197 rfl 2 rfl 1198 rfl ?_
      refine ww_aload_n h dL_law_1198 rfl 3 rfl 1199 rfl ?_
      refine ww_iload_n h dL_law_1199 rfl 0 rfl 1200 rfl ?_
      refine ww_iconst h dL_law_1200 (v := 1) (by decide) 1201 rfl ?_
      refine ww_iadd h dL_law_1201 1202 rfl ?_
      refine ww_scd h hX hbl hbA (hin 1 (by decide) (by decide)) ex0 dL_law_1202 1203 rfl ?_
      refine ww_aload_n h dL_law_1203 rfl 3 rfl 1204 rfl ?_
      refine ww_iload_n h dL_law_1204 rfl 0 rfl 1205 rfl ?_
      refine ww_iconst h dL_law_1205 (v := 2) (by decide) 1206 rfl ?_
      refine ww_iadd h dL_law_1206 1207 rfl ?_
      refine ww_scd h hX hbl hbA (hin 2 (by decide) (by decide)) ex1 dL_law_1207 1208 rfl ?_
      refine ww_aload_n h dL_law_1208 rfl 3 rfl 1209 rfl ?_
      refine ww_iload_n h dL_law_1209 rfl 0 rfl 1210 rfl ?_
      refine ww_iconst h dL_law_1210 (v := 3) (by decide) 1211 rfl ?_
      refine ww_iadd h dL_law_1211 1212 rfl ?_
      refine ww_scd h hX hbl hbA (hin 3 (by decide) (by decide)) ex2 dL_law_1212 1213 rfl ?_
      refine ww_if_eq h dL_law_1213 1220 (by decide) 1216 rfl (fun _ => ?_) (fun c => absurd hx c)
      refine ww_iconst h dL_law_1220 (v := 0) (by decide) 1221 rfl ?_
      refine ww_cVi h (c_X9_units l D ev cy (o 0) (a 0) (Z 0) (a 3) (Z 3) (a 6) (Z 6) (a 8) (Z 8) (o 10) (a 10) (Z 10) (a 0 (900 + 3)) (a (24 + 3)) (Z (24 + 3)) x0 x1 0 _ h1) ⟨w_997, w_994, w_995, w_996, w_101, ok_X9_units⟩ ⟨by decide, by decide⟩ ⟨Nat.le_trans (Nat.le_add_right _ _) hk, Nat.le_trans (Nat.le_add_right _ _) hn⟩ ⟨rfl, rfl⟩ [0, 2, 4, 5, 6, 11] (by simp only [pk_g, List.getElem?_cons_zero, List.getElem?_cons_succ, List.eraseIdx]) 0 rfl rfl rfl rfl (Nat.le_of_ble_eq_true rfl) dL_law_1221 1224 rfl (Gs' := (gX9 cy (o 0) (a 0) u.2.1 :: gX4 cy (a 0 2) (a 3) (Z 3) :: gX7 cy (a 0 5) (a 6) u.2.2.1 :: gX5 cy (a 0 7) (a 8) u.2.2.2.1 :: gX1 cy (o 10) (a 10) (Z 10) :: gX3 cy (a 0 (900 + 3)) (a (24 + 3)) u.2.2.2.2 :: gX0 cy (a 0 0) (a 1) (Z 1) :: gX0 cy (a 0 1) (a 2) (Z 2) :: gX4 cy (a 0 3) (a 4) (Z 4) :: gX2 cy (a 0 4) (a 5) (Z 5) :: gX7 cy (a 0 6) (a 7) (Z 7) :: gX8 cy (a 0 9) (a 9) (Z 9) :: gX1 cy (o 11) (a 11) (Z 11) :: gX10 cy (o 28) (a 28) (Z 28) :: gX3 cy (a 0 (900 + 0)) (a (24 + 0)) (Z (24 + 0)) :: gX3 cy (a 0 (900 + 1)) (a (24 + 1)) (Z (24 + 1)) :: gX3 cy (a 0 (900 + 2)) (a (24 + 2)) (Z (24 + 2)) :: pgs (WGp cy a aK B))) rfl ?_
      refine ww_aload_n h dL_law_1224 rfl 1 rfl 1225 rfl ?_
      refine ww_aload_n h dL_law_1225 rfl 3 rfl 1226 rfl ?_
      refine ww_iload_n h dL_law_1226 rfl 0 rfl 1227 rfl ?_
      refine ww_iconst h dL_law_1227 (v := 1) (by decide) 1228 rfl ?_
      refine ww_iadd h dL_law_1228 1229 rfl ?_
      refine ww_scd h hX hbl hbA (hin 1 (by decide) (by decide)) ex0 dL_law_1229 1230 rfl ?_
      refine ww_aload_n h dL_law_1230 rfl 3 rfl 1231 rfl ?_
      refine ww_iload_n h dL_law_1231 rfl 0 rfl 1232 rfl ?_
      refine ww_iconst h dL_law_1232 (v := 2) (by decide) 1233 rfl ?_
      refine ww_iadd h dL_law_1233 1234 rfl ?_
      refine ww_scd h hX hbl hbA (hin 2 (by decide) (by decide)) ex1 dL_law_1234 1235 rfl ?_
      refine ww_aload_n h dL_law_1235 rfl 3 rfl 1236 rfl ?_
      refine ww_iload_n h dL_law_1236 rfl 0 rfl 1237 rfl ?_
      refine ww_iconst h dL_law_1237 (v := 3) (by decide) 1238 rfl ?_
      refine ww_iadd h dL_law_1238 1239 rfl ?_
      refine ww_scd h hX hbl hbA (hin 3 (by decide) (by decide)) ex2 dL_law_1239 1240 rfl ?_
      refine ww_if_eq h dL_law_1240 1247 (by decide) 1243 rfl (fun _ => ?_) (fun c => absurd hx c)
      refine ww_iconst h dL_law_1247 (v := 0) (by decide) 1248 rfl ?_
      refine ww_cVi h (c_X10_units l D ev cy (o 28) (a 28) (Z 28) x0 x1 0 _ h2) ⟨w_1585, w_1582, w_1583, w_1584, w_111, ok_X10_units⟩ ⟨by decide, by decide⟩ ⟨Nat.le_trans (Nat.le_add_right _ _) hk, Nat.le_trans (Nat.le_add_right _ _) hn⟩ ⟨rfl, rfl⟩ [13] (by simp only [pk_g, List.getElem?_cons_zero, List.getElem?_cons_succ, List.eraseIdx]) 0 rfl rfl rfl rfl (Nat.le_of_ble_eq_true rfl) dL_law_1248 1251 rfl (Gs' := (gX10 cy (o 28) (a 28) w.2 :: gX9 cy (o 0) (a 0) u.2.1 :: gX4 cy (a 0 2) (a 3) (Z 3) :: gX7 cy (a 0 5) (a 6) u.2.2.1 :: gX5 cy (a 0 7) (a 8) u.2.2.2.1 :: gX1 cy (o 10) (a 10) (Z 10) :: gX3 cy (a 0 (900 + 3)) (a (24 + 3)) u.2.2.2.2 :: gX0 cy (a 0 0) (a 1) (Z 1) :: gX0 cy (a 0 1) (a 2) (Z 2) :: gX4 cy (a 0 3) (a 4) (Z 4) :: gX2 cy (a 0 4) (a 5) (Z 5) :: gX7 cy (a 0 6) (a 7) (Z 7) :: gX8 cy (a 0 9) (a 9) (Z 9) :: gX1 cy (o 11) (a 11) (Z 11) :: gX3 cy (a 0 (900 + 0)) (a (24 + 0)) (Z (24 + 0)) :: gX3 cy (a 0 (900 + 1)) (a (24 + 1)) (Z (24 + 1)) :: gX3 cy (a 0 (900 + 2)) (a (24 + 2)) (Z (24 + 2)) :: pgs (WGp cy a aK B))) rfl ?_
      refine ww_icmp_eq h dL_law_1251 1591 (by decide) 1254 rfl (fun _ => ?_) (fun c => absurd h3.symm c)
      refine ww_kn (Nat.le_succ k) (Nat.le_add_right n 6) ?_
      refine ww_permT [1, 6, 6, 1, 5, 5, 1, 4, 1, 3, 1, 2, 0, 1, 1, 1, 0] (Cs := [gX9 cy (o 0) (a 0) u.2.1, gX0 cy (a 0 0) (a 1) (Z 1), gX0 cy (a 0 1) (a 2) (Z 2), gX4 cy (a 0 2) (a 3) (Z 3), gX4 cy (a 0 3) (a 4) (Z 4), gX2 cy (a 0 4) (a 5) (Z 5), gX7 cy (a 0 5) (a 6) u.2.2.1, gX7 cy (a 0 6) (a 7) (Z 7), gX5 cy (a 0 7) (a 8) u.2.2.2.1, gX8 cy (a 0 9) (a 9) (Z 9), gX1 cy (o 10) (a 10) (Z 10), gX1 cy (o 11) (a 11) (Z 11), gX10 cy (o 28) (a 28) w.2, gX3 cy (a 0 (900 + 0)) (a (24 + 0)) (Z (24 + 0)), gX3 cy (a 0 (900 + 1)) (a (24 + 1)) (Z (24 + 1)), gX3 cy (a 0 (900 + 2)) (a (24 + 2)) (Z (24 + 2)), gX3 cy (a 0 (900 + 3)) (a (24 + 3)) u.2.2.2.2]) (Rs := pgs (WGp cy a aK B)) (by simp only [pk_g, List.getElem?_cons_zero, List.getElem?_cons_succ, List.eraseIdx]) (Gs' := (gX9 cy (o 0) (a 0) u.2.1 :: gX0 cy (a 0 0) (a 1) (Z 1) :: gX0 cy (a 0 1) (a 2) (Z 2) :: gX4 cy (a 0 2) (a 3) (Z 3) :: gX4 cy (a 0 3) (a 4) (Z 4) :: gX2 cy (a 0 4) (a 5) (Z 5) :: gX7 cy (a 0 5) (a 6) u.2.2.1 :: gX7 cy (a 0 6) (a 7) (Z 7) :: gX5 cy (a 0 7) (a 8) u.2.2.2.1 :: gX8 cy (a 0 9) (a 9) (Z 9) :: gX1 cy (o 10) (a 10) (Z 10) :: gX1 cy (o 11) (a 11) (Z 11) :: gX10 cy (o 28) (a 28) w.2 :: gX3 cy (a 0 (900 + 0)) (a (24 + 0)) (Z (24 + 0)) :: gX3 cy (a 0 (900 + 1)) (a (24 + 1)) (Z (24 + 1)) :: gX3 cy (a 0 (900 + 2)) (a (24 + 2)) (Z (24 + 2)) :: gX3 cy (a 0 (900 + 3)) (a (24 + 3)) u.2.2.2.2 :: pgs (WGp cy a aK B))) rfl ?_
      exact kk _ _ _ _ _ h4
  · skip
    rcases ok o a aK Z B hI x0 x1 1 with hv | hv | hv | hv
    · obtain ⟨u, w, h1, h2, h3, h4⟩ := hv
      show ww X D A 4 Q k n 1197 [(3, .int i), (2, .ref (o 28)), (1, .ref (o 0)), (0, .ref b)] [] (gX9 cy (o 0) (a 0) (Z 0) :: gX0 cy (a 0 0) (a 1) (Z 1) :: gX0 cy (a 0 1) (a 2) (Z 2) :: gX4 cy (a 0 2) (a 3) (Z 3) :: gX4 cy (a 0 3) (a 4) (Z 4) :: gX2 cy (a 0 4) (a 5) (Z 5) :: gX7 cy (a 0 5) (a 6) (Z 6) :: gX7 cy (a 0 6) (a 7) (Z 7) :: gX5 cy (a 0 7) (a 8) (Z 8) :: gX8 cy (a 0 9) (a 9) (Z 9) :: gX1 cy (o 10) (a 10) (Z 10) :: gX1 cy (o 11) (a 11) (Z 11) :: gX10 cy (o 28) (a 28) (Z 28) :: gX3 cy (a 0 (900 + 0)) (a (24 + 0)) (Z (24 + 0)) :: gX3 cy (a 0 (900 + 1)) (a (24 + 1)) (Z (24 + 1)) :: gX3 cy (a 0 (900 + 2)) (a (24 + 2)) (Z (24 + 2)) :: gX3 cy (a 0 (900 + 3)) (a (24 + 3)) (Z (24 + 3)) :: pgs (WGp cy a aK B))
      refine ww_aload_n h dL_law_1197 rfl 2 rfl 1198 rfl ?_
      refine ww_aload_n h dL_law_1198 rfl 3 rfl 1199 rfl ?_
      refine ww_iload_n h dL_law_1199 rfl 0 rfl 1200 rfl ?_
      refine ww_iconst h dL_law_1200 (v := 1) (by decide) 1201 rfl ?_
      refine ww_iadd h dL_law_1201 1202 rfl ?_
      refine ww_scd h hX hbl hbA (hin 1 (by decide) (by decide)) ex0 dL_law_1202 1203 rfl ?_
      refine ww_aload_n h dL_law_1203 rfl 3 rfl 1204 rfl ?_
      refine ww_iload_n h dL_law_1204 rfl 0 rfl 1205 rfl ?_
      refine ww_iconst h dL_law_1205 (v := 2) (by decide) 1206 rfl ?_
      refine ww_iadd h dL_law_1206 1207 rfl ?_
      refine ww_scd h hX hbl hbA (hin 2 (by decide) (by decide)) ex1 dL_law_1207 1208 rfl ?_
      refine ww_aload_n h dL_law_1208 rfl 3 rfl 1209 rfl ?_
      refine ww_iload_n h dL_law_1209 rfl 0 rfl 1210 rfl ?_
      refine ww_iconst h dL_law_1210 (v := 3) (by decide) 1211 rfl ?_
      refine ww_iadd h dL_law_1211 1212 rfl ?_
      refine ww_scd h hX hbl hbA (hin 3 (by decide) (by decide)) ex2 dL_law_1212 1213 rfl ?_
      refine ww_if_eq h dL_law_1213 1220 (by decide) 1216 rfl (fun c => absurd c hx) (fun _ => ?_)
      refine ww_iconst h dL_law_1216 (v := 1) (by decide) 1217 rfl ?_
      refine ww_goto h dL_law_1217 1221 (by decide) ?_
      refine ww_cVi h (c_X9_units l D ev cy (o 0) (a 0) (Z 0) (a 3) (Z 3) (a 6) (Z 6) (a 8) (Z 8) (o 10) (a 10) (Z 10) (a 0 (900 + 0)) (a (24 + 0)) (Z (24 + 0)) x0 x1 1 _ h1) ⟨w_997, w_994, w_995, w_996, w_101, ok_X9_units⟩ ⟨by decide, by decide⟩ ⟨Nat.le_trans (Nat.le_add_right _ _) hk, Nat.le_trans (Nat.le_add_right _ _) hn⟩ ⟨rfl, rfl⟩ [0, 2, 4, 5, 6, 8] (by simp only [pk_g, List.getElem?_cons_zero, List.getElem?_cons_succ, List.eraseIdx]) 0 rfl rfl rfl rfl (Nat.le_of_ble_eq_true rfl) dL_law_1221 1224 rfl (Gs' := (gX9 cy (o 0) (a 0) u.2.1 :: gX4 cy (a 0 2) (a 3) (Z 3) :: gX7 cy (a 0 5) (a 6) u.2.2.1 :: gX5 cy (a 0 7) (a 8) u.2.2.2.1 :: gX1 cy (o 10) (a 10) (Z 10) :: gX3 cy (a 0 (900 + 0)) (a (24 + 0)) u.2.2.2.2 :: gX0 cy (a 0 0) (a 1) (Z 1) :: gX0 cy (a 0 1) (a 2) (Z 2) :: gX4 cy (a 0 3) (a 4) (Z 4) :: gX2 cy (a 0 4) (a 5) (Z 5) :: gX7 cy (a 0 6) (a 7) (Z 7) :: gX8 cy (a 0 9) (a 9) (Z 9) :: gX1 cy (o 11) (a 11) (Z 11) :: gX10 cy (o 28) (a 28) (Z 28) :: gX3 cy (a 0 (900 + 1)) (a (24 + 1)) (Z (24 + 1)) :: gX3 cy (a 0 (900 + 2)) (a (24 + 2)) (Z (24 + 2)) :: gX3 cy (a 0 (900 + 3)) (a (24 + 3)) (Z (24 + 3)) :: pgs (WGp cy a aK B))) rfl ?_
      refine ww_aload_n h dL_law_1224 rfl 1 rfl 1225 rfl ?_
      refine ww_aload_n h dL_law_1225 rfl 3 rfl 1226 rfl ?_
      refine ww_iload_n h dL_law_1226 rfl 0 rfl 1227 rfl ?_
      refine ww_iconst h dL_law_1227 (v := 1) (by decide) 1228 rfl ?_
      refine ww_iadd h dL_law_1228 1229 rfl ?_
      refine ww_scd h hX hbl hbA (hin 1 (by decide) (by decide)) ex0 dL_law_1229 1230 rfl ?_
      refine ww_aload_n h dL_law_1230 rfl 3 rfl 1231 rfl ?_
      refine ww_iload_n h dL_law_1231 rfl 0 rfl 1232 rfl ?_
      refine ww_iconst h dL_law_1232 (v := 2) (by decide) 1233 rfl ?_
      refine ww_iadd h dL_law_1233 1234 rfl ?_
      refine ww_scd h hX hbl hbA (hin 2 (by decide) (by decide)) ex1 dL_law_1234 1235 rfl ?_
      refine ww_aload_n h dL_law_1235 rfl 3 rfl 1236 rfl ?_
      refine ww_iload_n h dL_law_1236 rfl 0 rfl 1237 rfl ?_
      refine ww_iconst h dL_law_1237 (v := 3) (by decide) 1238 rfl ?_
      refine ww_iadd h dL_law_1238 1239 rfl ?_
      refine ww_scd h hX hbl hbA (hin 3 (by decide) (by decide)) ex2 dL_law_1239 1240 rfl ?_
      refine ww_if_eq h dL_law_1240 1247 (by decide) 1243 rfl (fun c => absurd c hx) (fun _ => ?_)
      refine ww_iconst h dL_law_1243 (v := 1) (by decide) 1244 rfl ?_
      refine ww_goto h dL_law_1244 1248 (by decide) ?_
      refine ww_cVi h (c_X10_units l D ev cy (o 28) (a 28) (Z 28) x0 x1 1 _ h2) ⟨w_1585, w_1582, w_1583, w_1584, w_111, ok_X10_units⟩ ⟨by decide, by decide⟩ ⟨Nat.le_trans (Nat.le_add_right _ _) hk, Nat.le_trans (Nat.le_add_right _ _) hn⟩ ⟨rfl, rfl⟩ [13] (by simp only [pk_g, List.getElem?_cons_zero, List.getElem?_cons_succ, List.eraseIdx]) 0 rfl rfl rfl rfl (Nat.le_of_ble_eq_true rfl) dL_law_1248 1251 rfl (Gs' := (gX10 cy (o 28) (a 28) w.2 :: gX9 cy (o 0) (a 0) u.2.1 :: gX4 cy (a 0 2) (a 3) (Z 3) :: gX7 cy (a 0 5) (a 6) u.2.2.1 :: gX5 cy (a 0 7) (a 8) u.2.2.2.1 :: gX1 cy (o 10) (a 10) (Z 10) :: gX3 cy (a 0 (900 + 0)) (a (24 + 0)) u.2.2.2.2 :: gX0 cy (a 0 0) (a 1) (Z 1) :: gX0 cy (a 0 1) (a 2) (Z 2) :: gX4 cy (a 0 3) (a 4) (Z 4) :: gX2 cy (a 0 4) (a 5) (Z 5) :: gX7 cy (a 0 6) (a 7) (Z 7) :: gX8 cy (a 0 9) (a 9) (Z 9) :: gX1 cy (o 11) (a 11) (Z 11) :: gX3 cy (a 0 (900 + 1)) (a (24 + 1)) (Z (24 + 1)) :: gX3 cy (a 0 (900 + 2)) (a (24 + 2)) (Z (24 + 2)) :: gX3 cy (a 0 (900 + 3)) (a (24 + 3)) (Z (24 + 3)) :: pgs (WGp cy a aK B))) rfl ?_
      refine ww_icmp_eq h dL_law_1251 1591 (by decide) 1254 rfl (fun _ => ?_) (fun c => absurd h3.symm c)
      refine ww_kn (Nat.le_succ k) (Nat.le_add_right n 6) ?_
      refine ww_permT [1, 6, 6, 1, 5, 5, 1, 4, 1, 3, 1, 2, 0, 0, 0, 0, 0] (Cs := [gX9 cy (o 0) (a 0) u.2.1, gX0 cy (a 0 0) (a 1) (Z 1), gX0 cy (a 0 1) (a 2) (Z 2), gX4 cy (a 0 2) (a 3) (Z 3), gX4 cy (a 0 3) (a 4) (Z 4), gX2 cy (a 0 4) (a 5) (Z 5), gX7 cy (a 0 5) (a 6) u.2.2.1, gX7 cy (a 0 6) (a 7) (Z 7), gX5 cy (a 0 7) (a 8) u.2.2.2.1, gX8 cy (a 0 9) (a 9) (Z 9), gX1 cy (o 10) (a 10) (Z 10), gX1 cy (o 11) (a 11) (Z 11), gX10 cy (o 28) (a 28) w.2, gX3 cy (a 0 (900 + 0)) (a (24 + 0)) u.2.2.2.2, gX3 cy (a 0 (900 + 1)) (a (24 + 1)) (Z (24 + 1)), gX3 cy (a 0 (900 + 2)) (a (24 + 2)) (Z (24 + 2)), gX3 cy (a 0 (900 + 3)) (a (24 + 3)) (Z (24 + 3))]) (Rs := pgs (WGp cy a aK B)) (by simp only [pk_g, List.getElem?_cons_zero, List.getElem?_cons_succ, List.eraseIdx]) (Gs' := (gX9 cy (o 0) (a 0) u.2.1 :: gX0 cy (a 0 0) (a 1) (Z 1) :: gX0 cy (a 0 1) (a 2) (Z 2) :: gX4 cy (a 0 2) (a 3) (Z 3) :: gX4 cy (a 0 3) (a 4) (Z 4) :: gX2 cy (a 0 4) (a 5) (Z 5) :: gX7 cy (a 0 5) (a 6) u.2.2.1 :: gX7 cy (a 0 6) (a 7) (Z 7) :: gX5 cy (a 0 7) (a 8) u.2.2.2.1 :: gX8 cy (a 0 9) (a 9) (Z 9) :: gX1 cy (o 10) (a 10) (Z 10) :: gX1 cy (o 11) (a 11) (Z 11) :: gX10 cy (o 28) (a 28) w.2 :: gX3 cy (a 0 (900 + 0)) (a (24 + 0)) u.2.2.2.2 :: gX3 cy (a 0 (900 + 1)) (a (24 + 1)) (Z (24 + 1)) :: gX3 cy (a 0 (900 + 2)) (a (24 + 2)) (Z (24 + 2)) :: gX3 cy (a 0 (900 + 3)) (a (24 + 3)) (Z (24 + 3)) :: pgs (WGp cy a aK B))) rfl ?_
      exact kk _ _ _ _ _ h4
    · obtain ⟨u, w, h1, h2, h3, h4⟩ := hv
      show ww X D A 4 Q k n 1197 [(3, .int i), (2, .ref (o 28)), (1, .ref (o 0)), (0, .ref b)] [] (gX9 cy (o 0) (a 0) (Z 0) :: gX0 cy (a 0 0) (a 1) (Z 1) :: gX0 cy (a 0 1) (a 2) (Z 2) :: gX4 cy (a 0 2) (a 3) (Z 3) :: gX4 cy (a 0 3) (a 4) (Z 4) :: gX2 cy (a 0 4) (a 5) (Z 5) :: gX7 cy (a 0 5) (a 6) (Z 6) :: gX7 cy (a 0 6) (a 7) (Z 7) :: gX5 cy (a 0 7) (a 8) (Z 8) :: gX8 cy (a 0 9) (a 9) (Z 9) :: gX1 cy (o 10) (a 10) (Z 10) :: gX1 cy (o 11) (a 11) (Z 11) :: gX10 cy (o 28) (a 28) (Z 28) :: gX3 cy (a 0 (900 + 0)) (a (24 + 0)) (Z (24 + 0)) :: gX3 cy (a 0 (900 + 1)) (a (24 + 1)) (Z (24 + 1)) :: gX3 cy (a 0 (900 + 2)) (a (24 + 2)) (Z (24 + 2)) :: gX3 cy (a 0 (900 + 3)) (a (24 + 3)) (Z (24 + 3)) :: pgs (WGp cy a aK B))
      refine ww_aload_n h dL_law_1197 rfl 2 rfl 1198 rfl ?_
      refine ww_aload_n h dL_law_1198 rfl 3 rfl 1199 rfl ?_
      refine ww_iload_n h dL_law_1199 rfl 0 rfl 1200 rfl ?_
      refine ww_iconst h dL_law_1200 (v := 1) (by decide) 1201 rfl ?_
      refine ww_iadd h dL_law_1201 1202 rfl ?_
      refine ww_scd h hX hbl hbA (hin 1 (by decide) (by decide)) ex0 dL_law_1202 1203 rfl ?_
      refine ww_aload_n h dL_law_1203 rfl 3 rfl 1204 rfl ?_
      refine ww_iload_n h dL_law_1204 rfl 0 rfl 1205 rfl ?_
      refine ww_iconst h dL_law_1205 (v := 2) (by decide) 1206 rfl ?_
      refine ww_iadd h dL_law_1206 1207 rfl ?_
      refine ww_scd h hX hbl hbA (hin 2 (by decide) (by decide)) ex1 dL_law_1207 1208 rfl ?_
      refine ww_aload_n h dL_law_1208 rfl 3 rfl 1209 rfl ?_
      refine ww_iload_n h dL_law_1209 rfl 0 rfl 1210 rfl ?_
      refine ww_iconst h dL_law_1210 (v := 3) (by decide) 1211 rfl ?_
      refine ww_iadd h dL_law_1211 1212 rfl ?_
      refine ww_scd h hX hbl hbA (hin 3 (by decide) (by decide)) ex2 dL_law_1212 1213 rfl ?_
      refine ww_if_eq h dL_law_1213 1220 (by decide) 1216 rfl (fun c => absurd c hx) (fun _ => ?_)
      refine ww_iconst h dL_law_1216 (v := 1) (by decide) 1217 rfl ?_
      refine ww_goto h dL_law_1217 1221 (by decide) ?_
      refine ww_cVi h (c_X9_units l D ev cy (o 0) (a 0) (Z 0) (a 3) (Z 3) (a 6) (Z 6) (a 8) (Z 8) (o 10) (a 10) (Z 10) (a 0 (900 + 1)) (a (24 + 1)) (Z (24 + 1)) x0 x1 1 _ h1) ⟨w_997, w_994, w_995, w_996, w_101, ok_X9_units⟩ ⟨by decide, by decide⟩ ⟨Nat.le_trans (Nat.le_add_right _ _) hk, Nat.le_trans (Nat.le_add_right _ _) hn⟩ ⟨rfl, rfl⟩ [0, 2, 4, 5, 6, 9] (by simp only [pk_g, List.getElem?_cons_zero, List.getElem?_cons_succ, List.eraseIdx]) 0 rfl rfl rfl rfl (Nat.le_of_ble_eq_true rfl) dL_law_1221 1224 rfl (Gs' := (gX9 cy (o 0) (a 0) u.2.1 :: gX4 cy (a 0 2) (a 3) (Z 3) :: gX7 cy (a 0 5) (a 6) u.2.2.1 :: gX5 cy (a 0 7) (a 8) u.2.2.2.1 :: gX1 cy (o 10) (a 10) (Z 10) :: gX3 cy (a 0 (900 + 1)) (a (24 + 1)) u.2.2.2.2 :: gX0 cy (a 0 0) (a 1) (Z 1) :: gX0 cy (a 0 1) (a 2) (Z 2) :: gX4 cy (a 0 3) (a 4) (Z 4) :: gX2 cy (a 0 4) (a 5) (Z 5) :: gX7 cy (a 0 6) (a 7) (Z 7) :: gX8 cy (a 0 9) (a 9) (Z 9) :: gX1 cy (o 11) (a 11) (Z 11) :: gX10 cy (o 28) (a 28) (Z 28) :: gX3 cy (a 0 (900 + 0)) (a (24 + 0)) (Z (24 + 0)) :: gX3 cy (a 0 (900 + 2)) (a (24 + 2)) (Z (24 + 2)) :: gX3 cy (a 0 (900 + 3)) (a (24 + 3)) (Z (24 + 3)) :: pgs (WGp cy a aK B))) rfl ?_
      refine ww_aload_n h dL_law_1224 rfl 1 rfl 1225 rfl ?_
      refine ww_aload_n h dL_law_1225 rfl 3 rfl 1226 rfl ?_
      refine ww_iload_n h dL_law_1226 rfl 0 rfl 1227 rfl ?_
      refine ww_iconst h dL_law_1227 (v := 1) (by decide) 1228 rfl ?_
      refine ww_iadd h dL_law_1228 1229 rfl ?_
      refine ww_scd h hX hbl hbA (hin 1 (by decide) (by decide)) ex0 dL_law_1229 1230 rfl ?_
      refine ww_aload_n h dL_law_1230 rfl 3 rfl 1231 rfl ?_
      refine ww_iload_n h dL_law_1231 rfl 0 rfl 1232 rfl ?_
      refine ww_iconst h dL_law_1232 (v := 2) (by decide) 1233 rfl ?_
      refine ww_iadd h dL_law_1233 1234 rfl ?_
      refine ww_scd h hX hbl hbA (hin 2 (by decide) (by decide)) ex1 dL_law_1234 1235 rfl ?_
      refine ww_aload_n h dL_law_1235 rfl 3 rfl 1236 rfl ?_
      refine ww_iload_n h dL_law_1236 rfl 0 rfl 1237 rfl ?_
      refine ww_iconst h dL_law_1237 (v := 3) (by decide) 1238 rfl ?_
      refine ww_iadd h dL_law_1238 1239 rfl ?_
      refine ww_scd h hX hbl hbA (hin 3 (by decide) (by decide)) ex2 dL_law_1239 1240 rfl ?_
      refine ww_if_eq h dL_law_1240 1247 (by decide) 1243 rfl (fun c => absurd c hx) (fun _ => ?_)
      refine ww_iconst h dL_law_1243 (v := 1) (by decide) 1244 rfl ?_
      refine ww_goto h dL_law_1244 1248 (by decide) ?_
      refine ww_cVi h (c_X10_units l D ev cy (o 28) (a 28) (Z 28) x0 x1 1 _ h2) ⟨w_1585, w_1582, w_1583, w_1584, w_111, ok_X10_units⟩ ⟨by decide, by decide⟩ ⟨Nat.le_trans (Nat.le_add_right _ _) hk, Nat.le_trans (Nat.le_add_right _ _) hn⟩ ⟨rfl, rfl⟩ [13] (by simp only [pk_g, List.getElem?_cons_zero, List.getElem?_cons_succ, List.eraseIdx]) 0 rfl rfl rfl rfl (Nat.le_of_ble_eq_true rfl) dL_law_1248 1251 rfl (Gs' := (gX10 cy (o 28) (a 28) w.2 :: gX9 cy (o 0) (a 0) u.2.1 :: gX4 cy (a 0 2) (a 3) (Z 3) :: gX7 cy (a 0 5) (a 6) u.2.2.1 :: gX5 cy (a 0 7) (a 8) u.2.2.2.1 :: gX1 cy (o 10) (a 10) (Z 10) :: gX3 cy (a 0 (900 + 1)) (a (24 + 1)) u.2.2.2.2 :: gX0 cy (a 0 0) (a 1) (Z 1) :: gX0 cy (a 0 1) (a 2) (Z 2) :: gX4 cy (a 0 3) (a 4) (Z 4) :: gX2 cy (a 0 4) (a 5) (Z 5) :: gX7 cy (a 0 6) (a 7) (Z 7) :: gX8 cy (a 0 9) (a 9) (Z 9) :: gX1 cy (o 11) (a 11) (Z 11) :: gX3 cy (a 0 (900 + 0)) (a (24 + 0)) (Z (24 + 0)) :: gX3 cy (a 0 (900 + 2)) (a (24 + 2)) (Z (24 + 2)) :: gX3 cy (a 0 (900 + 3)) (a (24 + 3)) (Z (24 + 3)) :: pgs (WGp cy a aK B))) rfl ?_
      refine ww_icmp_eq h dL_law_1251 1591 (by decide) 1254 rfl (fun _ => ?_) (fun c => absurd h3.symm c)
      refine ww_kn (Nat.le_succ k) (Nat.le_add_right n 6) ?_
      refine ww_permT [1, 6, 6, 1, 5, 5, 1, 4, 1, 3, 1, 2, 0, 1, 0, 0, 0] (Cs := [gX9 cy (o 0) (a 0) u.2.1, gX0 cy (a 0 0) (a 1) (Z 1), gX0 cy (a 0 1) (a 2) (Z 2), gX4 cy (a 0 2) (a 3) (Z 3), gX4 cy (a 0 3) (a 4) (Z 4), gX2 cy (a 0 4) (a 5) (Z 5), gX7 cy (a 0 5) (a 6) u.2.2.1, gX7 cy (a 0 6) (a 7) (Z 7), gX5 cy (a 0 7) (a 8) u.2.2.2.1, gX8 cy (a 0 9) (a 9) (Z 9), gX1 cy (o 10) (a 10) (Z 10), gX1 cy (o 11) (a 11) (Z 11), gX10 cy (o 28) (a 28) w.2, gX3 cy (a 0 (900 + 0)) (a (24 + 0)) (Z (24 + 0)), gX3 cy (a 0 (900 + 1)) (a (24 + 1)) u.2.2.2.2, gX3 cy (a 0 (900 + 2)) (a (24 + 2)) (Z (24 + 2)), gX3 cy (a 0 (900 + 3)) (a (24 + 3)) (Z (24 + 3))]) (Rs := pgs (WGp cy a aK B)) (by simp only [pk_g, List.getElem?_cons_zero, List.getElem?_cons_succ, List.eraseIdx]) (Gs' := (gX9 cy (o 0) (a 0) u.2.1 :: gX0 cy (a 0 0) (a 1) (Z 1) :: gX0 cy (a 0 1) (a 2) (Z 2) :: gX4 cy (a 0 2) (a 3) (Z 3) :: gX4 cy (a 0 3) (a 4) (Z 4) :: gX2 cy (a 0 4) (a 5) (Z 5) :: gX7 cy (a 0 5) (a 6) u.2.2.1 :: gX7 cy (a 0 6) (a 7) (Z 7) :: gX5 cy (a 0 7) (a 8) u.2.2.2.1 :: gX8 cy (a 0 9) (a 9) (Z 9) :: gX1 cy (o 10) (a 10) (Z 10) :: gX1 cy (o 11) (a 11) (Z 11) :: gX10 cy (o 28) (a 28) w.2 :: gX3 cy (a 0 (900 + 0)) (a (24 + 0)) (Z (24 + 0)) :: gX3 cy (a 0 (900 + 1)) (a (24 + 1)) u.2.2.2.2 :: gX3 cy (a 0 (900 + 2)) (a (24 + 2)) (Z (24 + 2)) :: gX3 cy (a 0 (900 + 3)) (a (24 + 3)) (Z (24 + 3)) :: pgs (WGp cy a aK B))) rfl ?_
      exact kk _ _ _ _ _ h4
    · obtain ⟨u, w, h1, h2, h3, h4⟩ := hv
      show ww X D A 4 Q k n 1197 [(3, .int i), (2, .ref (o 28)), (1, .ref (o 0)), (0, .ref b)] [] (gX9 cy (o 0) (a 0) (Z 0) :: gX0 cy (a 0 0) (a 1) (Z 1) :: gX0 cy (a 0 1) (a 2) (Z 2) :: gX4 cy (a 0 2) (a 3) (Z 3) :: gX4 cy (a 0 3) (a 4) (Z 4) :: gX2 cy (a 0 4) (a 5) (Z 5) :: gX7 cy (a 0 5) (a 6) (Z 6) :: gX7 cy (a 0 6) (a 7) (Z 7) :: gX5 cy (a 0 7) (a 8) (Z 8) :: gX8 cy (a 0 9) (a 9) (Z 9) :: gX1 cy (o 10) (a 10) (Z 10) :: gX1 cy (o 11) (a 11) (Z 11) :: gX10 cy (o 28) (a 28) (Z 28) :: gX3 cy (a 0 (900 + 0)) (a (24 + 0)) (Z (24 + 0)) :: gX3 cy (a 0 (900 + 1)) (a (24 + 1)) (Z (24 + 1)) :: gX3 cy (a 0 (900 + 2)) (a (24 + 2)) (Z (24 + 2)) :: gX3 cy (a 0 (900 + 3)) (a (24 + 3)) (Z (24 + 3)) :: pgs (WGp cy a aK B))
      refine ww_aload_n h dL_law_1197 rfl 2 rfl 1198 rfl ?_
      refine ww_aload_n h dL_law_1198 rfl 3 rfl 1199 rfl ?_
      refine ww_iload_n h dL_law_1199 rfl 0 rfl 1200 rfl ?_
      refine ww_iconst h dL_law_1200 (v := 1) (by decide) 1201 rfl ?_
      refine ww_iadd h dL_law_1201 1202 rfl ?_
      refine ww_scd h hX hbl hbA (hin 1 (by decide) (by decide)) ex0 dL_law_1202 1203 rfl ?_
      refine ww_aload_n h dL_law_1203 rfl 3 rfl 1204 rfl ?_
      refine ww_iload_n h dL_law_1204 rfl 0 rfl 1205 rfl ?_
      refine ww_iconst h dL_law_1205 (v := 2) (by decide) 1206 rfl ?_
      refine ww_iadd h dL_law_1206 1207 rfl ?_
      refine ww_scd h hX hbl hbA (hin 2 (by decide) (by decide)) ex1 dL_law_1207 1208 rfl ?_
      refine ww_aload_n h dL_law_1208 rfl 3 rfl 1209 rfl ?_
      refine ww_iload_n h dL_law_1209 rfl 0 rfl 1210 rfl ?_
      refine ww_iconst h dL_law_1210 (v := 3) (by decide) 1211 rfl ?_
      refine ww_iadd h dL_law_1211 1212 rfl ?_
      refine ww_scd h hX hbl hbA (hin 3 (by decide) (by decide)) ex2 dL_law_1212 1213 rfl ?_
      refine ww_if_eq h dL_law_1213 1220 (by decide) 1216 rfl (fun c => absurd c hx) (fun _ => ?_)
      refine ww_iconst h dL_law_1216 (v := 1) (by decide) 1217 rfl ?_
      refine ww_goto h dL_law_1217 1221 (by decide) ?_
      refine ww_cVi h (c_X9_units l D ev cy (o 0) (a 0) (Z 0) (a 3) (Z 3) (a 6) (Z 6) (a 8) (Z 8) (o 10) (a 10) (Z 10) (a 0 (900 + 2)) (a (24 + 2)) (Z (24 + 2)) x0 x1 1 _ h1) ⟨w_997, w_994, w_995, w_996, w_101, ok_X9_units⟩ ⟨by decide, by decide⟩ ⟨Nat.le_trans (Nat.le_add_right _ _) hk, Nat.le_trans (Nat.le_add_right _ _) hn⟩ ⟨rfl, rfl⟩ [0, 2, 4, 5, 6, 10] (by simp only [pk_g, List.getElem?_cons_zero, List.getElem?_cons_succ, List.eraseIdx]) 0 rfl rfl rfl rfl (Nat.le_of_ble_eq_true rfl) dL_law_1221 1224 rfl (Gs' := (gX9 cy (o 0) (a 0) u.2.1 :: gX4 cy (a 0 2) (a 3) (Z 3) :: gX7 cy (a 0 5) (a 6) u.2.2.1 :: gX5 cy (a 0 7) (a 8) u.2.2.2.1 :: gX1 cy (o 10) (a 10) (Z 10) :: gX3 cy (a 0 (900 + 2)) (a (24 + 2)) u.2.2.2.2 :: gX0 cy (a 0 0) (a 1) (Z 1) :: gX0 cy (a 0 1) (a 2) (Z 2) :: gX4 cy (a 0 3) (a 4) (Z 4) :: gX2 cy (a 0 4) (a 5) (Z 5) :: gX7 cy (a 0 6) (a 7) (Z 7) :: gX8 cy (a 0 9) (a 9) (Z 9) :: gX1 cy (o 11) (a 11) (Z 11) :: gX10 cy (o 28) (a 28) (Z 28) :: gX3 cy (a 0 (900 + 0)) (a (24 + 0)) (Z (24 + 0)) :: gX3 cy (a 0 (900 + 1)) (a (24 + 1)) (Z (24 + 1)) :: gX3 cy (a 0 (900 + 3)) (a (24 + 3)) (Z (24 + 3)) :: pgs (WGp cy a aK B))) rfl ?_
      refine ww_aload_n h dL_law_1224 rfl 1 rfl 1225 rfl ?_
      refine ww_aload_n h dL_law_1225 rfl 3 rfl 1226 rfl ?_
      refine ww_iload_n h dL_law_1226 rfl 0 rfl 1227 rfl ?_
      refine ww_iconst h dL_law_1227 (v := 1) (by decide) 1228 rfl ?_
      refine ww_iadd h dL_law_1228 1229 rfl ?_
      refine ww_scd h hX hbl hbA (hin 1 (by decide) (by decide)) ex0 dL_law_1229 1230 rfl ?_
      refine ww_aload_n h dL_law_1230 rfl 3 rfl 1231 rfl ?_
      refine ww_iload_n h dL_law_1231 rfl 0 rfl 1232 rfl ?_
      refine ww_iconst h dL_law_1232 (v := 2) (by decide) 1233 rfl ?_
      refine ww_iadd h dL_law_1233 1234 rfl ?_
      refine ww_scd h hX hbl hbA (hin 2 (by decide) (by decide)) ex1 dL_law_1234 1235 rfl ?_
      refine ww_aload_n h dL_law_1235 rfl 3 rfl 1236 rfl ?_
      refine ww_iload_n h dL_law_1236 rfl 0 rfl 1237 rfl ?_
      refine ww_iconst h dL_law_1237 (v := 3) (by decide) 1238 rfl ?_
      refine ww_iadd h dL_law_1238 1239 rfl ?_
      refine ww_scd h hX hbl hbA (hin 3 (by decide) (by decide)) ex2 dL_law_1239 1240 rfl ?_
      refine ww_if_eq h dL_law_1240 1247 (by decide) 1243 rfl (fun c => absurd c hx) (fun _ => ?_)
      refine ww_iconst h dL_law_1243 (v := 1) (by decide) 1244 rfl ?_
      refine ww_goto h dL_law_1244 1248 (by decide) ?_
      refine ww_cVi h (c_X10_units l D ev cy (o 28) (a 28) (Z 28) x0 x1 1 _ h2) ⟨w_1585, w_1582, w_1583, w_1584, w_111, ok_X10_units⟩ ⟨by decide, by decide⟩ ⟨Nat.le_trans (Nat.le_add_right _ _) hk, Nat.le_trans (Nat.le_add_right _ _) hn⟩ ⟨rfl, rfl⟩ [13] (by simp only [pk_g, List.getElem?_cons_zero, List.getElem?_cons_succ, List.eraseIdx]) 0 rfl rfl rfl rfl (Nat.le_of_ble_eq_true rfl) dL_law_1248 1251 rfl (Gs' := (gX10 cy (o 28) (a 28) w.2 :: gX9 cy (o 0) (a 0) u.2.1 :: gX4 cy (a 0 2) (a 3) (Z 3) :: gX7 cy (a 0 5) (a 6) u.2.2.1 :: gX5 cy (a 0 7) (a 8) u.2.2.2.1 :: gX1 cy (o 10) (a 10) (Z 10) :: gX3 cy (a 0 (900 + 2)) (a (24 + 2)) u.2.2.2.2 :: gX0 cy (a 0 0) (a 1) (Z 1) :: gX0 cy (a 0 1) (a 2) (Z 2) :: gX4 cy (a 0 3) (a 4) (Z 4) :: gX2 cy (a 0 4) (a 5) (Z 5) :: gX7 cy (a 0 6) (a 7) (Z 7) :: gX8 cy (a 0 9) (a 9) (Z 9) :: gX1 cy (o 11) (a 11) (Z 11) :: gX3 cy (a 0 (900 + 0)) (a (24 + 0)) (Z (24 + 0)) :: gX3 cy (a 0 (900 + 1)) (a (24 + 1)) (Z (24 + 1)) :: gX3 cy (a 0 (900 + 3)) (a (24 + 3)) (Z (24 + 3)) :: pgs (WGp cy a aK B))) rfl ?_
      refine ww_icmp_eq h dL_law_1251 1591 (by decide) 1254 rfl (fun _ => ?_) (fun c => absurd h3.symm c)
      refine ww_kn (Nat.le_succ k) (Nat.le_add_right n 6) ?_
      refine ww_permT [1, 6, 6, 1, 5, 5, 1, 4, 1, 3, 1, 2, 0, 1, 1, 0, 0] (Cs := [gX9 cy (o 0) (a 0) u.2.1, gX0 cy (a 0 0) (a 1) (Z 1), gX0 cy (a 0 1) (a 2) (Z 2), gX4 cy (a 0 2) (a 3) (Z 3), gX4 cy (a 0 3) (a 4) (Z 4), gX2 cy (a 0 4) (a 5) (Z 5), gX7 cy (a 0 5) (a 6) u.2.2.1, gX7 cy (a 0 6) (a 7) (Z 7), gX5 cy (a 0 7) (a 8) u.2.2.2.1, gX8 cy (a 0 9) (a 9) (Z 9), gX1 cy (o 10) (a 10) (Z 10), gX1 cy (o 11) (a 11) (Z 11), gX10 cy (o 28) (a 28) w.2, gX3 cy (a 0 (900 + 0)) (a (24 + 0)) (Z (24 + 0)), gX3 cy (a 0 (900 + 1)) (a (24 + 1)) (Z (24 + 1)), gX3 cy (a 0 (900 + 2)) (a (24 + 2)) u.2.2.2.2, gX3 cy (a 0 (900 + 3)) (a (24 + 3)) (Z (24 + 3))]) (Rs := pgs (WGp cy a aK B)) (by simp only [pk_g, List.getElem?_cons_zero, List.getElem?_cons_succ, List.eraseIdx]) (Gs' := (gX9 cy (o 0) (a 0) u.2.1 :: gX0 cy (a 0 0) (a 1) (Z 1) :: gX0 cy (a 0 1) (a 2) (Z 2) :: gX4 cy (a 0 2) (a 3) (Z 3) :: gX4 cy (a 0 3) (a 4) (Z 4) :: gX2 cy (a 0 4) (a 5) (Z 5) :: gX7 cy (a 0 5) (a 6) u.2.2.1 :: gX7 cy (a 0 6) (a 7) (Z 7) :: gX5 cy (a 0 7) (a 8) u.2.2.2.1 :: gX8 cy (a 0 9) (a 9) (Z 9) :: gX1 cy (o 10) (a 10) (Z 10) :: gX1 cy (o 11) (a 11) (Z 11) :: gX10 cy (o 28) (a 28) w.2 :: gX3 cy (a 0 (900 + 0)) (a (24 + 0)) (Z (24 + 0)) :: gX3 cy (a 0 (900 + 1)) (a (24 + 1)) (Z (24 + 1)) :: gX3 cy (a 0 (900 + 2)) (a (24 + 2)) u.2.2.2.2 :: gX3 cy (a 0 (900 + 3)) (a (24 + 3)) (Z (24 + 3)) :: pgs (WGp cy a aK B))) rfl ?_
      exact kk _ _ _ _ _ h4
    · obtain ⟨u, w, h1, h2, h3, h4⟩ := hv
      show ww X D A 4 Q k n 1197 [(3, .int i), (2, .ref (o 28)), (1, .ref (o 0)), (0, .ref b)] [] (gX9 cy (o 0) (a 0) (Z 0) :: gX0 cy (a 0 0) (a 1) (Z 1) :: gX0 cy (a 0 1) (a 2) (Z 2) :: gX4 cy (a 0 2) (a 3) (Z 3) :: gX4 cy (a 0 3) (a 4) (Z 4) :: gX2 cy (a 0 4) (a 5) (Z 5) :: gX7 cy (a 0 5) (a 6) (Z 6) :: gX7 cy (a 0 6) (a 7) (Z 7) :: gX5 cy (a 0 7) (a 8) (Z 8) :: gX8 cy (a 0 9) (a 9) (Z 9) :: gX1 cy (o 10) (a 10) (Z 10) :: gX1 cy (o 11) (a 11) (Z 11) :: gX10 cy (o 28) (a 28) (Z 28) :: gX3 cy (a 0 (900 + 0)) (a (24 + 0)) (Z (24 + 0)) :: gX3 cy (a 0 (900 + 1)) (a (24 + 1)) (Z (24 + 1)) :: gX3 cy (a 0 (900 + 2)) (a (24 + 2)) (Z (24 + 2)) :: gX3 cy (a 0 (900 + 3)) (a (24 + 3)) (Z (24 + 3)) :: pgs (WGp cy a aK B))
      refine ww_aload_n h dL_law_1197 rfl 2 rfl 1198 rfl ?_
      refine ww_aload_n h dL_law_1198 rfl 3 rfl 1199 rfl ?_
      refine ww_iload_n h dL_law_1199 rfl 0 rfl 1200 rfl ?_
      refine ww_iconst h dL_law_1200 (v := 1) (by decide) 1201 rfl ?_
      refine ww_iadd h dL_law_1201 1202 rfl ?_
      refine ww_scd h hX hbl hbA (hin 1 (by decide) (by decide)) ex0 dL_law_1202 1203 rfl ?_
      refine ww_aload_n h dL_law_1203 rfl 3 rfl 1204 rfl ?_
      refine ww_iload_n h dL_law_1204 rfl 0 rfl 1205 rfl ?_
      refine ww_iconst h dL_law_1205 (v := 2) (by decide) 1206 rfl ?_
      refine ww_iadd h dL_law_1206 1207 rfl ?_
      refine ww_scd h hX hbl hbA (hin 2 (by decide) (by decide)) ex1 dL_law_1207 1208 rfl ?_
      refine ww_aload_n h dL_law_1208 rfl 3 rfl 1209 rfl ?_
      refine ww_iload_n h dL_law_1209 rfl 0 rfl 1210 rfl ?_
      refine ww_iconst h dL_law_1210 (v := 3) (by decide) 1211 rfl ?_
      refine ww_iadd h dL_law_1211 1212 rfl ?_
      refine ww_scd h hX hbl hbA (hin 3 (by decide) (by decide)) ex2 dL_law_1212 1213 rfl ?_
      refine ww_if_eq h dL_law_1213 1220 (by decide) 1216 rfl (fun c => absurd c hx) (fun _ => ?_)
      refine ww_iconst h dL_law_1216 (v := 1) (by decide) 1217 rfl ?_
      refine ww_goto h dL_law_1217 1221 (by decide) ?_
      refine ww_cVi h (c_X9_units l D ev cy (o 0) (a 0) (Z 0) (a 3) (Z 3) (a 6) (Z 6) (a 8) (Z 8) (o 10) (a 10) (Z 10) (a 0 (900 + 3)) (a (24 + 3)) (Z (24 + 3)) x0 x1 1 _ h1) ⟨w_997, w_994, w_995, w_996, w_101, ok_X9_units⟩ ⟨by decide, by decide⟩ ⟨Nat.le_trans (Nat.le_add_right _ _) hk, Nat.le_trans (Nat.le_add_right _ _) hn⟩ ⟨rfl, rfl⟩ [0, 2, 4, 5, 6, 11] (by simp only [pk_g, List.getElem?_cons_zero, List.getElem?_cons_succ, List.eraseIdx]) 0 rfl rfl rfl rfl (Nat.le_of_ble_eq_true rfl) dL_law_1221 1224 rfl (Gs' := (gX9 cy (o 0) (a 0) u.2.1 :: gX4 cy (a 0 2) (a 3) (Z 3) :: gX7 cy (a 0 5) (a 6) u.2.2.1 :: gX5 cy (a 0 7) (a 8) u.2.2.2.1 :: gX1 cy (o 10) (a 10) (Z 10) :: gX3 cy (a 0 (900 + 3)) (a (24 + 3)) u.2.2.2.2 :: gX0 cy (a 0 0) (a 1) (Z 1) :: gX0 cy (a 0 1) (a 2) (Z 2) :: gX4 cy (a 0 3) (a 4) (Z 4) :: gX2 cy (a 0 4) (a 5) (Z 5) :: gX7 cy (a 0 6) (a 7) (Z 7) :: gX8 cy (a 0 9) (a 9) (Z 9) :: gX1 cy (o 11) (a 11) (Z 11) :: gX10 cy (o 28) (a 28) (Z 28) :: gX3 cy (a 0 (900 + 0)) (a (24 + 0)) (Z (24 + 0)) :: gX3 cy (a 0 (900 + 1)) (a (24 + 1)) (Z (24 + 1)) :: gX3 cy (a 0 (900 + 2)) (a (24 + 2)) (Z (24 + 2)) :: pgs (WGp cy a aK B))) rfl ?_
      refine ww_aload_n h dL_law_1224 rfl 1 rfl 1225 rfl ?_
      refine ww_aload_n h dL_law_1225 rfl 3 rfl 1226 rfl ?_
      refine ww_iload_n h dL_law_1226 rfl 0 rfl 1227 rfl ?_
      refine ww_iconst h dL_law_1227 (v := 1) (by decide) 1228 rfl ?_
      refine ww_iadd h dL_law_1228 1229 rfl ?_
      refine ww_scd h hX hbl hbA (hin 1 (by decide) (by decide)) ex0 dL_law_1229 1230 rfl ?_
      refine ww_aload_n h dL_law_1230 rfl 3 rfl 1231 rfl ?_
      refine ww_iload_n h dL_law_1231 rfl 0 rfl 1232 rfl ?_
      refine ww_iconst h dL_law_1232 (v := 2) (by decide) 1233 rfl ?_
      refine ww_iadd h dL_law_1233 1234 rfl ?_
      refine ww_scd h hX hbl hbA (hin 2 (by decide) (by decide)) ex1 dL_law_1234 1235 rfl ?_
      refine ww_aload_n h dL_law_1235 rfl 3 rfl 1236 rfl ?_
      refine ww_iload_n h dL_law_1236 rfl 0 rfl 1237 rfl ?_
      refine ww_iconst h dL_law_1237 (v := 3) (by decide) 1238 rfl ?_
      refine ww_iadd h dL_law_1238 1239 rfl ?_
      refine ww_scd h hX hbl hbA (hin 3 (by decide) (by decide)) ex2 dL_law_1239 1240 rfl ?_
      refine ww_if_eq h dL_law_1240 1247 (by decide) 1243 rfl (fun c => absurd c hx) (fun _ => ?_)
      refine ww_iconst h dL_law_1243 (v := 1) (by decide) 1244 rfl ?_
      refine ww_goto h dL_law_1244 1248 (by decide) ?_
      refine ww_cVi h (c_X10_units l D ev cy (o 28) (a 28) (Z 28) x0 x1 1 _ h2) ⟨w_1585, w_1582, w_1583, w_1584, w_111, ok_X10_units⟩ ⟨by decide, by decide⟩ ⟨Nat.le_trans (Nat.le_add_right _ _) hk, Nat.le_trans (Nat.le_add_right _ _) hn⟩ ⟨rfl, rfl⟩ [13] (by simp only [pk_g, List.getElem?_cons_zero, List.getElem?_cons_succ, List.eraseIdx]) 0 rfl rfl rfl rfl (Nat.le_of_ble_eq_true rfl) dL_law_1248 1251 rfl (Gs' := (gX10 cy (o 28) (a 28) w.2 :: gX9 cy (o 0) (a 0) u.2.1 :: gX4 cy (a 0 2) (a 3) (Z 3) :: gX7 cy (a 0 5) (a 6) u.2.2.1 :: gX5 cy (a 0 7) (a 8) u.2.2.2.1 :: gX1 cy (o 10) (a 10) (Z 10) :: gX3 cy (a 0 (900 + 3)) (a (24 + 3)) u.2.2.2.2 :: gX0 cy (a 0 0) (a 1) (Z 1) :: gX0 cy (a 0 1) (a 2) (Z 2) :: gX4 cy (a 0 3) (a 4) (Z 4) :: gX2 cy (a 0 4) (a 5) (Z 5) :: gX7 cy (a 0 6) (a 7) (Z 7) :: gX8 cy (a 0 9) (a 9) (Z 9) :: gX1 cy (o 11) (a 11) (Z 11) :: gX3 cy (a 0 (900 + 0)) (a (24 + 0)) (Z (24 + 0)) :: gX3 cy (a 0 (900 + 1)) (a (24 + 1)) (Z (24 + 1)) :: gX3 cy (a 0 (900 + 2)) (a (24 + 2)) (Z (24 + 2)) :: pgs (WGp cy a aK B))) rfl ?_
      refine ww_icmp_eq h dL_law_1251 1591 (by decide) 1254 rfl (fun _ => ?_) (fun c => absurd h3.symm c)
      refine ww_kn (Nat.le_succ k) (Nat.le_add_right n 6) ?_
      refine ww_permT [1, 6, 6, 1, 5, 5, 1, 4, 1, 3, 1, 2, 0, 1, 1, 1, 0] (Cs := [gX9 cy (o 0) (a 0) u.2.1, gX0 cy (a 0 0) (a 1) (Z 1), gX0 cy (a 0 1) (a 2) (Z 2), gX4 cy (a 0 2) (a 3) (Z 3), gX4 cy (a 0 3) (a 4) (Z 4), gX2 cy (a 0 4) (a 5) (Z 5), gX7 cy (a 0 5) (a 6) u.2.2.1, gX7 cy (a 0 6) (a 7) (Z 7), gX5 cy (a 0 7) (a 8) u.2.2.2.1, gX8 cy (a 0 9) (a 9) (Z 9), gX1 cy (o 10) (a 10) (Z 10), gX1 cy (o 11) (a 11) (Z 11), gX10 cy (o 28) (a 28) w.2, gX3 cy (a 0 (900 + 0)) (a (24 + 0)) (Z (24 + 0)), gX3 cy (a 0 (900 + 1)) (a (24 + 1)) (Z (24 + 1)), gX3 cy (a 0 (900 + 2)) (a (24 + 2)) (Z (24 + 2)), gX3 cy (a 0 (900 + 3)) (a (24 + 3)) u.2.2.2.2]) (Rs := pgs (WGp cy a aK B)) (by simp only [pk_g, List.getElem?_cons_zero, List.getElem?_cons_succ, List.eraseIdx]) (Gs' := (gX9 cy (o 0) (a 0) u.2.1 :: gX0 cy (a 0 0) (a 1) (Z 1) :: gX0 cy (a 0 1) (a 2) (Z 2) :: gX4 cy (a 0 2) (a 3) (Z 3) :: gX4 cy (a 0 3) (a 4) (Z 4) :: gX2 cy (a 0 4) (a 5) (Z 5) :: gX7 cy (a 0 5) (a 6) u.2.2.1 :: gX7 cy (a 0 6) (a 7) (Z 7) :: gX5 cy (a 0 7) (a 8) u.2.2.2.1 :: gX8 cy (a 0 9) (a 9) (Z 9) :: gX1 cy (o 10) (a 10) (Z 10) :: gX1 cy (o 11) (a 11) (Z 11) :: gX10 cy (o 28) (a 28) w.2 :: gX3 cy (a 0 (900 + 0)) (a (24 + 0)) (Z (24 + 0)) :: gX3 cy (a 0 (900 + 1)) (a (24 + 1)) (Z (24 + 1)) :: gX3 cy (a 0 (900 + 2)) (a (24 + 2)) (Z (24 + 2)) :: gX3 cy (a 0 (900 + 3)) (a (24 + 3)) u.2.2.2.2 :: pgs (WGp cy a aK B))) rfl ?_
      exact kk _ _ _ _ _ h4
set_option maxHeartbeats 4000000 in
set_option maxRecDepth 100000 in
theorem case_way {X : Cx} {D : va_G} {ev : EvT} {cy : Nat → ClassId} {A : Nat → Prop} {Q : State → Prop} {l : Launch} {b Ln : Nat} {xs : Nat → Int32} {i : Int32} {k n : Nat} {I : LI} (C : lwC X D ev cy A l b Ln xs i k n) (ok : Ok_way I) {o : Nat → Nat} {a aK : Nat → Nat → Nat} {Z B : Nat → OV} (hI : I o a aK Z B) (kk : lwK X D cy A Q b i k n I) : ww X D A 4 Q k n 1371 [(3, .int i), (2, .ref (o 28)), (1, .ref (o 0)), (0, .ref b)] [] (WGs cy o a aK Z B) := by
  obtain ⟨h, hX, hbl, hbA, hin, hk, hn⟩ := C
  obtain ⟨x0, ex0⟩ : ∃ x : Int32, xs (i + 1).toNatClampNeg = x := ⟨_, rfl⟩
  obtain ⟨x1, ex1⟩ : ∃ x : Int32, xs (i + 2).toNatClampNeg = x := ⟨_, rfl⟩
  have hv := ok o a aK Z B hI x0 x1
  obtain ⟨u, w, h1, h2, h3, h4⟩ := hv
  show ww X D A 4 Q k n 1371 [(3, .int i), (2, .ref (o 28)), (1, .ref (o 0)), (0, .ref b)] [] (gX9 cy (o 0) (a 0) (Z 0) :: gX0 cy (a 0 0) (a 1) (Z 1) :: gX0 cy (a 0 1) (a 2) (Z 2) :: gX4 cy (a 0 2) (a 3) (Z 3) :: gX4 cy (a 0 3) (a 4) (Z 4) :: gX2 cy (a 0 4) (a 5) (Z 5) :: gX7 cy (a 0 5) (a 6) (Z 6) :: gX7 cy (a 0 6) (a 7) (Z 7) :: gX5 cy (a 0 7) (a 8) (Z 8) :: gX8 cy (a 0 9) (a 9) (Z 9) :: gX1 cy (o 10) (a 10) (Z 10) :: gX1 cy (o 11) (a 11) (Z 11) :: gX10 cy (o 28) (a 28) (Z 28) :: gX3 cy (a 0 (900 + 0)) (a (24 + 0)) (Z (24 + 0)) :: gX3 cy (a 0 (900 + 1)) (a (24 + 1)) (Z (24 + 1)) :: gX3 cy (a 0 (900 + 2)) (a (24 + 2)) (Z (24 + 2)) :: gX3 cy (a 0 (900 + 3)) (a (24 + 3)) (Z (24 + 3)) :: pgs (WGp cy a aK B))
  refine ww_aload_n h dL_law_1371 rfl 2 rfl 1372 rfl ?_
  refine ww_aload_n h dL_law_1372 rfl 3 rfl 1373 rfl ?_
  refine ww_iload_n h dL_law_1373 rfl 0 rfl 1374 rfl ?_
  refine ww_iconst h dL_law_1374 (v := 1) (by decide) 1375 rfl ?_
  refine ww_iadd h dL_law_1375 1376 rfl ?_
  refine ww_scd h hX hbl hbA (hin 1 (by decide) (by decide)) ex0 dL_law_1376 1377 rfl ?_
  refine ww_aload_n h dL_law_1377 rfl 3 rfl 1378 rfl ?_
  refine ww_iload_n h dL_law_1378 rfl 0 rfl 1379 rfl ?_
  refine ww_iconst h dL_law_1379 (v := 2) (by decide) 1380 rfl ?_
  refine ww_iadd h dL_law_1380 1381 rfl ?_
  refine ww_scd h hX hbl hbA (hin 2 (by decide) (by decide)) ex1 dL_law_1381 1382 rfl ?_
  refine ww_cVi h (c_X9_way l D ev cy (o 0) (a 0) (Z 0) (a 3) (Z 3) (a 6) (Z 6) (a 9) (Z 9) (o 10) (a 10) (Z 10) x0 x1 _ h1) ⟨w_1101, w_1098, w_1099, w_1100, w_101, ok_X9_way⟩ ⟨by decide, by decide⟩ ⟨Nat.le_trans (Nat.le_add_right _ _) hk, Nat.le_trans (Nat.le_add_right _ _) hn⟩ ⟨rfl, rfl⟩ [0, 2, 4, 6, 6] (by simp only [pk_g, List.getElem?_cons_zero, List.getElem?_cons_succ, List.eraseIdx]) 0 rfl rfl rfl rfl (Nat.le_of_ble_eq_true rfl) dL_law_1382 1385 rfl (Gs' := (gX9 cy (o 0) (a 0) u.2.1 :: gX4 cy (a 0 2) (a 3) (Z 3) :: gX7 cy (a 0 5) (a 6) u.2.2.1 :: gX8 cy (a 0 9) (a 9) u.2.2.2 :: gX1 cy (o 10) (a 10) (Z 10) :: gX0 cy (a 0 0) (a 1) (Z 1) :: gX0 cy (a 0 1) (a 2) (Z 2) :: gX4 cy (a 0 3) (a 4) (Z 4) :: gX2 cy (a 0 4) (a 5) (Z 5) :: gX7 cy (a 0 6) (a 7) (Z 7) :: gX5 cy (a 0 7) (a 8) (Z 8) :: gX1 cy (o 11) (a 11) (Z 11) :: gX10 cy (o 28) (a 28) (Z 28) :: gX3 cy (a 0 (900 + 0)) (a (24 + 0)) (Z (24 + 0)) :: gX3 cy (a 0 (900 + 1)) (a (24 + 1)) (Z (24 + 1)) :: gX3 cy (a 0 (900 + 2)) (a (24 + 2)) (Z (24 + 2)) :: gX3 cy (a 0 (900 + 3)) (a (24 + 3)) (Z (24 + 3)) :: pgs (WGp cy a aK B))) rfl ?_
  refine ww_aload_n h dL_law_1385 rfl 1 rfl 1386 rfl ?_
  refine ww_aload_n h dL_law_1386 rfl 3 rfl 1387 rfl ?_
  refine ww_iload_n h dL_law_1387 rfl 0 rfl 1388 rfl ?_
  refine ww_iconst h dL_law_1388 (v := 1) (by decide) 1389 rfl ?_
  refine ww_iadd h dL_law_1389 1390 rfl ?_
  refine ww_scd h hX hbl hbA (hin 1 (by decide) (by decide)) ex0 dL_law_1390 1391 rfl ?_
  refine ww_aload_n h dL_law_1391 rfl 3 rfl 1392 rfl ?_
  refine ww_iload_n h dL_law_1392 rfl 0 rfl 1393 rfl ?_
  refine ww_iconst h dL_law_1393 (v := 2) (by decide) 1394 rfl ?_
  refine ww_iadd h dL_law_1394 1395 rfl ?_
  refine ww_scd h hX hbl hbA (hin 2 (by decide) (by decide)) ex1 dL_law_1395 1396 rfl ?_
  refine ww_cVi h (c_X10_way l D ev cy (o 28) (a 28) (Z 28) x0 x1 _ h2) ⟨w_1646, w_1643, w_1644, w_1645, w_111, ok_X10_way⟩ ⟨by decide, by decide⟩ ⟨Nat.le_trans (Nat.le_add_right _ _) hk, Nat.le_trans (Nat.le_add_right _ _) hn⟩ ⟨rfl, rfl⟩ [12] (by simp only [pk_g, List.getElem?_cons_zero, List.getElem?_cons_succ, List.eraseIdx]) 0 rfl rfl rfl rfl (Nat.le_of_ble_eq_true rfl) dL_law_1396 1399 rfl (Gs' := (gX10 cy (o 28) (a 28) w.2 :: gX9 cy (o 0) (a 0) u.2.1 :: gX4 cy (a 0 2) (a 3) (Z 3) :: gX7 cy (a 0 5) (a 6) u.2.2.1 :: gX8 cy (a 0 9) (a 9) u.2.2.2 :: gX1 cy (o 10) (a 10) (Z 10) :: gX0 cy (a 0 0) (a 1) (Z 1) :: gX0 cy (a 0 1) (a 2) (Z 2) :: gX4 cy (a 0 3) (a 4) (Z 4) :: gX2 cy (a 0 4) (a 5) (Z 5) :: gX7 cy (a 0 6) (a 7) (Z 7) :: gX5 cy (a 0 7) (a 8) (Z 8) :: gX1 cy (o 11) (a 11) (Z 11) :: gX3 cy (a 0 (900 + 0)) (a (24 + 0)) (Z (24 + 0)) :: gX3 cy (a 0 (900 + 1)) (a (24 + 1)) (Z (24 + 1)) :: gX3 cy (a 0 (900 + 2)) (a (24 + 2)) (Z (24 + 2)) :: gX3 cy (a 0 (900 + 3)) (a (24 + 3)) (Z (24 + 3)) :: pgs (WGp cy a aK B))) rfl ?_
  refine ww_icmp_eq h dL_law_1399 1591 (by decide) 1402 rfl (fun _ => ?_) (fun c => absurd h3.symm c)
  refine ww_kn (Nat.le_succ k) (Nat.le_add_right n 6) ?_
  refine ww_permT [1, 5, 5, 1, 4, 4, 1, 3, 3, 1, 1, 1, 0, 0, 0, 0, 0] (Cs := [gX9 cy (o 0) (a 0) u.2.1, gX0 cy (a 0 0) (a 1) (Z 1), gX0 cy (a 0 1) (a 2) (Z 2), gX4 cy (a 0 2) (a 3) (Z 3), gX4 cy (a 0 3) (a 4) (Z 4), gX2 cy (a 0 4) (a 5) (Z 5), gX7 cy (a 0 5) (a 6) u.2.2.1, gX7 cy (a 0 6) (a 7) (Z 7), gX5 cy (a 0 7) (a 8) (Z 8), gX8 cy (a 0 9) (a 9) u.2.2.2, gX1 cy (o 10) (a 10) (Z 10), gX1 cy (o 11) (a 11) (Z 11), gX10 cy (o 28) (a 28) w.2, gX3 cy (a 0 (900 + 0)) (a (24 + 0)) (Z (24 + 0)), gX3 cy (a 0 (900 + 1)) (a (24 + 1)) (Z (24 + 1)), gX3 cy (a 0 (900 + 2)) (a (24 + 2)) (Z (24 + 2)), gX3 cy (a 0 (900 + 3)) (a (24 + 3)) (Z (24 + 3))]) (Rs := pgs (WGp cy a aK B)) (by simp only [pk_g, List.getElem?_cons_zero, List.getElem?_cons_succ, List.eraseIdx]) (Gs' := (gX9 cy (o 0) (a 0) u.2.1 :: gX0 cy (a 0 0) (a 1) (Z 1) :: gX0 cy (a 0 1) (a 2) (Z 2) :: gX4 cy (a 0 2) (a 3) (Z 3) :: gX4 cy (a 0 3) (a 4) (Z 4) :: gX2 cy (a 0 4) (a 5) (Z 5) :: gX7 cy (a 0 5) (a 6) u.2.2.1 :: gX7 cy (a 0 6) (a 7) (Z 7) :: gX5 cy (a 0 7) (a 8) (Z 8) :: gX8 cy (a 0 9) (a 9) u.2.2.2 :: gX1 cy (o 10) (a 10) (Z 10) :: gX1 cy (o 11) (a 11) (Z 11) :: gX10 cy (o 28) (a 28) w.2 :: gX3 cy (a 0 (900 + 0)) (a (24 + 0)) (Z (24 + 0)) :: gX3 cy (a 0 (900 + 1)) (a (24 + 1)) (Z (24 + 1)) :: gX3 cy (a 0 (900 + 2)) (a (24 + 2)) (Z (24 + 2)) :: gX3 cy (a 0 (900 + 3)) (a (24 + 3)) (Z (24 + 3)) :: pgs (WGp cy a aK B))) rfl ?_
  exact kk _ _ _ _ _ h4
set_option maxHeartbeats 4000000 in
set_option maxRecDepth 100000 in
theorem case_atEnds {X : Cx} {D : va_G} {ev : EvT} {cy : Nat → ClassId} {A : Nat → Prop} {Q : State → Prop} {l : Launch} {b Ln : Nat} {xs : Nat → Int32} {i : Int32} {k n : Nat} {I : LI} (C : lwC X D ev cy A l b Ln xs i k n) (ok : Ok_atEnds I) {o : Nat → Nat} {a aK : Nat → Nat → Nat} {Z B : Nat → OV} (hI : I o a aK Z B) (kk : lwK X D cy A Q b i k n I) : ww X D A 4 Q k n 1509 [(3, .int i), (2, .ref (o 28)), (1, .ref (o 0)), (0, .ref b)] [] (WGs cy o a aK Z B) := by
  obtain ⟨h, hX, hbl, hbA, hin, hk, hn⟩ := C
  obtain ⟨x0, ex0⟩ : ∃ x : Int32, xs (i + 1).toNatClampNeg = x := ⟨_, rfl⟩
  obtain ⟨x1, ex1⟩ : ∃ x : Int32, xs (i + 2).toNatClampNeg = x := ⟨_, rfl⟩
  obtain ⟨x2, ex2⟩ : ∃ x : Int32, xs (i + 3).toNatClampNeg = x := ⟨_, rfl⟩
  by_cases hx : x2 = 0
  · skip
    rcases ok o a aK Z B hI x0 x1 0 with hv | hv | hv | hv
    · obtain ⟨u, w, h1, h2, h3, h4⟩ := hv
      show ww X D A 4 Q k n 1509 [(3, .int i), (2, .ref (o 28)), (1, .ref (o 0)), (0, .ref b)] [] (gX9 cy (o 0) (a 0) (Z 0) :: gX0 cy (a 0 0) (a 1) (Z 1) :: gX0 cy (a 0 1) (a 2) (Z 2) :: gX4 cy (a 0 2) (a 3) (Z 3) :: gX4 cy (a 0 3) (a 4) (Z 4) :: gX2 cy (a 0 4) (a 5) (Z 5) :: gX7 cy (a 0 5) (a 6) (Z 6) :: gX7 cy (a 0 6) (a 7) (Z 7) :: gX5 cy (a 0 7) (a 8) (Z 8) :: gX8 cy (a 0 9) (a 9) (Z 9) :: gX1 cy (o 10) (a 10) (Z 10) :: gX1 cy (o 11) (a 11) (Z 11) :: gX10 cy (o 28) (a 28) (Z 28) :: gX3 cy (a 0 (900 + 0)) (a (24 + 0)) (Z (24 + 0)) :: gX3 cy (a 0 (900 + 1)) (a (24 + 1)) (Z (24 + 1)) :: gX3 cy (a 0 (900 + 2)) (a (24 + 2)) (Z (24 + 2)) :: gX3 cy (a 0 (900 + 3)) (a (24 + 3)) (Z (24 + 3)) :: pgs (WGp cy a aK B))
      refine ww_aload_n h dL_law_1509 rfl 2 rfl 1510 rfl ?_
      refine ww_aload_n h dL_law_1510 rfl 3 rfl 1511 rfl ?_
      refine ww_iload_n h dL_law_1511 rfl 0 rfl 1512 rfl ?_
      refine ww_iconst h dL_law_1512 (v := 1) (by decide) 1513 rfl ?_
      refine ww_iadd h dL_law_1513 1514 rfl ?_
      refine ww_scd h hX hbl hbA (hin 1 (by decide) (by decide)) ex0 dL_law_1514 1515 rfl ?_
      refine ww_aload_n h dL_law_1515 rfl 3 rfl 1516 rfl ?_
      refine ww_iload_n h dL_law_1516 rfl 0 rfl 1517 rfl ?_
      refine ww_iconst h dL_law_1517 (v := 2) (by decide) 1518 rfl ?_
      refine ww_iadd h dL_law_1518 1519 rfl ?_
      refine ww_scd h hX hbl hbA (hin 2 (by decide) (by decide)) ex1 dL_law_1519 1520 rfl ?_
      refine ww_aload_n h dL_law_1520 rfl 3 rfl 1521 rfl ?_
      refine ww_iload_n h dL_law_1521 rfl 0 rfl 1522 rfl ?_
      refine ww_iconst h dL_law_1522 (v := 3) (by decide) 1523 rfl ?_
      refine ww_iadd h dL_law_1523 1524 rfl ?_
      refine ww_scd h hX hbl hbA (hin 3 (by decide) (by decide)) ex2 dL_law_1524 1525 rfl ?_
      refine ww_if_eq h dL_law_1525 1532 (by decide) 1528 rfl (fun _ => ?_) (fun c => absurd hx c)
      refine ww_iconst h dL_law_1532 (v := 0) (by decide) 1533 rfl ?_
      refine ww_cVi h (c_X9_atEnds l D ev cy (o 0) (a 0) (Z 0) (a 3) (Z 3) (a 6) (Z 6) (a 8) (Z 8) (o 10) (a 10) (Z 10) (a 0 (900 + 0)) (a (24 + 0)) (Z (24 + 0)) x0 x1 0 _ h1) ⟨w_1133, w_1130, w_1131, w_1132, w_101, ok_X9_atEnds⟩ ⟨by decide, by decide⟩ ⟨Nat.le_trans (Nat.le_add_right _ _) hk, Nat.le_trans (Nat.le_add_right _ _) hn⟩ ⟨rfl, rfl⟩ [0, 2, 4, 5, 6, 8] (by simp only [pk_g, List.getElem?_cons_zero, List.getElem?_cons_succ, List.eraseIdx]) 0 rfl rfl rfl rfl (Nat.le_of_ble_eq_true rfl) dL_law_1533 1536 rfl (Gs' := (gX9 cy (o 0) (a 0) u.2.1 :: gX4 cy (a 0 2) (a 3) (Z 3) :: gX7 cy (a 0 5) (a 6) u.2.2.1 :: gX5 cy (a 0 7) (a 8) u.2.2.2.1 :: gX1 cy (o 10) (a 10) (Z 10) :: gX3 cy (a 0 (900 + 0)) (a (24 + 0)) u.2.2.2.2 :: gX0 cy (a 0 0) (a 1) (Z 1) :: gX0 cy (a 0 1) (a 2) (Z 2) :: gX4 cy (a 0 3) (a 4) (Z 4) :: gX2 cy (a 0 4) (a 5) (Z 5) :: gX7 cy (a 0 6) (a 7) (Z 7) :: gX8 cy (a 0 9) (a 9) (Z 9) :: gX1 cy (o 11) (a 11) (Z 11) :: gX10 cy (o 28) (a 28) (Z 28) :: gX3 cy (a 0 (900 + 1)) (a (24 + 1)) (Z (24 + 1)) :: gX3 cy (a 0 (900 + 2)) (a (24 + 2)) (Z (24 + 2)) :: gX3 cy (a 0 (900 + 3)) (a (24 + 3)) (Z (24 + 3)) :: pgs (WGp cy a aK B))) rfl ?_
      refine ww_aload_n h dL_law_1536 rfl 1 rfl 1537 rfl ?_
      refine ww_aload_n h dL_law_1537 rfl 3 rfl 1538 rfl ?_
      refine ww_iload_n h dL_law_1538 rfl 0 rfl 1539 rfl ?_
      refine ww_iconst h dL_law_1539 (v := 1) (by decide) 1540 rfl ?_
      refine ww_iadd h dL_law_1540 1541 rfl ?_
      refine ww_scd h hX hbl hbA (hin 1 (by decide) (by decide)) ex0 dL_law_1541 1542 rfl ?_
      refine ww_aload_n h dL_law_1542 rfl 3 rfl 1543 rfl ?_
      refine ww_iload_n h dL_law_1543 rfl 0 rfl 1544 rfl ?_
      refine ww_iconst h dL_law_1544 (v := 2) (by decide) 1545 rfl ?_
      refine ww_iadd h dL_law_1545 1546 rfl ?_
      refine ww_scd h hX hbl hbA (hin 2 (by decide) (by decide)) ex1 dL_law_1546 1547 rfl ?_
      refine ww_aload_n h dL_law_1547 rfl 3 rfl 1548 rfl ?_
      refine ww_iload_n h dL_law_1548 rfl 0 rfl 1549 rfl ?_
      refine ww_iconst h dL_law_1549 (v := 3) (by decide) 1550 rfl ?_
      refine ww_iadd h dL_law_1550 1551 rfl ?_
      refine ww_scd h hX hbl hbA (hin 3 (by decide) (by decide)) ex2 dL_law_1551 1552 rfl ?_
      refine ww_if_eq h dL_law_1552 1559 (by decide) 1555 rfl (fun _ => ?_) (fun c => absurd hx c)
      refine ww_iconst h dL_law_1559 (v := 0) (by decide) 1560 rfl ?_
      refine ww_cVi h (c_X10_atEnds l D ev cy (o 28) (a 28) (Z 28) x0 x1 0 _ h2) ⟨w_1682, w_1679, w_1680, w_1681, w_111, ok_X10_atEnds⟩ ⟨by decide, by decide⟩ ⟨Nat.le_trans (Nat.le_add_right _ _) hk, Nat.le_trans (Nat.le_add_right _ _) hn⟩ ⟨rfl, rfl⟩ [13] (by simp only [pk_g, List.getElem?_cons_zero, List.getElem?_cons_succ, List.eraseIdx]) 0 rfl rfl rfl rfl (Nat.le_of_ble_eq_true rfl) dL_law_1560 1563 rfl (Gs' := (gX10 cy (o 28) (a 28) w.2 :: gX9 cy (o 0) (a 0) u.2.1 :: gX4 cy (a 0 2) (a 3) (Z 3) :: gX7 cy (a 0 5) (a 6) u.2.2.1 :: gX5 cy (a 0 7) (a 8) u.2.2.2.1 :: gX1 cy (o 10) (a 10) (Z 10) :: gX3 cy (a 0 (900 + 0)) (a (24 + 0)) u.2.2.2.2 :: gX0 cy (a 0 0) (a 1) (Z 1) :: gX0 cy (a 0 1) (a 2) (Z 2) :: gX4 cy (a 0 3) (a 4) (Z 4) :: gX2 cy (a 0 4) (a 5) (Z 5) :: gX7 cy (a 0 6) (a 7) (Z 7) :: gX8 cy (a 0 9) (a 9) (Z 9) :: gX1 cy (o 11) (a 11) (Z 11) :: gX3 cy (a 0 (900 + 1)) (a (24 + 1)) (Z (24 + 1)) :: gX3 cy (a 0 (900 + 2)) (a (24 + 2)) (Z (24 + 2)) :: gX3 cy (a 0 (900 + 3)) (a (24 + 3)) (Z (24 + 3)) :: pgs (WGp cy a aK B))) rfl ?_
      refine ww_icmp_eq h dL_law_1563 1591 (by decide) 1566 rfl (fun _ => ?_) (fun c => absurd h3.symm c)
      refine ww_kn (Nat.le_succ k) (Nat.le_add_right n 6) ?_
      refine ww_permT [1, 6, 6, 1, 5, 5, 1, 4, 1, 3, 1, 2, 0, 0, 0, 0, 0] (Cs := [gX9 cy (o 0) (a 0) u.2.1, gX0 cy (a 0 0) (a 1) (Z 1), gX0 cy (a 0 1) (a 2) (Z 2), gX4 cy (a 0 2) (a 3) (Z 3), gX4 cy (a 0 3) (a 4) (Z 4), gX2 cy (a 0 4) (a 5) (Z 5), gX7 cy (a 0 5) (a 6) u.2.2.1, gX7 cy (a 0 6) (a 7) (Z 7), gX5 cy (a 0 7) (a 8) u.2.2.2.1, gX8 cy (a 0 9) (a 9) (Z 9), gX1 cy (o 10) (a 10) (Z 10), gX1 cy (o 11) (a 11) (Z 11), gX10 cy (o 28) (a 28) w.2, gX3 cy (a 0 (900 + 0)) (a (24 + 0)) u.2.2.2.2, gX3 cy (a 0 (900 + 1)) (a (24 + 1)) (Z (24 + 1)), gX3 cy (a 0 (900 + 2)) (a (24 + 2)) (Z (24 + 2)), gX3 cy (a 0 (900 + 3)) (a (24 + 3)) (Z (24 + 3))]) (Rs := pgs (WGp cy a aK B)) (by simp only [pk_g, List.getElem?_cons_zero, List.getElem?_cons_succ, List.eraseIdx]) (Gs' := (gX9 cy (o 0) (a 0) u.2.1 :: gX0 cy (a 0 0) (a 1) (Z 1) :: gX0 cy (a 0 1) (a 2) (Z 2) :: gX4 cy (a 0 2) (a 3) (Z 3) :: gX4 cy (a 0 3) (a 4) (Z 4) :: gX2 cy (a 0 4) (a 5) (Z 5) :: gX7 cy (a 0 5) (a 6) u.2.2.1 :: gX7 cy (a 0 6) (a 7) (Z 7) :: gX5 cy (a 0 7) (a 8) u.2.2.2.1 :: gX8 cy (a 0 9) (a 9) (Z 9) :: gX1 cy (o 10) (a 10) (Z 10) :: gX1 cy (o 11) (a 11) (Z 11) :: gX10 cy (o 28) (a 28) w.2 :: gX3 cy (a 0 (900 + 0)) (a (24 + 0)) u.2.2.2.2 :: gX3 cy (a 0 (900 + 1)) (a (24 + 1)) (Z (24 + 1)) :: gX3 cy (a 0 (900 + 2)) (a (24 + 2)) (Z (24 + 2)) :: gX3 cy (a 0 (900 + 3)) (a (24 + 3)) (Z (24 + 3)) :: pgs (WGp cy a aK B))) rfl ?_
      exact kk _ _ _ _ _ h4
    · obtain ⟨u, w, h1, h2, h3, h4⟩ := hv
      show ww X D A 4 Q k n 1509 [(3, .int i), (2, .ref (o 28)), (1, .ref (o 0)), (0, .ref b)] [] (gX9 cy (o 0) (a 0) (Z 0) :: gX0 cy (a 0 0) (a 1) (Z 1) :: gX0 cy (a 0 1) (a 2) (Z 2) :: gX4 cy (a 0 2) (a 3) (Z 3) :: gX4 cy (a 0 3) (a 4) (Z 4) :: gX2 cy (a 0 4) (a 5) (Z 5) :: gX7 cy (a 0 5) (a 6) (Z 6) :: gX7 cy (a 0 6) (a 7) (Z 7) :: gX5 cy (a 0 7) (a 8) (Z 8) :: gX8 cy (a 0 9) (a 9) (Z 9) :: gX1 cy (o 10) (a 10) (Z 10) :: gX1 cy (o 11) (a 11) (Z 11) :: gX10 cy (o 28) (a 28) (Z 28) :: gX3 cy (a 0 (900 + 0)) (a (24 + 0)) (Z (24 + 0)) :: gX3 cy (a 0 (900 + 1)) (a (24 + 1)) (Z (24 + 1)) :: gX3 cy (a 0 (900 + 2)) (a (24 + 2)) (Z (24 + 2)) :: gX3 cy (a 0 (900 + 3)) (a (24 + 3)) (Z (24 + 3)) :: pgs (WGp cy a aK B))
      refine ww_aload_n h dL_law_1509 rfl 2 rfl 1510 rfl ?_
      refine ww_aload_n h dL_law_1510 rfl 3 rfl 1511 rfl ?_
      refine ww_iload_n h dL_law_1511 rfl 0 rfl 1512 rfl ?_
      refine ww_iconst h dL_law_1512 (v := 1) (by decide) 1513 rfl ?_
      refine ww_iadd h dL_law_1513 1514 rfl ?_
      refine ww_scd h hX hbl hbA (hin 1 (by decide) (by decide)) ex0 dL_law_1514 1515 rfl ?_
      refine ww_aload_n h dL_law_1515 rfl 3 rfl 1516 rfl ?_
      refine ww_iload_n h dL_law_1516 rfl 0 rfl 1517 rfl ?_
      refine ww_iconst h dL_law_1517 (v := 2) (by decide) 1518 rfl ?_
      refine ww_iadd h dL_law_1518 1519 rfl ?_
      refine ww_scd h hX hbl hbA (hin 2 (by decide) (by decide)) ex1 dL_law_1519 1520 rfl ?_
      refine ww_aload_n h dL_law_1520 rfl 3 rfl 1521 rfl ?_
      refine ww_iload_n h dL_law_1521 rfl 0 rfl 1522 rfl ?_
      refine ww_iconst h dL_law_1522 (v := 3) (by decide) 1523 rfl ?_
      refine ww_iadd h dL_law_1523 1524 rfl ?_
      refine ww_scd h hX hbl hbA (hin 3 (by decide) (by decide)) ex2 dL_law_1524 1525 rfl ?_
      refine ww_if_eq h dL_law_1525 1532 (by decide) 1528 rfl (fun _ => ?_) (fun c => absurd hx c)
      refine ww_iconst h dL_law_1532 (v := 0) (by decide) 1533 rfl ?_
      refine ww_cVi h (c_X9_atEnds l D ev cy (o 0) (a 0) (Z 0) (a 3) (Z 3) (a 6) (Z 6) (a 8) (Z 8) (o 10) (a 10) (Z 10) (a 0 (900 + 1)) (a (24 + 1)) (Z (24 + 1)) x0 x1 0 _ h1) ⟨w_1133, w_1130, w_1131, w_1132, w_101, ok_X9_atEnds⟩ ⟨by decide, by decide⟩ ⟨Nat.le_trans (Nat.le_add_right _ _) hk, Nat.le_trans (Nat.le_add_right _ _) hn⟩ ⟨rfl, rfl⟩ [0, 2, 4, 5, 6, 9] (by simp only [pk_g, List.getElem?_cons_zero, List.getElem?_cons_succ, List.eraseIdx]) 0 rfl rfl rfl rfl (Nat.le_of_ble_eq_true rfl) dL_law_1533 1536 rfl (Gs' := (gX9 cy (o 0) (a 0) u.2.1 :: gX4 cy (a 0 2) (a 3) (Z 3) :: gX7 cy (a 0 5) (a 6) u.2.2.1 :: gX5 cy (a 0 7) (a 8) u.2.2.2.1 :: gX1 cy (o 10) (a 10) (Z 10) :: gX3 cy (a 0 (900 + 1)) (a (24 + 1)) u.2.2.2.2 :: gX0 cy (a 0 0) (a 1) (Z 1) :: gX0 cy (a 0 1) (a 2) (Z 2) :: gX4 cy (a 0 3) (a 4) (Z 4) :: gX2 cy (a 0 4) (a 5) (Z 5) :: gX7 cy (a 0 6) (a 7) (Z 7) :: gX8 cy (a 0 9) (a 9) (Z 9) :: gX1 cy (o 11) (a 11) (Z 11) :: gX10 cy (o 28) (a 28) (Z 28) :: gX3 cy (a 0 (900 + 0)) (a (24 + 0)) (Z (24 + 0)) :: gX3 cy (a 0 (900 + 2)) (a (24 + 2)) (Z (24 + 2)) :: gX3 cy (a 0 (900 + 3)) (a (24 + 3)) (Z (24 + 3)) :: pgs (WGp cy a aK B))) rfl ?_
      refine ww_aload_n h dL_law_1536 rfl 1 rfl 1537 rfl ?_
      refine ww_aload_n h dL_law_1537 rfl 3 rfl 1538 rfl ?_
      refine ww_iload_n h dL_law_1538 rfl 0 rfl 1539 rfl ?_
      refine ww_iconst h dL_law_1539 (v := 1) (by decide) 1540 rfl ?_
      refine ww_iadd h dL_law_1540 1541 rfl ?_
      refine ww_scd h hX hbl hbA (hin 1 (by decide) (by decide)) ex0 dL_law_1541 1542 rfl ?_
      refine ww_aload_n h dL_law_1542 rfl 3 rfl 1543 rfl ?_
      refine ww_iload_n h dL_law_1543 rfl 0 rfl 1544 rfl ?_
      refine ww_iconst h dL_law_1544 (v := 2) (by decide) 1545 rfl ?_
      refine ww_iadd h dL_law_1545 1546 rfl ?_
      refine ww_scd h hX hbl hbA (hin 2 (by decide) (by decide)) ex1 dL_law_1546 1547 rfl ?_
      refine ww_aload_n h dL_law_1547 rfl 3 rfl 1548 rfl ?_
      refine ww_iload_n h dL_law_1548 rfl 0 rfl 1549 rfl ?_
      refine ww_iconst h dL_law_1549 (v := 3) (by decide) 1550 rfl ?_
      refine ww_iadd h dL_law_1550 1551 rfl ?_
      refine ww_scd h hX hbl hbA (hin 3 (by decide) (by decide)) ex2 dL_law_1551 1552 rfl ?_
      refine ww_if_eq h dL_law_1552 1559 (by decide) 1555 rfl (fun _ => ?_) (fun c => absurd hx c)
      refine ww_iconst h dL_law_1559 (v := 0) (by decide) 1560 rfl ?_
      refine ww_cVi h (c_X10_atEnds l D ev cy (o 28) (a 28) (Z 28) x0 x1 0 _ h2) ⟨w_1682, w_1679, w_1680, w_1681, w_111, ok_X10_atEnds⟩ ⟨by decide, by decide⟩ ⟨Nat.le_trans (Nat.le_add_right _ _) hk, Nat.le_trans (Nat.le_add_right _ _) hn⟩ ⟨rfl, rfl⟩ [13] (by simp only [pk_g, List.getElem?_cons_zero, List.getElem?_cons_succ, List.eraseIdx]) 0 rfl rfl rfl rfl (Nat.le_of_ble_eq_true rfl) dL_law_1560 1563 rfl (Gs' := (gX10 cy (o 28) (a 28) w.2 :: gX9 cy (o 0) (a 0) u.2.1 :: gX4 cy (a 0 2) (a 3) (Z 3) :: gX7 cy (a 0 5) (a 6) u.2.2.1 :: gX5 cy (a 0 7) (a 8) u.2.2.2.1 :: gX1 cy (o 10) (a 10) (Z 10) :: gX3 cy (a 0 (900 + 1)) (a (24 + 1)) u.2.2.2.2 :: gX0 cy (a 0 0) (a 1) (Z 1) :: gX0 cy (a 0 1) (a 2) (Z 2) :: gX4 cy (a 0 3) (a 4) (Z 4) :: gX2 cy (a 0 4) (a 5) (Z 5) :: gX7 cy (a 0 6) (a 7) (Z 7) :: gX8 cy (a 0 9) (a 9) (Z 9) :: gX1 cy (o 11) (a 11) (Z 11) :: gX3 cy (a 0 (900 + 0)) (a (24 + 0)) (Z (24 + 0)) :: gX3 cy (a 0 (900 + 2)) (a (24 + 2)) (Z (24 + 2)) :: gX3 cy (a 0 (900 + 3)) (a (24 + 3)) (Z (24 + 3)) :: pgs (WGp cy a aK B))) rfl ?_
      refine ww_icmp_eq h dL_law_1563 1591 (by decide) 1566 rfl (fun _ => ?_) (fun c => absurd h3.symm c)
      refine ww_kn (Nat.le_succ k) (Nat.le_add_right n 6) ?_
      refine ww_permT [1, 6, 6, 1, 5, 5, 1, 4, 1, 3, 1, 2, 0, 1, 0, 0, 0] (Cs := [gX9 cy (o 0) (a 0) u.2.1, gX0 cy (a 0 0) (a 1) (Z 1), gX0 cy (a 0 1) (a 2) (Z 2), gX4 cy (a 0 2) (a 3) (Z 3), gX4 cy (a 0 3) (a 4) (Z 4), gX2 cy (a 0 4) (a 5) (Z 5), gX7 cy (a 0 5) (a 6) u.2.2.1, gX7 cy (a 0 6) (a 7) (Z 7), gX5 cy (a 0 7) (a 8) u.2.2.2.1, gX8 cy (a 0 9) (a 9) (Z 9), gX1 cy (o 10) (a 10) (Z 10), gX1 cy (o 11) (a 11) (Z 11), gX10 cy (o 28) (a 28) w.2, gX3 cy (a 0 (900 + 0)) (a (24 + 0)) (Z (24 + 0)), gX3 cy (a 0 (900 + 1)) (a (24 + 1)) u.2.2.2.2, gX3 cy (a 0 (900 + 2)) (a (24 + 2)) (Z (24 + 2)), gX3 cy (a 0 (900 + 3)) (a (24 + 3)) (Z (24 + 3))]) (Rs := pgs (WGp cy a aK B)) (by simp only [pk_g, List.getElem?_cons_zero, List.getElem?_cons_succ, List.eraseIdx]) (Gs' := (gX9 cy (o 0) (a 0) u.2.1 :: gX0 cy (a 0 0) (a 1) (Z 1) :: gX0 cy (a 0 1) (a 2) (Z 2) :: gX4 cy (a 0 2) (a 3) (Z 3) :: gX4 cy (a 0 3) (a 4) (Z 4) :: gX2 cy (a 0 4) (a 5) (Z 5) :: gX7 cy (a 0 5) (a 6) u.2.2.1 :: gX7 cy (a 0 6) (a 7) (Z 7) :: gX5 cy (a 0 7) (a 8) u.2.2.2.1 :: gX8 cy (a 0 9) (a 9) (Z 9) :: gX1 cy (o 10) (a 10) (Z 10) :: gX1 cy (o 11) (a 11) (Z 11) :: gX10 cy (o 28) (a 28) w.2 :: gX3 cy (a 0 (900 + 0)) (a (24 + 0)) (Z (24 + 0)) :: gX3 cy (a 0 (900 + 1)) (a (24 + 1)) u.2.2.2.2 :: gX3 cy (a 0 (900 + 2)) (a (24 + 2)) (Z (24 + 2)) :: gX3 cy (a 0 (900 + 3)) (a (24 + 3)) (Z (24 + 3)) :: pgs (WGp cy a aK B))) rfl ?_
      exact kk _ _ _ _ _ h4
    · obtain ⟨u, w, h1, h2, h3, h4⟩ := hv
      show ww X D A 4 Q k n 1509 [(3, .int i), (2, .ref (o 28)), (1, .ref (o 0)), (0, .ref b)] [] (gX9 cy (o 0) (a 0) (Z 0) :: gX0 cy (a 0 0) (a 1) (Z 1) :: gX0 cy (a 0 1) (a 2) (Z 2) :: gX4 cy (a 0 2) (a 3) (Z 3) :: gX4 cy (a 0 3) (a 4) (Z 4) :: gX2 cy (a 0 4) (a 5) (Z 5) :: gX7 cy (a 0 5) (a 6) (Z 6) :: gX7 cy (a 0 6) (a 7) (Z 7) :: gX5 cy (a 0 7) (a 8) (Z 8) :: gX8 cy (a 0 9) (a 9) (Z 9) :: gX1 cy (o 10) (a 10) (Z 10) :: gX1 cy (o 11) (a 11) (Z 11) :: gX10 cy (o 28) (a 28) (Z 28) :: gX3 cy (a 0 (900 + 0)) (a (24 + 0)) (Z (24 + 0)) :: gX3 cy (a 0 (900 + 1)) (a (24 + 1)) (Z (24 + 1)) :: gX3 cy (a 0 (900 + 2)) (a (24 + 2)) (Z (24 + 2)) :: gX3 cy (a 0 (900 + 3)) (a (24 + 3)) (Z (24 + 3)) :: pgs (WGp cy a aK B))
      refine ww_aload_n h dL_law_1509 rfl 2 rfl 1510 rfl ?_
      refine ww_aload_n h dL_law_1510 rfl 3 rfl 1511 rfl ?_
      refine ww_iload_n h dL_law_1511 rfl 0 rfl 1512 rfl ?_
      refine ww_iconst h dL_law_1512 (v := 1) (by decide) 1513 rfl ?_
      refine ww_iadd h dL_law_1513 1514 rfl ?_
      refine ww_scd h hX hbl hbA (hin 1 (by decide) (by decide)) ex0 dL_law_1514 1515 rfl ?_
      refine ww_aload_n h dL_law_1515 rfl 3 rfl 1516 rfl ?_
      refine ww_iload_n h dL_law_1516 rfl 0 rfl 1517 rfl ?_
      refine ww_iconst h dL_law_1517 (v := 2) (by decide) 1518 rfl ?_
      refine ww_iadd h dL_law_1518 1519 rfl ?_
      refine ww_scd h hX hbl hbA (hin 2 (by decide) (by decide)) ex1 dL_law_1519 1520 rfl ?_
      refine ww_aload_n h dL_law_1520 rfl 3 rfl 1521 rfl ?_
      refine ww_iload_n h dL_law_1521 rfl 0 rfl 1522 rfl ?_
      refine ww_iconst h dL_law_1522 (v := 3) (by decide) 1523 rfl ?_
      refine ww_iadd h dL_law_1523 1524 rfl ?_
      refine ww_scd h hX hbl hbA (hin 3 (by decide) (by decide)) ex2 dL_law_1524 1525 rfl ?_
      refine ww_if_eq h dL_law_1525 1532 (by decide) 1528 rfl (fun _ => ?_) (fun c => absurd hx c)
      refine ww_iconst h dL_law_1532 (v := 0) (by decide) 1533 rfl ?_
      refine ww_cVi h (c_X9_atEnds l D ev cy (o 0) (a 0) (Z 0) (a 3) (Z 3) (a 6) (Z 6) (a 8) (Z 8) (o 10) (a 10) (Z 10) (a 0 (900 + 2)) (a (24 + 2)) (Z (24 + 2)) x0 x1 0 _ h1) ⟨w_1133, w_1130, w_1131, w_1132, w_101, ok_X9_atEnds⟩ ⟨by decide, by decide⟩ ⟨Nat.le_trans (Nat.le_add_right _ _) hk, Nat.le_trans (Nat.le_add_right _ _) hn⟩ ⟨rfl, rfl⟩ [0, 2, 4, 5, 6, 10] (by simp only [pk_g, List.getElem?_cons_zero, List.getElem?_cons_succ, List.eraseIdx]) 0 rfl rfl rfl rfl (Nat.le_of_ble_eq_true rfl) dL_law_1533 1536 rfl (Gs' := (gX9 cy (o 0) (a 0) u.2.1 :: gX4 cy (a 0 2) (a 3) (Z 3) :: gX7 cy (a 0 5) (a 6) u.2.2.1 :: gX5 cy (a 0 7) (a 8) u.2.2.2.1 :: gX1 cy (o 10) (a 10) (Z 10) :: gX3 cy (a 0 (900 + 2)) (a (24 + 2)) u.2.2.2.2 :: gX0 cy (a 0 0) (a 1) (Z 1) :: gX0 cy (a 0 1) (a 2) (Z 2) :: gX4 cy (a 0 3) (a 4) (Z 4) :: gX2 cy (a 0 4) (a 5) (Z 5) :: gX7 cy (a 0 6) (a 7) (Z 7) :: gX8 cy (a 0 9) (a 9) (Z 9) :: gX1 cy (o 11) (a 11) (Z 11) :: gX10 cy (o 28) (a 28) (Z 28) :: gX3 cy (a 0 (900 + 0)) (a (24 + 0)) (Z (24 + 0)) :: gX3 cy (a 0 (900 + 1)) (a (24 + 1)) (Z (24 + 1)) :: gX3 cy (a 0 (900 + 3)) (a (24 + 3)) (Z (24 + 3)) :: pgs (WGp cy a aK B))) rfl ?_
      refine ww_aload_n h dL_law_1536 rfl 1 rfl 1537 rfl ?_
      refine ww_aload_n h dL_law_1537 rfl 3 rfl 1538 rfl ?_
      refine ww_iload_n h dL_law_1538 rfl 0 rfl 1539 rfl ?_
      refine ww_iconst h dL_law_1539 (v := 1) (by decide) 1540 rfl ?_
      refine ww_iadd h dL_law_1540 1541 rfl ?_
      refine ww_scd h hX hbl hbA (hin 1 (by decide) (by decide)) ex0 dL_law_1541 1542 rfl ?_
      refine ww_aload_n h dL_law_1542 rfl 3 rfl 1543 rfl ?_
      refine ww_iload_n h dL_law_1543 rfl 0 rfl 1544 rfl ?_
      refine ww_iconst h dL_law_1544 (v := 2) (by decide) 1545 rfl ?_
      refine ww_iadd h dL_law_1545 1546 rfl ?_
      refine ww_scd h hX hbl hbA (hin 2 (by decide) (by decide)) ex1 dL_law_1546 1547 rfl ?_
      refine ww_aload_n h dL_law_1547 rfl 3 rfl 1548 rfl ?_
      refine ww_iload_n h dL_law_1548 rfl 0 rfl 1549 rfl ?_
      refine ww_iconst h dL_law_1549 (v := 3) (by decide) 1550 rfl ?_
      refine ww_iadd h dL_law_1550 1551 rfl ?_
      refine ww_scd h hX hbl hbA (hin 3 (by decide) (by decide)) ex2 dL_law_1551 1552 rfl ?_
      refine ww_if_eq h dL_law_1552 1559 (by decide) 1555 rfl (fun _ => ?_) (fun c => absurd hx c)
      refine ww_iconst h dL_law_1559 (v := 0) (by decide) 1560 rfl ?_
      refine ww_cVi h (c_X10_atEnds l D ev cy (o 28) (a 28) (Z 28) x0 x1 0 _ h2) ⟨w_1682, w_1679, w_1680, w_1681, w_111, ok_X10_atEnds⟩ ⟨by decide, by decide⟩ ⟨Nat.le_trans (Nat.le_add_right _ _) hk, Nat.le_trans (Nat.le_add_right _ _) hn⟩ ⟨rfl, rfl⟩ [13] (by simp only [pk_g, List.getElem?_cons_zero, List.getElem?_cons_succ, List.eraseIdx]) 0 rfl rfl rfl rfl (Nat.le_of_ble_eq_true rfl) dL_law_1560 1563 rfl (Gs' := (gX10 cy (o 28) (a 28) w.2 :: gX9 cy (o 0) (a 0) u.2.1 :: gX4 cy (a 0 2) (a 3) (Z 3) :: gX7 cy (a 0 5) (a 6) u.2.2.1 :: gX5 cy (a 0 7) (a 8) u.2.2.2.1 :: gX1 cy (o 10) (a 10) (Z 10) :: gX3 cy (a 0 (900 + 2)) (a (24 + 2)) u.2.2.2.2 :: gX0 cy (a 0 0) (a 1) (Z 1) :: gX0 cy (a 0 1) (a 2) (Z 2) :: gX4 cy (a 0 3) (a 4) (Z 4) :: gX2 cy (a 0 4) (a 5) (Z 5) :: gX7 cy (a 0 6) (a 7) (Z 7) :: gX8 cy (a 0 9) (a 9) (Z 9) :: gX1 cy (o 11) (a 11) (Z 11) :: gX3 cy (a 0 (900 + 0)) (a (24 + 0)) (Z (24 + 0)) :: gX3 cy (a 0 (900 + 1)) (a (24 + 1)) (Z (24 + 1)) :: gX3 cy (a 0 (900 + 3)) (a (24 + 3)) (Z (24 + 3)) :: pgs (WGp cy a aK B))) rfl ?_
      refine ww_icmp_eq h dL_law_1563 1591 (by decide) 1566 rfl (fun _ => ?_) (fun c => absurd h3.symm c)
      refine ww_kn (Nat.le_succ k) (Nat.le_add_right n 6) ?_
      refine ww_permT [1, 6, 6, 1, 5, 5, 1, 4, 1, 3, 1, 2, 0, 1, 1, 0, 0] (Cs := [gX9 cy (o 0) (a 0) u.2.1, gX0 cy (a 0 0) (a 1) (Z 1), gX0 cy (a 0 1) (a 2) (Z 2), gX4 cy (a 0 2) (a 3) (Z 3), gX4 cy (a 0 3) (a 4) (Z 4), gX2 cy (a 0 4) (a 5) (Z 5), gX7 cy (a 0 5) (a 6) u.2.2.1, gX7 cy (a 0 6) (a 7) (Z 7), gX5 cy (a 0 7) (a 8) u.2.2.2.1, gX8 cy (a 0 9) (a 9) (Z 9), gX1 cy (o 10) (a 10) (Z 10), gX1 cy (o 11) (a 11) (Z 11), gX10 cy (o 28) (a 28) w.2, gX3 cy (a 0 (900 + 0)) (a (24 + 0)) (Z (24 + 0)), gX3 cy (a 0 (900 + 1)) (a (24 + 1)) (Z (24 + 1)), gX3 cy (a 0 (900 + 2)) (a (24 + 2)) u.2.2.2.2, gX3 cy (a 0 (900 + 3)) (a (24 + 3)) (Z (24 + 3))]) (Rs := pgs (WGp cy a aK B)) (by simp only [pk_g, List.getElem?_cons_zero, List.getElem?_cons_succ, List.eraseIdx]) (Gs' := (gX9 cy (o 0) (a 0) u.2.1 :: gX0 cy (a 0 0) (a 1) (Z 1) :: gX0 cy (a 0 1) (a 2) (Z 2) :: gX4 cy (a 0 2) (a 3) (Z 3) :: gX4 cy (a 0 3) (a 4) (Z 4) :: gX2 cy (a 0 4) (a 5) (Z 5) :: gX7 cy (a 0 5) (a 6) u.2.2.1 :: gX7 cy (a 0 6) (a 7) (Z 7) :: gX5 cy (a 0 7) (a 8) u.2.2.2.1 :: gX8 cy (a 0 9) (a 9) (Z 9) :: gX1 cy (o 10) (a 10) (Z 10) :: gX1 cy (o 11) (a 11) (Z 11) :: gX10 cy (o 28) (a 28) w.2 :: gX3 cy (a 0 (900 + 0)) (a (24 + 0)) (Z (24 + 0)) :: gX3 cy (a 0 (900 + 1)) (a (24 + 1)) (Z (24 + 1)) :: gX3 cy (a 0 (900 + 2)) (a (24 + 2)) u.2.2.2.2 :: gX3 cy (a 0 (900 + 3)) (a (24 + 3)) (Z (24 + 3)) :: pgs (WGp cy a aK B))) rfl ?_
      exact kk _ _ _ _ _ h4
    · obtain ⟨u, w, h1, h2, h3, h4⟩ := hv
      show ww X D A 4 Q k n 1509 [(3, .int i), (2, .ref (o 28)), (1, .ref (o 0)), (0, .ref b)] [] (gX9 cy (o 0) (a 0) (Z 0) :: gX0 cy (a 0 0) (a 1) (Z 1) :: gX0 cy (a 0 1) (a 2) (Z 2) :: gX4 cy (a 0 2) (a 3) (Z 3) :: gX4 cy (a 0 3) (a 4) (Z 4) :: gX2 cy (a 0 4) (a 5) (Z 5) :: gX7 cy (a 0 5) (a 6) (Z 6) :: gX7 cy (a 0 6) (a 7) (Z 7) :: gX5 cy (a 0 7) (a 8) (Z 8) :: gX8 cy (a 0 9) (a 9) (Z 9) :: gX1 cy (o 10) (a 10) (Z 10) :: gX1 cy (o 11) (a 11) (Z 11) :: gX10 cy (o 28) (a 28) (Z 28) :: gX3 cy (a 0 (900 + 0)) (a (24 + 0)) (Z (24 + 0)) :: gX3 cy (a 0 (900 + 1)) (a (24 + 1)) (Z (24 + 1)) :: gX3 cy (a 0 (900 + 2)) (a (24 + 2)) (Z (24 + 2)) :: gX3 cy (a 0 (900 + 3)) (a (24 + 3)) (Z (24 + 3)) :: pgs (WGp cy a aK B))
      refine ww_aload_n h dL_law_1509 rfl 2 rfl 1510 rfl ?_
      refine ww_aload_n h dL_law_1510 rfl 3 rfl 1511 rfl ?_
      refine ww_iload_n h dL_law_1511 rfl 0 rfl 1512 rfl ?_
      refine ww_iconst h dL_law_1512 (v := 1) (by decide) 1513 rfl ?_
      refine ww_iadd h dL_law_1513 1514 rfl ?_
      refine ww_scd h hX hbl hbA (hin 1 (by decide) (by decide)) ex0 dL_law_1514 1515 rfl ?_
      refine ww_aload_n h dL_law_1515 rfl 3 rfl 1516 rfl ?_
      refine ww_iload_n h dL_law_1516 rfl 0 rfl 1517 rfl ?_
      refine ww_iconst h dL_law_1517 (v := 2) (by decide) 1518 rfl ?_
      refine ww_iadd h dL_law_1518 1519 rfl ?_
      refine ww_scd h hX hbl hbA (hin 2 (by decide) (by decide)) ex1 dL_law_1519 1520 rfl ?_
      refine ww_aload_n h dL_law_1520 rfl 3 rfl 1521 rfl ?_
      refine ww_iload_n h dL_law_1521 rfl 0 rfl 1522 rfl ?_
      refine ww_iconst h dL_law_1522 (v := 3) (by decide) 1523 rfl ?_
      refine ww_iadd h dL_law_1523 1524 rfl ?_
      refine ww_scd h hX hbl hbA (hin 3 (by decide) (by decide)) ex2 dL_law_1524 1525 rfl ?_
      refine ww_if_eq h dL_law_1525 1532 (by decide) 1528 rfl (fun _ => ?_) (fun c => absurd hx c)
      refine ww_iconst h dL_law_1532 (v := 0) (by decide) 1533 rfl ?_
      refine ww_cVi h (c_X9_atEnds l D ev cy (o 0) (a 0) (Z 0) (a 3) (Z 3) (a 6) (Z 6) (a 8) (Z 8) (o 10) (a 10) (Z 10) (a 0 (900 + 3)) (a (24 + 3)) (Z (24 + 3)) x0 x1 0 _ h1) ⟨w_1133, w_1130, w_1131, w_1132, w_101, ok_X9_atEnds⟩ ⟨by decide, by decide⟩ ⟨Nat.le_trans (Nat.le_add_right _ _) hk, Nat.le_trans (Nat.le_add_right _ _) hn⟩ ⟨rfl, rfl⟩ [0, 2, 4, 5, 6, 11] (by simp only [pk_g, List.getElem?_cons_zero, List.getElem?_cons_succ, List.eraseIdx]) 0 rfl rfl rfl rfl (Nat.le_of_ble_eq_true rfl) dL_law_1533 1536 rfl (Gs' := (gX9 cy (o 0) (a 0) u.2.1 :: gX4 cy (a 0 2) (a 3) (Z 3) :: gX7 cy (a 0 5) (a 6) u.2.2.1 :: gX5 cy (a 0 7) (a 8) u.2.2.2.1 :: gX1 cy (o 10) (a 10) (Z 10) :: gX3 cy (a 0 (900 + 3)) (a (24 + 3)) u.2.2.2.2 :: gX0 cy (a 0 0) (a 1) (Z 1) :: gX0 cy (a 0 1) (a 2) (Z 2) :: gX4 cy (a 0 3) (a 4) (Z 4) :: gX2 cy (a 0 4) (a 5) (Z 5) :: gX7 cy (a 0 6) (a 7) (Z 7) :: gX8 cy (a 0 9) (a 9) (Z 9) :: gX1 cy (o 11) (a 11) (Z 11) :: gX10 cy (o 28) (a 28) (Z 28) :: gX3 cy (a 0 (900 + 0)) (a (24 + 0)) (Z (24 + 0)) :: gX3 cy (a 0 (900 + 1)) (a (24 + 1)) (Z (24 + 1)) :: gX3 cy (a 0 (900 + 2)) (a (24 + 2)) (Z (24 + 2)) :: pgs (WGp cy a aK B))) rfl ?_
      refine ww_aload_n h dL_law_1536 rfl 1 rfl 1537 rfl ?_
      refine ww_aload_n h dL_law_1537 rfl 3 rfl 1538 rfl ?_
      refine ww_iload_n h dL_law_1538 rfl 0 rfl 1539 rfl ?_
      refine ww_iconst h dL_law_1539 (v := 1) (by decide) 1540 rfl ?_
      refine ww_iadd h dL_law_1540 1541 rfl ?_
      refine ww_scd h hX hbl hbA (hin 1 (by decide) (by decide)) ex0 dL_law_1541 1542 rfl ?_
      refine ww_aload_n h dL_law_1542 rfl 3 rfl 1543 rfl ?_
      refine ww_iload_n h dL_law_1543 rfl 0 rfl 1544 rfl ?_
      refine ww_iconst h dL_law_1544 (v := 2) (by decide) 1545 rfl ?_
      refine ww_iadd h dL_law_1545 1546 rfl ?_
      refine ww_scd h hX hbl hbA (hin 2 (by decide) (by decide)) ex1 dL_law_1546 1547 rfl ?_
      refine ww_aload_n h dL_law_1547 rfl 3 rfl 1548 rfl ?_
      refine ww_iload_n h dL_law_1548 rfl 0 rfl 1549 rfl ?_
      refine ww_iconst h dL_law_1549 (v := 3) (by decide) 1550 rfl ?_
      refine ww_iadd h dL_law_1550 1551 rfl ?_
      refine ww_scd h hX hbl hbA (hin 3 (by decide) (by decide)) ex2 dL_law_1551 1552 rfl ?_
      refine ww_if_eq h dL_law_1552 1559 (by decide) 1555 rfl (fun _ => ?_) (fun c => absurd hx c)
      refine ww_iconst h dL_law_1559 (v := 0) (by decide) 1560 rfl ?_
      refine ww_cVi h (c_X10_atEnds l D ev cy (o 28) (a 28) (Z 28) x0 x1 0 _ h2) ⟨w_1682, w_1679, w_1680, w_1681, w_111, ok_X10_atEnds⟩ ⟨by decide, by decide⟩ ⟨Nat.le_trans (Nat.le_add_right _ _) hk, Nat.le_trans (Nat.le_add_right _ _) hn⟩ ⟨rfl, rfl⟩ [13] (by simp only [pk_g, List.getElem?_cons_zero, List.getElem?_cons_succ, List.eraseIdx]) 0 rfl rfl rfl rfl (Nat.le_of_ble_eq_true rfl) dL_law_1560 1563 rfl (Gs' := (gX10 cy (o 28) (a 28) w.2 :: gX9 cy (o 0) (a 0) u.2.1 :: gX4 cy (a 0 2) (a 3) (Z 3) :: gX7 cy (a 0 5) (a 6) u.2.2.1 :: gX5 cy (a 0 7) (a 8) u.2.2.2.1 :: gX1 cy (o 10) (a 10) (Z 10) :: gX3 cy (a 0 (900 + 3)) (a (24 + 3)) u.2.2.2.2 :: gX0 cy (a 0 0) (a 1) (Z 1) :: gX0 cy (a 0 1) (a 2) (Z 2) :: gX4 cy (a 0 3) (a 4) (Z 4) :: gX2 cy (a 0 4) (a 5) (Z 5) :: gX7 cy (a 0 6) (a 7) (Z 7) :: gX8 cy (a 0 9) (a 9) (Z 9) :: gX1 cy (o 11) (a 11) (Z 11) :: gX3 cy (a 0 (900 + 0)) (a (24 + 0)) (Z (24 + 0)) :: gX3 cy (a 0 (900 + 1)) (a (24 + 1)) (Z (24 + 1)) :: gX3 cy (a 0 (900 + 2)) (a (24 + 2)) (Z (24 + 2)) :: pgs (WGp cy a aK B))) rfl ?_
      refine ww_icmp_eq h dL_law_1563 1591 (by decide) 1566 rfl (fun _ => ?_) (fun c => absurd h3.symm c)
      refine ww_kn (Nat.le_succ k) (Nat.le_add_right n 6) ?_
      refine ww_permT [1, 6, 6, 1, 5, 5, 1, 4, 1, 3, 1, 2, 0, 1, 1, 1, 0] (Cs := [gX9 cy (o 0) (a 0) u.2.1, gX0 cy (a 0 0) (a 1) (Z 1), gX0 cy (a 0 1) (a 2) (Z 2), gX4 cy (a 0 2) (a 3) (Z 3), gX4 cy (a 0 3) (a 4) (Z 4), gX2 cy (a 0 4) (a 5) (Z 5), gX7 cy (a 0 5) (a 6) u.2.2.1, gX7 cy (a 0 6) (a 7) (Z 7), gX5 cy (a 0 7) (a 8) u.2.2.2.1, gX8 cy (a 0 9) (a 9) (Z 9), gX1 cy (o 10) (a 10) (Z 10), gX1 cy (o 11) (a 11) (Z 11), gX10 cy (o 28) (a 28) w.2, gX3 cy (a 0 (900 + 0)) (a (24 + 0)) (Z (24 + 0)), gX3 cy (a 0 (900 + 1)) (a (24 + 1)) (Z (24 + 1)), gX3 cy (a 0 (900 + 2)) (a (24 + 2)) (Z (24 + 2)), gX3 cy (a 0 (900 + 3)) (a (24 + 3)) u.2.2.2.2]) (Rs := pgs (WGp cy a aK B)) (by simp only [pk_g, List.getElem?_cons_zero, List.getElem?_cons_succ, List.eraseIdx]) (Gs' := (gX9 cy (o 0) (a 0) u.2.1 :: gX0 cy (a 0 0) (a 1) (Z 1) :: gX0 cy (a 0 1) (a 2) (Z 2) :: gX4 cy (a 0 2) (a 3) (Z 3) :: gX4 cy (a 0 3) (a 4) (Z 4) :: gX2 cy (a 0 4) (a 5) (Z 5) :: gX7 cy (a 0 5) (a 6) u.2.2.1 :: gX7 cy (a 0 6) (a 7) (Z 7) :: gX5 cy (a 0 7) (a 8) u.2.2.2.1 :: gX8 cy (a 0 9) (a 9) (Z 9) :: gX1 cy (o 10) (a 10) (Z 10) :: gX1 cy (o 11) (a 11) (Z 11) :: gX10 cy (o 28) (a 28) w.2 :: gX3 cy (a 0 (900 + 0)) (a (24 + 0)) (Z (24 + 0)) :: gX3 cy (a 0 (900 + 1)) (a (24 + 1)) (Z (24 + 1)) :: gX3 cy (a 0 (900 + 2)) (a (24 + 2)) (Z (24 + 2)) :: gX3 cy (a 0 (900 + 3)) (a (24 + 3)) u.2.2.2.2 :: pgs (WGp cy a aK B))) rfl ?_
      exact kk _ _ _ _ _ h4
  · skip
    rcases ok o a aK Z B hI x0 x1 1 with hv | hv | hv | hv
    · obtain ⟨u, w, h1, h2, h3, h4⟩ := hv
      show ww X D A 4 Q k n 1509 [(3, .int i), (2, .ref (o 28)), (1, .ref (o 0)), (0, .ref b)] [] (gX9 cy (o 0) (a 0) (Z 0) :: gX0 cy (a 0 0) (a 1) (Z 1) :: gX0 cy (a 0 1) (a 2) (Z 2) :: gX4 cy (a 0 2) (a 3) (Z 3) :: gX4 cy (a 0 3) (a 4) (Z 4) :: gX2 cy (a 0 4) (a 5) (Z 5) :: gX7 cy (a 0 5) (a 6) (Z 6) :: gX7 cy (a 0 6) (a 7) (Z 7) :: gX5 cy (a 0 7) (a 8) (Z 8) :: gX8 cy (a 0 9) (a 9) (Z 9) :: gX1 cy (o 10) (a 10) (Z 10) :: gX1 cy (o 11) (a 11) (Z 11) :: gX10 cy (o 28) (a 28) (Z 28) :: gX3 cy (a 0 (900 + 0)) (a (24 + 0)) (Z (24 + 0)) :: gX3 cy (a 0 (900 + 1)) (a (24 + 1)) (Z (24 + 1)) :: gX3 cy (a 0 (900 + 2)) (a (24 + 2)) (Z (24 + 2)) :: gX3 cy (a 0 (900 + 3)) (a (24 + 3)) (Z (24 + 3)) :: pgs (WGp cy a aK B))
      refine ww_aload_n h dL_law_1509 rfl 2 rfl 1510 rfl ?_
      refine ww_aload_n h dL_law_1510 rfl 3 rfl 1511 rfl ?_
      refine ww_iload_n h dL_law_1511 rfl 0 rfl 1512 rfl ?_
      refine ww_iconst h dL_law_1512 (v := 1) (by decide) 1513 rfl ?_
      refine ww_iadd h dL_law_1513 1514 rfl ?_
      refine ww_scd h hX hbl hbA (hin 1 (by decide) (by decide)) ex0 dL_law_1514 1515 rfl ?_
      refine ww_aload_n h dL_law_1515 rfl 3 rfl 1516 rfl ?_
      refine ww_iload_n h dL_law_1516 rfl 0 rfl 1517 rfl ?_
      refine ww_iconst h dL_law_1517 (v := 2) (by decide) 1518 rfl ?_
      refine ww_iadd h dL_law_1518 1519 rfl ?_
      refine ww_scd h hX hbl hbA (hin 2 (by decide) (by decide)) ex1 dL_law_1519 1520 rfl ?_
      refine ww_aload_n h dL_law_1520 rfl 3 rfl 1521 rfl ?_
      refine ww_iload_n h dL_law_1521 rfl 0 rfl 1522 rfl ?_
      refine ww_iconst h dL_law_1522 (v := 3) (by decide) 1523 rfl ?_
      refine ww_iadd h dL_law_1523 1524 rfl ?_
      refine ww_scd h hX hbl hbA (hin 3 (by decide) (by decide)) ex2 dL_law_1524 1525 rfl ?_
      refine ww_if_eq h dL_law_1525 1532 (by decide) 1528 rfl (fun c => absurd c hx) (fun _ => ?_)
      refine ww_iconst h dL_law_1528 (v := 1) (by decide) 1529 rfl ?_
      refine ww_goto h dL_law_1529 1533 (by decide) ?_
      refine ww_cVi h (c_X9_atEnds l D ev cy (o 0) (a 0) (Z 0) (a 3) (Z 3) (a 6) (Z 6) (a 8) (Z 8) (o 10) (a 10) (Z 10) (a 0 (900 + 0)) (a (24 + 0)) (Z (24 + 0)) x0 x1 1 _ h1) ⟨w_1133, w_1130, w_1131, w_1132, w_101, ok_X9_atEnds⟩ ⟨by decide, by decide⟩ ⟨Nat.le_trans (Nat.le_add_right _ _) hk, Nat.le_trans (Nat.le_add_right _ _) hn⟩ ⟨rfl, rfl⟩ [0, 2, 4, 5, 6, 8] (by simp only [pk_g, List.getElem?_cons_zero, List.getElem?_cons_succ, List.eraseIdx]) 0 rfl rfl rfl rfl (Nat.le_of_ble_eq_true rfl) dL_law_1533 1536 rfl (Gs' := (gX9 cy (o 0) (a 0) u.2.1 :: gX4 cy (a 0 2) (a 3) (Z 3) :: gX7 cy (a 0 5) (a 6) u.2.2.1 :: gX5 cy (a 0 7) (a 8) u.2.2.2.1 :: gX1 cy (o 10) (a 10) (Z 10) :: gX3 cy (a 0 (900 + 0)) (a (24 + 0)) u.2.2.2.2 :: gX0 cy (a 0 0) (a 1) (Z 1) :: gX0 cy (a 0 1) (a 2) (Z 2) :: gX4 cy (a 0 3) (a 4) (Z 4) :: gX2 cy (a 0 4) (a 5) (Z 5) :: gX7 cy (a 0 6) (a 7) (Z 7) :: gX8 cy (a 0 9) (a 9) (Z 9) :: gX1 cy (o 11) (a 11) (Z 11) :: gX10 cy (o 28) (a 28) (Z 28) :: gX3 cy (a 0 (900 + 1)) (a (24 + 1)) (Z (24 + 1)) :: gX3 cy (a 0 (900 + 2)) (a (24 + 2)) (Z (24 + 2)) :: gX3 cy (a 0 (900 + 3)) (a (24 + 3)) (Z (24 + 3)) :: pgs (WGp cy a aK B))) rfl ?_
      refine ww_aload_n h dL_law_1536 rfl 1 rfl 1537 rfl ?_
      refine ww_aload_n h dL_law_1537 rfl 3 rfl 1538 rfl ?_
      refine ww_iload_n h dL_law_1538 rfl 0 rfl 1539 rfl ?_
      refine ww_iconst h dL_law_1539 (v := 1) (by decide) 1540 rfl ?_
      refine ww_iadd h dL_law_1540 1541 rfl ?_
      refine ww_scd h hX hbl hbA (hin 1 (by decide) (by decide)) ex0 dL_law_1541 1542 rfl ?_
      refine ww_aload_n h dL_law_1542 rfl 3 rfl 1543 rfl ?_
      refine ww_iload_n h dL_law_1543 rfl 0 rfl 1544 rfl ?_
      refine ww_iconst h dL_law_1544 (v := 2) (by decide) 1545 rfl ?_
      refine ww_iadd h dL_law_1545 1546 rfl ?_
      refine ww_scd h hX hbl hbA (hin 2 (by decide) (by decide)) ex1 dL_law_1546 1547 rfl ?_
      refine ww_aload_n h dL_law_1547 rfl 3 rfl 1548 rfl ?_
      refine ww_iload_n h dL_law_1548 rfl 0 rfl 1549 rfl ?_
      refine ww_iconst h dL_law_1549 (v := 3) (by decide) 1550 rfl ?_
      refine ww_iadd h dL_law_1550 1551 rfl ?_
      refine ww_scd h hX hbl hbA (hin 3 (by decide) (by decide)) ex2 dL_law_1551 1552 rfl ?_
      refine ww_if_eq h dL_law_1552 1559 (by decide) 1555 rfl (fun c => absurd c hx) (fun _ => ?_)
      refine ww_iconst h dL_law_1555 (v := 1) (by decide) 1556 rfl ?_
      refine ww_goto h dL_law_1556 1560 (by decide) ?_
      refine ww_cVi h (c_X10_atEnds l D ev cy (o 28) (a 28) (Z 28) x0 x1 1 _ h2) ⟨w_1682, w_1679, w_1680, w_1681, w_111, ok_X10_atEnds⟩ ⟨by decide, by decide⟩ ⟨Nat.le_trans (Nat.le_add_right _ _) hk, Nat.le_trans (Nat.le_add_right _ _) hn⟩ ⟨rfl, rfl⟩ [13] (by simp only [pk_g, List.getElem?_cons_zero, List.getElem?_cons_succ, List.eraseIdx]) 0 rfl rfl rfl rfl (Nat.le_of_ble_eq_true rfl) dL_law_1560 1563 rfl (Gs' := (gX10 cy (o 28) (a 28) w.2 :: gX9 cy (o 0) (a 0) u.2.1 :: gX4 cy (a 0 2) (a 3) (Z 3) :: gX7 cy (a 0 5) (a 6) u.2.2.1 :: gX5 cy (a 0 7) (a 8) u.2.2.2.1 :: gX1 cy (o 10) (a 10) (Z 10) :: gX3 cy (a 0 (900 + 0)) (a (24 + 0)) u.2.2.2.2 :: gX0 cy (a 0 0) (a 1) (Z 1) :: gX0 cy (a 0 1) (a 2) (Z 2) :: gX4 cy (a 0 3) (a 4) (Z 4) :: gX2 cy (a 0 4) (a 5) (Z 5) :: gX7 cy (a 0 6) (a 7) (Z 7) :: gX8 cy (a 0 9) (a 9) (Z 9) :: gX1 cy (o 11) (a 11) (Z 11) :: gX3 cy (a 0 (900 + 1)) (a (24 + 1)) (Z (24 + 1)) :: gX3 cy (a 0 (900 + 2)) (a (24 + 2)) (Z (24 + 2)) :: gX3 cy (a 0 (900 + 3)) (a (24 + 3)) (Z (24 + 3)) :: pgs (WGp cy a aK B))) rfl ?_
      refine ww_icmp_eq h dL_law_1563 1591 (by decide) 1566 rfl (fun _ => ?_) (fun c => absurd h3.symm c)
      refine ww_kn (Nat.le_succ k) (Nat.le_add_right n 6) ?_
      refine ww_permT [1, 6, 6, 1, 5, 5, 1, 4, 1, 3, 1, 2, 0, 0, 0, 0, 0] (Cs := [gX9 cy (o 0) (a 0) u.2.1, gX0 cy (a 0 0) (a 1) (Z 1), gX0 cy (a 0 1) (a 2) (Z 2), gX4 cy (a 0 2) (a 3) (Z 3), gX4 cy (a 0 3) (a 4) (Z 4), gX2 cy (a 0 4) (a 5) (Z 5), gX7 cy (a 0 5) (a 6) u.2.2.1, gX7 cy (a 0 6) (a 7) (Z 7), gX5 cy (a 0 7) (a 8) u.2.2.2.1, gX8 cy (a 0 9) (a 9) (Z 9), gX1 cy (o 10) (a 10) (Z 10), gX1 cy (o 11) (a 11) (Z 11), gX10 cy (o 28) (a 28) w.2, gX3 cy (a 0 (900 + 0)) (a (24 + 0)) u.2.2.2.2, gX3 cy (a 0 (900 + 1)) (a (24 + 1)) (Z (24 + 1)), gX3 cy (a 0 (900 + 2)) (a (24 + 2)) (Z (24 + 2)), gX3 cy (a 0 (900 + 3)) (a (24 + 3)) (Z (24 + 3))]) (Rs := pgs (WGp cy a aK B)) (by simp only [pk_g, List.getElem?_cons_zero, List.getElem?_cons_succ, List.eraseIdx]) (Gs' := (gX9 cy (o 0) (a 0) u.2.1 :: gX0 cy (a 0 0) (a 1) (Z 1) :: gX0 cy (a 0 1) (a 2) (Z 2) :: gX4 cy (a 0 2) (a 3) (Z 3) :: gX4 cy (a 0 3) (a 4) (Z 4) :: gX2 cy (a 0 4) (a 5) (Z 5) :: gX7 cy (a 0 5) (a 6) u.2.2.1 :: gX7 cy (a 0 6) (a 7) (Z 7) :: gX5 cy (a 0 7) (a 8) u.2.2.2.1 :: gX8 cy (a 0 9) (a 9) (Z 9) :: gX1 cy (o 10) (a 10) (Z 10) :: gX1 cy (o 11) (a 11) (Z 11) :: gX10 cy (o 28) (a 28) w.2 :: gX3 cy (a 0 (900 + 0)) (a (24 + 0)) u.2.2.2.2 :: gX3 cy (a 0 (900 + 1)) (a (24 + 1)) (Z (24 + 1)) :: gX3 cy (a 0 (900 + 2)) (a (24 + 2)) (Z (24 + 2)) :: gX3 cy (a 0 (900 + 3)) (a (24 + 3)) (Z (24 + 3)) :: pgs (WGp cy a aK B))) rfl ?_
      exact kk _ _ _ _ _ h4
    · obtain ⟨u, w, h1, h2, h3, h4⟩ := hv
      show ww X D A 4 Q k n 1509 [(3, .int i), (2, .ref (o 28)), (1, .ref (o 0)), (0, .ref b)] [] (gX9 cy (o 0) (a 0) (Z 0) :: gX0 cy (a 0 0) (a 1) (Z 1) :: gX0 cy (a 0 1) (a 2) (Z 2) :: gX4 cy (a 0 2) (a 3) (Z 3) :: gX4 cy (a 0 3) (a 4) (Z 4) :: gX2 cy (a 0 4) (a 5) (Z 5) :: gX7 cy (a 0 5) (a 6) (Z 6) :: gX7 cy (a 0 6) (a 7) (Z 7) :: gX5 cy (a 0 7) (a 8) (Z 8) :: gX8 cy (a 0 9) (a 9) (Z 9) :: gX1 cy (o 10) (a 10) (Z 10) :: gX1 cy (o 11) (a 11) (Z 11) :: gX10 cy (o 28) (a 28) (Z 28) :: gX3 cy (a 0 (900 + 0)) (a (24 + 0)) (Z (24 + 0)) :: gX3 cy (a 0 (900 + 1)) (a (24 + 1)) (Z (24 + 1)) :: gX3 cy (a 0 (900 + 2)) (a (24 + 2)) (Z (24 + 2)) :: gX3 cy (a 0 (900 + 3)) (a (24 + 3)) (Z (24 + 3)) :: pgs (WGp cy a aK B))
      refine ww_aload_n h dL_law_1509 rfl 2 rfl 1510 rfl ?_
      refine ww_aload_n h dL_law_1510 rfl 3 rfl 1511 rfl ?_
      refine ww_iload_n h dL_law_1511 rfl 0 rfl 1512 rfl ?_
      refine ww_iconst h dL_law_1512 (v := 1) (by decide) 1513 rfl ?_
      refine ww_iadd h dL_law_1513 1514 rfl ?_
      refine ww_scd h hX hbl hbA (hin 1 (by decide) (by decide)) ex0 dL_law_1514 1515 rfl ?_
      refine ww_aload_n h dL_law_1515 rfl 3 rfl 1516 rfl ?_
      refine ww_iload_n h dL_law_1516 rfl 0 rfl 1517 rfl ?_
      refine ww_iconst h dL_law_1517 (v := 2) (by decide) 1518 rfl ?_
      refine ww_iadd h dL_law_1518 1519 rfl ?_
      refine ww_scd h hX hbl hbA (hin 2 (by decide) (by decide)) ex1 dL_law_1519 1520 rfl ?_
      refine ww_aload_n h dL_law_1520 rfl 3 rfl 1521 rfl ?_
      refine ww_iload_n h dL_law_1521 rfl 0 rfl 1522 rfl ?_
      refine ww_iconst h dL_law_1522 (v := 3) (by decide) 1523 rfl ?_
      refine ww_iadd h dL_law_1523 1524 rfl ?_
      refine ww_scd h hX hbl hbA (hin 3 (by decide) (by decide)) ex2 dL_law_1524 1525 rfl ?_
      refine ww_if_eq h dL_law_1525 1532 (by decide) 1528 rfl (fun c => absurd c hx) (fun _ => ?_)
      refine ww_iconst h dL_law_1528 (v := 1) (by decide) 1529 rfl ?_
      refine ww_goto h dL_law_1529 1533 (by decide) ?_
      refine ww_cVi h (c_X9_atEnds l D ev cy (o 0) (a 0) (Z 0) (a 3) (Z 3) (a 6) (Z 6) (a 8) (Z 8) (o 10) (a 10) (Z 10) (a 0 (900 + 1)) (a (24 + 1)) (Z (24 + 1)) x0 x1 1 _ h1) ⟨w_1133, w_1130, w_1131, w_1132, w_101, ok_X9_atEnds⟩ ⟨by decide, by decide⟩ ⟨Nat.le_trans (Nat.le_add_right _ _) hk, Nat.le_trans (Nat.le_add_right _ _) hn⟩ ⟨rfl, rfl⟩ [0, 2, 4, 5, 6, 9] (by simp only [pk_g, List.getElem?_cons_zero, List.getElem?_cons_succ, List.eraseIdx]) 0 rfl rfl rfl rfl (Nat.le_of_ble_eq_true rfl) dL_law_1533 1536 rfl (Gs' := (gX9 cy (o 0) (a 0) u.2.1 :: gX4 cy (a 0 2) (a 3) (Z 3) :: gX7 cy (a 0 5) (a 6) u.2.2.1 :: gX5 cy (a 0 7) (a 8) u.2.2.2.1 :: gX1 cy (o 10) (a 10) (Z 10) :: gX3 cy (a 0 (900 + 1)) (a (24 + 1)) u.2.2.2.2 :: gX0 cy (a 0 0) (a 1) (Z 1) :: gX0 cy (a 0 1) (a 2) (Z 2) :: gX4 cy (a 0 3) (a 4) (Z 4) :: gX2 cy (a 0 4) (a 5) (Z 5) :: gX7 cy (a 0 6) (a 7) (Z 7) :: gX8 cy (a 0 9) (a 9) (Z 9) :: gX1 cy (o 11) (a 11) (Z 11) :: gX10 cy (o 28) (a 28) (Z 28) :: gX3 cy (a 0 (900 + 0)) (a (24 + 0)) (Z (24 + 0)) :: gX3 cy (a 0 (900 + 2)) (a (24 + 2)) (Z (24 + 2)) :: gX3 cy (a 0 (900 + 3)) (a (24 + 3)) (Z (24 + 3)) :: pgs (WGp cy a aK B))) rfl ?_
      refine ww_aload_n h dL_law_1536 rfl 1 rfl 1537 rfl ?_
      refine ww_aload_n h dL_law_1537 rfl 3 rfl 1538 rfl ?_
      refine ww_iload_n h dL_law_1538 rfl 0 rfl 1539 rfl ?_
      refine ww_iconst h dL_law_1539 (v := 1) (by decide) 1540 rfl ?_
      refine ww_iadd h dL_law_1540 1541 rfl ?_
      refine ww_scd h hX hbl hbA (hin 1 (by decide) (by decide)) ex0 dL_law_1541 1542 rfl ?_
      refine ww_aload_n h dL_law_1542 rfl 3 rfl 1543 rfl ?_
      refine ww_iload_n h dL_law_1543 rfl 0 rfl 1544 rfl ?_
      refine ww_iconst h dL_law_1544 (v := 2) (by decide) 1545 rfl ?_
      refine ww_iadd h dL_law_1545 1546 rfl ?_
      refine ww_scd h hX hbl hbA (hin 2 (by decide) (by decide)) ex1 dL_law_1546 1547 rfl ?_
      refine ww_aload_n h dL_law_1547 rfl 3 rfl 1548 rfl ?_
      refine ww_iload_n h dL_law_1548 rfl 0 rfl 1549 rfl ?_
      refine ww_iconst h dL_law_1549 (v := 3) (by decide) 1550 rfl ?_
      refine ww_iadd h dL_law_1550 1551 rfl ?_
      refine ww_scd h hX hbl hbA (hin 3 (by decide) (by decide)) ex2 dL_law_1551 1552 rfl ?_
      refine ww_if_eq h dL_law_1552 1559 (by decide) 1555 rfl (fun c => absurd c hx) (fun _ => ?_)
      refine ww_iconst h dL_law_1555 (v := 1) (by decide) 1556 rfl ?_
      refine ww_goto h dL_law_1556 1560 (by decide) ?_
      refine ww_cVi h (c_X10_atEnds l D ev cy (o 28) (a 28) (Z 28) x0 x1 1 _ h2) ⟨w_1682, w_1679, w_1680, w_1681, w_111, ok_X10_atEnds⟩ ⟨by decide, by decide⟩ ⟨Nat.le_trans (Nat.le_add_right _ _) hk, Nat.le_trans (Nat.le_add_right _ _) hn⟩ ⟨rfl, rfl⟩ [13] (by simp only [pk_g, List.getElem?_cons_zero, List.getElem?_cons_succ, List.eraseIdx]) 0 rfl rfl rfl rfl (Nat.le_of_ble_eq_true rfl) dL_law_1560 1563 rfl (Gs' := (gX10 cy (o 28) (a 28) w.2 :: gX9 cy (o 0) (a 0) u.2.1 :: gX4 cy (a 0 2) (a 3) (Z 3) :: gX7 cy (a 0 5) (a 6) u.2.2.1 :: gX5 cy (a 0 7) (a 8) u.2.2.2.1 :: gX1 cy (o 10) (a 10) (Z 10) :: gX3 cy (a 0 (900 + 1)) (a (24 + 1)) u.2.2.2.2 :: gX0 cy (a 0 0) (a 1) (Z 1) :: gX0 cy (a 0 1) (a 2) (Z 2) :: gX4 cy (a 0 3) (a 4) (Z 4) :: gX2 cy (a 0 4) (a 5) (Z 5) :: gX7 cy (a 0 6) (a 7) (Z 7) :: gX8 cy (a 0 9) (a 9) (Z 9) :: gX1 cy (o 11) (a 11) (Z 11) :: gX3 cy (a 0 (900 + 0)) (a (24 + 0)) (Z (24 + 0)) :: gX3 cy (a 0 (900 + 2)) (a (24 + 2)) (Z (24 + 2)) :: gX3 cy (a 0 (900 + 3)) (a (24 + 3)) (Z (24 + 3)) :: pgs (WGp cy a aK B))) rfl ?_
      refine ww_icmp_eq h dL_law_1563 1591 (by decide) 1566 rfl (fun _ => ?_) (fun c => absurd h3.symm c)
      refine ww_kn (Nat.le_succ k) (Nat.le_add_right n 6) ?_
      refine ww_permT [1, 6, 6, 1, 5, 5, 1, 4, 1, 3, 1, 2, 0, 1, 0, 0, 0] (Cs := [gX9 cy (o 0) (a 0) u.2.1, gX0 cy (a 0 0) (a 1) (Z 1), gX0 cy (a 0 1) (a 2) (Z 2), gX4 cy (a 0 2) (a 3) (Z 3), gX4 cy (a 0 3) (a 4) (Z 4), gX2 cy (a 0 4) (a 5) (Z 5), gX7 cy (a 0 5) (a 6) u.2.2.1, gX7 cy (a 0 6) (a 7) (Z 7), gX5 cy (a 0 7) (a 8) u.2.2.2.1, gX8 cy (a 0 9) (a 9) (Z 9), gX1 cy (o 10) (a 10) (Z 10), gX1 cy (o 11) (a 11) (Z 11), gX10 cy (o 28) (a 28) w.2, gX3 cy (a 0 (900 + 0)) (a (24 + 0)) (Z (24 + 0)), gX3 cy (a 0 (900 + 1)) (a (24 + 1)) u.2.2.2.2, gX3 cy (a 0 (900 + 2)) (a (24 + 2)) (Z (24 + 2)), gX3 cy (a 0 (900 + 3)) (a (24 + 3)) (Z (24 + 3))]) (Rs := pgs (WGp cy a aK B)) (by simp only [pk_g, List.getElem?_cons_zero, List.getElem?_cons_succ, List.eraseIdx]) (Gs' := (gX9 cy (o 0) (a 0) u.2.1 :: gX0 cy (a 0 0) (a 1) (Z 1) :: gX0 cy (a 0 1) (a 2) (Z 2) :: gX4 cy (a 0 2) (a 3) (Z 3) :: gX4 cy (a 0 3) (a 4) (Z 4) :: gX2 cy (a 0 4) (a 5) (Z 5) :: gX7 cy (a 0 5) (a 6) u.2.2.1 :: gX7 cy (a 0 6) (a 7) (Z 7) :: gX5 cy (a 0 7) (a 8) u.2.2.2.1 :: gX8 cy (a 0 9) (a 9) (Z 9) :: gX1 cy (o 10) (a 10) (Z 10) :: gX1 cy (o 11) (a 11) (Z 11) :: gX10 cy (o 28) (a 28) w.2 :: gX3 cy (a 0 (900 + 0)) (a (24 + 0)) (Z (24 + 0)) :: gX3 cy (a 0 (900 + 1)) (a (24 + 1)) u.2.2.2.2 :: gX3 cy (a 0 (900 + 2)) (a (24 + 2)) (Z (24 + 2)) :: gX3 cy (a 0 (900 + 3)) (a (24 + 3)) (Z (24 + 3)) :: pgs (WGp cy a aK B))) rfl ?_
      exact kk _ _ _ _ _ h4
    · obtain ⟨u, w, h1, h2, h3, h4⟩ := hv
      show ww X D A 4 Q k n 1509 [(3, .int i), (2, .ref (o 28)), (1, .ref (o 0)), (0, .ref b)] [] (gX9 cy (o 0) (a 0) (Z 0) :: gX0 cy (a 0 0) (a 1) (Z 1) :: gX0 cy (a 0 1) (a 2) (Z 2) :: gX4 cy (a 0 2) (a 3) (Z 3) :: gX4 cy (a 0 3) (a 4) (Z 4) :: gX2 cy (a 0 4) (a 5) (Z 5) :: gX7 cy (a 0 5) (a 6) (Z 6) :: gX7 cy (a 0 6) (a 7) (Z 7) :: gX5 cy (a 0 7) (a 8) (Z 8) :: gX8 cy (a 0 9) (a 9) (Z 9) :: gX1 cy (o 10) (a 10) (Z 10) :: gX1 cy (o 11) (a 11) (Z 11) :: gX10 cy (o 28) (a 28) (Z 28) :: gX3 cy (a 0 (900 + 0)) (a (24 + 0)) (Z (24 + 0)) :: gX3 cy (a 0 (900 + 1)) (a (24 + 1)) (Z (24 + 1)) :: gX3 cy (a 0 (900 + 2)) (a (24 + 2)) (Z (24 + 2)) :: gX3 cy (a 0 (900 + 3)) (a (24 + 3)) (Z (24 + 3)) :: pgs (WGp cy a aK B))
      refine ww_aload_n h dL_law_1509 rfl 2 rfl 1510 rfl ?_
      refine ww_aload_n h dL_law_1510 rfl 3 rfl 1511 rfl ?_
      refine ww_iload_n h dL_law_1511 rfl 0 rfl 1512 rfl ?_
      refine ww_iconst h dL_law_1512 (v := 1) (by decide) 1513 rfl ?_
      refine ww_iadd h dL_law_1513 1514 rfl ?_
      refine ww_scd h hX hbl hbA (hin 1 (by decide) (by decide)) ex0 dL_law_1514 1515 rfl ?_
      refine ww_aload_n h dL_law_1515 rfl 3 rfl 1516 rfl ?_
      refine ww_iload_n h dL_law_1516 rfl 0 rfl 1517 rfl ?_
      refine ww_iconst h dL_law_1517 (v := 2) (by decide) 1518 rfl ?_
      refine ww_iadd h dL_law_1518 1519 rfl ?_
      refine ww_scd h hX hbl hbA (hin 2 (by decide) (by decide)) ex1 dL_law_1519 1520 rfl ?_
      refine ww_aload_n h dL_law_1520 rfl 3 rfl 1521 rfl ?_
      refine ww_iload_n h dL_law_1521 rfl 0 rfl 1522 rfl ?_
      refine ww_iconst h dL_law_1522 (v := 3) (by decide) 1523 rfl ?_
      refine ww_iadd h dL_law_1523 1524 rfl ?_
      refine ww_scd h hX hbl hbA (hin 3 (by decide) (by decide)) ex2 dL_law_1524 1525 rfl ?_
      refine ww_if_eq h dL_law_1525 1532 (by decide) 1528 rfl (fun c => absurd c hx) (fun _ => ?_)
      refine ww_iconst h dL_law_1528 (v := 1) (by decide) 1529 rfl ?_
      refine ww_goto h dL_law_1529 1533 (by decide) ?_
      refine ww_cVi h (c_X9_atEnds l D ev cy (o 0) (a 0) (Z 0) (a 3) (Z 3) (a 6) (Z 6) (a 8) (Z 8) (o 10) (a 10) (Z 10) (a 0 (900 + 2)) (a (24 + 2)) (Z (24 + 2)) x0 x1 1 _ h1) ⟨w_1133, w_1130, w_1131, w_1132, w_101, ok_X9_atEnds⟩ ⟨by decide, by decide⟩ ⟨Nat.le_trans (Nat.le_add_right _ _) hk, Nat.le_trans (Nat.le_add_right _ _) hn⟩ ⟨rfl, rfl⟩ [0, 2, 4, 5, 6, 10] (by simp only [pk_g, List.getElem?_cons_zero, List.getElem?_cons_succ, List.eraseIdx]) 0 rfl rfl rfl rfl (Nat.le_of_ble_eq_true rfl) dL_law_1533 1536 rfl (Gs' := (gX9 cy (o 0) (a 0) u.2.1 :: gX4 cy (a 0 2) (a 3) (Z 3) :: gX7 cy (a 0 5) (a 6) u.2.2.1 :: gX5 cy (a 0 7) (a 8) u.2.2.2.1 :: gX1 cy (o 10) (a 10) (Z 10) :: gX3 cy (a 0 (900 + 2)) (a (24 + 2)) u.2.2.2.2 :: gX0 cy (a 0 0) (a 1) (Z 1) :: gX0 cy (a 0 1) (a 2) (Z 2) :: gX4 cy (a 0 3) (a 4) (Z 4) :: gX2 cy (a 0 4) (a 5) (Z 5) :: gX7 cy (a 0 6) (a 7) (Z 7) :: gX8 cy (a 0 9) (a 9) (Z 9) :: gX1 cy (o 11) (a 11) (Z 11) :: gX10 cy (o 28) (a 28) (Z 28) :: gX3 cy (a 0 (900 + 0)) (a (24 + 0)) (Z (24 + 0)) :: gX3 cy (a 0 (900 + 1)) (a (24 + 1)) (Z (24 + 1)) :: gX3 cy (a 0 (900 + 3)) (a (24 + 3)) (Z (24 + 3)) :: pgs (WGp cy a aK B))) rfl ?_
      refine ww_aload_n h dL_law_1536 rfl 1 rfl 1537 rfl ?_
      refine ww_aload_n h dL_law_1537 rfl 3 rfl 1538 rfl ?_
      refine ww_iload_n h dL_law_1538 rfl 0 rfl 1539 rfl ?_
      refine ww_iconst h dL_law_1539 (v := 1) (by decide) 1540 rfl ?_
      refine ww_iadd h dL_law_1540 1541 rfl ?_
      refine ww_scd h hX hbl hbA (hin 1 (by decide) (by decide)) ex0 dL_law_1541 1542 rfl ?_
      refine ww_aload_n h dL_law_1542 rfl 3 rfl 1543 rfl ?_
      refine ww_iload_n h dL_law_1543 rfl 0 rfl 1544 rfl ?_
      refine ww_iconst h dL_law_1544 (v := 2) (by decide) 1545 rfl ?_
      refine ww_iadd h dL_law_1545 1546 rfl ?_
      refine ww_scd h hX hbl hbA (hin 2 (by decide) (by decide)) ex1 dL_law_1546 1547 rfl ?_
      refine ww_aload_n h dL_law_1547 rfl 3 rfl 1548 rfl ?_
      refine ww_iload_n h dL_law_1548 rfl 0 rfl 1549 rfl ?_
      refine ww_iconst h dL_law_1549 (v := 3) (by decide) 1550 rfl ?_
      refine ww_iadd h dL_law_1550 1551 rfl ?_
      refine ww_scd h hX hbl hbA (hin 3 (by decide) (by decide)) ex2 dL_law_1551 1552 rfl ?_
      refine ww_if_eq h dL_law_1552 1559 (by decide) 1555 rfl (fun c => absurd c hx) (fun _ => ?_)
      refine ww_iconst h dL_law_1555 (v := 1) (by decide) 1556 rfl ?_
      refine ww_goto h dL_law_1556 1560 (by decide) ?_
      refine ww_cVi h (c_X10_atEnds l D ev cy (o 28) (a 28) (Z 28) x0 x1 1 _ h2) ⟨w_1682, w_1679, w_1680, w_1681, w_111, ok_X10_atEnds⟩ ⟨by decide, by decide⟩ ⟨Nat.le_trans (Nat.le_add_right _ _) hk, Nat.le_trans (Nat.le_add_right _ _) hn⟩ ⟨rfl, rfl⟩ [13] (by simp only [pk_g, List.getElem?_cons_zero, List.getElem?_cons_succ, List.eraseIdx]) 0 rfl rfl rfl rfl (Nat.le_of_ble_eq_true rfl) dL_law_1560 1563 rfl (Gs' := (gX10 cy (o 28) (a 28) w.2 :: gX9 cy (o 0) (a 0) u.2.1 :: gX4 cy (a 0 2) (a 3) (Z 3) :: gX7 cy (a 0 5) (a 6) u.2.2.1 :: gX5 cy (a 0 7) (a 8) u.2.2.2.1 :: gX1 cy (o 10) (a 10) (Z 10) :: gX3 cy (a 0 (900 + 2)) (a (24 + 2)) u.2.2.2.2 :: gX0 cy (a 0 0) (a 1) (Z 1) :: gX0 cy (a 0 1) (a 2) (Z 2) :: gX4 cy (a 0 3) (a 4) (Z 4) :: gX2 cy (a 0 4) (a 5) (Z 5) :: gX7 cy (a 0 6) (a 7) (Z 7) :: gX8 cy (a 0 9) (a 9) (Z 9) :: gX1 cy (o 11) (a 11) (Z 11) :: gX3 cy (a 0 (900 + 0)) (a (24 + 0)) (Z (24 + 0)) :: gX3 cy (a 0 (900 + 1)) (a (24 + 1)) (Z (24 + 1)) :: gX3 cy (a 0 (900 + 3)) (a (24 + 3)) (Z (24 + 3)) :: pgs (WGp cy a aK B))) rfl ?_
      refine ww_icmp_eq h dL_law_1563 1591 (by decide) 1566 rfl (fun _ => ?_) (fun c => absurd h3.symm c)
      refine ww_kn (Nat.le_succ k) (Nat.le_add_right n 6) ?_
      refine ww_permT [1, 6, 6, 1, 5, 5, 1, 4, 1, 3, 1, 2, 0, 1, 1, 0, 0] (Cs := [gX9 cy (o 0) (a 0) u.2.1, gX0 cy (a 0 0) (a 1) (Z 1), gX0 cy (a 0 1) (a 2) (Z 2), gX4 cy (a 0 2) (a 3) (Z 3), gX4 cy (a 0 3) (a 4) (Z 4), gX2 cy (a 0 4) (a 5) (Z 5), gX7 cy (a 0 5) (a 6) u.2.2.1, gX7 cy (a 0 6) (a 7) (Z 7), gX5 cy (a 0 7) (a 8) u.2.2.2.1, gX8 cy (a 0 9) (a 9) (Z 9), gX1 cy (o 10) (a 10) (Z 10), gX1 cy (o 11) (a 11) (Z 11), gX10 cy (o 28) (a 28) w.2, gX3 cy (a 0 (900 + 0)) (a (24 + 0)) (Z (24 + 0)), gX3 cy (a 0 (900 + 1)) (a (24 + 1)) (Z (24 + 1)), gX3 cy (a 0 (900 + 2)) (a (24 + 2)) u.2.2.2.2, gX3 cy (a 0 (900 + 3)) (a (24 + 3)) (Z (24 + 3))]) (Rs := pgs (WGp cy a aK B)) (by simp only [pk_g, List.getElem?_cons_zero, List.getElem?_cons_succ, List.eraseIdx]) (Gs' := (gX9 cy (o 0) (a 0) u.2.1 :: gX0 cy (a 0 0) (a 1) (Z 1) :: gX0 cy (a 0 1) (a 2) (Z 2) :: gX4 cy (a 0 2) (a 3) (Z 3) :: gX4 cy (a 0 3) (a 4) (Z 4) :: gX2 cy (a 0 4) (a 5) (Z 5) :: gX7 cy (a 0 5) (a 6) u.2.2.1 :: gX7 cy (a 0 6) (a 7) (Z 7) :: gX5 cy (a 0 7) (a 8) u.2.2.2.1 :: gX8 cy (a 0 9) (a 9) (Z 9) :: gX1 cy (o 10) (a 10) (Z 10) :: gX1 cy (o 11) (a 11) (Z 11) :: gX10 cy (o 28) (a 28) w.2 :: gX3 cy (a 0 (900 + 0)) (a (24 + 0)) (Z (24 + 0)) :: gX3 cy (a 0 (900 + 1)) (a (24 + 1)) (Z (24 + 1)) :: gX3 cy (a 0 (900 + 2)) (a (24 + 2)) u.2.2.2.2 :: gX3 cy (a 0 (900 + 3)) (a (24 + 3)) (Z (24 + 3)) :: pgs (WGp cy a aK B))) rfl ?_
      exact kk _ _ _ _ _ h4
    · obtain ⟨u, w, h1, h2, h3, h4⟩ := hv
      show ww X D A 4 Q k n 1509 [(3, .int i), (2, .ref (o 28)), (1, .ref (o 0)), (0, .ref b)] [] (gX9 cy (o 0) (a 0) (Z 0) :: gX0 cy (a 0 0) (a 1) (Z 1) :: gX0 cy (a 0 1) (a 2) (Z 2) :: gX4 cy (a 0 2) (a 3) (Z 3) :: gX4 cy (a 0 3) (a 4) (Z 4) :: gX2 cy (a 0 4) (a 5) (Z 5) :: gX7 cy (a 0 5) (a 6) (Z 6) :: gX7 cy (a 0 6) (a 7) (Z 7) :: gX5 cy (a 0 7) (a 8) (Z 8) :: gX8 cy (a 0 9) (a 9) (Z 9) :: gX1 cy (o 10) (a 10) (Z 10) :: gX1 cy (o 11) (a 11) (Z 11) :: gX10 cy (o 28) (a 28) (Z 28) :: gX3 cy (a 0 (900 + 0)) (a (24 + 0)) (Z (24 + 0)) :: gX3 cy (a 0 (900 + 1)) (a (24 + 1)) (Z (24 + 1)) :: gX3 cy (a 0 (900 + 2)) (a (24 + 2)) (Z (24 + 2)) :: gX3 cy (a 0 (900 + 3)) (a (24 + 3)) (Z (24 + 3)) :: pgs (WGp cy a aK B))
      refine ww_aload_n h dL_law_1509 rfl 2 rfl 1510 rfl ?_
      refine ww_aload_n h dL_law_1510 rfl 3 rfl 1511 rfl ?_
      refine ww_iload_n h dL_law_1511 rfl 0 rfl 1512 rfl ?_
      refine ww_iconst h dL_law_1512 (v := 1) (by decide) 1513 rfl ?_
      refine ww_iadd h dL_law_1513 1514 rfl ?_
      refine ww_scd h hX hbl hbA (hin 1 (by decide) (by decide)) ex0 dL_law_1514 1515 rfl ?_
      refine ww_aload_n h dL_law_1515 rfl 3 rfl 1516 rfl ?_
      refine ww_iload_n h dL_law_1516 rfl 0 rfl 1517 rfl ?_
      refine ww_iconst h dL_law_1517 (v := 2) (by decide) 1518 rfl ?_
      refine ww_iadd h dL_law_1518 1519 rfl ?_
      refine ww_scd h hX hbl hbA (hin 2 (by decide) (by decide)) ex1 dL_law_1519 1520 rfl ?_
      refine ww_aload_n h dL_law_1520 rfl 3 rfl 1521 rfl ?_
      refine ww_iload_n h dL_law_1521 rfl 0 rfl 1522 rfl ?_
      refine ww_iconst h dL_law_1522 (v := 3) (by decide) 1523 rfl ?_
      refine ww_iadd h dL_law_1523 1524 rfl ?_
      refine ww_scd h hX hbl hbA (hin 3 (by decide) (by decide)) ex2 dL_law_1524 1525 rfl ?_
      refine ww_if_eq h dL_law_1525 1532 (by decide) 1528 rfl (fun c => absurd c hx) (fun _ => ?_)
      refine ww_iconst h dL_law_1528 (v := 1) (by decide) 1529 rfl ?_
      refine ww_goto h dL_law_1529 1533 (by decide) ?_
      refine ww_cVi h (c_X9_atEnds l D ev cy (o 0) (a 0) (Z 0) (a 3) (Z 3) (a 6) (Z 6) (a 8) (Z 8) (o 10) (a 10) (Z 10) (a 0 (900 + 3)) (a (24 + 3)) (Z (24 + 3)) x0 x1 1 _ h1) ⟨w_1133, w_1130, w_1131, w_1132, w_101, ok_X9_atEnds⟩ ⟨by decide, by decide⟩ ⟨Nat.le_trans (Nat.le_add_right _ _) hk, Nat.le_trans (Nat.le_add_right _ _) hn⟩ ⟨rfl, rfl⟩ [0, 2, 4, 5, 6, 11] (by simp only [pk_g, List.getElem?_cons_zero, List.getElem?_cons_succ, List.eraseIdx]) 0 rfl rfl rfl rfl (Nat.le_of_ble_eq_true rfl) dL_law_1533 1536 rfl (Gs' := (gX9 cy (o 0) (a 0) u.2.1 :: gX4 cy (a 0 2) (a 3) (Z 3) :: gX7 cy (a 0 5) (a 6) u.2.2.1 :: gX5 cy (a 0 7) (a 8) u.2.2.2.1 :: gX1 cy (o 10) (a 10) (Z 10) :: gX3 cy (a 0 (900 + 3)) (a (24 + 3)) u.2.2.2.2 :: gX0 cy (a 0 0) (a 1) (Z 1) :: gX0 cy (a 0 1) (a 2) (Z 2) :: gX4 cy (a 0 3) (a 4) (Z 4) :: gX2 cy (a 0 4) (a 5) (Z 5) :: gX7 cy (a 0 6) (a 7) (Z 7) :: gX8 cy (a 0 9) (a 9) (Z 9) :: gX1 cy (o 11) (a 11) (Z 11) :: gX10 cy (o 28) (a 28) (Z 28) :: gX3 cy (a 0 (900 + 0)) (a (24 + 0)) (Z (24 + 0)) :: gX3 cy (a 0 (900 + 1)) (a (24 + 1)) (Z (24 + 1)) :: gX3 cy (a 0 (900 + 2)) (a (24 + 2)) (Z (24 + 2)) :: pgs (WGp cy a aK B))) rfl ?_
      refine ww_aload_n h dL_law_1536 rfl 1 rfl 1537 rfl ?_
      refine ww_aload_n h dL_law_1537 rfl 3 rfl 1538 rfl ?_
      refine ww_iload_n h dL_law_1538 rfl 0 rfl 1539 rfl ?_
      refine ww_iconst h dL_law_1539 (v := 1) (by decide) 1540 rfl ?_
      refine ww_iadd h dL_law_1540 1541 rfl ?_
      refine ww_scd h hX hbl hbA (hin 1 (by decide) (by decide)) ex0 dL_law_1541 1542 rfl ?_
      refine ww_aload_n h dL_law_1542 rfl 3 rfl 1543 rfl ?_
      refine ww_iload_n h dL_law_1543 rfl 0 rfl 1544 rfl ?_
      refine ww_iconst h dL_law_1544 (v := 2) (by decide) 1545 rfl ?_
      refine ww_iadd h dL_law_1545 1546 rfl ?_
      refine ww_scd h hX hbl hbA (hin 2 (by decide) (by decide)) ex1 dL_law_1546 1547 rfl ?_
      refine ww_aload_n h dL_law_1547 rfl 3 rfl 1548 rfl ?_
      refine ww_iload_n h dL_law_1548 rfl 0 rfl 1549 rfl ?_
      refine ww_iconst h dL_law_1549 (v := 3) (by decide) 1550 rfl ?_
      refine ww_iadd h dL_law_1550 1551 rfl ?_
      refine ww_scd h hX hbl hbA (hin 3 (by decide) (by decide)) ex2 dL_law_1551 1552 rfl ?_
      refine ww_if_eq h dL_law_1552 1559 (by decide) 1555 rfl (fun c => absurd c hx) (fun _ => ?_)
      refine ww_iconst h dL_law_1555 (v := 1) (by decide) 1556 rfl ?_
      refine ww_goto h dL_law_1556 1560 (by decide) ?_
      refine ww_cVi h (c_X10_atEnds l D ev cy (o 28) (a 28) (Z 28) x0 x1 1 _ h2) ⟨w_1682, w_1679, w_1680, w_1681, w_111, ok_X10_atEnds⟩ ⟨by decide, by decide⟩ ⟨Nat.le_trans (Nat.le_add_right _ _) hk, Nat.le_trans (Nat.le_add_right _ _) hn⟩ ⟨rfl, rfl⟩ [13] (by simp only [pk_g, List.getElem?_cons_zero, List.getElem?_cons_succ, List.eraseIdx]) 0 rfl rfl rfl rfl (Nat.le_of_ble_eq_true rfl) dL_law_1560 1563 rfl (Gs' := (gX10 cy (o 28) (a 28) w.2 :: gX9 cy (o 0) (a 0) u.2.1 :: gX4 cy (a 0 2) (a 3) (Z 3) :: gX7 cy (a 0 5) (a 6) u.2.2.1 :: gX5 cy (a 0 7) (a 8) u.2.2.2.1 :: gX1 cy (o 10) (a 10) (Z 10) :: gX3 cy (a 0 (900 + 3)) (a (24 + 3)) u.2.2.2.2 :: gX0 cy (a 0 0) (a 1) (Z 1) :: gX0 cy (a 0 1) (a 2) (Z 2) :: gX4 cy (a 0 3) (a 4) (Z 4) :: gX2 cy (a 0 4) (a 5) (Z 5) :: gX7 cy (a 0 6) (a 7) (Z 7) :: gX8 cy (a 0 9) (a 9) (Z 9) :: gX1 cy (o 11) (a 11) (Z 11) :: gX3 cy (a 0 (900 + 0)) (a (24 + 0)) (Z (24 + 0)) :: gX3 cy (a 0 (900 + 1)) (a (24 + 1)) (Z (24 + 1)) :: gX3 cy (a 0 (900 + 2)) (a (24 + 2)) (Z (24 + 2)) :: pgs (WGp cy a aK B))) rfl ?_
      refine ww_icmp_eq h dL_law_1563 1591 (by decide) 1566 rfl (fun _ => ?_) (fun c => absurd h3.symm c)
      refine ww_kn (Nat.le_succ k) (Nat.le_add_right n 6) ?_
      refine ww_permT [1, 6, 6, 1, 5, 5, 1, 4, 1, 3, 1, 2, 0, 1, 1, 1, 0] (Cs := [gX9 cy (o 0) (a 0) u.2.1, gX0 cy (a 0 0) (a 1) (Z 1), gX0 cy (a 0 1) (a 2) (Z 2), gX4 cy (a 0 2) (a 3) (Z 3), gX4 cy (a 0 3) (a 4) (Z 4), gX2 cy (a 0 4) (a 5) (Z 5), gX7 cy (a 0 5) (a 6) u.2.2.1, gX7 cy (a 0 6) (a 7) (Z 7), gX5 cy (a 0 7) (a 8) u.2.2.2.1, gX8 cy (a 0 9) (a 9) (Z 9), gX1 cy (o 10) (a 10) (Z 10), gX1 cy (o 11) (a 11) (Z 11), gX10 cy (o 28) (a 28) w.2, gX3 cy (a 0 (900 + 0)) (a (24 + 0)) (Z (24 + 0)), gX3 cy (a 0 (900 + 1)) (a (24 + 1)) (Z (24 + 1)), gX3 cy (a 0 (900 + 2)) (a (24 + 2)) (Z (24 + 2)), gX3 cy (a 0 (900 + 3)) (a (24 + 3)) u.2.2.2.2]) (Rs := pgs (WGp cy a aK B)) (by simp only [pk_g, List.getElem?_cons_zero, List.getElem?_cons_succ, List.eraseIdx]) (Gs' := (gX9 cy (o 0) (a 0) u.2.1 :: gX0 cy (a 0 0) (a 1) (Z 1) :: gX0 cy (a 0 1) (a 2) (Z 2) :: gX4 cy (a 0 2) (a 3) (Z 3) :: gX4 cy (a 0 3) (a 4) (Z 4) :: gX2 cy (a 0 4) (a 5) (Z 5) :: gX7 cy (a 0 5) (a 6) u.2.2.1 :: gX7 cy (a 0 6) (a 7) (Z 7) :: gX5 cy (a 0 7) (a 8) u.2.2.2.1 :: gX8 cy (a 0 9) (a 9) (Z 9) :: gX1 cy (o 10) (a 10) (Z 10) :: gX1 cy (o 11) (a 11) (Z 11) :: gX10 cy (o 28) (a 28) w.2 :: gX3 cy (a 0 (900 + 0)) (a (24 + 0)) (Z (24 + 0)) :: gX3 cy (a 0 (900 + 1)) (a (24 + 1)) (Z (24 + 1)) :: gX3 cy (a 0 (900 + 2)) (a (24 + 2)) (Z (24 + 2)) :: gX3 cy (a 0 (900 + 3)) (a (24 + 3)) u.2.2.2.2 :: pgs (WGp cy a aK B))) rfl ?_
      exact kk _ _ _ _ _ h4
