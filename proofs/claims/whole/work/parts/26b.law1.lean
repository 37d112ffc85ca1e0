set_option maxHeartbeats 4000000 in
set_option maxRecDepth 100000 in
theorem case_feed {X : Cx} {D : va_G} {ev : EvT} {cy : Nat → ClassId} {A : Nat → Prop} {Q : State → Prop} {l : Launch} {b Ln : Nat} {xs : Nat → Int32} {i : Int32} {k n : Nat} {I : LI} (C : lwC X D ev cy A l b Ln xs i k n) (ok : Ok_feed I) {o : Nat → Nat} {a aK : Nat → Nat → Nat} {Z B : Nat → OV} (hI : I o a aK Z B) (kk : lwK X D cy A Q b i k n I) : ww X D A 4 Q k n 228 [(3, .int i), (2, .ref (o 28)), (1, .ref (o 0)), (0, .ref b)] [] (WGs cy o a aK Z B) := by
  obtain ⟨h, hX, hbl, hbA, hin, hk, hn⟩ := C
  obtain ⟨x0, ex0⟩ : ∃ x : Int32, xs (i + 1).toNatClampNeg = x := ⟨_, rfl⟩
  obtain ⟨x1, ex1⟩ : ∃ x : Int32, xs (i + 2).toNatClampNeg = x := ⟨_, rfl⟩
  obtain ⟨x2, ex2⟩ : ∃ x : Int32, xs (i + 3).toNatClampNeg = x := ⟨_, rfl⟩
  obtain ⟨x3, ex3⟩ : ∃ x : Int32, xs (i + 4).toNatClampNeg = x := ⟨_, rfl⟩
  obtain ⟨x4, ex4⟩ : ∃ x : Int32, xs (i + 5).toNatClampNeg = x := ⟨_, rfl⟩
  have hv := ok o a aK Z B hI x0 x1 x2 x3 x4
  obtain ⟨u, w, h1, h2, h3, h4⟩ := hv
  show ww X D A 4 Q k n 228 [(3, .int i), (2, .ref (o 28)), (1, .ref (o 0)), (0, .ref b)] [] (gX9 cy (o 0) (a 0) (Z 0) :: gX0 cy (a 0 0) (a 1) (Z 1) :: gX0 cy (a 0 1) (a 2) (Z 2) :: gX4 cy (a 0 2) (a 3) (Z 3) :: gX4 cy (a 0 3) (a 4) (Z 4) :: gX2 cy (a 0 4) (a 5) (Z 5) :: gX7 cy (a 0 5) (a 6) (Z 6) :: gX7 cy (a 0 6) (a 7) (Z 7) :: gX5 cy (a 0 7) (a 8) (Z 8) :: gX8 cy (a 0 9) (a 9) (Z 9) :: gX1 cy (o 10) (a 10) (Z 10) :: gX1 cy (o 11) (a 11) (Z 11) :: gX10 cy (o 28) (a 28) (Z 28) :: gX3 cy (a 0 (900 + 0)) (a (24 + 0)) (Z (24 + 0)) :: gX3 cy (a 0 (900 + 1)) (a (24 + 1)) (Z (24 + 1)) :: gX3 cy (a 0 (900 + 2)) (a (24 + 2)) (Z (24 + 2)) :: gX3 cy (a 0 (900 + 3)) (a (24 + 3)) (Z (24 + 3)) :: pgs (WGp cy a aK B))
  refine ww_aload_n h dL_law_228 rfl 2 rfl 229 rfl ?_
  refine ww_aload_n h dL_law_229 rfl 3 rfl 230 rfl ?_
  refine ww_iload_n h dL_law_230 rfl 0 rfl 231 rfl ?_
  refine ww_iconst h dL_law_231 (v := 1) (by decide) 232 rfl ?_
  refine ww_iadd h dL_law_232 233 rfl ?_
  refine ww_scd h hX hbl hbA (hin 1 (by decide) (by decide)) ex0 dL_law_233 234 rfl ?_
  refine ww_aload_n h dL_law_234 rfl 3 rfl 235 rfl ?_
  refine ww_iload_n h dL_law_235 rfl 0 rfl 236 rfl ?_
  refine ww_iconst h dL_law_236 (v := 2) (by decide) 237 rfl ?_
  refine ww_iadd h dL_law_237 238 rfl ?_
  refine ww_scd h hX hbl hbA (hin 2 (by decide) (by decide)) ex1 dL_law_238 239 rfl ?_
  refine ww_aload_n h dL_law_239 rfl 3 rfl 240 rfl ?_
  refine ww_iload_n h dL_law_240 rfl 0 rfl 241 rfl ?_
  refine ww_iconst h dL_law_241 (v := 3) (by decide) 242 rfl ?_
  refine ww_iadd h dL_law_242 243 rfl ?_
  refine ww_scd h hX hbl hbA (hin 3 (by decide) (by decide)) ex2 dL_law_243 244 rfl ?_
  refine ww_aload_n h dL_law_244 rfl 3 rfl 245 rfl ?_
  refine ww_iload_n h dL_law_245 rfl 0 rfl 246 rfl ?_
  refine ww_iconst h dL_law_246 (v := 4) (by decide) 247 rfl ?_
  refine ww_iadd h dL_law_247 248 rfl ?_
  refine ww_scd h hX hbl hbA (hin 4 (by decide) (by decide)) ex3 dL_law_248 249 rfl ?_
  refine ww_aload_n h dL_law_249 rfl 3 rfl 250 rfl ?_
  refine ww_iload_n h dL_law_250 rfl 0 rfl 251 rfl ?_
  refine ww_iconst h dL_law_251 (v := 5) (by decide) 252 rfl ?_
  refine ww_iadd h dL_law_252 253 rfl ?_
  refine ww_scd h hX hbl hbA (hin 5 (by decide) (by decide)) ex4 dL_law_253 254 rfl ?_
  refine ww_cVi h (c_X9_feed l D ev cy (o 0) (a 0) (Z 0) (a 1) (Z 1) x0 x1 x2 x3 x4 _ h1) ⟨w_456, w_453, w_454, w_455, w_101, ok_X9_feed⟩ ⟨by decide, by decide⟩ ⟨Nat.le_trans (Nat.le_add_right _ _) hk, Nat.le_trans (Nat.le_add_right _ _) hn⟩ ⟨rfl, rfl⟩ [0, 0] (by simp only [pk_g, List.getElem?_cons_zero, List.getElem?_cons_succ, List.eraseIdx]) 0 rfl rfl rfl rfl (Nat.le_of_ble_eq_true rfl) dL_law_254 257 rfl (Gs' := (gX9 cy (o 0) (a 0) (Z 0) :: gX0 cy (a 0 0) (a 1) u.2 :: gX0 cy (a 0 1) (a 2) (Z 2) :: gX4 cy (a 0 2) (a 3) (Z 3) :: gX4 cy (a 0 3) (a 4) (Z 4) :: gX2 cy (a 0 4) (a 5) (Z 5) :: gX7 cy (a 0 5) (a 6) (Z 6) :: gX7 cy (a 0 6) (a 7) (Z 7) :: gX5 cy (a 0 7) (a 8) (Z 8) :: gX8 cy (a 0 9) (a 9) (Z 9) :: gX1 cy (o 10) (a 10) (Z 10) :: gX1 cy (o 11) (a 11) (Z 11) :: gX10 cy (o 28) (a 28) (Z 28) :: gX3 cy (a 0 (900 + 0)) (a (24 + 0)) (Z (24 + 0)) :: gX3 cy (a 0 (900 + 1)) (a (24 + 1)) (Z (24 + 1)) :: gX3 cy (a 0 (900 + 2)) (a (24 + 2)) (Z (24 + 2)) :: gX3 cy (a 0 (900 + 3)) (a (24 + 3)) (Z (24 + 3)) :: pgs (WGp cy a aK B))) rfl ?_
  refine ww_aload_n h dL_law_257 rfl 1 rfl 258 rfl ?_
  refine ww_aload_n h dL_law_258 rfl 3 rfl 259 rfl ?_
  refine ww_iload_n h dL_law_259 rfl 0 rfl 260 rfl ?_
  refine ww_iconst h dL_law_260 (v := 1) (by decide) 261 rfl ?_
  refine ww_iadd h dL_law_261 262 rfl ?_
  refine ww_scd h hX hbl hbA (hin 1 (by decide) (by decide)) ex0 dL_law_262 263 rfl ?_
  refine ww_aload_n h dL_law_263 rfl 3 rfl 264 rfl ?_
  refine ww_iload_n h dL_law_264 rfl 0 rfl 265 rfl ?_
  refine ww_iconst h dL_law_265 (v := 2) (by decide) 266 rfl ?_
  refine ww_iadd h dL_law_266 267 rfl ?_
  refine ww_scd h hX hbl hbA (hin 2 (by decide) (by decide)) ex1 dL_law_267 268 rfl ?_
  refine ww_aload_n h dL_law_268 rfl 3 rfl 269 rfl ?_
  refine ww_iload_n h dL_law_269 rfl 0 rfl 270 rfl ?_
  refine ww_iconst h dL_law_270 (v := 3) (by decide) 271 rfl ?_
  refine ww_iadd h dL_law_271 272 rfl ?_
  refine ww_scd h hX hbl hbA (hin 3 (by decide) (by decide)) ex2 dL_law_272 273 rfl ?_
  refine ww_aload_n h dL_law_273 rfl 3 rfl 274 rfl ?_
  refine ww_iload_n h dL_law_274 rfl 0 rfl 275 rfl ?_
  refine ww_iconst h dL_law_275 (v := 4) (by decide) 276 rfl ?_
  refine ww_iadd h dL_law_276 277 rfl ?_
  refine ww_scd h hX hbl hbA (hin 4 (by decide) (by decide)) ex3 dL_law_277 278 rfl ?_
  refine ww_aload_n h dL_law_278 rfl 3 rfl 279 rfl ?_
  refine ww_iload_n h dL_law_279 rfl 0 rfl 280 rfl ?_
  refine ww_iconst h dL_law_280 (v := 5) (by decide) 281 rfl ?_
  refine ww_iadd h dL_law_281 282 rfl ?_
  refine ww_scd h hX hbl hbA (hin 5 (by decide) (by decide)) ex4 dL_law_282 283 rfl ?_
  refine ww_cVi h (c_X10_feed l D ev cy (o 28) (a 28) (Z 28) x0 x1 x2 x3 x4 _ h2) ⟨w_1706, w_1703, w_1704, w_1705, w_111, ok_X10_feed⟩ ⟨by decide, by decide⟩ ⟨Nat.le_trans (Nat.le_add_right _ _) hk, Nat.le_trans (Nat.le_add_right _ _) hn⟩ ⟨rfl, rfl⟩ [12] (by simp only [pk_g, List.getElem?_cons_zero, List.getElem?_cons_succ, List.eraseIdx]) 0 rfl rfl rfl rfl (Nat.le_of_ble_eq_true rfl) dL_law_283 286 rfl (Gs' := (gX10 cy (o 28) (a 28) w.2 :: gX9 cy (o 0) (a 0) (Z 0) :: gX0 cy (a 0 0) (a 1) u.2 :: gX0 cy (a 0 1) (a 2) (Z 2) :: gX4 cy (a 0 2) (a 3) (Z 3) :: gX4 cy (a 0 3) (a 4) (Z 4) :: gX2 cy (a 0 4) (a 5) (Z 5) :: gX7 cy (a 0 5) (a 6) (Z 6) :: gX7 cy (a 0 6) (a 7) (Z 7) :: gX5 cy (a 0 7) (a 8) (Z 8) :: gX8 cy (a 0 9) (a 9) (Z 9) :: gX1 cy (o 10) (a 10) (Z 10) :: gX1 cy (o 11) (a 11) (Z 11) :: gX3 cy (a 0 (900 + 0)) (a (24 + 0)) (Z (24 + 0)) :: gX3 cy (a 0 (900 + 1)) (a (24 + 1)) (Z (24 + 1)) :: gX3 cy (a 0 (900 + 2)) (a (24 + 2)) (Z (24 + 2)) :: gX3 cy (a 0 (900 + 3)) (a (24 + 3)) (Z (24 + 3)) :: pgs (WGp cy a aK B))) rfl ?_
  refine ww_icmp_eq h dL_law_286 1591 (by decide) 289 rfl (fun _ => ?_) (fun c => absurd h3.symm c)
  refine ww_kn (Nat.le_succ k) (Nat.le_add_right n 6) ?_
  refine ww_permT [1, 1, 1, 1, 1, 1, 1, 1, 1, 1, 1, 1, 0, 0, 0, 0, 0] (Cs := [gX9 cy (o 0) (a 0) (Z 0), gX0 cy (a 0 0) (a 1) u.2, gX0 cy (a 0 1) (a 2) (Z 2), gX4 cy (a 0 2) (a 3) (Z 3), gX4 cy (a 0 3) (a 4) (Z 4), gX2 cy (a 0 4) (a 5) (Z 5), gX7 cy (a 0 5) (a 6) (Z 6), gX7 cy (a 0 6) (a 7) (Z 7), gX5 cy (a 0 7) (a 8) (Z 8), gX8 cy (a 0 9) (a 9) (Z 9), gX1 cy (o 10) (a 10) (Z 10), gX1 cy (o 11) (a 11) (Z 11), gX10 cy (o 28) (a 28) w.2, gX3 cy (a 0 (900 + 0)) (a (24 + 0)) (Z (24 + 0)), gX3 cy (a 0 (900 + 1)) (a (24 + 1)) (Z (24 + 1)), gX3 cy (a 0 (900 + 2)) (a (24 + 2)) (Z (24 + 2)), gX3 cy (a 0 (900 + 3)) (a (24 + 3)) (Z (24 + 3))]) (Rs := pgs (WGp cy a aK B)) (by simp only [pk_g, List.getElem?_cons_zero, List.getElem?_cons_succ, List.eraseIdx]) (Gs' := (gX9 cy (o 0) (a 0) (Z 0) :: gX0 cy (a 0 0) (a 1) u.2 :: gX0 cy (a 0 1) (a 2) (Z 2) :: gX4 cy (a 0 2) (a 3) (Z 3) :: gX4 cy (a 0 3) (a 4) (Z 4) :: gX2 cy (a 0 4) (a 5) (Z 5) :: gX7 cy (a 0 5) (a 6) (Z 6) :: gX7 cy (a 0 6) (a 7) (Z 7) :: gX5 cy (a 0 7) (a 8) (Z 8) :: gX8 cy (a 0 9) (a 9) (Z 9) :: gX1 cy (o 10) (a 10) (Z 10) :: gX1 cy (o 11) (a 11) (Z 11) :: gX10 cy (o 28) (a 28) w.2 :: gX3 cy (a 0 (900 + 0)) (a (24 + 0)) (Z (24 + 0)) :: gX3 cy (a 0 (900 + 1)) (a (24 + 1)) (Z (24 + 1)) :: gX3 cy (a 0 (900 + 2)) (a (24 + 2)) (Z (24 + 2)) :: gX3 cy (a 0 (900 + 3)) (a (24 + 3)) (Z (24 + 3)) :: pgs (WGp cy a aK B))) rfl ?_
  exact kk _ _ _ _ _ h4
set_option maxHeartbeats 4000000 in
set_option maxRecDepth 100000 in
theorem case_change {X : Cx} {D : va_G} {ev : EvT} {cy : Nat → ClassId} {A : Nat → Prop} {Q : State → Prop} {l : Launch} {b Ln : Nat} {xs : Nat → Int32} {i : Int32} {k n : Nat} {I : LI} (C : lwC X D ev cy A l b Ln xs i k n) (ok : Ok_change I) {o : Nat → Nat} {a aK : Nat → Nat → Nat} {Z B : Nat → OV} (hI : I o a aK Z B) (kk : lwK X D cy A Q b i k n I) : ww X D A 4 Q k n 406 [(3, .int i), (2, .ref (o 28)), (1, .ref (o 0)), (0, .ref b)] [] (WGs cy o a aK Z B) := by
  obtain ⟨h, hX, hbl, hbA, hin, hk, hn⟩ := C
  obtain ⟨x0, ex0⟩ : ∃ x : Int32, xs (i + 1).toNatClampNeg = x := ⟨_, rfl⟩
  obtain ⟨x1, ex1⟩ : ∃ x : Int32, xs (i + 2).toNatClampNeg = x := ⟨_, rfl⟩
  have hv := ok o a aK Z B hI x0 x1
  obtain ⟨j, hj, u, w, h1, h2, h3, h4⟩ := hv
  refine ww_pgOut hj ?_
  show ww X D A 4 Q k n 406 [(3, .int i), (2, .ref (o 28)), (1, .ref (o 0)), (0, .ref b)] [] (gX4 cy (a 5 (100 + j)) (aK j) (B j) :: gX9 cy (o 0) (a 0) (Z 0) :: gX0 cy (a 0 0) (a 1) (Z 1) :: gX0 cy (a 0 1) (a 2) (Z 2) :: gX4 cy (a 0 2) (a 3) (Z 3) :: gX4 cy (a 0 3) (a 4) (Z 4) :: gX2 cy (a 0 4) (a 5) (Z 5) :: gX7 cy (a 0 5) (a 6) (Z 6) :: gX7 cy (a 0 6) (a 7) (Z 7) :: gX5 cy (a 0 7) (a 8) (Z 8) :: gX8 cy (a 0 9) (a 9) (Z 9) :: gX1 cy (o 10) (a 10) (Z 10) :: gX1 cy (o 11) (a 11) (Z 11) :: gX10 cy (o 28) (a 28) (Z 28) :: gX3 cy (a 0 (900 + 0)) (a (24 + 0)) (Z (24 + 0)) :: gX3 cy (a 0 (900 + 1)) (a (24 + 1)) (Z (24 + 1)) :: gX3 cy (a 0 (900 + 2)) (a (24 + 2)) (Z (24 + 2)) :: gX3 cy (a 0 (900 + 3)) (a (24 + 3)) (Z (24 + 3)) :: pgR (WGp cy a aK B) j)
  refine ww_aload_n h dL_law_406 rfl 2 rfl 407 rfl ?_
  refine ww_aload_n h dL_law_407 rfl 3 rfl 408 rfl ?_
  refine ww_iload_n h dL_law_408 rfl 0 rfl 409 rfl ?_
  refine ww_iconst h dL_law_409 (v := 1) (by decide) 410 rfl ?_
  refine ww_iadd h dL_law_410 411 rfl ?_
  refine ww_scd h hX hbl hbA (hin 1 (by decide) (by decide)) ex0 dL_law_411 412 rfl ?_
  refine ww_aload_n h dL_law_412 rfl 3 rfl 413 rfl ?_
  refine ww_iload_n h dL_law_413 rfl 0 rfl 414 rfl ?_
  refine ww_iconst h dL_law_414 (v := 2) (by decide) 415 rfl ?_
  refine ww_iadd h dL_law_415 416 rfl ?_
  refine ww_scd h hX hbl hbA (hin 2 (by decide) (by decide)) ex1 dL_law_416 417 rfl ?_
  refine ww_cVi h (c_X9_change l D ev cy (o 0) (a 0) (Z 0) (a 3) (Z 3) (a 5) (Z 5) (a 9) (Z 9) (o 10) (a 10) (Z 10) (a 5 (100 + j)) (aK j) (B j) (a (24 + 0)) (Z (24 + 0)) (a (24 + 1)) (Z (24 + 1)) (a (24 + 2)) (Z (24 + 2)) (a (24 + 3)) (Z (24 + 3)) x0 x1 _ h1) ⟨w_703, w_700, w_701, w_702, w_101, ok_X9_change⟩ ⟨by decide, by decide⟩ ⟨Nat.le_trans (Nat.le_add_right _ _) hk, Nat.le_trans (Nat.le_add_right _ _) hn⟩ ⟨rfl, rfl⟩ [1, 3, 4, 7, 7, 0, 8, 8, 8, 8] (by simp only [pk_g, List.getElem?_cons_zero, List.getElem?_cons_succ, List.eraseIdx]) 0 rfl rfl rfl rfl (Nat.le_of_ble_eq_true rfl) dL_law_417 420 rfl (Gs' := (gX9 cy (o 0) (a 0) u.2.1 :: gX4 cy (a 0 2) (a 3) u.2.2.1 :: gX2 cy (a 0 4) (a 5) u.2.2.2.1 :: gX8 cy (a 0 9) (a 9) u.2.2.2.2.1 :: gX1 cy (o 10) (a 10) (Z 10) :: gX4 cy (a 5 (100 + j)) (aK j) u.2.2.2.2.2.1 :: gX3 cy (a 0 (900 + 0)) (a (24 + 0)) u.2.2.2.2.2.2.1 :: gX3 cy (a 0 (900 + 1)) (a (24 + 1)) u.2.2.2.2.2.2.2.1 :: gX3 cy (a 0 (900 + 2)) (a (24 + 2)) u.2.2.2.2.2.2.2.2.1 :: gX3 cy (a 0 (900 + 3)) (a (24 + 3)) u.2.2.2.2.2.2.2.2.2 :: gX0 cy (a 0 0) (a 1) (Z 1) :: gX0 cy (a 0 1) (a 2) (Z 2) :: gX4 cy (a 0 3) (a 4) (Z 4) :: gX7 cy (a 0 5) (a 6) (Z 6) :: gX7 cy (a 0 6) (a 7) (Z 7) :: gX5 cy (a 0 7) (a 8) (Z 8) :: gX1 cy (o 11) (a 11) (Z 11) :: gX10 cy (o 28) (a 28) (Z 28) :: pgR (WGp cy a aK B) j)) rfl ?_
  refine ww_aload_n h dL_law_420 rfl 1 rfl 421 rfl ?_
  refine ww_aload_n h dL_law_421 rfl 3 rfl 422 rfl ?_
  refine ww_iload_n h dL_law_422 rfl 0 rfl 423 rfl ?_
  refine ww_iconst h dL_law_423 (v := 1) (by decide) 424 rfl ?_
  refine ww_iadd h dL_law_424 425 rfl ?_
  refine ww_scd h hX hbl hbA (hin 1 (by decide) (by decide)) ex0 dL_law_425 426 rfl ?_
  refine ww_aload_n h dL_law_426 rfl 3 rfl 427 rfl ?_
  refine ww_iload_n h dL_law_427 rfl 0 rfl 428 rfl ?_
  refine ww_iconst h dL_law_428 (v := 2) (by decide) 429 rfl ?_
  refine ww_iadd h dL_law_429 430 rfl ?_
  refine ww_scd h hX hbl hbA (hin 2 (by decide) (by decide)) ex1 dL_law_430 431 rfl ?_
  refine ww_cVi h (c_X10_change l D ev cy (o 28) (a 28) (Z 28) x0 x1 _ h2) ⟨w_1365, w_1362, w_1363, w_1364, w_111, ok_X10_change⟩ ⟨by decide, by decide⟩ ⟨Nat.le_trans (Nat.le_add_right _ _) hk, Nat.le_trans (Nat.le_add_right _ _) hn⟩ ⟨rfl, rfl⟩ [17] (by simp only [pk_g, List.getElem?_cons_zero, List.getElem?_cons_succ, List.eraseIdx]) 0 rfl rfl rfl rfl (Nat.le_of_ble_eq_true rfl) dL_law_431 434 rfl (Gs' := (gX10 cy (o 28) (a 28) w.2 :: gX9 cy (o 0) (a 0) u.2.1 :: gX4 cy (a 0 2) (a 3) u.2.2.1 :: gX2 cy (a 0 4) (a 5) u.2.2.2.1 :: gX8 cy (a 0 9) (a 9) u.2.2.2.2.1 :: gX1 cy (o 10) (a 10) (Z 10) :: gX4 cy (a 5 (100 + j)) (aK j) u.2.2.2.2.2.1 :: gX3 cy (a 0 (900 + 0)) (a (24 + 0)) u.2.2.2.2.2.2.1 :: gX3 cy (a 0 (900 + 1)) (a (24 + 1)) u.2.2.2.2.2.2.2.1 :: gX3 cy (a 0 (900 + 2)) (a (24 + 2)) u.2.2.2.2.2.2.2.2.1 :: gX3 cy (a 0 (900 + 3)) (a (24 + 3)) u.2.2.2.2.2.2.2.2.2 :: gX0 cy (a 0 0) (a 1) (Z 1) :: gX0 cy (a 0 1) (a 2) (Z 2) :: gX4 cy (a 0 3) (a 4) (Z 4) :: gX7 cy (a 0 5) (a 6) (Z 6) :: gX7 cy (a 0 6) (a 7) (Z 7) :: gX5 cy (a 0 7) (a 8) (Z 8) :: gX1 cy (o 11) (a 11) (Z 11) :: pgR (WGp cy a aK B) j)) rfl ?_
  refine ww_icmp_eq h dL_law_434 1591 (by decide) 437 rfl (fun _ => ?_) (fun c => absurd h3.symm c)
  refine ww_kn (Nat.le_succ k) (Nat.le_add_right n 6) ?_
  refine ww_permT [6, 1, 9, 9, 1, 8, 1, 7, 7, 7, 1, 1, 5, 0, 0, 0, 0, 0] (Cs := [gX4 cy (a 5 (100 + j)) (aK j) u.2.2.2.2.2.1, gX9 cy (o 0) (a 0) u.2.1, gX0 cy (a 0 0) (a 1) (Z 1), gX0 cy (a 0 1) (a 2) (Z 2), gX4 cy (a 0 2) (a 3) u.2.2.1, gX4 cy (a 0 3) (a 4) (Z 4), gX2 cy (a 0 4) (a 5) u.2.2.2.1, gX7 cy (a 0 5) (a 6) (Z 6), gX7 cy (a 0 6) (a 7) (Z 7), gX5 cy (a 0 7) (a 8) (Z 8), gX8 cy (a 0 9) (a 9) u.2.2.2.2.1, gX1 cy (o 10) (a 10) (Z 10), gX1 cy (o 11) (a 11) (Z 11), gX10 cy (o 28) (a 28) w.2, gX3 cy (a 0 (900 + 0)) (a (24 + 0)) u.2.2.2.2.2.2.1, gX3 cy (a 0 (900 + 1)) (a (24 + 1)) u.2.2.2.2.2.2.2.1, gX3 cy (a 0 (900 + 2)) (a (24 + 2)) u.2.2.2.2.2.2.2.2.1, gX3 cy (a 0 (900 + 3)) (a (24 + 3)) u.2.2.2.2.2.2.2.2.2]) (Rs := pgR (WGp cy a aK B) j) (by simp only [pk_g, List.getElem?_cons_zero, List.getElem?_cons_succ, List.eraseIdx]) (Gs' := (gX4 cy (a 5 (100 + j)) (aK j) u.2.2.2.2.2.1 :: gX9 cy (o 0) (a 0) u.2.1 :: gX0 cy (a 0 0) (a 1) (Z 1) :: gX0 cy (a 0 1) (a 2) (Z 2) :: gX4 cy (a 0 2) (a 3) u.2.2.1 :: gX4 cy (a 0 3) (a 4) (Z 4) :: gX2 cy (a 0 4) (a 5) u.2.2.2.1 :: gX7 cy (a 0 5) (a 6) (Z 6) :: gX7 cy (a 0 6) (a 7) (Z 7) :: gX5 cy (a 0 7) (a 8) (Z 8) :: gX8 cy (a 0 9) (a 9) u.2.2.2.2.1 :: gX1 cy (o 10) (a 10) (Z 10) :: gX1 cy (o 11) (a 11) (Z 11) :: gX10 cy (o 28) (a 28) w.2 :: gX3 cy (a 0 (900 + 0)) (a (24 + 0)) u.2.2.2.2.2.2.1 :: gX3 cy (a 0 (900 + 1)) (a (24 + 1)) u.2.2.2.2.2.2.2.1 :: gX3 cy (a 0 (900 + 2)) (a (24 + 2)) u.2.2.2.2.2.2.2.2.1 :: gX3 cy (a 0 (900 + 3)) (a (24 + 3)) u.2.2.2.2.2.2.2.2.2 :: pgR (WGp cy a aK B) j)) rfl ?_
  refine ww_pgIn (E := [gX9 cy (o 0) (a 0) u.2.1, gX0 cy (a 0 0) (a 1) (Z 1), gX0 cy (a 0 1) (a 2) (Z 2), gX4 cy (a 0 2) (a 3) u.2.2.1, gX4 cy (a 0 3) (a 4) (Z 4), gX2 cy (a 0 4) (a 5) u.2.2.2.1, gX7 cy (a 0 5) (a 6) (Z 6), gX7 cy (a 0 6) (a 7) (Z 7), gX5 cy (a 0 7) (a 8) (Z 8), gX8 cy (a 0 9) (a 9) u.2.2.2.2.1, gX1 cy (o 10) (a 10) (Z 10), gX1 cy (o 11) (a 11) (Z 11), gX10 cy (o 28) (a 28) w.2, gX3 cy (a 0 (900 + 0)) (a (24 + 0)) u.2.2.2.2.2.2.1, gX3 cy (a 0 (900 + 1)) (a (24 + 1)) u.2.2.2.2.2.2.2.1, gX3 cy (a 0 (900 + 2)) (a (24 + 2)) u.2.2.2.2.2.2.2.2.1, gX3 cy (a 0 (900 + 3)) (a (24 + 3)) u.2.2.2.2.2.2.2.2.2]) (g := WGp cy a aK (va_up B j u.2.2.2.2.2.1)) hj (by simp [WGp, va_up]) (fun i hi => by simp [WGp, va_up, hi]) ?_
  exact kk _ _ _ _ _ h4
set_option maxHeartbeats 4000000 in
set_option maxRecDepth 100000 in
theorem case_shy {X : Cx} {D : va_G} {ev : EvT} {cy : Nat → ClassId} {A : Nat → Prop} {Q : State → Prop} {l : Launch} {b Ln : Nat} {xs : Nat → Int32} {i : Int32} {k n : Nat} {I : LI} (C : lwC X D ev cy A l b Ln xs i k n) (ok : Ok_shy I) {o : Nat → Nat} {a aK : Nat → Nat → Nat} {Z B : Nat → OV} (hI : I o a aK Z B) (kk : lwK X D cy A Q b i k n I) : ww X D A 4 Q k n 604 [(3, .int i), (2, .ref (o 28)), (1, .ref (o 0)), (0, .ref b)] [] (WGs cy o a aK Z B) := by
  obtain ⟨h, hX, hbl, hbA, hin, hk, hn⟩ := C
  obtain ⟨x0, ex0⟩ : ∃ x : Int32, xs (i + 1).toNatClampNeg = x := ⟨_, rfl⟩
  obtain ⟨x1, ex1⟩ : ∃ x : Int32, xs (i + 2).toNatClampNeg = x := ⟨_, rfl⟩
  by_cases hx : x1 = 0
  · skip
    have hv := ok o a aK Z B hI x0 0
    obtain ⟨j, hj, u, w, h1, h2, h3, h4⟩ := hv
    refine ww_pgOut hj ?_
    show ww X D A 4 Q k n 604 [(3, .int i), (2, .ref (o 28)), (1, .ref (o 0)), (0, .ref b)] [] (gX4 cy (a 5 (100 + j)) (aK j) (B j) :: gX9 cy (o 0) (a 0) (Z 0) :: gX0 cy (a 0 0) (a 1) (Z 1) :: gX0 cy (a 0 1) (a 2) (Z 2) :: gX4 cy (a 0 2) (a 3) (Z 3) :: gX4 cy (a 0 3) (a 4) (Z 4) :: gX2 cy (a 0 4) (a 5) (Z 5) :: gX7 cy (a 0 5) (a 6) (Z 6) :: gX7 cy (a 0 6) (a 7) (Z 7) :: gX5 cy (a 0 7) (a 8) (Z 8) :: gX8 cy (a 0 9) (a 9) (Z 9) :: gX1 cy (o 10) (a 10) (Z 10) :: gX1 cy (o 11) (a 11) (Z 11) :: gX10 cy (o 28) (a 28) (Z 28) :: gX3 cy (a 0 (900 + 0)) (a (24 + 0)) (Z (24 + 0)) :: gX3 cy (a 0 (900 + 1)) (a (24 + 1)) (Z (24 + 1)) :: gX3 cy (a 0 (900 + 2)) (a (24 + 2)) (Z (24 + 2)) :: gX3 cy (a 0 (900 + 3)) (a (24 + 3)) (Z (24 + 3)) :: pgR (WGp cy a aK B) j)
    refine ww_aload_n h dL_law_604 rfl 2 rfl 605 rfl ?_
    refine ww_aload_n h dL_law_605 rfl 3 rfl 606 rfl ?_
    refine ww_iload_n h dL_law_606 rfl 0 rfl 607 rfl ?_
    refine ww_iconst h dL_law_607 (v := 1) (by decide) 608 rfl ?_
    refine ww_iadd h dL_law_608 609 rfl ?_
    refine ww_scd h hX hbl hbA (hin 1 (by decide) (by decide)) ex0 dL_law_609 610 rfl ?_
    refine ww_aload_n h dL_law_610 rfl 3 rfl 611 rfl ?_
    refine ww_iload_n h dL_law_611 rfl 0 rfl 612 rfl ?_
    refine ww_iconst h dL_law_612 (v := 2) (by decide) 613 rfl ?_
    refine ww_iadd h dL_law_613 614 rfl ?_
    refine ww_scd h hX hbl hbA (hin 2 (by decide) (by decide)) ex1 dL_law_614 615 rfl ?_
    refine ww_if_eq h dL_law_615 622 (by decide) 618 rfl (fun _ => ?_) (fun c => absurd hx c)
    refine ww_iconst h dL_law_622 (v := 0) (by decide) 623 rfl ?_
    refine ww_cVi h (c_X9_shy l D ev cy (o 0) (a 0) (Z 0) (a 3) (Z 3) (a 5) (Z 5) (a 9) (Z 9) (o 10) (a 10) (Z 10) (a 5 (100 + j)) (aK j) (B j) (a (24 + 0)) (Z (24 + 0)) (a (24 + 1)) (Z (24 + 1)) (a (24 + 2)) (Z (24 + 2)) (a (24 + 3)) (Z (24 + 3)) x0 0 _ h1) ⟨w_748, w_745, w_746, w_747, w_101, ok_X9_shy⟩ ⟨by decide, by decide⟩ ⟨Nat.le_trans (Nat.le_add_right _ _) hk, Nat.le_trans (Nat.le_add_right _ _) hn⟩ ⟨rfl, rfl⟩ [1, 3, 4, 7, 7, 0, 8, 8, 8, 8] (by simp only [pk_g, List.getElem?_cons_zero, List.getElem?_cons_succ, List.eraseIdx]) 0 rfl rfl rfl rfl (Nat.le_of_ble_eq_true rfl) dL_law_623 626 rfl (Gs' := (gX9 cy (o 0) (a 0) u.2.1 :: gX4 cy (a 0 2) (a 3) u.2.2.1 :: gX2 cy (a 0 4) (a 5) u.2.2.2.1 :: gX8 cy (a 0 9) (a 9) u.2.2.2.2.1 :: gX1 cy (o 10) (a 10) (Z 10) :: gX4 cy (a 5 (100 + j)) (aK j) u.2.2.2.2.2.1 :: gX3 cy (a 0 (900 + 0)) (a (24 + 0)) u.2.2.2.2.2.2.1 :: gX3 cy (a 0 (900 + 1)) (a (24 + 1)) u.2.2.2.2.2.2.2.1 :: gX3 cy (a 0 (900 + 2)) (a (24 + 2)) u.2.2.2.2.2.2.2.2.1 :: gX3 cy (a 0 (900 + 3)) (a (24 + 3)) u.2.2.2.2.2.2.2.2.2 :: gX0 cy (a 0 0) (a 1) (Z 1) :: gX0 cy (a 0 1) (a 2) (Z 2) :: gX4 cy (a 0 3) (a 4) (Z 4) :: gX7 cy (a 0 5) (a 6) (Z 6) :: gX7 cy (a 0 6) (a 7) (Z 7) :: gX5 cy (a 0 7) (a 8) (Z 8) :: gX1 cy (o 11) (a 11) (Z 11) :: gX10 cy (o 28) (a 28) (Z 28) :: pgR (WGp cy a aK B) j)) rfl ?_
    refine ww_aload_n h dL_law_626 rfl 1 rfl 627 rfl ?_
    refine ww_aload_n h dL_law_627 rfl 3 rfl 628 rfl ?_
    refine ww_iload_n h dL_law_628 rfl 0 rfl 629 rfl ?_
    refine ww_iconst h dL_law_629 (v := 1) (by decide) 630 rfl ?_
    refine ww_iadd h dL_law_630 631 rfl ?_
    refine ww_scd h hX hbl hbA (hin 1 (by decide) (by decide)) ex0 dL_law_631 632 rfl ?_
    refine ww_aload_n h dL_law_632 rfl 3 rfl 633 rfl ?_
    refine ww_iload_n h dL_law_633 rfl 0 rfl 634 rfl ?_
    refine ww_iconst h dL_law_634 (v := 2) (by decide) 635 rfl ?_
    refine ww_iadd h dL_law_635 636 rfl ?_
    refine ww_scd h hX hbl hbA (hin 2 (by decide) (by decide)) ex1 dL_law_636 637 rfl ?_
    refine ww_if_eq h dL_law_637 644 (by decide) 640 rfl (fun _ => ?_) (fun c => absurd hx c)
    refine ww_iconst h dL_law_644 (v := 0) (by decide) 645 rfl ?_
    refine ww_cVi h (c_X10_shy l D ev cy (o 28) (a 28) (Z 28) x0 0 _ h2) ⟨w_1423, w_1420, w_1421, w_1422, w_111, ok_X10_shy⟩ ⟨by decide, by decide⟩ ⟨Nat.le_trans (Nat.le_add_right _ _) hk, Nat.le_trans (Nat.le_add_right _ _) hn⟩ ⟨rfl, rfl⟩ [17] (by simp only [pk_g, List.getElem?_cons_zero, List.getElem?_cons_succ, List.eraseIdx]) 0 rfl rfl rfl rfl (Nat.le_of_ble_eq_true rfl) dL_law_645 648 rfl (Gs' := (gX10 cy (o 28) (a 28) w.2 :: gX9 cy (o 0) (a 0) u.2.1 :: gX4 cy (a 0 2) (a 3) u.2.2.1 :: gX2 cy (a 0 4) (a 5) u.2.2.2.1 :: gX8 cy (a 0 9) (a 9) u.2.2.2.2.1 :: gX1 cy (o 10) (a 10) (Z 10) :: gX4 cy (a 5 (100 + j)) (aK j) u.2.2.2.2.2.1 :: gX3 cy (a 0 (900 + 0)) (a (24 + 0)) u.2.2.2.2.2.2.1 :: gX3 cy (a 0 (900 + 1)) (a (24 + 1)) u.2.2.2.2.2.2.2.1 :: gX3 cy (a 0 (900 + 2)) (a (24 + 2)) u.2.2.2.2.2.2.2.2.1 :: gX3 cy (a 0 (900 + 3)) (a (24 + 3)) u.2.2.2.2.2.2.2.2.2 :: gX0 cy (a 0 0) (a 1) (Z 1) :: gX0 cy (a 0 1) (a 2) (Z 2) :: gX4 cy (a 0 3) (a 4) (Z 4) :: gX7 cy (a 0 5) (a 6) (Z 6) :: gX7 cy (a 0 6) (a 7) (Z 7) :: gX5 cy (a 0 7) (a 8) (Z 8) :: gX1 cy (o 11) (a 11) (Z 11) :: pgR (WGp cy a aK B) j)) rfl ?_
    refine ww_icmp_eq h dL_law_648 1591 (by decide) 651 rfl (fun _ => ?_) (fun c => absurd h3.symm c)
    refine ww_kn (Nat.le_succ k) (Nat.le_add_right n 6) ?_
    refine ww_permT [6, 1, 9, 9, 1, 8, 1, 7, 7, 7, 1, 1, 5, 0, 0, 0, 0, 0] (Cs := [gX4 cy (a 5 (100 + j)) (aK j) u.2.2.2.2.2.1, gX9 cy (o 0) (a 0) u.2.1, gX0 cy (a 0 0) (a 1) (Z 1), gX0 cy (a 0 1) (a 2) (Z 2), gX4 cy (a 0 2) (a 3) u.2.2.1, gX4 cy (a 0 3) (a 4) (Z 4), gX2 cy (a 0 4) (a 5) u.2.2.2.1, gX7 cy (a 0 5) (a 6) (Z 6), gX7 cy (a 0 6) (a 7) (Z 7), gX5 cy (a 0 7) (a 8) (Z 8), gX8 cy (a 0 9) (a 9) u.2.2.2.2.1, gX1 cy (o 10) (a 10) (Z 10), gX1 cy (o 11) (a 11) (Z 11), gX10 cy (o 28) (a 28) w.2, gX3 cy (a 0 (900 + 0)) (a (24 + 0)) u.2.2.2.2.2.2.1, gX3 cy (a 0 (900 + 1)) (a (24 + 1)) u.2.2.2.2.2.2.2.1, gX3 cy (a 0 (900 + 2)) (a (24 + 2)) u.2.2.2.2.2.2.2.2.1, gX3 cy (a 0 (900 + 3)) (a (24 + 3)) u.2.2.2.2.2.2.2.2.2]) (Rs := pgR (WGp cy a aK B) j) (by simp only [pk_g, List.getElem?_cons_zero, List.getElem?_cons_succ, List.eraseIdx]) (Gs' := (gX4 cy (a 5 (100 + j)) (aK j) u.2.2.2.2.2.1 :: gX9 cy (o 0) (a 0) u.2.1 :: gX0 cy (a 0 0) (a 1) (Z 1) :: gX0 cy (a 0 1) (a 2) (Z 2) :: gX4 cy (a 0 2) (a 3) u.2.2.1 :: gX4 cy (a 0 3) (a 4) (Z 4) :: gX2 cy (a 0 4) (a 5) u.2.2.2.1 :: gX7 cy (a 0 5) (a 6) (Z 6) :: gX7 cy (a 0 6) (a 7) (Z 7) :: gX5 cy (a 0 7) (a 8) (Z 8) :: gX8 cy (a 0 9) (a 9) u.2.2.2.2.1 :: gX1 cy (o 10) (a 10) (Z 10) :: gX1 cy (o 11) (a 11) (Z 11) :: gX10 cy (o 28) (a 28) w.2 :: gX3 cy (a 0 (900 + 0)) (a (24 + 0)) u.2.2.2.2.2.2.1 :: gX3 cy (a 0 (900 + 1)) (a (24 + 1)) u.2.2.2.2.2.2.2.1 :: gX3 cy (a 0 (900 + 2)) (a (24 + 2)) u.2.2.2.2.2.2.2.2.1 :: gX3 cy (a 0 (900 + 3)) (a (24 + 3)) u.2.2.2.2.2.2.2.2.2 :: pgR (WGp cy a aK B) j)) rfl ?_
    refine ww_pgIn (E := [gX9 cy (o 0) (a 0) u.2.1, gX0 cy (a 0 0) (a 1) (Z 1), gX0 cy (a 0 1) (a 2) (Z 2), gX4 cy (a 0 2) (a 3) u.2.2.1, gX4 cy (a 0 3) (a 4) (Z 4), gX2 cy (a 0 4) (a 5) u.2.2.2.1, gX7 cy (a 0 5) (a 6) (Z 6), gX7 cy (a 0 6) (a 7) (Z 7), gX5 cy (a 0 7) (a 8) (Z 8), gX8 cy (a 0 9) (a 9) u.2.2.2.2.1, gX1 cy (o 10) (a 10) (Z 10), gX1 cy (o 11) (a 11) (Z 11), gX10 cy (o 28) (a 28) w.2, gX3 cy (a 0 (900 + 0)) (a (24 + 0)) u.2.2.2.2.2.2.1, gX3 cy (a 0 (900 + 1)) (a (24 + 1)) u.2.2.2.2.2.2.2.1, gX3 cy (a 0 (900 + 2)) (a (24 + 2)) u.2.2.2.2.2.2.2.2.1, gX3 cy (a 0 (900 + 3)) (a (24 + 3)) u.2.2.2.2.2.2.2.2.2]) (g := WGp cy a aK (va_up B j u.2.2.2.2.2.1)) hj (by simp [WGp, va_up]) (fun i hi => by simp [WGp, va_up, hi]) ?_
    exact kk _ _ _ _ _ h4
  · skip
    have hv := ok o a aK Z B hI x0 1
    obtain ⟨j, hj, u, w, h1, h2, h3, h4⟩ := hv
    refine ww_pgOut hj ?_
    show ww X D A 4 Q k n 604 [(3, .int i), (2, .ref (o 28)), (1, .ref (o 0)), (0, .ref b)] [] (gX4 cy (a 5 (100 + j)) (aK j) (B j) :: gX9 cy (o 0) (a 0) (Z 0) :: gX0 cy (a 0 0) (a 1) (Z 1) :: gX0 cy (a 0 1) (a 2) (Z 2) :: gX4 cy (a 0 2) (a 3) (Z 3) :: gX4 cy (a 0 3) (a 4) (Z 4) :: gX2 cy (a 0 4) (a 5) (Z 5) :: gX7 cy (a 0 5) (a 6) (Z 6) :: gX7 cy (a 0 6) (a 7) (Z 7) :: gX5 cy (a 0 7) (a 8) (Z 8) :: gX8 cy (a 0 9) (a 9) (Z 9) :: gX1 cy (o 10) (a 10) (Z 10) :: gX1 cy (o 11) (a 11) (Z 11) :: gX10 cy (o 28) (a 28) (Z 28) :: gX3 cy (a 0 (900 + 0)) (a (24 + 0)) (Z (24 + 0)) :: gX3 cy (a 0 (900 + 1)) (a (24 + 1)) (Z (24 + 1)) :: gX3 cy (a 0 (900 + 2)) (a (24 + 2)) (Z (24 + 2)) :: gX3 cy (a 0 (900 + 3)) (a (24 + 3)) (Z (24 + 3)) :: pgR (WGp cy a aK B) j)
    refine ww_aload_n h dL_law_604 rfl 2 rfl 605 rfl ?_
    refine ww_aload_n h dL_law_605 rfl 3 rfl 606 rfl ?_
    refine ww_iload_n h dL_law_606 rfl 0 rfl 607 rfl ?_
    refine ww_iconst h dL_law_607 (v := 1) (by decide) 608 rfl ?_
    refine ww_iadd h dL_law_608 609 rfl ?_
    refine ww_scd h hX hbl hbA (hin 1 (by decide) (by decide)) ex0 dL_law_609 610 rfl ?_
    refine ww_aload_n h dL_law_610 rfl 3 rfl 611 rfl ?_
    refine ww_iload_n h dL_law_611 rfl 0 rfl 612 rfl ?_
    refine ww_iconst h dL_law_612 (v := 2) (by decide) 613 rfl ?_
    refine ww_iadd h dL_law_613 614 rfl ?_
    refine ww_scd h hX hbl hbA (hin 2 (by decide) (by decide)) ex1 dL_law_614 615 rfl ?_
    refine ww_if_eq h dL_law_615 622 (by decide) 618 rfl (fun c => absurd c hx) (fun _ => ?_)
    refine ww_iconst h dL_law_618 (v := 1) (by decide) 619 rfl ?_
    refine ww_goto h dL_law_619 623 (by decide) ?_
    refine ww_cVi h (c_X9_shy l D ev cy (o 0) (a 0) (Z 0) (a 3) (Z 3) (a 5) (Z 5) (a 9) (Z 9) (o 10) (a 10) (Z 10) (a 5 (100 + j)) (aK j) (B j) (a (24 + 0)) (Z (24 + 0)) (a (24 + 1)) (Z (24 + 1)) (a (24 + 2)) (Z (24 + 2)) (a (24 + 3)) (Z (24 + 3)) x0 1 _ h1) ⟨w_748, w_745, w_746, w_747, w_101, ok_X9_shy⟩ ⟨by decide, by decide⟩ ⟨Nat.le_trans (Nat.le_add_right _ _) hk, Nat.le_trans (Nat.le_add_right _ _) hn⟩ ⟨rfl, rfl⟩ [1, 3, 4, 7, 7, 0, 8, 8, 8, 8] (by simp only [pk_g, List.getElem?_cons_zero, List.getElem?_cons_succ, List.eraseIdx]) 0 rfl rfl rfl rfl (Nat.le_of_ble_eq_true rfl) dL_law_623 626 rfl (Gs' := (gX9 cy (o 0) (a 0) u.2.1 :: gX4 cy (a 0 2) (a 3) u.2.2.1 :: gX2 cy (a 0 4) (a 5) u.2.2.2.1 :: gX8 cy (a 0 9) (a 9) u.2.2.2.2.1 :: gX1 cy (o 10) (a 10) (Z 10) :: gX4 cy (a 5 (100 + j)) (aK j) u.2.2.2.2.2.1 :: gX3 cy (a 0 (900 + 0)) (a (24 + 0)) u.2.2.2.2.2.2.1 :: gX3 cy (a 0 (900 + 1)) (a (24 + 1)) u.2.2.2.2.2.2.2.1 :: gX3 cy (a 0 (900 + 2)) (a (24 + 2)) u.2.2.2.2.2.2.2.2.1 :: gX3 cy (a 0 (900 + 3)) (a (24 + 3)) u.2.2.2.2.2.2.2.2.2 :: gX0 cy (a 0 0) (a 1) (Z 1) :: gX0 cy (a 0 1) (a 2) (Z 2) :: gX4 cy (a 0 3) (a 4) (Z 4) :: gX7 cy (a 0 5) (a 6) (Z 6) :: gX7 cy (a 0 6) (a 7) (Z 7) :: gX5 cy (a 0 7) (a 8) (Z 8) :: gX1 cy (o 11) (a 11) (Z 11) :: gX10 cy (o 28) (a 28) (Z 28) :: pgR (WGp cy a aK B) j)) rfl ?_
    refine ww_aload_n h dL_law_626 rfl 1 rfl 627 rfl ?_
    refine ww_aload_n h dL_law_627 rfl 3 rfl 628 rfl ?_
    refine ww_iload_n h dL_law_628 rfl 0 rfl 629 rfl ?_
    refine ww_iconst h dL_law_629 (v := 1) (by decide) 630 rfl ?_
    refine ww_iadd h dL_law_630 631 rfl ?_
    refine ww_scd h hX hbl hbA (hin 1 (by decide) (by decide)) ex0 dL_law_631 632 rfl ?_
    refine ww_aload_n h dL_law_632 rfl 3 rfl 633 rfl ?_
    refine ww_iload_n h dL_law_633 rfl 0 rfl 634 rfl ?_
    refine ww_iconst h dL_law_634 (v := 2) (by decide) 635 rfl ?_
    refine ww_iadd h dL_law_635 636 rfl ?_
    refine ww_scd h hX hbl hbA (hin 2 (by decide) (by decide)) ex1 dL_law_636 637 rfl ?_
    refine ww_if_eq h dL_law_637 644 (by decide) 640 rfl (fun c => absurd c hx) (fun _ => ?_)
    refine ww_iconst h dL_law_640 (v := 1) (by decide) 641 rfl ?_
    refine ww_goto h dL_law_641 645 (by decide) ?_
    refine ww_cVi h (c_X10_shy l D ev cy (o 28) (a 28) (Z 28) x0 1 _ h2) ⟨w_1423, w_1420, w_1421, w_1422, w_111, ok_X10_shy⟩ ⟨by decide, by decide⟩ ⟨Nat.le_trans (Nat.le_add_right _ _) hk, Nat.le_trans (Nat.le_add_right _ _) hn⟩ ⟨rfl, rfl⟩ [17] (by simp only [pk_g, List.getElem?_cons_zero, List.getElem?_cons_succ, List.eraseIdx]) 0 rfl rfl rfl rfl (Nat.le_of_ble_eq_true rfl) dL_law_645 648 rfl (Gs' := (gX10 cy (o 28) (a 28) w.2 :: gX9 cy (o 0) (a 0) u.2.1 :: gX4 cy (a 0 2) (a 3) u.2.2.1 :: gX2 cy (a 0 4) (a 5) u.2.2.2.1 :: gX8 cy (a 0 9) (a 9) u.2.2.2.2.1 :: gX1 cy (o 10) (a 10) (Z 10) :: gX4 cy (a 5 (100 + j)) (aK j) u.2.2.2.2.2.1 :: gX3 cy (a 0 (900 + 0)) (a (24 + 0)) u.2.2.2.2.2.2.1 :: gX3 cy (a 0 (900 + 1)) (a (24 + 1)) u.2.2.2.2.2.2.2.1 :: gX3 cy (a 0 (900 + 2)) (a (24 + 2)) u.2.2.2.2.2.2.2.2.1 :: gX3 cy (a 0 (900 + 3)) (a (24 + 3)) u.2.2.2.2.2.2.2.2.2 :: gX0 cy (a 0 0) (a 1) (Z 1) :: gX0 cy (a 0 1) (a 2) (Z 2) :: gX4 cy (a 0 3) (a 4) (Z 4) :: gX7 cy (a 0 5) (a 6) (Z 6) :: gX7 cy (a 0 6) (a 7) (Z 7) :: gX5 cy (a 0 7) (a 8) (Z 8) :: gX1 cy (o 11) (a 11) (Z 11) :: pgR (WGp cy a aK B) j)) rfl ?_
    refine ww_icmp_eq h dL_law_648 1591 (by decide) 651 rfl (fun _ => ?_) (fun c => absurd h3.symm c)
    refine ww_kn (Nat.le_succ k) (Nat.le_add_right n 6) ?_
    refine ww_permT [6, 1, 9, 9, 1, 8, 1, 7, 7, 7, 1, 1, 5, 0, 0, 0, 0, 0] (Cs := [gX4 cy (a 5 (100 + j)) (aK j) u.2.2.2.2.2.1, gX9 cy (o 0) (a 0) u.2.1, gX0 cy (a 0 0) (a 1) (Z 1), gX0 cy (a 0 1) (a 2) (Z 2), gX4 cy (a 0 2) (a 3) u.2.2.1, gX4 cy (a 0 3) (a 4) (Z 4), gX2 cy (a 0 4) (a 5) u.2.2.2.1, gX7 cy (a 0 5) (a 6) (Z 6), gX7 cy (a 0 6) (a 7) (Z 7), gX5 cy (a 0 7) (a 8) (Z 8), gX8 cy (a 0 9) (a 9) u.2.2.2.2.1, gX1 cy (o 10) (a 10) (Z 10), gX1 cy (o 11) (a 11) (Z 11), gX10 cy (o 28) (a 28) w.2, gX3 cy (a 0 (900 + 0)) (a (24 + 0)) u.2.2.2.2.2.2.1, gX3 cy (a 0 (900 + 1)) (a (24 + 1)) u.2.2.2.2.2.2.2.1, gX3 cy (a 0 (900 + 2)) (a (24 + 2)) u.2.2.2.2.2.2.2.2.1, gX3 cy (a 0 (900 + 3)) (a (24 + 3)) u.2.2.2.2.2.2.2.2.2]) (Rs := pgR (WGp cy a aK B) j) (by simp only [pk_g, List.getElem?_cons_zero, List.getElem?_cons_succ, List.eraseIdx]) (Gs' := (gX4 cy (a 5 (100 + j)) (aK j) u.2.2.2.2.2.1 :: gX9 cy (o 0) (a 0) u.2.1 :: gX0 cy (a 0 0) (a 1) (Z 1) :: gX0 cy (a 0 1) (a 2) (Z 2) :: gX4 cy (a 0 2) (a 3) u.2.2.1 :: gX4 cy (a 0 3) (a 4) (Z 4) :: gX2 cy (a 0 4) (a 5) u.2.2.2.1 :: gX7 cy (a 0 5) (a 6) (Z 6) :: gX7 cy (a 0 6) (a 7) (Z 7) :: gX5 cy (a 0 7) (a 8) (Z 8) :: gX8 cy (a 0 9) (a 9) u.2.2.2.2.1 :: gX1 cy (o 10) (a 10) (Z 10) :: gX1 cy (o 11) (a 11) (Z 11) :: gX10 cy (o 28) (a 28) w.2 :: gX3 cy (a 0 (900 + 0)) (a (24 + 0)) u.2.2.2.2.2.2.1 :: gX3 cy (a 0 (900 + 1)) (a (24 + 1)) u.2.2.2.2.2.2.2.1 :: gX3 cy (a 0 (900 + 2)) (a (24 + 2)) u.2.2.2.2.2.2.2.2.1 :: gX3 cy (a 0 (900 + 3)) (a (24 + 3)) u.2.2.2.2.2.2.2.2.2 :: pgR (WGp cy a aK B) j)) rfl ?_
    refine ww_pgIn (E := [gX9 cy (o 0) (a 0) u.2.1, gX0 cy (a 0 0) (a 1) (Z 1), gX0 cy (a 0 1) (a 2) (Z 2), gX4 cy (a 0 2) (a 3) u.2.2.1, gX4 cy (a 0 3) (a 4) (Z 4), gX2 cy (a 0 4) (a 5) u.2.2.2.1, gX7 cy (a 0 5) (a 6) (Z 6), gX7 cy (a 0 6) (a 7) (Z 7), gX5 cy (a 0 7) (a 8) (Z 8), gX8 cy (a 0 9) (a 9) u.2.2.2.2.1, gX1 cy (o 10) (a 10) (Z 10), gX1 cy (o 11) (a 11) (Z 11), gX10 cy (o 28) (a 28) w.2, gX3 cy (a 0 (900 + 0)) (a (24 + 0)) u.2.2.2.2.2.2.1, gX3 cy (a 0 (900 + 1)) (a (24 + 1)) u.2.2.2.2.2.2.2.1, gX3 cy (a 0 (900 + 2)) (a (24 + 2)) u.2.2.2.2.2.2.2.2.1, gX3 cy (a 0 (900 + 3)) (a (24 + 3)) u.2.2.2.2.2.2.2.2.2]) (g := WGp cy a aK (va_up B j u.2.2.2.2.2.1)) hj (by simp [WGp, va_up]) (fun i hi => by simp [WGp, va_up, hi]) ?_
    exact kk _ _ _ _ _ h4
set_option maxHeartbeats 4000000 in
set_option maxRecDepth 100000 in
theorem case_marked {X : Cx} {D : va_G} {ev : EvT} {cy : Nat → ClassId} {A : Nat → Prop} {Q : State → Prop} {l : Launch} {b Ln : Nat} {xs : Nat → Int32} {i : Int32} {k n : Nat} {I : LI} (C : lwC X D ev cy A l b Ln xs i k n) (ok : Ok_marked I) {o : Nat → Nat} {a aK : Nat → Nat → Nat} {Z B : Nat → OV} (hI : I o a aK Z B) (kk : lwK X D cy A Q b i k n I) : ww X D A 4 Q k n 788 [(3, .int i), (2, .ref (o 28)), (1, .ref (o 0)), (0, .ref b)] [] (WGs cy o a aK Z B) := by
  obtain ⟨h, hX, hbl, hbA, hin, hk, hn⟩ := C
  obtain ⟨x0, ex0⟩ : ∃ x : Int32, xs (i + 1).toNatClampNeg = x := ⟨_, rfl⟩
  have hv := ok o a aK Z B hI x0
  obtain ⟨u, w, h1, h2, h3, h4⟩ := hv
  show ww X D A 4 Q k n 788 [(3, .int i), (2, .ref (o 28)), (1, .ref (o 0)), (0, .ref b)] [] (gX9 cy (o 0) (a 0) (Z 0) :: gX0 cy (a 0 0) (a 1) (Z 1) :: gX0 cy (a 0 1) (a 2) (Z 2) :: gX4 cy (a 0 2) (a 3) (Z 3) :: gX4 cy (a 0 3) (a 4) (Z 4) :: gX2 cy (a 0 4) (a 5) (Z 5) :: gX7 cy (a 0 5) (a 6) (Z 6) :: gX7 cy (a 0 6) (a 7) (Z 7) :: gX5 cy (a 0 7) (a 8) (Z 8) :: gX8 cy (a 0 9) (a 9) (Z 9) :: gX1 cy (o 10) (a 10) (Z 10) :: gX1 cy (o 11) (a 11) (Z 11) :: gX10 cy (o 28) (a 28) (Z 28) :: gX3 cy (a 0 (900 + 0)) (a (24 + 0)) (Z (24 + 0)) :: gX3 cy (a 0 (900 + 1)) (a (24 + 1)) (Z (24 + 1)) :: gX3 cy (a 0 (900 + 2)) (a (24 + 2)) (Z (24 + 2)) :: gX3 cy (a 0 (900 + 3)) (a (24 + 3)) (Z (24 + 3)) :: pgs (WGp cy a aK B))
  refine ww_aload_n h dL_law_788 rfl 2 rfl 789 rfl ?_
  refine ww_aload_n h dL_law_789 rfl 3 rfl 790 rfl ?_
  refine ww_iload_n h dL_law_790 rfl 0 rfl 791 rfl ?_
  refine ww_iconst h dL_law_791 (v := 1) (by decide) 792 rfl ?_
  refine ww_iadd h dL_law_792 793 rfl ?_
  refine ww_scd h hX hbl hbA (hin 1 (by decide) (by decide)) ex0 dL_law_793 794 rfl ?_
  refine ww_cVi h (c_X9_marked l D ev cy (o 0) (a 0) (Z 0) (a 3) (Z 3) x0 _ h1) ⟨w_789, w_786, w_787, w_788, w_101, ok_X9_marked⟩ ⟨by decide, by decide⟩ ⟨Nat.le_trans (Nat.le_add_right _ _) hk, Nat.le_trans (Nat.le_add_right _ _) hn⟩ ⟨rfl, rfl⟩ [0, 2] (by simp only [pk_g, List.getElem?_cons_zero, List.getElem?_cons_succ, List.eraseIdx]) 0 rfl rfl rfl rfl (Nat.le_of_ble_eq_true rfl) dL_law_794 797 rfl (Gs' := (gX9 cy (o 0) (a 0) (Z 0) :: gX4 cy (a 0 2) (a 3) (Z 3) :: gX0 cy (a 0 0) (a 1) (Z 1) :: gX0 cy (a 0 1) (a 2) (Z 2) :: gX4 cy (a 0 3) (a 4) (Z 4) :: gX2 cy (a 0 4) (a 5) (Z 5) :: gX7 cy (a 0 5) (a 6) (Z 6) :: gX7 cy (a 0 6) (a 7) (Z 7) :: gX5 cy (a 0 7) (a 8) (Z 8) :: gX8 cy (a 0 9) (a 9) (Z 9) :: gX1 cy (o 10) (a 10) (Z 10) :: gX1 cy (o 11) (a 11) (Z 11) :: gX10 cy (o 28) (a 28) (Z 28) :: gX3 cy (a 0 (900 + 0)) (a (24 + 0)) (Z (24 + 0)) :: gX3 cy (a 0 (900 + 1)) (a (24 + 1)) (Z (24 + 1)) :: gX3 cy (a 0 (900 + 2)) (a (24 + 2)) (Z (24 + 2)) :: gX3 cy (a 0 (900 + 3)) (a (24 + 3)) (Z (24 + 3)) :: pgs (WGp cy a aK B))) rfl ?_
  refine ww_aload_n h dL_law_797 rfl 1 rfl 798 rfl ?_
  refine ww_aload_n h dL_law_798 rfl 3 rfl 799 rfl ?_
  refine ww_iload_n h dL_law_799 rfl 0 rfl 800 rfl ?_
  refine ww_iconst h dL_law_800 (v := 1) (by decide) 801 rfl ?_
  refine ww_iadd h dL_law_801 802 rfl ?_
  refine ww_scd h hX hbl hbA (hin 1 (by decide) (by decide)) ex0 dL_law_802 803 rfl ?_
  refine ww_cVi h (c_X10_marked l D ev cy (o 28) (a 28) (Z 28) x0 _ h2) ⟨w_1449, w_1446, w_1447, w_1448, w_111, ok_X10_marked⟩ ⟨by decide, by decide⟩ ⟨Nat.le_trans (Nat.le_add_right _ _) hk, Nat.le_trans (Nat.le_add_right _ _) hn⟩ ⟨rfl, rfl⟩ [12] (by simp only [pk_g, List.getElem?_cons_zero, List.getElem?_cons_succ, List.eraseIdx]) 0 rfl rfl rfl rfl (Nat.le_of_ble_eq_true rfl) dL_law_803 806 rfl (Gs' := (gX10 cy (o 28) (a 28) (Z 28) :: gX9 cy (o 0) (a 0) (Z 0) :: gX4 cy (a 0 2) (a 3) (Z 3) :: gX0 cy (a 0 0) (a 1) (Z 1) :: gX0 cy (a 0 1) (a 2) (Z 2) :: gX4 cy (a 0 3) (a 4) (Z 4) :: gX2 cy (a 0 4) (a 5) (Z 5) :: gX7 cy (a 0 5) (a 6) (Z 6) :: gX7 cy (a 0 6) (a 7) (Z 7) :: gX5 cy (a 0 7) (a 8) (Z 8) :: gX8 cy (a 0 9) (a 9) (Z 9) :: gX1 cy (o 10) (a 10) (Z 10) :: gX1 cy (o 11) (a 11) (Z 11) :: gX3 cy (a 0 (900 + 0)) (a (24 + 0)) (Z (24 + 0)) :: gX3 cy (a 0 (900 + 1)) (a (24 + 1)) (Z (24 + 1)) :: gX3 cy (a 0 (900 + 2)) (a (24 + 2)) (Z (24 + 2)) :: gX3 cy (a 0 (900 + 3)) (a (24 + 3)) (Z (24 + 3)) :: pgs (WGp cy a aK B))) rfl ?_
  refine ww_icmp_eq h dL_law_806 1591 (by decide) 809 rfl (fun _ => ?_) (fun c => absurd h3.symm c)
  refine ww_kn (Nat.le_succ k) (Nat.le_add_right n 6) ?_
  refine ww_permT [1, 2, 2, 1, 1, 1, 1, 1, 1, 1, 1, 1, 0, 0, 0, 0, 0] (Cs := [gX9 cy (o 0) (a 0) (Z 0), gX0 cy (a 0 0) (a 1) (Z 1), gX0 cy (a 0 1) (a 2) (Z 2), gX4 cy (a 0 2) (a 3) (Z 3), gX4 cy (a 0 3) (a 4) (Z 4), gX2 cy (a 0 4) (a 5) (Z 5), gX7 cy (a 0 5) (a 6) (Z 6), gX7 cy (a 0 6) (a 7) (Z 7), gX5 cy (a 0 7) (a 8) (Z 8), gX8 cy (a 0 9) (a 9) (Z 9), gX1 cy (o 10) (a 10) (Z 10), gX1 cy (o 11) (a 11) (Z 11), gX10 cy (o 28) (a 28) (Z 28), gX3 cy (a 0 (900 + 0)) (a (24 + 0)) (Z (24 + 0)), gX3 cy (a 0 (900 + 1)) (a (24 + 1)) (Z (24 + 1)), gX3 cy (a 0 (900 + 2)) (a (24 + 2)) (Z (24 + 2)), gX3 cy (a 0 (900 + 3)) (a (24 + 3)) (Z (24 + 3))]) (Rs := pgs (WGp cy a aK B)) (by simp only [pk_g, List.getElem?_cons_zero, List.getElem?_cons_succ, List.eraseIdx]) (Gs' := (gX9 cy (o 0) (a 0) (Z 0) :: gX0 cy (a 0 0) (a 1) (Z 1) :: gX0 cy (a 0 1) (a 2) (Z 2) :: gX4 cy (a 0 2) (a 3) (Z 3) :: gX4 cy (a 0 3) (a 4) (Z 4) :: gX2 cy (a 0 4) (a 5) (Z 5) :: gX7 cy (a 0 5) (a 6) (Z 6) :: gX7 cy (a 0 6) (a 7) (Z 7) :: gX5 cy (a 0 7) (a 8) (Z 8) :: gX8 cy (a 0 9) (a 9) (Z 9) :: gX1 cy (o 10) (a 10) (Z 10) :: gX1 cy (o 11) (a 11) (Z 11) :: gX10 cy (o 28) (a 28) (Z 28) :: gX3 cy (a 0 (900 + 0)) (a (24 + 0)) (Z (24 + 0)) :: gX3 cy (a 0 (900 + 1)) (a (24 + 1)) (Z (24 + 1)) :: gX3 cy (a 0 (900 + 2)) (a (24 + 2)) (Z (24 + 2)) :: gX3 cy (a 0 (900 + 3)) (a (24 + 3)) (Z (24 + 3)) :: pgs (WGp cy a aK B))) rfl ?_
  exact kk _ _ _ _ _ h4
set_option maxHeartbeats 4000000 in
set_option maxRecDepth 100000 in
theorem case_line {X : Cx} {D : va_G} {ev : EvT} {cy : Nat → ClassId} {A : Nat → Prop} {Q : State → Prop} {l : Launch} {b Ln : Nat} {xs : Nat → Int32} {i : Int32} {k n : Nat} {I : LI} (C : lwC X D ev cy A l b Ln xs i k n) (ok : Ok_line I) {o : Nat → Nat} {a aK : Nat → Nat → Nat} {Z B : Nat → OV} (hI : I o a aK Z B) (kk : lwK X D cy A Q b i k n I) : ww X D A 4 Q k n 956 [(3, .int i), (2, .ref (o 28)), (1, .ref (o 0)), (0, .ref b)] [] (WGs cy o a aK Z B) := by
  obtain ⟨h, hX, hbl, hbA, hin, hk, hn⟩ := C
  obtain ⟨x0, ex0⟩ : ∃ x : Int32, xs (i + 1).toNatClampNeg = x := ⟨_, rfl⟩
  obtain ⟨x1, ex1⟩ : ∃ x : Int32, xs (i + 2).toNatClampNeg = x := ⟨_, rfl⟩
  obtain ⟨x2, ex2⟩ : ∃ x : Int32, xs (i + 3).toNatClampNeg = x := ⟨_, rfl⟩
  rcases ok o a aK Z B hI x0 x1 x2 with hv | hv | hv | hv
  · obtain ⟨u, w, h1, h2, h3, h4⟩ := hv
    show ww X D A 4 Q k n 956 [(3, .int i), (2, .ref (o 28)), (1, .ref (o 0)), (0, .ref b)] [] (gX9 cy (o 0) (a 0) (Z 0) :: gX0 cy (a 0 0) (a 1) (Z 1) :: gX0 cy (a 0 1) (a 2) (Z 2) :: gX4 cy (a 0 2) (a 3) (Z 3) :: gX4 cy (a 0 3) (a 4) (Z 4) :: gX2 cy (a 0 4) (a 5) (Z 5) :: gX7 cy (a 0 5) (a 6) (Z 6) :: gX7 cy (a 0 6) (a 7) (Z 7) :: gX5 cy (a 0 7) (a 8) (Z 8) :: gX8 cy (a 0 9) (a 9) (Z 9) :: gX1 cy (o 10) (a 10) (Z 10) :: gX1 cy (o 11) (a 11) (Z 11) :: gX10 cy (o 28) (a 28) (Z 28) :: gX3 cy (a 0 (900 + 0)) (a (24 + 0)) (Z (24 + 0)) :: gX3 cy (a 0 (900 + 1)) (a (24 + 1)) (Z (24 + 1)) :: gX3 cy (a 0 (900 + 2)) (a (24 + 2)) (Z (24 + 2)) :: gX3 cy (a 0 (900 + 3)) (a (24 + 3)) (Z (24 + 3)) :: pgs (WGp cy a aK B))
    refine ww_aload_n h dL_law_956 rfl 2 rfl 957 rfl ?_
    refine ww_aload_n h dL_law_957 rfl 3 rfl 958 rfl ?_
    refine ww_iload_n h dL_law_958 rfl 0 rfl 959 rfl ?_
    refine ww_iconst h dL_law_959 (v := 1) (by decide) 960 rfl ?_
    refine ww_iadd h dL_law_960 961 rfl ?_
    refine ww_scd h hX hbl hbA (hin 1 (by decide) (by decide)) ex0 dL_law_961 962 rfl ?_
    refine ww_aload_n h dL_law_962 rfl 3 rfl 963 rfl ?_
    refine ww_iload_n h dL_law_963 rfl 0 rfl 964 rfl ?_
    refine ww_iconst h dL_law_964 (v := 2) (by decide) 965 rfl ?_
    refine ww_iadd h dL_law_965 966 rfl ?_
    refine ww_scd h hX hbl hbA (hin 2 (by decide) (by decide)) ex1 dL_law_966 967 rfl ?_
    refine ww_aload_n h dL_law_967 rfl 3 rfl 968 rfl ?_
    refine ww_iload_n h dL_law_968 rfl 0 rfl 969 rfl ?_
    refine ww_iconst h dL_law_969 (v := 3) (by decide) 970 rfl ?_
    refine ww_iadd h dL_law_970 971 rfl ?_
    refine ww_scd h hX hbl hbA (hin 3 (by decide) (by decide)) ex2 dL_law_971 972 rfl ?_
    refine ww_cVi h (c_X9_line l D ev cy (o 0) (a 0) (Z 0) (a 3) (Z 3) (a 6) (Z 6) (a 8) (Z 8) (o 10) (a 10) (Z 10) (a 0 (900 + 0)) (a (24 + 0)) (Z (24 + 0)) x0 x1 x2 _ h1) ⟨w_943, w_940, w_941, w_942, w_101, ok_X9_line⟩ ⟨by decide, by decide⟩ ⟨Nat.le_trans (Nat.le_add_right _ _) hk, Nat.le_trans (Nat.le_add_right _ _) hn⟩ ⟨rfl, rfl⟩ [0, 2, 4, 5, 6, 8] (by simp only [pk_g, List.getElem?_cons_zero, List.getElem?_cons_succ, List.eraseIdx]) 0 rfl rfl rfl rfl (Nat.le_of_ble_eq_true rfl) dL_law_972 975 rfl (Gs' := (gX9 cy (o 0) (a 0) u.2.1 :: gX4 cy (a 0 2) (a 3) (Z 3) :: gX7 cy (a 0 5) (a 6) u.2.2.1 :: gX5 cy (a 0 7) (a 8) u.2.2.2.1 :: gX1 cy (o 10) (a 10) (Z 10) :: gX3 cy (a 0 (900 + 0)) (a (24 + 0)) u.2.2.2.2 :: gX0 cy (a 0 0) (a 1) (Z 1) :: gX0 cy (a 0 1) (a 2) (Z 2) :: gX4 cy (a 0 3) (a 4) (Z 4) :: gX2 cy (a 0 4) (a 5) (Z 5) :: gX7 cy (a 0 6) (a 7) (Z 7) :: gX8 cy (a 0 9) (a 9) (Z 9) :: gX1 cy (o 11) (a 11) (Z 11) :: gX10 cy (o 28) (a 28) (Z 28) :: gX3 cy (a 0 (900 + 1)) (a (24 + 1)) (Z (24 + 1)) :: gX3 cy (a 0 (900 + 2)) (a (24 + 2)) (Z (24 + 2)) :: gX3 cy (a 0 (900 + 3)) (a (24 + 3)) (Z (24 + 3)) :: pgs (WGp cy a aK B))) rfl ?_
    refine ww_aload_n h dL_law_975 rfl 1 rfl 976 rfl ?_
    refine ww_aload_n h dL_law_976 rfl 3 rfl 977 rfl ?_
    refine ww_iload_n h dL_law_977 rfl 0 rfl 978 rfl ?_
    refine ww_iconst h dL_law_978 (v := 1) (by decide) 979 rfl ?_
    refine ww_iadd h dL_law_979 980 rfl ?_
    refine ww_scd h hX hbl hbA (hin 1 (by decide) (by decide)) ex0 dL_law_980 981 rfl ?_
    refine ww_aload_n h dL_law_981 rfl 3 rfl 982 rfl ?_
    refine ww_iload_n h dL_law_982 rfl 0 rfl 983 rfl ?_
    refine ww_iconst h dL_law_983 (v := 2) (by decide) 984 rfl ?_
    refine ww_iadd h dL_law_984 985 rfl ?_
    refine ww_scd h hX hbl hbA (hin 2 (by decide) (by decide)) ex1 dL_law_985 986 rfl ?_
    refine ww_aload_n h dL_law_986 rfl 3 rfl 987 rfl ?_
    refine ww_iload_n h dL_law_987 rfl 0 rfl 988 rfl ?_
    refine ww_iconst h dL_law_988 (v := 3) (by decide) 989 rfl ?_
    refine ww_iadd h dL_law_989 990 rfl ?_
    refine ww_scd h hX hbl hbA (hin 3 (by decide) (by decide)) ex2 dL_law_990 991 rfl ?_
    refine ww_cVi h (c_X10_line l D ev cy (o 28) (a 28) (Z 28) x0 x1 x2 _ h2) ⟨w_1533, w_1530, w_1531, w_1532, w_111, ok_X10_line⟩ ⟨by decide, by decide⟩ ⟨Nat.le_trans (Nat.le_add_right _ _) hk, Nat.le_trans (Nat.le_add_right _ _) hn⟩ ⟨rfl, rfl⟩ [13] (by simp only [pk_g, List.getElem?_cons_zero, List.getElem?_cons_succ, List.eraseIdx]) 0 rfl rfl rfl rfl (Nat.le_of_ble_eq_true rfl) dL_law_991 994 rfl (Gs' := (gX10 cy (o 28) (a 28) w.2 :: gX9 cy (o 0) (a 0) u.2.1 :: gX4 cy (a 0 2) (a 3) (Z 3) :: gX7 cy (a 0 5) (a 6) u.2.2.1 :: gX5 cy (a 0 7) (a 8) u.2.2.2.1 :: gX1 cy (o 10) (a 10) (Z 10) :: gX3 cy (a 0 (900 + 0)) (a (24 + 0)) u.2.2.2.2 :: gX0 cy (a 0 0) (a 1) (Z 1) :: gX0 cy (a 0 1) (a 2) (Z 2) :: gX4 cy (a 0 3) (a 4) (Z 4) :: gX2 cy (a 0 4) (a 5) (Z 5) :: gX7 cy (a 0 6) (a 7) (Z 7) :: gX8 cy (a 0 9) (a 9) (Z 9) :: gX1 cy (o 11) (a 11) (Z 11) :: gX3 cy (a 0 (900 + 1)) (a (24 + 1)) (Z (24 + 1)) :: gX3 cy (a 0 (900 + 2)) (a (24 + 2)) (Z (24 + 2)) :: gX3 cy (a 0 (900 + 3)) (a (24 + 3)) (Z (24 + 3)) :: pgs (WGp cy a aK B))) rfl ?_
    refine ww_icmp_eq h dL_law_994 1591 (by decide) 997 rfl (fun _ => ?_) (fun c => absurd h3.symm c)
    refine ww_kn (Nat.le_succ k) (Nat.le_add_right n 6) ?_
    refine ww_permT [1, 6, 6, 1, 5, 5, 1, 4, 1, 3, 1, 2, 0, 0, 0, 0, 0] (Cs := [gX9 cy (o 0) (a 0) u.2.1, gX0 cy (a 0 0) (a 1) (Z 1), gX0 cy (a 0 1) (a 2) (Z 2), gX4 cy (a 0 2) (a 3) (Z 3), gX4 cy (a 0 3) (a 4) (Z 4), gX2 cy (a 0 4) (a 5) (Z 5), gX7 cy (a 0 5) (a 6) u.2.2.1, gX7 cy (a 0 6) (a 7) (Z 7), gX5 cy (a 0 7) (a 8) u.2.2.2.1, gX8 cy (a 0 9) (a 9) (Z 9), gX1 cy (o 10) (a 10) (Z 10), gX1 cy (o 11) (a 11) (Z 11), gX10 cy (o 28) (a 28) w.2, gX3 cy (a 0 (900 + 0)) (a (24 + 0)) u.2.2.2.2, gX3 cy (a 0 (900 + 1)) (a (24 + 1)) (Z (24 + 1)), gX3 cy (a 0 (900 + 2)) (a (24 + 2)) (Z (24 + 2)), gX3 cy (a 0 (900 + 3)) (a (24 + 3)) (Z (24 + 3))]) (Rs := pgs (WGp cy a aK B)) (by simp only [pk_g, List.getElem?_cons_zero, List.getElem?_cons_succ, List.eraseIdx]) (Gs' := (gX9 cy (o 0) (a 0) u.2.1 :: gX0 cy (a 0 0) (a 1) (Z 1) :: gX0 cy (a 0 1) (a 2) (Z 2) :: gX4 cy (a 0 2) (a 3) (Z 3) :: gX4 cy (a 0 3) (a 4) (Z 4) :: gX2 cy (a 0 4) (a 5) (Z 5) :: gX7 cy (a 0 5) (a 6) u.2.2.1 :: gX7 cy (a 0 6) (a 7) (Z 7) :: gX5 cy (a 0 7) (a 8) u.2.2.2.1 :: gX8 cy (a 0 9) (a 9) (Z 9) :: gX1 cy (o 10) (a 10) (Z 10) :: gX1 cy (o 11) (a 11) (Z 11) :: gX10 cy (o 28) (a 28) w.2 :: gX3 cy (a 0 (900 + 0)) (a (24 + 0)) u.2.2.2.2 :: gX3 cy (a 0 (900 + 1)) (a (24 + 1)) (Z (24 + 1)) :: gX3 cy (a 0 (900 + 2)) (a (24 + 2)) (Z (24 + 2)) :: gX3 cy (a 0 (900 + 3)) (a (24 + 3)) (Z (24 + 3)) :: pgs (WGp cy a aK B))) rfl ?_
    exact kk _ _ _ _ _ h4
  · obtain ⟨u, w, h1, h2, h3, h4⟩ := hv
    show ww X D A 4 Q k n 956 [(3, .int i), (2, .ref (o 28)), (1, .ref (o 0)), (0, .ref b)] [] (gX9 cy (o 0) (a 0) (Z 0) :: gX0 cy (a 0 0) (a 1) (Z 1) :: gX0 cy (a 0 1) (a 2) (Z 2) :: gX4 cy (a 0 2) (a 3) (Z 3) :: gX4 cy (a 0 3) (a 4) (Z 4) :: gX2 cy (a 0 4) (a 5) (Z 5) :: gX7 cy (a 0 5) (a 6) (Z 6) :: gX7 cy (a 0 6) (a 7) (Z 7) :: gX5 cy (a 0 7) (a 8) (Z 8) :: gX8 cy (a 0 9) (a 9) (Z 9) :: gX1 cy (o 10) (a 10) (Z 10) :: gX1 cy (o 11) (a 11) (Z 11) :: gX10 cy (o 28) (a 28) (Z 28) :: gX3 cy (a 0 (900 + 0)) (a (24 + 0)) (Z (24 + 0)) :: gX3 cy (a 0 (900 + 1)) (a (24 + 1)) (Z (24 + 1)) :: gX3 cy (a 0 (900 + 2)) (a (24 + 2)) (Z (24 + 2)) :: gX3 cy (a 0 (900 + 3)) (a (24 + 3)) (Z (24 + 3)) :: pgs (WGp cy a aK B))
    refine ww_aload_n h dL_law_956 rfl 2 rfl 957 rfl ?_
    refine ww_aload_n h dL_law_957 rfl 3 rfl 958 rfl ?_
    refine ww_iload_n h dL_law_958 rfl 0 rfl 959 rfl ?_
    refine ww_iconst h dL_law_959 (v := 1) (by decide) 960 rfl ?_
    refine ww_iadd h dL_law_960 961 rfl ?_
    refine ww_scd h hX hbl hbA (hin 1 (by decide) (by decide)) ex0 dL_law_961 962 rfl ?_
    refine ww_aload_n h dL_law_962 rfl 3 rfl 963 rfl ?_
    refine ww_iload_n h dL_law_963 rfl 0 rfl 964 rfl ?_
    refine ww_iconst h dL_law_964 (v := 2) (by decide) 965 rfl ?_
    refine ww_iadd h dL_law_965 966 rfl ?_
    refine ww_scd h hX hbl hbA (hin 2 (by decide) (by decide)) ex1 dL_law_966 967 rfl ?_
    refine ww_aload_n h dL_law_967 rfl 3 rfl 968 rfl ?_
    refine ww_iload_n h dL_law_968 rfl 0 rfl 969 rfl ?_
    refine ww_iconst h dL_law_969 (v := 3) (by decide) 970 rfl ?_
    refine ww_iadd h dL_law_970 971 rfl ?_
    refine ww_scd h hX hbl hbA (hin 3 (by decide) (by decide)) ex2 dL_law_971 972 rfl ?_
    refine ww_cVi h (c_X9_line l D ev cy (o 0) (a 0) (Z 0) (a 3) (Z 3) (a 6) (Z 6) (a 8) (Z 8) (o 10) (a 10) (Z 10) (a 0 (900 + 1)) (a (24 + 1)) (Z (24 + 1)) x0 x1 x2 _ h1) ⟨w_943, w_940, w_941, w_942, w_101, ok_X9_line⟩ ⟨by decide, by decide⟩ ⟨Nat.le_trans (Nat.le_add_right _ _) hk, Nat.le_trans (Nat.le_add_right _ _) hn⟩ ⟨rfl, rfl⟩ [0, 2, 4, 5, 6, 9] (by simp only [pk_g, List.getElem?_cons_zero, List.getElem?_cons_succ, List.eraseIdx]) 0 rfl rfl rfl rfl (Nat.le_of_ble_eq_true rfl) dL_law_972 975 rfl (Gs' := (gX9 cy (o 0) (a 0) u.2.1 :: gX4 cy (a 0 2) (a 3) (Z 3) :: gX7 cy (a 0 5) (a 6) u.2.2.1 :: gX5 cy (a 0 7) (a 8) u.2.2.2.1 :: gX1 cy (o 10) (a 10) (Z 10) :: gX3 cy (a 0 (900 + 1)) (a (24 + 1)) u.2.2.2.2 :: gX0 cy (a 0 0) (a 1) (Z 1) :: gX0 cy (a 0 1) (a 2) (Z 2) :: gX4 cy (a 0 3) (a 4) (Z 4) :: gX2 cy (a 0 4) (a 5) (Z 5) :: gX7 cy (a 0 6) (a 7) (Z 7) :: gX8 cy (a 0 9) (a 9) (Z 9) :: gX1 cy (o 11) (a 11) (Z 11) :: gX10 cy (o 28) (a 28) (Z 28) :: gX3 cy (a 0 (900 + 0)) (a (24 + 0)) (Z (24 + 0)) :: gX3 cy (a 0 (900 + 2)) (a (24 + 2)) (Z (24 + 2)) :: gX3 cy (a 0 (900 + 3)) (a (24 + 3)) (Z (24 + 3)) :: pgs (WGp cy a aK B))) rfl ?_
    refine ww_aload_n h dL_law_975 rfl 1 rfl 976 rfl ?_
    refine ww_aload_n h dL_law_976 rfl 3 rfl 977 rfl ?_
    refine ww_iload_n h dL_law_977 rfl 0 rfl 978 rfl ?_
    refine ww_iconst h dL_law_978 (v := 1) (by decide) 979 rfl ?_
    refine ww_iadd h dL_law_979 980 rfl ?_
    refine ww_scd h hX hbl hbA (hin 1 (by decide) (by decide)) ex0 dL_law_980 981 rfl ?_
    refine ww_aload_n h dL_law_981 rfl 3 rfl 982 rfl ?_
    refine ww_iload_n h dL_law_982 rfl 0 rfl 983 rfl ?_
    refine ww_iconst h dL_law_983 (v := 2) (by decide) 984 rfl ?_
    refine ww_iadd h dL_law_984 985 rfl ?_
    refine ww_scd h hX hbl hbA (hin 2 (by decide) (by decide)) ex1 dL_law_985 986 rfl ?_
    refine ww_aload_n h dL_law_986 rfl 3 rfl 987 rfl ?_
    refine ww_iload_n h dL_law_987 rfl 0 rfl 988 rfl ?_
    refine ww_iconst h dL_law_988 (v := 3) (by decide) 989 rfl ?_
    refine ww_iadd h dL_law_989 990 rfl ?_
    refine ww_scd h hX hbl hbA (hin 3 (by decide) (by decide)) ex2 dL_law_990 991 rfl ?_
    refine ww_cVi h (c_X10_line l D ev cy (o 28) (a 28) (Z 28) x0 x1 x2 _ h2) ⟨w_1533, w_1530, w_1531, w_1532, w_111, ok_X10_line⟩ ⟨by decide, by decide⟩ ⟨Nat.le_trans (Nat.le_add_right _ _) hk, Nat.le_trans (Nat.le_add_right _ _) hn⟩ ⟨rfl, rfl⟩ [13] (by simp only [pk_g, List.getElem?_cons_zero, List.getElem?_cons_succ, List.eraseIdx]) 0 rfl rfl rfl rfl (Nat.le_of_ble_eq_true rfl) dL_law_991 994 rfl (Gs' := (gX10 cy (o 28) (a 28) w.2 :: gX9 cy (o 0) (a 0) u.2.1 :: gX4 cy (a 0 2) (a 3) (Z 3) :: gX7 cy (a 0 5) (a 6) u.2.2.1 :: gX5 cy (a 0 7) (a 8) u.2.2.2.1 :: gX1 cy (o 10) (a 10) (Z 10) :: gX3 cy (a 0 (900 + 1)) (a (24 + 1)) u.2.2.2.2 :: gX0 cy (a 0 0) (a 1) (Z 1) :: gX0 cy (a 0 1) (a 2) (Z 2) :: gX4 cy (a 0 3) (a 4) (Z 4) :: gX2 cy (a 0 4) (a 5) (Z 5) :: gX7 cy (a 0 6) (a 7) (Z 7) :: gX8 cy (a 0 9) (a 9) (Z 9) :: gX1 cy (o 11) (a 11) (Z 11) :: gX3 cy (a 0 (900 + 0)) (a (24 + 0)) (Z (24 + 0)) :: gX3 cy (a 0 (900 + 2)) (a (24 + 2)) (Z (24 + 2)) :: gX3 cy (a 0 (900 + 3)) (a (24 + 3)) (Z (24 + 3)) :: pgs (WGp cy a aK B))) rfl ?_
    refine ww_icmp_eq h dL_law_994 1591 (by decide) 997 rfl (fun _ => ?_) (fun c => absurd h3.symm c)
    refine ww_kn (Nat.le_succ k) (Nat.le_add_right n 6) ?_
    refine ww_permT [1, 6, 6, 1, 5, 5, 1, 4, 1, 3, 1, 2, 0, 1, 0, 0, 0] (Cs := [gX9 cy (o 0) (a 0) u.2.1, gX0 cy (a 0 0) (a 1) (Z 1), gX0 cy (a 0 1) (a 2) (Z 2), gX4 cy (a 0 2) (a 3) (Z 3), gX4 cy (a 0 3) (a 4) (Z 4), gX2 cy (a 0 4) (a 5) (Z 5), gX7 cy (a 0 5) (a 6) u.2.2.1, gX7 cy (a 0 6) (a 7) (Z 7), gX5 cy (a 0 7) (a 8) u.2.2.2.1, gX8 cy (a 0 9) (a 9) (Z 9), gX1 cy (o 10) (a 10) (Z 10), gX1 cy (o 11) (a 11) (Z 11), gX10 cy (o 28) (a 28) w.2, gX3 cy (a 0 (900 + 0)) (a (24 + 0)) (Z (24 + 0)), gX3 cy (a 0 (900 + 1)) (a (24 + 1)) u.2.2.2.2, gX3 cy (a 0 (900 + 2)) (a (24 + 2)) (Z (24 + 2)), gX3 cy (a 0 (900 + 3)) (a (24 + 3)) (Z (24 + 3))]) (Rs := pgs (WGp cy a aK B)) (by simp only [pk_g, List.getElem?_cons_zero, List.getElem?_cons_succ, List.eraseIdx]) (Gs' := (gX9 cy (o 0) (a 0) u.2.1 :: gX0 cy (a 0 0) (a 1) (Z 1) :: gX0 cy (a 0 1) (a 2) (Z 2) :: gX4 cy (a 0 2) (a 3) (Z 3) :: gX4 cy (a 0 3) (a 4) (Z 4) :: gX2 cy (a 0 4) (a 5) (Z 5) :: gX7 cy (a 0 5) (a 6) u.2.2.1 :: gX7 cy (a 0 6) (a 7) (Z 7) :: gX5 cy (a 0 7) (a 8) u.2.2.2.1 :: gX8 cy (a 0 9) (a 9) (Z 9) :: gX1 cy (o 10) (a 10) (Z 10) :: gX1 cy (o 11) (a 11) (Z 11) :: gX10 cy (o 28) (a 28) w.2 :: gX3 cy (a 0 (900 + 0)) (a (24 + 0)) (Z (24 + 0)) :: gX3 cy (a 0 (900 + 1)) (a (24 + 1)) u.2.2.2.2 :: gX3 cy (a 0 (900 + 2)) (a (24 + 2)) (Z (24 + 2)) :: gX3 cy (a 0 (900 + 3)) (a (24 + 3)) (Z (24 + 3)) :: pgs (WGp cy a aK B))) rfl ?_
    exact kk _ _ _ _ _ h4
  · obtain ⟨u, w, h1, h2, h3, h4⟩ := hv
    show ww X D A 4 Q k n 956 [(3, .int i), (2, .ref (o 28)), (1, .ref (o 0)), (0, .ref b)] [] (gX9 cy (o 0) (a 0) (Z 0) :: gX0 cy (a 0 0) (a 1) (Z 1) :: gX0 cy (a 0 1) (a 2) (Z 2) :: gX4 cy (a 0 2) (a 3) (Z 3) :: gX4 cy (a 0 3) (a 4) (Z 4) :: gX2 cy (a 0 4) (a 5) (Z 5) :: gX7 cy (a 0 5) (a 6) (Z 6) :: gX7 cy (a 0 6) (a 7) (Z 7) :: gX5 cy (a 0 7) (a 8) (Z 8) :: gX8 cy (a 0 9) (a 9) (Z 9) :: gX1 cy (o 10) (a 10) (Z 10) :: gX1 cy (o 11) (a 11) (Z 11) :: gX10 cy (o 28) (a 28) (Z 28) :: gX3 cy (a 0 (900 + 0)) (a (24 + 0)) (Z (24 + 0)) :: gX3 cy (a 0 (900 + 1)) (a (24 + 1)) (Z (24 + 1)) :: gX3 cy (a 0 (900 + 2)) (a (24 + 2)) (Z (24 + 2)) :: gX3 cy (a 0 (900 + 3)) (a (24 + 3)) (Z (24 + 3)) :: pgs (WGp cy a aK B))
    refine ww_aload_n h dL_law_956 rfl 2 rfl 957 rfl ?_
    refine ww_aload_n h dL_law_957 rfl 3 rfl 958 rfl ?_
    refine ww_iload_n h dL_law_958 rfl 0 rfl 959 rfl ?_
    refine ww_iconst h dL_law_959 (v := 1) (by decide) 960 rfl ?_
    refine ww_iadd h dL_law_960 961 rfl ?_
    refine ww_scd h hX hbl hbA (hin 1 (by decide) (by decide)) ex0 dL_law_961 962 rfl ?_
    refine ww_aload_n h dL_law_962 rfl 3 rfl 963 rfl ?_
    refine ww_iload_n h dL_law_963 rfl 0 rfl 964 rfl ?_
    refine ww_iconst h dL_law_964 (v := 2) (by decide) 965 rfl ?_
    refine ww_iadd h dL_law_965 966 rfl ?_
    refine ww_scd h hX hbl hbA (hin 2 (by decide) (by decide)) ex1 dL_law_966 967 rfl ?_
    refine ww_aload_n h dL_law_967 rfl 3 rfl 968 rfl ?_
    refine ww_iload_n h dL_law_968 rfl 0 rfl 969 rfl ?_
    refine ww_iconst h dL_law_969 (v := 3) (by decide) 970 rfl ?_
    refine ww_iadd h dL_law_970 971 rfl ?_
    refine ww_scd h hX hbl hbA (hin 3 (by decide) (by decide)) ex2 dL_law_971 972 rfl ?_
    refine ww_cVi h (c_X9_line l D ev cy (o 0) (a 0) (Z 0) (a 3) (Z 3) (a 6) (Z 6) (a 8) (Z 8) (o 10) (a 10) (Z 10) (a 0 (900 + 2)) (a (24 + 2)) (Z (24 + 2)) x0 x1 x2 _ h1) ⟨w_943, w_940, w_941, w_942, w_101, ok_X9_line⟩ ⟨by decide, by decide⟩ ⟨Nat.le_trans (Nat.le_add_right _ _) hk, Nat.le_trans (Nat.le_add_right _ _) hn⟩ ⟨rfl, rfl⟩ [0, 2, 4, 5, 6, 10] (by simp only [pk_g, List.getElem?_cons_zero, List.getElem?_cons_succ, List.eraseIdx]) 0 rfl rfl rfl rfl (Nat.le_of_ble_eq_true rfl) dL_law_972 975 rfl (Gs' := (gX9 cy (o 0) (a 0) u.2.1 :: gX4 cy (a 0 2) (a 3) (Z 3) :: gX7 cy (a 0 5) (a 6) u.2.2.1 :: gX5 cy (a 0 7) (a 8) u.2.2.2.1 :: gX1 cy (o 10) (a 10) (Z 10) :: gX3 cy (a 0 (900 + 2)) (a (24 + 2)) u.2.2.2.2 :: gX0 cy (a 0 0) (a 1) (Z 1) :: gX0 cy (a 0 1) (a 2) (Z 2) :: gX4 cy (a 0 3) (a 4) (Z 4) :: gX2 cy (a 0 4) (a 5) (Z 5) :: gX7 cy (a 0 6) (a 7) (Z 7) :: gX8 cy (a 0 9) (a 9) (Z 9) :: gX1 cy (o 11) (a 11) (Z 11) :: gX10 cy (o 28) (a 28) (Z 28) :: gX3 cy (a 0 (900 + 0)) (a (24 + 0)) (Z (24 + 0)) :: gX3 cy (a 0 (900 + 1)) (a (24 + 1)) (Z (24 + 1)) :: gX3 cy (a 0 (900 + 3)) (a (24 + 3)) (Z (24 + 3)) :: pgs (WGp cy a aK B))) rfl ?_
    refine ww_aload_n h dL_law_975 rfl 1 rfl 976 rfl ?_
    refine ww_aload_n h dL_law_976 rfl 3 rfl 977 rfl ?_
    refine ww_iload_n h dL_law_977 rfl 0 rfl 978 rfl ?_
    refine ww_iconst h dL_law_978 (v := 1) (by decide) 979 rfl ?_
    refine ww_iadd h dL_law_979 980 rfl ?_
    refine ww_scd h hX hbl hbA (hin 1 (by decide) (by decide)) ex0 dL_law_980 981 rfl ?_
    refine ww_aload_n h dL_law_981 rfl 3 rfl 982 rfl ?_
    refine ww_iload_n h dL_law_982 rfl 0 rfl 983 rfl ?_
    refine ww_iconst h dL_law_983 (v := 2) (by decide) 984 rfl ?_
    refine ww_iadd h dL_law_984 985 rfl ?_
    refine ww_scd h hX hbl hbA (hin 2 (by decide) (by decide)) ex1 dL_law_985 986 rfl ?_
    refine ww_aload_n h dL_law_986 rfl 3 rfl 987 rfl ?_
    refine ww_iload_n h dL_law_987 rfl 0 rfl 988 rfl ?_
    refine ww_iconst h dL_law_988 (v := 3) (by decide) 989 rfl ?_
    refine ww_iadd h dL_law_989 990 rfl ?_
    refine ww_scd h hX hbl hbA (hin 3 (by decide) (by decide)) ex2 dL_law_990 991 rfl ?_
    refine ww_cVi h (c_X10_line l D ev cy (o 28) (a 28) (Z 28) x0 x1 x2 _ h2) ⟨w_1533, w_1530, w_1531, w_1532, w_111, ok_X10_line⟩ ⟨by decide, by decide⟩ ⟨Nat.le_trans (Nat.le_add_right _ _) hk, Nat.le_trans (Nat.le_add_right _ _) hn⟩ ⟨rfl, rfl⟩ [13] (by simp only [pk_g, List.getElem?_cons_zero, List.getElem?_cons_succ, List.eraseIdx]) 0 rfl rfl rfl rfl (Nat.le_of_ble_eq_true rfl) dL_law_991 994 rfl (Gs' := (gX10 cy (o 28) (a 28) w.2 :: gX9 cy (o 0) (a 0) u.2.1 :: gX4 cy (a 0 2) (a 3) (Z 3) :: gX7 cy (a 0 5) (a 6) u.2.2.1 :: gX5 cy (a 0 7) (a 8) u.2.2.2.1 :: gX1 cy (o 10) (a 10) (Z 10) :: gX3 cy (a 0 (900 + 2)) (a (24 + 2)) u.2.2.2.2 :: gX0 cy (a 0 0) (a 1) (Z 1) :: gX0 cy (a 0 1) (a 2) (Z 2) :: gX4 cy (a 0 3) (a 4) (Z 4) :: gX2 cy (a 0 4) (a 5) (Z 5) :: gX7 cy (a 0 6) (a 7) (Z 7) :: gX8 cy (a 0 9) (a 9) (Z 9) :: gX1 cy (o 11) (a 11) (Z 11) :: gX3 cy (a 0 (900 + 0)) (a (24 + 0)) (Z (24 + 0)) :: gX3 cy (a 0 (900 + 1)) (a (24 + 1)) (Z (24 + 1)) :: gX3 cy (a 0 (900 + 3)) (a (24 + 3)) (Z (24 + 3)) :: pgs (WGp cy a aK B))) rfl ?_
    refine ww_icmp_eq h dL_law_994 1591 (by decide) 997 rfl (fun _ => ?_) (fun c => absurd h3.symm c)
    refine ww_kn (Nat.le_succ k) (Nat.le_add_right n 6) ?_
    refine ww_permT [1, 6, 6, 1, 5, 5, 1, 4, 1, 3, 1, 2, 0, 1, 1, 0, 0] (Cs := [gX9 cy (o 0) (a 0) u.2.1, gX0 cy (a 0 0) (a 1) (Z 1), gX0 cy (a 0 1) (a 2) (Z 2), gX4 cy (a 0 2) (a 3) (Z 3), gX4 cy (a 0 3) (a 4) (Z 4), gX2 cy (a 0 4) (a 5) (Z 5), gX7 cy (a 0 5) (a 6) u.2.2.1, gX7 cy (a 0 6) (a 7) (Z 7), gX5 cy (a 0 7) (a 8) u.2.2.2.1, gX8 cy (a 0 9) (a 9) (Z 9), gX1 cy (o 10) (a 10) (Z 10), gX1 cy (o 11) (a 11) (Z 11), gX10 cy (o 28) (a 28) w.2, gX3 cy (a 0 (900 + 0)) (a (24 + 0)) (Z (24 + 0)), gX3 cy (a 0 (900 + 1)) (a (24 + 1)) (Z (24 + 1)), gX3 cy (a 0 (900 + 2)) (a (24 + 2)) u.2.2.2.2, gX3 cy (a 0 (900 + 3)) (a (24 + 3)) (Z (24 + 3))]) (Rs := pgs (WGp cy a aK B)) (by simp only [pk_g, List.getElem?_cons_zero, List.getElem?_cons_succ, List.eraseIdx]) (Gs' := (gX9 cy (o 0) (a 0) u.2.1 :: gX0 cy (a 0 0) (a 1) (Z 1) :: gX0 cy (a 0 1) (a 2) (Z 2) :: gX4 cy (a 0 2) (a 3) (Z 3) :: gX4 cy (a 0 3) (a 4) (Z 4) :: gX2 cy (a 0 4) (a 5) (Z 5) :: gX7 cy (a 0 5) (a 6) u.2.2.1 :: gX7 cy (a 0 6) (a 7) (Z 7) :: gX5 cy (a 0 7) (a 8) u.2.2.2.1 :: gX8 cy (a 0 9) (a 9) (Z 9) :: gX1 cy (o 10) (a 10) (Z 10) :: gX1 cy (o 11) (a 11) (Z 11) :: gX10 cy (o 28) (a 28) w.2 :: gX3 cy (a 0 (900 + 0)) (a (24 + 0)) (Z (24 + 0)) :: gX3 cy (a 0 (900 + 1)) (a (24 + 1)) (Z (24 + 1)) :: gX3 cy (a 0 (900 + 2)) (a (24 + 2)) u.2.2.2.2 :: gX3 cy (a 0 (900 + 3)) (a (24 + 3)) (Z (24 + 3)) :: pgs (WGp cy a aK B))) rfl ?_
    exact kk _ _ _ _ _ h4
  · obtain ⟨u, w, h1, h2, h3, h4⟩ := hv
    show ww X D A 4 Q k n 956 [(3, .int i), (2, .ref (o 28)), (1, .ref (o 0)), (0, .ref b)] [] (gX9 cy (o 0) (a 0) (Z 0) :: gX0 cy (a 0 0) (a 1) (Z 1) :: gX0 cy (a 0 1) (a 2) (Z 2) :: gX4 cy (a 0 2) (a 3) (Z 3) :: gX4 cy (a 0 3) (a 4) (Z 4) :: gX2 cy (a 0 4) (a 5) (Z 5) :: gX7 cy (a 0 5) (a 6) (Z 6) :: gX7 cy (a 0 6) (a 7) (Z 7) :: gX5 cy (a 0 7) (a 8) (Z 8) :: gX8 cy (a 0 9) (a 9) (Z 9) :: gX1 cy (o 10) (a 10) (Z 10) :: gX1 cy (o 11) (a 11) (Z 11) :: gX10 cy (o 28) (a 28) (Z 28) :: gX3 cy (a 0 (900 + 0)) (a (24 + 0)) (Z (24 + 0)) :: gX3 cy (a 0 (900 + 1)) (a (24 + 1)) (Z (24 + 1)) :: gX3 cy (a 0 (900 + 2)) (a (24 + 2)) (Z (24 + 2)) :: gX3 cy (a 0 (900 + 3)) (a (24 + 3)) (Z (24 + 3)) :: pgs (WGp cy a aK B))
    refine ww_aload_n h dL_law_956 rfl 2 rfl 957 rfl ?_
    refine ww_aload_n h dL_law_957 rfl 3 rfl 958 rfl ?_
    refine ww_iload_n h dL_law_958 rfl 0 rfl 959 rfl ?_
    refine ww_iconst h dL_law_959 (v := 1) (by decide) 960 rfl ?_
    refine ww_iadd h dL_law_960 961 rfl ?_
    refine ww_scd h hX hbl hbA (hin 1 (by decide) (by decide)) ex0 dL_law_961 962 rfl ?_
    refine ww_aload_n h dL_law_962 rfl 3 rfl 963 rfl ?_
    refine ww_iload_n h dL_law_963 rfl 0 rfl 964 rfl ?_
    refine ww_iconst h dL_law_964 (v := 2) (by decide) 965 rfl ?_
    refine ww_iadd h dL_law_965 966 rfl ?_
    refine ww_scd h hX hbl hbA (hin 2 (by decide) (by decide)) ex1 dL_law_966 967 rfl ?_
    refine ww_aload_n h dL_law_967 rfl 3 rfl 968 rfl ?_
    refine ww_iload_n h dL_law_968 rfl 0 rfl 969 rfl ?_
    refine ww_iconst h dL_law_969 (v := 3) (by decide) 970 rfl ?_
    refine ww_iadd h dL_law_970 971 rfl ?_
    refine ww_scd h hX hbl hbA (hin 3 (by decide) (by decide)) ex2 dL_law_971 972 rfl ?_
    refine ww_cVi h (c_X9_line l D ev cy (o 0) (a 0) (Z 0) (a 3) (Z 3) (a 6) (Z 6) (a 8) (Z 8) (o 10) (a 10) (Z 10) (a 0 (900 + 3)) (a (24 + 3)) (Z (24 + 3)) x0 x1 x2 _ h1) ⟨w_943, w_940, w_941, w_942, w_101, ok_X9_line⟩ ⟨by decide, by decide⟩ ⟨Nat.le_trans (Nat.le_add_right _ _) hk, Nat.le_trans (Nat.le_add_right _ _) hn⟩ ⟨rfl, rfl⟩ [0, 2, 4, 5, 6, 11] (by simp only [pk_g, List.getElem?_cons_zero, List.getElem?_cons_succ, List.eraseIdx]) 0 rfl rfl rfl rfl (Nat.le_of_ble_eq_true rfl) dL_law_972 975 rfl (Gs' := (gX9 cy (o 0) (a 0) u.2.1 :: gX4 cy (a 0 2) (a 3) (Z 3) :: gX7 cy (a 0 5) (a 6) u.2.2.1 :: gX5 cy (a 0 7) (a 8) u.2.2.2.1 :: gX1 cy (o 10) (a 10) (Z 10) :: gX3 cy (a 0 (900 + 3)) (a (24 + 3)) u.2.2.2.2 :: gX0 cy (a 0 0) (a 1) (Z 1) :: gX0 cy (a 0 1) (a 2) (Z 2) :: gX4 cy (a 0 3) (a 4) (Z 4) :: gX2 cy (a 0 4) (a 5) (Z 5) :: gX7 cy (a 0 6) (a 7) (Z 7) :: gX8 cy (a 0 9) (a 9) (Z 9) :: gX1 cy (o 11) (a 11) (Z 11) :: gX10 cy (o 28) (a 28) (Z 28) :: gX3 cy (a 0 (900 + 0)) (a (24 + 0)) (Z (24 + 0)) :: gX3 cy (a 0 (900 + 1)) (a (24 + 1)) (Z (24 + 1)) :: gX3 cy (a 0 (900 + 2)) (a (24 + 2)) (Z (24 + 2)) :: pgs (WGp cy a aK B))) rfl ?_
    refine ww_aload_n h dL_law_975 rfl 1 rfl 976 rfl ?_
    refine ww_aload_n h dL_law_976 rfl 3 rfl 977 rfl ?_
    refine ww_iload_n h dL_law_977 rfl 0 rfl 978 rfl ?_
    refine ww_iconst h dL_law_978 (v := 1) (by decide) 979 rfl ?_
    refine ww_iadd h dL_law_979 980 rfl ?_
    refine ww_scd h hX hbl hbA (hin 1 (by decide) (by decide)) ex0 dL_law_980 981 rfl ?_
    refine ww_aload_n h dL_law_981 rfl 3 rfl 982 rfl ?_
    refine ww_iload_n h dL_law_982 rfl 0 rfl 983 rfl ?_
    refine ww_iconst h dL_law_983 (v := 2) (by decide) 984 rfl ?_
    refine ww_iadd h dL_law_984 985 rfl ?_
    refine ww_scd h hX hbl hbA (hin 2 (by decide) (by decide)) ex1 dL_law_985 986 rfl ?_
    refine ww_aload_n h dL_law_986 rfl 3 rfl 987 rfl ?_
    refine ww_iload_n h dL_law_987 rfl 0 rfl 988 rfl ?_
    refine ww_iconst h dL_law_988 (v := 3) (by decide) 989 rfl ?_
    refine ww_iadd h dL_law_989 990 rfl ?_
    refine ww_scd h hX hbl hbA (hin 3 (by decide) (by decide)) ex2 dL_law_990 991 rfl ?_
    refine ww_cVi h (c_X10_line l D ev cy (o 28) (a 28) (Z 28) x0 x1 x2 _ h2) ⟨w_1533, w_1530, w_1531, w_1532, w_111, ok_X10_line⟩ ⟨by decide, by decide⟩ ⟨Nat.le_trans (Nat.le_add_right _ _) hk, Nat.le_trans (Nat.le_add_right _ _) hn⟩ ⟨rfl, rfl⟩ [13] (by simp only [pk_g, List.getElem?_cons_zero, List.getElem?_cons_succ, List.eraseIdx]) 0 rfl rfl rfl rfl (Nat.le_of_ble_eq_true rfl) dL_law_991 994 rfl (Gs' := (gX10 cy (o 28) (a 28) w.2 :: gX9 cy (o 0) (a 0) u.2.1 :: gX4 cy (a 0 2) (a 3) (Z 3) :: gX7 cy (a 0 5) (a 6) u.2.2.1 :: gX5 cy (a 0 7) (a 8) u.2.2.2.1 :: gX1 cy (o 10) (a 10) (Z 10) :: gX3 cy (a 0 (900 + 3)) (a (24 + 3)) u.2.2.2.2 :: gX0 cy (a 0 0) (a 1) (Z 1) :: gX0 cy (a 0 1) (a 2) (Z 2) :: gX4 cy (a 0 3) (a 4) (Z 4) :: gX2 cy (a 0 4) (a 5) (Z 5) :: gX7 cy (a 0 6) (a 7) (Z 7) :: gX8 cy (a 0 9) (a 9) (Z 9) :: gX1 cy (o 11) (a 11) (Z 11) :: gX3 cy (a 0 (900 + 0)) (a (24 + 0)) (Z (24 + 0)) :: gX3 cy (a 0 (900 + 1)) (a (24 + 1)) (Z (24 + 1)) :: gX3 cy (a 0 (900 + 2)) (a (24 + 2)) (Z (24 + 2)) :: pgs (WGp cy a aK B))) rfl ?_
    refine ww_icmp_eq h dL_law_994 1591 (by decide) 997 rfl (fun _ => ?_) (fun c => absurd h3.symm c)
    refine ww_kn (Nat.le_succ k) (Nat.le_add_right n 6) ?_
    refine ww_permT [1, 6, 6, 1, 5, 5, 1, 4, 1, 3, 1, 2, 0, 1, 1, 1, 0] (Cs := [gX9 cy (o 0) (a 0) u.2.1, gX0 cy (a 0 0) (a 1) (Z 1), gX0 cy (a 0 1) (a 2) (Z 2), gX4 cy (a 0 2) (a 3) (Z 3), gX4 cy (a 0 3) (a 4) (Z 4), gX2 cy (a 0 4) (a 5) (Z 5), gX7 cy (a 0 5) (a 6) u.2.2.1, gX7 cy (a 0 6) (a 7) (Z 7), gX5 cy (a 0 7) (a 8) u.2.2.2.1, gX8 cy (a 0 9) (a 9) (Z 9), gX1 cy (o 10) (a 10) (Z 10), gX1 cy (o 11) (a 11) (Z 11), gX10 cy (o 28) (a 28) w.2, gX3 cy (a 0 (900 + 0)) (a (24 + 0)) (Z (24 + 0)), gX3 cy (a 0 (900 + 1)) (a (24 + 1)) (Z (24 + 1)), gX3 cy (a 0 (900 + 2)) (a (24 + 2)) (Z (24 + 2)), gX3 cy (a 0 (900 + 3)) (a (24 + 3)) u.2.2.2.2]) (Rs := pgs (WGp cy a aK B)) (by simp only [pk_g, List.getElem?_cons_zero, List.getElem?_cons_succ, List.eraseIdx]) (Gs' := (gX9 cy (o 0) (a 0) u.2.1 :: gX0 cy (a 0 0) (a 1) (Z 1) :: gX0 cy (a 0 1) (a 2) (Z 2) :: gX4 cy (a 0 2) (a 3) (Z 3) :: gX4 cy (a 0 3) (a 4) (Z 4) :: gX2 cy (a 0 4) (a 5) (Z 5) :: gX7 cy (a 0 5) (a 6) u.2.2.1 :: gX7 cy (a 0 6) (a 7) (Z 7) :: gX5 cy (a 0 7) (a 8) u.2.2.2.1 :: gX8 cy (a 0 9) (a 9) (Z 9) :: gX1 cy (o 10) (a 10) (Z 10) :: gX1 cy (o 11) (a 11) (Z 11) :: gX10 cy (o 28) (a 28) w.2 :: gX3 cy (a 0 (900 + 0)) (a (24 + 0)) (Z (24 + 0)) :: gX3 cy (a 0 (900 + 1)) (a (24 + 1)) (Z (24 + 1)) :: gX3 cy (a 0 (900 + 2)) (a (24 + 2)) (Z (24 + 2)) :: gX3 cy (a 0 (900 + 3)) (a (24 + 3)) u.2.2.2.2 :: pgs (WGp cy a aK B))) rfl ?_
    exact kk _ _ _ _ _ h4
set_option maxHeartbeats 4000000 in
set_option maxRecDepth 100000 in
theorem case_dearest {X : Cx} {D : va_G} {ev : EvT} {cy : Nat → ClassId} {A : Nat → Prop} {Q : State → Prop} {l : Launch} {b Ln : Nat} {xs : Nat → Int32} {i : Int32} {k n : Nat} {I : LI} (C : lwC X D ev cy A l b Ln xs i k n) (ok : Ok_dearest I) {o : Nat → Nat} {a aK : Nat → Nat → Nat} {Z B : Nat → OV} (hI : I o a aK Z B) (kk : lwK X D cy A Q b i k n I) : ww X D A 4 Q k n 1174 [(3, .int i), (2, .ref (o 28)), (1, .ref (o 0)), (0, .ref b)] [] (WGs cy o a aK Z B) := by
  obtain ⟨h, hX, hbl, hbA, hin, hk, hn⟩ := C
  obtain ⟨x0, ex0⟩ : ∃ x : Int32, xs (i + 1).toNatClampNeg = x := ⟨_, rfl⟩
  rcases ok o a aK Z B hI x0 with hv | hv | hv | hv
  · obtain ⟨u, w, h1, h2, h3, h4⟩ := hv
    show ww X D A 4 Q k n 1174 [(3, .int i), (2, .ref (o 28)), (1, .ref (o 0)), (0, .ref b)] [] (gX9 cy (o 0) (a 0) (Z 0) :: gX0 cy (a 0 0) (a 1) (Z 1) :: gX0 cy (a 0 1) (a 2) (Z 2) :: gX4 cy (a 0 2) (a 3) (Z 3) :: gX4 cy (a 0 3) (a 4) (Z 4) :: gX2 cy (a 0 4) (a 5) (Z 5) :: gX7 cy (a 0 5) (a 6) (Z 6) :: gX7 cy (a 0 6) (a 7) (Z 7) :: gX5 cy (a 0 7) (a 8) (Z 8) :: gX8 cy (a 0 9) (a 9) (Z 9) :: gX1 cy (o 10) (a 10) (Z 10) :: gX1 cy (o 11) (a 11) (Z 11) :: gX10 cy (o 28) (a 28) (Z 28) :: gX3 cy (a 0 (900 + 0)) (a (24 + 0)) (Z (24 + 0)) :: gX3 cy (a 0 (900 + 1)) (a (24 + 1)) (Z (24 + 1)) :: gX3 cy (a 0 (900 + 2)) (a (24 + 2)) (Z (24 + 2)) :: gX3 cy (a 0 (900 + 3)) (a (24 + 3)) (Z (24 + 3)) :: pgs (WGp cy a aK B))
    refine ww_aload_n h dL_law_1174 rfl 2 rfl 1175 rfl ?_
    refine ww_aload_n h dL_law_1175 rfl 3 rfl 1176 rfl ?_
    refine ww_iload_n h dL_law_1176 rfl 0 rfl 1177 rfl ?_
    refine ww_iconst h dL_law_1177 (v := 1) (by decide) 1178 rfl ?_
    refine ww_iadd h dL_law_1178 1179 rfl ?_
    refine ww_scd h hX hbl hbA (hin 1 (by decide) (by decide)) ex0 dL_law_1179 1180 rfl ?_
    refine ww_cVi h (c_X9_dearest l D ev cy (o 0) (a 0) (Z 0) (a 3) (Z 3) (a 6) (Z 6) (a 8) (Z 8) (o 10) (a 10) (Z 10) (a 0 (900 + 0)) (a (24 + 0)) (Z (24 + 0)) x0 _ h1) ⟨w_993, w_990, w_991, w_992, w_101, ok_X9_dearest⟩ ⟨by decide, by decide⟩ ⟨Nat.le_trans (Nat.le_add_right _ _) hk, Nat.le_trans (Nat.le_add_right _ _) hn⟩ ⟨rfl, rfl⟩ [0, 2, 4, 5, 6, 8] (by simp only [pk_g, List.getElem?_cons_zero, List.getElem?_cons_succ, List.eraseIdx]) 0 rfl rfl rfl rfl (Nat.le_of_ble_eq_true rfl) dL_law_1180 1183 rfl (Gs' := (gX9 cy (o 0) (a 0) u.2.1 :: gX4 cy (a 0 2) (a 3) (Z 3) :: gX7 cy (a 0 5) (a 6) u.2.2.1 :: gX5 cy (a 0 7) (a 8) u.2.2.2.1 :: gX1 cy (o 10) (a 10) (Z 10) :: gX3 cy (a 0 (900 + 0)) (a (24 + 0)) u.2.2.2.2 :: gX0 cy (a 0 0) (a 1) (Z 1) :: gX0 cy (a 0 1) (a 2) (Z 2) :: gX4 cy (a 0 3) (a 4) (Z 4) :: gX2 cy (a 0 4) (a 5) (Z 5) :: gX7 cy (a 0 6) (a 7) (Z 7) :: gX8 cy (a 0 9) (a 9) (Z 9) :: gX1 cy (o 11) (a 11) (Z 11) :: gX10 cy (o 28) (a 28) (Z 28) :: gX3 cy (a 0 (900 + 1)) (a (24 + 1)) (Z (24 + 1)) :: gX3 cy (a 0 (900 + 2)) (a (24 + 2)) (Z (24 + 2)) :: gX3 cy (a 0 (900 + 3)) (a (24 + 3)) (Z (24 + 3)) :: pgs (WGp cy a aK B))) rfl ?_
    refine ww_aload_n h dL_law_1183 rfl 1 rfl 1184 rfl ?_
    refine ww_aload_n h dL_law_1184 rfl 3 rfl 1185 rfl ?_
    refine ww_iload_n h dL_law_1185 rfl 0 rfl 1186 rfl ?_
    refine ww_iconst h dL_law_1186 (v := 1) (by decide) 1187 rfl ?_
    refine ww_iadd h dL_law_1187 1188 rfl ?_
    refine ww_scd h hX hbl hbA (hin 1 (by decide) (by decide)) ex0 dL_law_1188 1189 rfl ?_
    refine ww_cVi h (c_X10_dearest l D ev cy (o 28) (a 28) (Z 28) x0 _ h2) ⟨w_1581, w_1578, w_1579, w_1580, w_111, ok_X10_dearest⟩ ⟨by decide, by decide⟩ ⟨Nat.le_trans (Nat.le_add_right _ _) hk, Nat.le_trans (Nat.le_add_right _ _) hn⟩ ⟨rfl, rfl⟩ [13] (by simp only [pk_g, List.getElem?_cons_zero, List.getElem?_cons_succ, List.eraseIdx]) 0 rfl rfl rfl rfl (Nat.le_of_ble_eq_true rfl) dL_law_1189 1192 rfl (Gs' := (gX10 cy (o 28) (a 28) w.2 :: gX9 cy (o 0) (a 0) u.2.1 :: gX4 cy (a 0 2) (a 3) (Z 3) :: gX7 cy (a 0 5) (a 6) u.2.2.1 :: gX5 cy (a 0 7) (a 8) u.2.2.2.1 :: gX1 cy (o 10) (a 10) (Z 10) :: gX3 cy (a 0 (900 + 0)) (a (24 + 0)) u.2.2.2.2 :: gX0 cy (a 0 0) (a 1) (Z 1) :: gX0 cy (a 0 1) (a 2) (Z 2) :: gX4 cy (a 0 3) (a 4) (Z 4) :: gX2 cy (a 0 4) (a 5) (Z 5) :: gX7 cy (a 0 6) (a 7) (Z 7) :: gX8 cy (a 0 9) (a 9) (Z 9) :: gX1 cy (o 11) (a 11) (Z 11) :: gX3 cy (a 0 (900 + 1)) (a (24 + 1)) (Z (24 + 1)) :: gX3 cy (a 0 (900 + 2)) (a (24 + 2)) (Z (24 + 2)) :: gX3 cy (a 0 (900 + 3)) (a (24 + 3)) (Z (24 + 3)) :: pgs (WGp cy a aK B))) rfl ?_
    refine ww_icmp_eq h dL_law_1192 1591 (by decide) 1195 rfl (fun _ => ?_) (fun c => absurd h3.symm c)
    refine ww_kn (Nat.le_succ k) (Nat.le_add_right n 6) ?_
    refine ww_permT [1, 6, 6, 1, 5, 5, 1, 4, 1, 3, 1, 2, 0, 0, 0, 0, 0] (Cs := [gX9 cy (o 0) (a 0) u.2.1, gX0 cy (a 0 0) (a 1) (Z 1), gX0 cy (a 0 1) (a 2) (Z 2), gX4 cy (a 0 2) (a 3) (Z 3), gX4 cy (a 0 3) (a 4) (Z 4), gX2 cy (a 0 4) (a 5) (Z 5), gX7 cy (a 0 5) (a 6) u.2.2.1, gX7 cy (a 0 6) (a 7) (Z 7), gX5 cy (a 0 7) (a 8) u.2.2.2.1, gX8 cy (a 0 9) (a 9) (Z 9), gX1 cy (o 10) (a 10) (Z 10), gX1 cy (o 11) (a 11) (Z 11), gX10 cy (o 28) (a 28) w.2, gX3 cy (a 0 (900 + 0)) (a (24 + 0)) u.2.2.2.2, gX3 cy (a 0 (900 + 1)) (a (24 + 1)) (Z (24 + 1)), gX3 cy (a 0 (900 + 2)) (a (24 + 2)) (Z (24 + 2)), gX3 cy (a 0 (900 + 3)) (a (24 + 3)) (Z (24 + 3))]) (Rs := pgs (WGp cy a aK B)) (by simp only [pk_g, List.getElem?_cons_zero, List.getElem?_cons_succ, List.eraseIdx]) (Gs' := (gX9 cy (o 0) (a 0) u.2.1 :: gX0 cy (a 0 0) (a 1) (Z 1) :: gX0 cy (a 0 1) (a 2) (Z 2) :: gX4 cy (a 0 2) (a 3) (Z 3) :: gX4 cy (a 0 3) (a 4) (Z 4) :: gX2 cy (a 0 4) (a 5) (Z 5) :: gX7 cy (a 0 5) (a 6) u.2.2.1 :: gX7 cy (a 0 6) (a 7) (Z 7) :: gX5 cy (a 0 7) (a 8) u.2.2.2.1 :: gX8 cy (a 0 9) (a 9) (Z 9) :: gX1 cy (o 10) (a 10) (Z 10) :: gX1 cy (o 11) (a 11) (Z 11) :: gX10 cy (o 28) (a 28) w.2 :: gX3 cy (a 0 (900 + 0)) (a (24 + 0)) u.2.2.2.2 :: gX3 cy (a 0 (900 + 1)) (a (24 + 1)) (Z (24 + 1)) :: gX3 cy (a 0 (900 + 2)) (a (24 + 2)) (Z (24 + 2)) :: gX3 cy (a 0 (900 + 3)) (a (24 + 3)) (Z (24 + 3)) :: pgs (WGp cy a aK B))) rfl ?_
    exact kk _ _ _ _ _ h4
  · obtain ⟨u, w, h1, h2, h3, h4⟩ := hv
    show ww X D A 4 Q k n 1174 [(3, .int i), (2, .ref (o 28)), (1, .ref (o 0)), (0, .ref b)] [] (gX9 cy (o 0) (a 0) (Z 0) :: gX0 cy (a 0 0) (a 1) (Z 1) :: gX0 cy (a 0 1) (a 2) (Z 2) :: gX4 cy (a 0 2) (a 3) (Z 3) :: gX4 cy (a 0 3) (a 4) (Z 4) :: gX2 cy (a 0 4) (a 5) (Z 5) :: gX7 cy (a 0 5) (a 6) (Z 6) :: gX7 cy (a 0 6) (a 7) (Z 7) :: gX5 cy (a 0 7) (a 8) (Z 8) :: gX8 cy (a 0 9) (a 9) (Z 9) :: gX1 cy (o 10) (a 10) (Z 10) :: gX1 cy (o 11) (a 11) (Z 11) :: gX10 cy (o 28) (a 28) (Z 28) :: gX3 cy (a 0 (900 + 0)) (a (24 + 0)) (Z (24 + 0)) :: gX3 cy (a 0 (900 + 1)) (a (24 + 1)) (Z (24 + 1)) :: gX3 cy (a 0 (900 + 2)) (a (24 + 2)) (Z (24 + 2)) :: gX3 cy (a 0 (900 + 3)) (a (24 + 3)) (Z (24 + 3)) :: pgs (WGp cy a aK B))
    refine ww_aload_n h dL_law_1174 rfl 2 rfl 1175 rfl ?_
    refine ww_aload_n h dL_law_1175 rfl 3 rfl 1176 rfl ?_
    refine ww_iload_n h dL_law_1176 rfl 0 rfl 1177 rfl ?_
    refine ww_iconst h dL_law_1177 (v := 1) (by decide) 1178 rfl ?_
    refine ww_iadd h dL_law_1178 1179 rfl ?_
    refine ww_scd h hX hbl hbA (hin 1 (by decide) (by decide)) ex0 dL_law_1179 1180 rfl ?_
    refine ww_cVi h (c_X9_dearest l D ev cy (o 0) (a 0) (Z 0) (a 3) (Z 3) (a 6) (Z 6) (a 8) (Z 8) (o 10) (a 10) (Z 10) (a 0 (900 + 1)) (a (24 + 1)) (Z (24 + 1)) x0 _ h1) ⟨w_993, w_990, w_991, w_992, w_101, ok_X9_dearest⟩ ⟨by decide, by decide⟩ ⟨Nat.le_trans (Nat.le_add_right _ _) hk, Nat.le_trans (Nat.le_add_right _ _) hn⟩ ⟨rfl, rfl⟩ [0, 2, 4, 5, 6, 9] (by simp only [pk_g, List.getElem?_cons_zero, List.getElem?_cons_succ, List.eraseIdx]) 0 rfl rfl rfl rfl (Nat.le_of_ble_eq_true rfl) dL_law_1180 1183 rfl (Gs' := (gX9 cy (o 0) (a 0) u.2.1 :: gX4 cy (a 0 2) (a 3) (Z 3) :: gX7 cy (a 0 5) (a 6) u.2.2.1 :: gX5 cy (a 0 7) (a 8) u.2.2.2.1 :: gX1 cy (o 10) (a 10) (Z 10) :: gX3 cy (a 0 (900 + 1)) (a (24 + 1)) u.2.2.2.2 :: gX0 cy (a 0 0) (a 1) (Z 1) :: gX0 cy (a 0 1) (a 2) (Z 2) :: gX4 cy (a 0 3) (a 4) (Z 4) :: gX2 cy (a 0 4) (a 5) (Z 5) :: gX7 cy (a 0 6) (a 7) (Z 7) :: gX8 cy (a 0 9) (a 9) (Z 9) :: gX1 cy (o 11) (a 11) (Z 11) :: gX10 cy (o 28) (a 28) (Z 28) :: gX3 cy (a 0 (900 + 0)) (a (24 + 0)) (Z (24 + 0)) :: gX3 cy (a 0 (900 + 2)) (a (24 + 2)) (Z (24 + 2)) :: gX3 cy (a 0 (900 + 3)) (a (24 + 3)) (Z (24 + 3)) :: pgs (WGp cy a aK B))) rfl ?_
    refine ww_aload_n h dL_law_1183 rfl 1 rfl 1184 rfl ?_
    refine ww_aload_n h dL_law_1184 rfl 3 rfl 1185 rfl ?_
    refine ww_iload_n h dL_law_1185 rfl 0 rfl 1186 rfl ?_
    refine ww_iconst h dL_law_1186 (v := 1) (by decide) 1187 rfl ?_
    refine ww_iadd h dL_law_1187 1188 rfl ?_
    refine ww_scd h hX hbl hbA (hin 1 (by decide) (by decide)) ex0 dL_law_1188 1189 rfl ?_
    refine ww_cVi h (c_X10_dearest l D ev cy (o 28) (a 28) (Z 28) x0 _ h2) ⟨w_1581, w_1578, w_1579, w_1580, w_111, ok_X10_dearest⟩ ⟨by decide, by decide⟩ ⟨Nat.le_trans (Nat.le_add_right _ _) hk, Nat.le_trans (Nat.le_add_right _ _) hn⟩ ⟨rfl, rfl⟩ [13] (by simp only [pk_g, List.getElem?_cons_zero, List.getElem?_cons_succ, List.eraseIdx]) 0 rfl rfl rfl rfl (Nat.le_of_ble_eq_true rfl) dL_law_1189 1192 rfl (Gs' := (gX10 cy (o 28) (a 28) w.2 :: gX9 cy (o 0) (a 0) u.2.1 :: gX4 cy (a 0 2) (a 3) (Z 3) :: gX7 cy (a 0 5) (a 6) u.2.2.1 :: gX5 cy (a 0 7) (a 8) u.2.2.2.1 :: gX1 cy (o 10) (a 10) (Z 10) :: gX3 cy (a 0 (900 + 1)) (a (24 + 1)) u.2.2.2.2 :: gX0 cy (a 0 0) (a 1) (Z 1) :: gX0 cy (a 0 1) (a 2) (Z 2) :: gX4 cy (a 0 3) (a 4) (Z 4) :: gX2 cy (a 0 4) (a 5) (Z 5) :: gX7 cy (a 0 6) (a 7) (Z 7) :: gX8 cy (a 0 9) (a 9) (Z 9) :: gX1 cy (o 11) (a 11) (Z 11) :: gX3 cy (a 0 (900 + 0)) (a (24 + 0)) (Z (24 + 0)) :: gX3 cy (a 0 (900 + 2)) (a (24 + 2)) (Z (24 + 2)) :: gX3 cy (a 0 (900 + 3)) (a (24 + 3)) (Z (24 + 3)) :: pgs (WGp cy a aK B))) rfl ?_
    refine ww_icmp_eq h dL_law_1192 1591 (by decide) 1195 rfl (fun _ => ?_) (fun c => absurd h3.symm c)
    refine ww_kn (Nat.le_succ k) (Nat.le_add_right n 6) ?_
    refine ww_permT [1, 6, 6, 1, 5, 5, 1, 4, 1, 3, 1, 2, 0, 1, 0, 0, 0] (Cs := [gX9 cy (o 0) (a 0) u.2.1, gX0 cy (a 0 0) (a 1) (Z 1), gX0 cy (a 0 1) (a 2) (Z 2), gX4 cy (a 0 2) (a 3) (Z 3), gX4 cy (a 0 3) (a 4) (Z 4), gX2 cy (a 0 4) (a 5) (Z 5), gX7 cy (a 0 5) (a 6) u.2.2.1, gX7 cy (a 0 6) (a 7) (Z 7), gX5 cy (a 0 7) (a 8) u.2.2.2.1, gX8 cy (a 0 9) (a 9) (Z 9), gX1 cy (o 10) (a 10) (Z 10), gX1 cy (o 11) (a 11) (Z 11), gX10 cy (o 28) (a 28) w.2, gX3 cy (a 0 (900 + 0)) (a (24 + 0)) (Z (24 + 0)), gX3 cy (a 0 (900 + 1)) (a (24 + 1)) u.2.2.2.2, gX3 cy (a 0 (900 + 2)) (a (24 + 2)) (Z (24 + 2)), gX3 cy (a 0 (900 + 3)) (a (24 + 3)) (Z (24 + 3))]) (Rs := pgs (WGp cy a aK B)) (by simp only [pk_g, List.getElem?_cons_zero, List.getElem?_cons_succ, List.eraseIdx]) (Gs' := (gX9 cy (o 0) (a 0) u.2.1 :: gX0 cy (a 0 0) (a 1) (Z 1) :: gX0 cy (a 0 1) (a 2) (Z 2) :: gX4 cy (a 0 2) (a 3) (Z 3) :: gX4 cy (a 0 3) (a 4) (Z 4) :: gX2 cy (a 0 4) (a 5) (Z 5) :: gX7 cy (a 0 5) (a 6) u.2.2.1 :: gX7 cy (a 0 6) (a 7) (Z 7) :: gX5 cy (a 0 7) (a 8) u.2.2.2.1 :: gX8 cy (a 0 9) (a 9) (Z 9) :: gX1 cy (o 10) (a 10) (Z 10) :: gX1 cy (o 11) (a 11) (Z 11) :: gX10 cy (o 28) (a 28) w.2 :: gX3 cy (a 0 (900 + 0)) (a (24 + 0)) (Z (24 + 0)) :: gX3 cy (a 0 (900 + 1)) (a (24 + 1)) u.2.2.2.2 :: gX3 cy (a 0 (900 + 2)) (a (24 + 2)) (Z (24 + 2)) :: gX3 cy (a 0 (900 + 3)) (a (24 + 3)) (Z (24 + 3)) :: pgs (WGp cy a aK B))) rfl ?_
    exact kk _ _ _ _ _ h4
  · obtain ⟨u, w, h1, h2, h3, h4⟩ := hv
    show ww X D A 4 Q k n 1174 [(3, .int i), (2, .ref (o 28)), (1, .ref (o 0)), (0, .ref b)] [] (gX9 cy (o 0) (a 0) (Z 0) :: gX0 cy (a 0 0) (a 1) (Z 1) :: gX0 cy (a 0 1) (a 2) (Z 2) :: gX4 cy (a 0 2) (a 3) (Z 3) :: gX4 cy (a 0 3) (a 4) (Z 4) :: gX2 cy (a 0 4) (a 5) (Z 5) :: gX7 cy (a 0 5) (a 6) (Z 6) :: gX7 cy (a 0 6) (a 7) (Z 7) :: gX5 cy (a 0 7) (a 8) (Z 8) :: gX8 cy (a 0 9) (a 9) (Z 9) :: gX1 cy (o 10) (a 10) (Z 10) :: gX1 cy (o 11) (a 11) (Z 11) :: gX10 cy (o 28) (a 28) (Z 28) :: gX3 cy (a 0 (900 + 0)) (a (24 + 0)) (Z (24 + 0)) :: gX3 cy (a 0 (900 + 1)) (a (24 + 1)) (Z (24 + 1)) :: gX3 cy (a 0 (900 + 2)) (a (24 + 2)) (Z (24 + 2)) :: gX3 cy (a 0 (900 + 3)) (a (24 + 3)) (Z (24 + 3)) :: pgs (WGp cy a aK B))
    refine ww_aload_n h dL_law_1174 rfl 2 rfl 1175 rfl ?_
    refine ww_aload_n h dL_law_1175 rfl 3 rfl 1176 rfl ?_
    refine ww_iload_n h dL_law_1176 rfl 0 rfl 1177 rfl ?_
    refine ww_iconst h dL_law_1177 (v := 1) (by decide) 1178 rfl ?_
    refine ww_iadd h dL_law_1178 1179 rfl ?_
    refine ww_scd h hX hbl hbA (hin 1 (by decide) (by decide)) ex0 dL_law_1179 1180 rfl ?_
    refine ww_cVi h (c_X9_dearest l D ev cy (o 0) (a 0) (Z 0) (a 3) (Z 3) (a 6) (Z 6) (a 8) (Z 8) (o 10) (a 10) (Z 10) (a 0 (900 + 2)) (a (24 + 2)) (Z (24 + 2)) x0 _ h1) ⟨w_993, w_990, w_991, w_992, w_101, ok_X9_dearest⟩ ⟨by decide, by decide⟩ ⟨Nat.le_trans (Nat.le_add_right _ _) hk, Nat.le_trans (Nat.le_add_right _ _) hn⟩ ⟨rfl, rfl⟩ [0, 2, 4, 5, 6, 10] (by simp only [pk_g, List.getElem?_cons_zero, List.getElem?_cons_succ, List.eraseIdx]) 0 rfl rfl rfl rfl (Nat.le_of_ble_eq_true rfl) dL_law_1180 1183 rfl (Gs' := (gX9 cy (o 0) (a 0) u.2.1 :: gX4 cy (a 0 2) (a 3) (Z 3) :: gX7 cy (a 0 5) (a 6) u.2.2.1 :: gX5 cy (a 0 7) (a 8) u.2.2.2.1 :: gX1 cy (o 10) (a 10) (Z 10) :: gX3 cy (a 0 (900 + 2)) (a (24 + 2)) u.2.2.2.2 :: gX0 cy (a 0 0) (a 1) (Z 1) :: gX0 cy (a 0 1) (a 2) (Z 2) :: gX4 cy (a 0 3) (a 4) (Z 4) :: gX2 cy (a 0 4) (a 5) (Z 5) :: gX7 cy (a 0 6) (a 7) (Z 7) :: gX8 cy (a 0 9) (a 9) (Z 9) :: gX1 cy (o 11) (a 11) (Z 11) :: gX10 cy (o 28) (a 28) (Z 28) :: gX3 cy (a 0 (900 + 0)) (a (24 + 0)) (Z (24 + 0)) :: gX3 cy (a 0 (900 + 1)) (a (24 + 1)) (Z (24 + 1)) :: gX3 cy (a 0 (900 + 3)) (a (24 + 3)) (Z (24 + 3)) :: pgs (WGp cy a aK B))) rfl ?_
    refine ww_aload_n h dL_law_1183 rfl 1 rfl 1184 rfl ?_
    refine ww_aload_n h dL_law_1184 rfl 3 rfl 1185 rfl ?_
    refine ww_iload_n h dL_law_1185 rfl 0 rfl 1186 rfl ?_
    refine ww_iconst h dL_law_1186 (v := 1) (by decide) 1187 rfl ?_
    refine ww_iadd h dL_law_1187 1188 rfl ?_
    refine ww_scd h hX hbl hbA (hin 1 (by decide) (by decide)) ex0 dL_law_1188 1189 rfl ?_
    refine ww_cVi h (c_X10_dearest l D ev cy (o 28) (a 28) (Z 28) x0 _ h2) ⟨w_1581, w_1578, w_1579, w_1580, w_111, ok_X10_dearest⟩ ⟨by decide, by decide⟩ ⟨Nat.le_trans (Nat.le_add_right _ _) hk, Nat.le_trans (Nat.le_add_right _ _) hn⟩ ⟨rfl, rfl⟩ [13] (by simp only [pk_g, List.getElem?_cons_zero, List.getElem?_cons_succ, List.eraseIdx]) 0 rfl rfl rfl rfl (Nat.le_of_ble_eq_true rfl) dL_law_1189 1192 rfl (Gs' := (gX10 cy (o 28) (a 28) w.2 :: gX9 cy (o 0) (a 0) u.2.1 :: gX4 cy (a 0 2) (a 3) (Z 3) :: gX7 cy (a 0 5) (a 6) u.2.2.1 :: gX5 cy (a 0 7) (a 8) u.2.2.2.1 :: gX1 cy (o 10) (a 10) (Z 10) :: gX3 cy (a 0 (900 + 2)) (a (24 + 2)) u.2.2.2.2 :: gX0 cy (a 0 0) (a 1) (Z 1) :: gX0 cy (a 0 1) (a 2) (Z 2) :: gX4 cy (a 0 3) (a 4) (Z 4) :: gX2 cy (a 0 4) (a 5) (Z 5) :: gX7 cy (a 0 6) (a 7) (Z 7) :: gX8 cy (a 0 9) (a 9) (Z 9) :: gX1 cy (o 11) (a 11) (Z 11) :: gX3 cy (a 0 (900 + 0)) (a (24 + 0)) (Z (24 + 0)) :: gX3 cy (a 0 (900 + 1)) (a (24 + 1)) (Z (24 + 1)) :: gX3 cy (a 0 (900 + 3)) (a (24 + 3)) (Z (24 + 3)) :: pgs (WGp cy a aK B))) rfl ?_
    refine ww_icmp_eq h dL_law_1192 1591 (by decide) 1195 rfl (fun _ => ?_) (fun c => absurd h3.symm c)
    refine ww_kn (Nat.le_succ k) (Nat.le_add_right n 6) ?_
    refine ww_permT [1, 6, 6, 1, 5, 5, 1, 4, 1, 3, 1, 2, 0, 1, 1, 0, 0] (Cs := [gX9 cy (o 0) (a 0) u.2.1, gX0 cy (a 0 0) (a 1) (Z 1), gX0 cy (a 0 1) (a 2) (Z 2), gX4 cy (a 0 2) (a 3) (Z 3), gX4 cy (a 0 3) (a 4) (Z 4), gX2 cy (a 0 4) (a 5) (Z 5), gX7 cy (a 0 5) (a 6) u.2.2.1, gX7 cy (a 0 6) (a 7) (Z 7), gX5 cy (a 0 7) (a 8) u.2.2.2.1, gX8 cy (a 0 9) (a 9) (Z 9), gX1 cy (o 10) (a 10) (Z 10), gX1 cy (o 11) (a 11) (Z 11), gX10 cy (o 28) (a 28) w.2, gX3 cy (a 0 (900 + 0)) (a (24 + 0)) (Z (24 + 0)), gX3 cy (a 0 (900 + 1)) (a (24 + 1)) (Z (24 + 1)), gX3 cy (a 0 (900 + 2)) (a (24 + 2)) u.2.2.2.2, gX3 cy (a 0 (900 + 3)) (a (24 + 3)) (Z (24 + 3))]) (Rs := pgs (WGp cy a aK B)) (by simp only [pk_g, List.getElem?_cons_zero, List.getElem?_cons_succ, List.eraseIdx]) (Gs' := (gX9 cy (o 0) (a 0) u.2.1 :: gX0 cy (a 0 0) (a 1) (Z 1) :: gX0 cy (a 0 1) (a 2) (Z 2) :: gX4 cy (a 0 2) (a 3) (Z 3) :: gX4 cy (a 0 3) (a 4) (Z 4) :: gX2 cy (a 0 4) (a 5) (Z 5) :: gX7 cy (a 0 5) (a 6) u.2.2.1 :: gX7 cy (a 0 6) (a 7) (Z 7) :: gX5 cy (a 0 7) (a 8) u.2.2.2.1 :: gX8 cy (a 0 9) (a 9) (Z 9) :: gX1 cy (o 10) (a 10) (Z 10) :: gX1 cy (o 11) (a 11) (Z 11) :: gX10 cy (o 28) (a 28) w.2 :: gX3 cy (a 0 (900 + 0)) (a (24 + 0)) (Z (24 + 0)) :: gX3 cy (a 0 (900 + 1)) (a (24 + 1)) (Z (24 + 1)) :: gX3 cy (a 0 (900 + 2)) (a (24 + 2)) u.2.2.2.2 :: gX3 cy (a 0 (900 + 3)) (a (24 + 3)) (Z (24 + 3)) :: pgs (WGp cy a aK B))) rfl ?_
    exact kk _ _ _ _ _ h4
  · obtain ⟨u, w, h1, h2, h3, h4⟩ := hv
    show ww X D A 4 Q k n 1174 [(3, .int i), (2, .ref (o 28)), (1, .ref (o 0)), (0, .ref b)] [] (gX9 cy (o 0) (a 0) (Z 0) :: gX0 cy (a 0 0) (a 1) (Z 1) :: gX0 cy (a 0 1) (a 2) (Z 2) :: gX4 cy (a 0 2) (a 3) (Z 3) :: gX4 cy (a 0 3) (a 4) (Z 4) :: gX2 cy (a 0 4) (a 5) (Z 5) :: gX7 cy (a 0 5) (a 6) (Z 6) :: gX7 cy (a 0 6) (a 7) (Z 7) :: gX5 cy (a 0 7) (a 8) (Z 8) :: gX8 cy (a 0 9) (a 9) (Z 9) :: gX1 cy (o 10) (a 10) (Z 10) :: gX1 cy (o 11) (a 11) (Z 11) :: gX10 cy (o 28) (a 28) (Z 28) :: gX3 cy (a 0 (900 + 0)) (a (24 + 0)) (Z (24 + 0)) :: gX3 cy (a 0 (900 + 1)) (a (24 + 1)) (Z (24 + 1)) :: gX3 cy (a 0 (900 + 2)) (a (24 + 2)) (Z (24 + 2)) :: gX3 cy (a 0 (900 + 3)) (a (24 + 3)) (Z (24 + 3)) :: pgs (WGp cy a aK B))
    refine ww_aload_n h dL_law_1174 rfl 2 rfl 1175 rfl ?_
    refine ww_aload_n h dL_law_1175 rfl 3 rfl 1176 rfl ?_
    refine ww_iload_n h dL_law_1176 rfl 0 rfl 1177 rfl ?_
    refine ww_iconst h dL_law_1177 (v := 1) (by decide) 1178 rfl ?_
    refine ww_iadd h dL_law_1178 1179 rfl ?_
    refine ww_scd h hX hbl hbA (hin 1 (by decide) (by decide)) ex0 dL_law_1179 1180 rfl ?_
    refine ww_cVi h (c_X9_dearest l D ev cy (o 0) (a 0) (Z 0) (a 3) (Z 3) (a 6) (Z 6) (a 8) (Z 8) (o 10) (a 10) (Z 10) (a 0 (900 + 3)) (a (24 + 3)) (Z (24 + 3)) x0 _ h1) ⟨w_993, w_990, w_991, w_992, w_101, ok_X9_dearest⟩ ⟨by decide, by decide⟩ ⟨Nat.le_trans (Nat.le_add_right _ _) hk, Nat.le_trans (Nat.le_add_right _ _) hn⟩ ⟨rfl, rfl⟩ [0, 2, 4, 5, 6, 11] (by simp only [pk_g, List.getElem?_cons_zero, List.getElem?_cons_succ, List.eraseIdx]) 0 rfl rfl rfl rfl (Nat.le_of_ble_eq_true rfl) dL_law_1180 1183 rfl (Gs' := (gX9 cy (o 0) (a 0) u.2.1 :: gX4 cy (a 0 2) (a 3) (Z 3) :: gX7 cy (a 0 5) (a 6) u.2.2.1 :: gX5 cy (a 0 7) (a 8) u.2.2.2.1 :: gX1 cy (o 10) (a 10) (Z 10) :: gX3 cy (a 0 (900 + 3)) (a (24 + 3)) u.2.2.2.2 :: gX0 cy (a 0 0) (a 1) (Z 1) :: gX0 cy (a 0 1) (a 2) (Z 2) :: gX4 cy (a 0 3) (a 4) (Z 4) :: gX2 cy (a 0 4) (a 5) (Z 5) :: gX7 cy (a 0 6) (a 7) (Z 7) :: gX8 cy (a 0 9) (a 9) (Z 9) :: gX1 cy (o 11) (a 11) (Z 11) :: gX10 cy (o 28) (a 28) (Z 28) :: gX3 cy (a 0 (900 + 0)) (a (24 + 0)) (Z (24 + 0)) :: gX3 cy (a 0 (900 + 1)) (a (24 + 1)) (Z (24 + 1)) :: gX3 cy (a 0 (900 + 2)) (a (24 + 2)) (Z (24 + 2)) :: pgs (WGp cy a aK B))) rfl ?_
    refine ww_aload_n h dL_law_1183 rfl 1 rfl 1184 rfl ?_
    refine ww_aload_n h dL_law_1184 rfl 3 rfl 1185 rfl ?_
    refine ww_iload_n h dL_law_1185 rfl 0 rfl 1186 rfl ?_
    refine ww_iconst h dL_law_1186 (v := 1) (by decide) 1187 rfl ?_
    refine ww_iadd h dL_law_1187 1188 rfl ?_
    refine ww_scd h hX hbl hbA (hin 1 (by decide) (by decide)) ex0 dL_law_1188 1189 rfl ?_
    refine ww_cVi h (c_X10_dearest l D ev cy (o 28) (a 28) (Z 28) x0 _ h2) ⟨w_1581, w_1578, w_1579, w_1580, w_111, ok_X10_dearest⟩ ⟨by decide, by decide⟩ ⟨Nat.le_trans (Nat.le_add_right _ _) hk, Nat.le_trans (Nat.le_add_right _ _) hn⟩ ⟨rfl, rfl⟩ [13] (by simp only [pk_g, List.getElem?_cons_zero, List.getElem?_cons_succ, List.eraseIdx]) 0 rfl rfl rfl rfl (Nat.le_of_ble_eq_true rfl) dL_law_1189 1192 rfl (Gs' := (gX10 cy (o 28) (a 28) w.2 :: gX9 cy (o 0) (a 0) u.2.1 :: gX4 cy (a 0 2) (a 3) (Z 3) :: gX7 cy (a 0 5) (a 6) u.2.2.1 :: gX5 cy (a 0 7) (a 8) u.2.2.2.1 :: gX1 cy (o 10) (a 10) (Z 10) :: gX3 cy (a 0 (900 + 3)) (a (24 + 3)) u.2.2.2.2 :: gX0 cy (a 0 0) (a 1) (Z 1) :: gX0 cy (a 0 1) (a 2) (Z 2) :: gX4 cy (a 0 3) (a 4) (Z 4) :: gX2 cy (a 0 4) (a 5) (Z 5) :: gX7 cy (a 0 6) (a 7) (Z 7) :: gX8 cy (a 0 9) (a 9) (Z 9) :: gX1 cy (o 11) (a 11) (Z 11) :: gX3 cy (a 0 (900 + 0)) (a (24 + 0)) (Z (24 + 0)) :: gX3 cy (a 0 (900 + 1)) (a (24 + 1)) (Z (24 + 1)) :: gX3 cy (a 0 (900 + 2)) (a (24 + 2)) (Z (24 + 2)) :: pgs (WGp cy a aK B))) rfl ?_
    refine ww_icmp_eq h dL_law_1192 1591 (by decide) 1195 rfl (fun _ => ?_) (fun c => absurd h3.symm c)
    refine ww_kn (Nat.le_succ k) (Nat.le_add_right n 6) ?_
    refine ww_permT [1, 6, 6, 1, 5, 5, 1, 4, 1, 3, 1, 2, 0, 1, 1, 1, 0] (Cs := [gX9 cy (o 0) (a 0) u.2.1, gX0 cy (a 0 0) (a 1) (Z 1), gX0 cy (a 0 1) (a 2) (Z 2), gX4 cy (a 0 2) (a 3) (Z 3), gX4 cy (a 0 3) (a 4) (Z 4), gX2 cy (a 0 4) (a 5) (Z 5), gX7 cy (a 0 5) (a 6) u.2.2.1, gX7 cy (a 0 6) (a 7) (Z 7), gX5 cy (a 0 7) (a 8) u.2.2.2.1, gX8 cy (a 0 9) (a 9) (Z 9), gX1 cy (o 10) (a 10) (Z 10), gX1 cy (o 11) (a 11) (Z 11), gX10 cy (o 28) (a 28) w.2, gX3 cy (a 0 (900 + 0)) (a (24 + 0)) (Z (24 + 0)), gX3 cy (a 0 (900 + 1)) (a (24 + 1)) (Z (24 + 1)), gX3 cy (a 0 (900 + 2)) (a (24 + 2)) (Z (24 + 2)), gX3 cy (a 0 (900 + 3)) (a (24 + 3)) u.2.2.2.2]) (Rs := pgs (WGp cy a aK B)) (by simp only [pk_g, List.getElem?_cons_zero, List.getElem?_cons_succ, List.eraseIdx]) (Gs' := (gX9 cy (o 0) (a 0) u.2.1 :: gX0 cy (a 0 0) (a 1) (Z 1) :: gX0 cy (a 0 1) (a 2) (Z 2) :: gX4 cy (a 0 2) (a 3) (Z 3) :: gX4 cy (a 0 3) (a 4) (Z 4) :: gX2 cy (a 0 4) (a 5) (Z 5) :: gX7 cy (a 0 5) (a 6) u.2.2.1 :: gX7 cy (a 0 6) (a 7) (Z 7) :: gX5 cy (a 0 7) (a 8) u.2.2.2.1 :: gX8 cy (a 0 9) (a 9) (Z 9) :: gX1 cy (o 10) (a 10) (Z 10) :: gX1 cy (o 11) (a 11) (Z 11) :: gX10 cy (o 28) (a 28) w.2 :: gX3 cy (a 0 (900 + 0)) (a (24 + 0)) (Z (24 + 0)) :: gX3 cy (a 0 (900 + 1)) (a (24 + 1)) (Z (24 + 1)) :: gX3 cy (a 0 (900 + 2)) (a (24 + 2)) (Z (24 + 2)) :: gX3 cy (a 0 (900 + 3)) (a (24 + 3)) u.2.2.2.2 :: pgs (WGp cy a aK B))) rfl ?_
    exact kk _ _ _ _ _ h4
set_option maxHeartbeats 4000000 in
set_option maxRecDepth 100000 in
theorem case_fewest {X : Cx} {D : va_G} {ev : EvT} {cy : Nat → ClassId} {A : Nat → Prop} {Q : State → Prop} {l : Launch} {b Ln : Nat} {xs : Nat → Int32} {i : Int32} {k n : Nat} {I : LI} (C : lwC X D ev cy A l b Ln xs i k n) (ok : Ok_fewest I) {o : Nat → Nat} {a aK : Nat → Nat → Nat} {Z B : Nat → OV} (hI : I o a aK Z B) (kk : lwK X D cy A Q b i k n I) : ww X D A 4 Q k n 1358 [(3, .int i), (2, .ref (o 28)), (1, .ref (o 0)), (0, .ref b)] [] (WGs cy o a aK Z B) := by
  obtain ⟨h, hX, hbl, hbA, hin, hk, hn⟩ := C
  have hv := ok o a aK Z B hI ()
  obtain ⟨u, w, h1, h2, h3, h4⟩ := hv
  show ww X D A 4 Q k n 1358 [(3, .int i), (2, .ref (o 28)), (1, .ref (o 0)), (0, .ref b)] [] (gX9 cy (o 0) (a 0) (Z 0) :: gX0 cy (a 0 0) (a 1) (Z 1) :: gX0 cy (a 0 1) (a 2) (Z 2) :: gX4 cy (a 0 2) (a 3) (Z 3) :: gX4 cy (a 0 3) (a 4) (Z 4) :: gX2 cy (a 0 4) (a 5) (Z 5) :: gX7 cy (a 0 5) (a 6) (Z 6) :: gX7 cy (a 0 6) (a 7) (Z 7) :: gX5 cy (a 0 7) (a 8) (Z 8) :: gX8 cy (a 0 9) (a 9) (Z 9) :: gX1 cy (o 10) (a 10) (Z 10) :: gX1 cy (o 11) (a 11) (Z 11) :: gX10 cy (o 28) (a 28) (Z 28) :: gX3 cy (a 0 (900 + 0)) (a (24 + 0)) (Z (24 + 0)) :: gX3 cy (a 0 (900 + 1)) (a (24 + 1)) (Z (24 + 1)) :: gX3 cy (a 0 (900 + 2)) (a (24 + 2)) (Z (24 + 2)) :: gX3 cy (a 0 (900 + 3)) (a (24 + 3)) (Z (24 + 3)) :: pgs (WGp cy a aK B))
  refine ww_aload_n h dL_law_1358 rfl 2 rfl 1359 rfl ?_
  refine ww_cVi h (c_X9_fewest l D ev cy (o 0) (a 0) (Z 0) (a 3) (Z 3) (a 6) (Z 6) (a 9) (Z 9) (o 10) (a 10) (Z 10) _ h1) ⟨w_1097, w_1094, w_1095, w_1096, w_101, ok_X9_fewest⟩ ⟨by decide, by decide⟩ ⟨Nat.le_trans (Nat.le_add_right _ _) hk, Nat.le_trans (Nat.le_add_right _ _) hn⟩ ⟨rfl, rfl⟩ [0, 2, 4, 6, 6] (by simp only [pk_g, List.getElem?_cons_zero, List.getElem?_cons_succ, List.eraseIdx]) 0 rfl rfl rfl rfl (Nat.le_of_ble_eq_true rfl) dL_law_1359 1362 rfl (Gs' := (gX9 cy (o 0) (a 0) u.2.1 :: gX4 cy (a 0 2) (a 3) (Z 3) :: gX7 cy (a 0 5) (a 6) u.2.2.1 :: gX8 cy (a 0 9) (a 9) u.2.2.2 :: gX1 cy (o 10) (a 10) (Z 10) :: gX0 cy (a 0 0) (a 1) (Z 1) :: gX0 cy (a 0 1) (a 2) (Z 2) :: gX4 cy (a 0 3) (a 4) (Z 4) :: gX2 cy (a 0 4) (a 5) (Z 5) :: gX7 cy (a 0 6) (a 7) (Z 7) :: gX5 cy (a 0 7) (a 8) (Z 8) :: gX1 cy (o 11) (a 11) (Z 11) :: gX10 cy (o 28) (a 28) (Z 28) :: gX3 cy (a 0 (900 + 0)) (a (24 + 0)) (Z (24 + 0)) :: gX3 cy (a 0 (900 + 1)) (a (24 + 1)) (Z (24 + 1)) :: gX3 cy (a 0 (900 + 2)) (a (24 + 2)) (Z (24 + 2)) :: gX3 cy (a 0 (900 + 3)) (a (24 + 3)) (Z (24 + 3)) :: pgs (WGp cy a aK B))) rfl ?_
  refine ww_aload_n h dL_law_1362 rfl 1 rfl 1363 rfl ?_
  refine ww_cVi h (c_X10_fewest l D ev cy (o 28) (a 28) (Z 28) _ h2) ⟨w_1642, w_1639, w_1640, w_1641, w_111, ok_X10_fewest⟩ ⟨by decide, by decide⟩ ⟨Nat.le_trans (Nat.le_add_right _ _) hk, Nat.le_trans (Nat.le_add_right _ _) hn⟩ ⟨rfl, rfl⟩ [12] (by simp only [pk_g, List.getElem?_cons_zero, List.getElem?_cons_succ, List.eraseIdx]) 0 rfl rfl rfl rfl (Nat.le_of_ble_eq_true rfl) dL_law_1363 1366 rfl (Gs' := (gX10 cy (o 28) (a 28) w.2 :: gX9 cy (o 0) (a 0) u.2.1 :: gX4 cy (a 0 2) (a 3) (Z 3) :: gX7 cy (a 0 5) (a 6) u.2.2.1 :: gX8 cy (a 0 9) (a 9) u.2.2.2 :: gX1 cy (o 10) (a 10) (Z 10) :: gX0 cy (a 0 0) (a 1) (Z 1) :: gX0 cy (a 0 1) (a 2) (Z 2) :: gX4 cy (a 0 3) (a 4) (Z 4) :: gX2 cy (a 0 4) (a 5) (Z 5) :: gX7 cy (a 0 6) (a 7) (Z 7) :: gX5 cy (a 0 7) (a 8) (Z 8) :: gX1 cy (o 11) (a 11) (Z 11) :: gX3 cy (a 0 (900 + 0)) (a (24 + 0)) (Z (24 + 0)) :: gX3 cy (a 0 (900 + 1)) (a (24 + 1)) (Z (24 + 1)) :: gX3 cy (a 0 (900 + 2)) (a (24 + 2)) (Z (24 + 2)) :: gX3 cy (a 0 (900 + 3)) (a (24 + 3)) (Z (24 + 3)) :: pgs (WGp cy a aK B))) rfl ?_
  refine ww_icmp_eq h dL_law_1366 1591 (by decide) 1369 rfl (fun _ => ?_) (fun c => absurd h3.symm c)
  refine ww_kn (Nat.le_succ k) (Nat.le_add_right n 6) ?_
  refine ww_permT [1, 5, 5, 1, 4, 4, 1, 3, 3, 1, 1, 1, 0, 0, 0, 0, 0] (Cs := [gX9 cy (o 0) (a 0) u.2.1, gX0 cy (a 0 0) (a 1) (Z 1), gX0 cy (a 0 1) (a 2) (Z 2), gX4 cy (a 0 2) (a 3) (Z 3), gX4 cy (a 0 3) (a 4) (Z 4), gX2 cy (a 0 4) (a 5) (Z 5), gX7 cy (a 0 5) (a 6) u.2.2.1, gX7 cy (a 0 6) (a 7) (Z 7), gX5 cy (a 0 7) (a 8) (Z 8), gX8 cy (a 0 9) (a 9) u.2.2.2, gX1 cy (o 10) (a 10) (Z 10), gX1 cy (o 11) (a 11) (Z 11), gX10 cy (o 28) (a 28) w.2, gX3 cy (a 0 (900 + 0)) (a (24 + 0)) (Z (24 + 0)), gX3 cy (a 0 (900 + 1)) (a (24 + 1)) (Z (24 + 1)), gX3 cy (a 0 (900 + 2)) (a (24 + 2)) (Z (24 + 2)), gX3 cy (a 0 (900 + 3)) (a (24 + 3)) (Z (24 + 3))]) (Rs := pgs (WGp cy a aK B)) (by simp only [pk_g, List.getElem?_cons_zero, List.getElem?_cons_succ, List.eraseIdx]) (Gs' := (gX9 cy (o 0) (a 0) u.2.1 :: gX0 cy (a 0 0) (a 1) (Z 1) :: gX0 cy (a 0 1) (a 2) (Z 2) :: gX4 cy (a 0 2) (a 3) (Z 3) :: gX4 cy (a 0 3) (a 4) (Z 4) :: gX2 cy (a 0 4) (a 5) (Z 5) :: gX7 cy (a 0 5) (a 6) u.2.2.1 :: gX7 cy (a 0 6) (a 7) (Z 7) :: gX5 cy (a 0 7) (a 8) (Z 8) :: gX8 cy (a 0 9) (a 9) u.2.2.2 :: gX1 cy (o 10) (a 10) (Z 10) :: gX1 cy (o 11) (a 11) (Z 11) :: gX10 cy (o 28) (a 28) w.2 :: gX3 cy (a 0 (900 + 0)) (a (24 + 0)) (Z (24 + 0)) :: gX3 cy (a 0 (900 + 1)) (a (24 + 1)) (Z (24 + 1)) :: gX3 cy (a 0 (900 + 2)) (a (24 + 2)) (Z (24 + 2)) :: gX3 cy (a 0 (900 + 3)) (a (24 + 3)) (Z (24 + 3)) :: pgs (WGp cy a aK B))) rfl ?_
  exact kk _ _ _ _ _ h4
set_option maxHeartbeats 4000000 in
set_option maxRecDepth 100000 in
theorem case_bestWidth {X : Cx} {D : va_G} {ev : EvT} {cy : Nat → ClassId} {A : Nat → Prop} {Q : State → Prop} {l : Launch} {b Ln : Nat} {xs : Nat → Int32} {i : Int32} {k n : Nat} {I : LI} (C : lwC X D ev cy A l b Ln xs i k n) (ok : Ok_bestWidth I) {o : Nat → Nat} {a aK : Nat → Nat → Nat} {Z B : Nat → OV} (hI : I o a aK Z B) (kk : lwK X D cy A Q b i k n I) : ww X D A 4 Q k n 1496 [(3, .int i), (2, .ref (o 28)), (1, .ref (o 0)), (0, .ref b)] [] (WGs cy o a aK Z B) := by
  obtain ⟨h, hX, hbl, hbA, hin, hk, hn⟩ := C
  have hv := ok o a aK Z B hI ()
  obtain ⟨u, w, h1, h2, h3, h4⟩ := hv
  show ww X D A 4 Q k n 1496 [(3, .int i), (2, .ref (o 28)), (1, .ref (o 0)), (0, .ref b)] [] (gX9 cy (o 0) (a 0) (Z 0) :: gX0 cy (a 0 0) (a 1) (Z 1) :: gX0 cy (a 0 1) (a 2) (Z 2) :: gX4 cy (a 0 2) (a 3) (Z 3) :: gX4 cy (a 0 3) (a 4) (Z 4) :: gX2 cy (a 0 4) (a 5) (Z 5) :: gX7 cy (a 0 5) (a 6) (Z 6) :: gX7 cy (a 0 6) (a 7) (Z 7) :: gX5 cy (a 0 7) (a 8) (Z 8) :: gX8 cy (a 0 9) (a 9) (Z 9) :: gX1 cy (o 10) (a 10) (Z 10) :: gX1 cy (o 11) (a 11) (Z 11) :: gX10 cy (o 28) (a 28) (Z 28) :: gX3 cy (a 0 (900 + 0)) (a (24 + 0)) (Z (24 + 0)) :: gX3 cy (a 0 (900 + 1)) (a (24 + 1)) (Z (24 + 1)) :: gX3 cy (a 0 (900 + 2)) (a (24 + 2)) (Z (24 + 2)) :: gX3 cy (a 0 (900 + 3)) (a (24 + 3)) (Z (24 + 3)) :: pgs (WGp cy a aK B))
  refine ww_aload_n h dL_law_1496 rfl 2 rfl 1497 rfl ?_
  refine ww_cVi h (c_X9_bestWidth l D ev cy (o 0) (a 0) (Z 0) (a 3) (Z 3) (a 4) (Z 4) (a 7) (Z 7) (a 8) (Z 8) (o 10) (a 10) (Z 10) _ h1) ⟨w_1129, w_1126, w_1127, w_1128, w_101, ok_X9_bestWidth⟩ ⟨by decide, by decide⟩ ⟨Nat.le_trans (Nat.le_add_right _ _) hk, Nat.le_trans (Nat.le_add_right _ _) hn⟩ ⟨rfl, rfl⟩ [0, 2, 2, 4, 4, 5] (by simp only [pk_g, List.getElem?_cons_zero, List.getElem?_cons_succ, List.eraseIdx]) 0 rfl rfl rfl rfl (Nat.le_of_ble_eq_true rfl) dL_law_1497 1500 rfl (Gs' := (gX9 cy (o 0) (a 0) (Z 0) :: gX4 cy (a 0 2) (a 3) (Z 3) :: gX4 cy (a 0 3) (a 4) u.2.1 :: gX7 cy (a 0 6) (a 7) u.2.2.1 :: gX5 cy (a 0 7) (a 8) u.2.2.2 :: gX1 cy (o 10) (a 10) (Z 10) :: gX0 cy (a 0 0) (a 1) (Z 1) :: gX0 cy (a 0 1) (a 2) (Z 2) :: gX2 cy (a 0 4) (a 5) (Z 5) :: gX7 cy (a 0 5) (a 6) (Z 6) :: gX8 cy (a 0 9) (a 9) (Z 9) :: gX1 cy (o 11) (a 11) (Z 11) :: gX10 cy (o 28) (a 28) (Z 28) :: gX3 cy (a 0 (900 + 0)) (a (24 + 0)) (Z (24 + 0)) :: gX3 cy (a 0 (900 + 1)) (a (24 + 1)) (Z (24 + 1)) :: gX3 cy (a 0 (900 + 2)) (a (24 + 2)) (Z (24 + 2)) :: gX3 cy (a 0 (900 + 3)) (a (24 + 3)) (Z (24 + 3)) :: pgs (WGp cy a aK B))) rfl ?_
  refine ww_aload_n h dL_law_1500 rfl 1 rfl 1501 rfl ?_
  refine ww_cVi h (c_X10_bestWidth l D ev cy (o 28) (a 28) (Z 28) _ h2) ⟨w_1678, w_1675, w_1676, w_1677, w_111, ok_X10_bestWidth⟩ ⟨by decide, by decide⟩ ⟨Nat.le_trans (Nat.le_add_right _ _) hk, Nat.le_trans (Nat.le_add_right _ _) hn⟩ ⟨rfl, rfl⟩ [12] (by simp only [pk_g, List.getElem?_cons_zero, List.getElem?_cons_succ, List.eraseIdx]) 0 rfl rfl rfl rfl (Nat.le_of_ble_eq_true rfl) dL_law_1501 1504 rfl (Gs' := (gX10 cy (o 28) (a 28) w.2 :: gX9 cy (o 0) (a 0) (Z 0) :: gX4 cy (a 0 2) (a 3) (Z 3) :: gX4 cy (a 0 3) (a 4) u.2.1 :: gX7 cy (a 0 6) (a 7) u.2.2.1 :: gX5 cy (a 0 7) (a 8) u.2.2.2 :: gX1 cy (o 10) (a 10) (Z 10) :: gX0 cy (a 0 0) (a 1) (Z 1) :: gX0 cy (a 0 1) (a 2) (Z 2) :: gX2 cy (a 0 4) (a 5) (Z 5) :: gX7 cy (a 0 5) (a 6) (Z 6) :: gX8 cy (a 0 9) (a 9) (Z 9) :: gX1 cy (o 11) (a 11) (Z 11) :: gX3 cy (a 0 (900 + 0)) (a (24 + 0)) (Z (24 + 0)) :: gX3 cy (a 0 (900 + 1)) (a (24 + 1)) (Z (24 + 1)) :: gX3 cy (a 0 (900 + 2)) (a (24 + 2)) (Z (24 + 2)) :: gX3 cy (a 0 (900 + 3)) (a (24 + 3)) (Z (24 + 3)) :: pgs (WGp cy a aK B))) rfl ?_
  refine ww_icmp_eq h dL_law_1504 1591 (by decide) 1507 rfl (fun _ => ?_) (fun c => absurd h3.symm c)
  refine ww_kn (Nat.le_succ k) (Nat.le_add_right n 6) ?_
  refine ww_permT [1, 6, 6, 1, 1, 4, 4, 1, 1, 2, 1, 1, 0, 0, 0, 0, 0] (Cs := [gX9 cy (o 0) (a 0) (Z 0), gX0 cy (a 0 0) (a 1) (Z 1), gX0 cy (a 0 1) (a 2) (Z 2), gX4 cy (a 0 2) (a 3) (Z 3), gX4 cy (a 0 3) (a 4) u.2.1, gX2 cy (a 0 4) (a 5) (Z 5), gX7 cy (a 0 5) (a 6) (Z 6), gX7 cy (a 0 6) (a 7) u.2.2.1, gX5 cy (a 0 7) (a 8) u.2.2.2, gX8 cy (a 0 9) (a 9) (Z 9), gX1 cy (o 10) (a 10) (Z 10), gX1 cy (o 11) (a 11) (Z 11), gX10 cy (o 28) (a 28) w.2, gX3 cy (a 0 (900 + 0)) (a (24 + 0)) (Z (24 + 0)), gX3 cy (a 0 (900 + 1)) (a (24 + 1)) (Z (24 + 1)), gX3 cy (a 0 (900 + 2)) (a (24 + 2)) (Z (24 + 2)), gX3 cy (a 0 (900 + 3)) (a (24 + 3)) (Z (24 + 3))]) (Rs := pgs (WGp cy a aK B)) (by simp only [pk_g, List.getElem?_cons_zero, List.getElem?_cons_succ, List.eraseIdx]) (Gs' := (gX9 cy (o 0) (a 0) (Z 0) :: gX0 cy (a 0 0) (a 1) (Z 1) :: gX0 cy (a 0 1) (a 2) (Z 2) :: gX4 cy (a 0 2) (a 3) (Z 3) :: gX4 cy (a 0 3) (a 4) u.2.1 :: gX2 cy (a 0 4) (a 5) (Z 5) :: gX7 cy (a 0 5) (a 6) (Z 6) :: gX7 cy (a 0 6) (a 7) u.2.2.1 :: gX5 cy (a 0 7) (a 8) u.2.2.2 :: gX8 cy (a 0 9) (a 9) (Z 9) :: gX1 cy (o 10) (a 10) (Z 10) :: gX1 cy (o 11) (a 11) (Z 11) :: gX10 cy (o 28) (a 28) w.2 :: gX3 cy (a 0 (900 + 0)) (a (24 + 0)) (Z (24 + 0)) :: gX3 cy (a 0 (900 + 1)) (a (24 + 1)) (Z (24 + 1)) :: gX3 cy (a 0 (900 + 2)) (a (24 + 2)) (Z (24 + 2)) :: gX3 cy (a 0 (900 + 3)) (a (24 + 3)) (Z (24 + 3)) :: pgs (WGp cy a aK B))) rfl ?_
  exact kk _ _ _ _ _ h4
