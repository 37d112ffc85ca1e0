def posS : List Nat := [43, 52, 61, 70, 82, 93, 106, 120, 138, 154, 171, 189, 210, 232, 259, 285, 309, 335, 365, 393, 422]
def posN : List Nat := [9999, 60, 68, 79, 89, 101, 114, 131, 146, 162, 179, 199, 220, 246, 271, 294, 319, 348, 375, 403, 431, 9999, 9999, 69, 80, 90, 102, 115, 132, 147, 163, 180, 200, 221, 247, 272, 295, 320, 349, 376, 404, 432, 9999, 9999, 9999, 81, 91, 103, 116, 133, 148, 164, 181, 201, 222, 248, 273, 296, 321, 350, 377, 405, 433, 9999, 9999, 9999, 9999, 92, 104, 117, 134, 149, 165, 182, 202, 223, 249, 274, 297, 322, 351, 378, 406, 434, 9999, 9999, 9999, 9999, 9999, 105, 118, 135, 150, 166, 183, 203, 224, 250, 275, 298, 323, 352, 379, 407, 435, 9999, 9999, 9999, 9999, 9999, 9999, 119, 136, 151, 167, 184, 204, 225, 251, 276, 299, 324, 353, 380, 408, 436, 9999, 9999, 9999, 9999, 9999, 9999, 9999, 137, 152, 168, 185, 205, 226, 252, 277, 300, 325, 354, 381, 409, 437, 9999, 9999, 9999, 9999, 9999, 9999, 9999, 9999, 153, 169, 186, 206, 227, 253, 278, 301, 326, 355, 382, 410, 438, 9999, 9999, 9999, 9999, 9999, 9999, 9999, 9999, 9999, 170, 187, 207, 228, 254, 279, 302, 327, 356, 383, 411, 439, 9999, 9999, 9999, 9999, 9999, 9999, 9999, 9999, 9999, 9999, 188, 208, 229, 255, 280, 303, 328, 357, 384, 412, 440, 9999, 9999, 9999, 9999, 9999, 9999, 9999, 9999, 9999, 9999, 9999, 209, 230, 256, 281, 304, 329, 358, 385, 413, 441, 9999, 9999, 9999, 9999, 9999, 9999, 9999, 9999, 9999, 9999, 9999, 9999, 231, 257, 282, 305, 330, 359, 386, 414, 442, 9999, 9999, 9999, 9999, 9999, 9999, 9999, 9999, 9999, 9999, 9999, 9999, 9999, 258, 283, 306, 331, 360, 387, 415, 443, 9999, 9999, 9999, 9999, 9999, 9999, 9999, 9999, 9999, 9999, 9999, 9999, 9999, 9999, 284, 307, 332, 361, 388, 416, 444, 9999, 9999, 9999, 9999, 9999, 9999, 9999, 9999, 9999, 9999, 9999, 9999, 9999, 9999, 9999, 308, 333, 362, 389, 417, 445, 9999, 9999, 9999, 9999, 9999, 9999, 9999, 9999, 9999, 9999, 9999, 9999, 9999, 9999, 9999, 9999, 334, 363, 390, 418, 446, 9999, 9999, 9999, 9999, 9999, 9999, 9999, 9999, 9999, 9999, 9999, 9999, 9999, 9999, 9999, 9999, 9999, 364, 391, 419, 447, 9999, 9999, 9999, 9999, 9999, 9999, 9999, 9999, 9999, 9999, 9999, 9999, 9999, 9999, 9999, 9999, 9999, 9999, 392, 420, 448, 9999, 9999, 9999, 9999, 9999, 9999, 9999, 9999, 9999, 9999, 9999, 9999, 9999, 9999, 9999, 9999, 9999, 9999, 9999, 421, 449, 9999, 9999, 9999, 9999, 9999, 9999, 9999, 9999, 9999, 9999, 9999, 9999, 9999, 9999, 9999, 9999, 9999, 9999, 9999, 9999, 450, 9999, 9999, 9999, 9999, 9999, 9999, 9999, 9999, 9999, 9999, 9999, 9999, 9999, 9999, 9999, 9999, 9999, 9999, 9999, 9999, 9999]
def posW : List Nat := [523, 596, 609, 614, 615, 616, 617, 618, 619, 620, 629, 1041, 1048, 1054, 1055, 1056, 1057, 1058, 1059, 1060, 1065]
theorem entry_nw {args : Array Value} {s : State} (hts : ∀ w ∈ lw_tbl, w.before args s = true) : ∀ w ∈ nwL, va_Nw w s := by
  intro w hw
  have h1 := List.mem_filter.mp hw
  have h2 := hts w h1.1
  have hc : w.onTables = true := by
    have h3 := h1.2
    cases w <;> first | rfl | (simp [isNest] at h3; done)
  exact va_tabs hc rfl h2
abbrev nrT : List Cond := flatC (Jvm.Cond.and given_1 narrow_1)
theorem nrP (P : Nat → Cond) (pos : Nat → Nat) (N : Nat) (h : ∀ i, i < N → nrT[pos i]? = some (P i)) {args : Array Value} {s : State} (hgv : (Jvm.Cond.and given_1 narrow_1).before args s = true) : ∀ i, i < N → (P i).before args s = true := fun i hi => flat_of_before _ hgv _ (List.mem_of_getElem? (h i hi))
theorem nr_1 : ∀ i, i < 21 → nrT[posS.getD i 0]? = some (Cond.exactly (tmJ i) "java/lang/String") := by decide +kernel
theorem nr_2 : ∀ i, i < 21 → nrT[posS.getD i 0 + 1]? = some (Cond.eq (.field (tmJ i) "java/lang/String" "coder" "B") (.int 0)) := by decide +kernel
theorem nr_3 : ∀ i, i < 21 → nrT[posS.getD i 0 + 2]? = some (Cond.arrayOf (.field (tmJ i) "java/lang/String" "value" "[B") .byte) := by decide +kernel
theorem nr_4 : ∀ i, i < 21 → nrT[posS.getD i 0 + 3]? = some (Cond.eq (.length (.field (tmJ i) "java/lang/String" "value" "[B")) (.int (Int32.ofNat (lenJ.getD i 0)))) := by decide +kernel
theorem nr_5 : ∀ i, i < 21 → ∀ j, j < lenJ.getD i 0 → nrT[posS.getD i 0 + 4 + j]? = some (Cond.eq (.elem (.field (tmJ i) "java/lang/String" "value" "[B") (.int (Int32.ofNat j))) (.int ((bytJ.getD i []).getD j 0))) := by decide +kernel
theorem nr_6_0 : ∀ j, j < 21 → 0 < j → nrT[posN.getD (0 + j) 0]? = some (Cond.not (Cond.eq (tmJ 0) (tmJ j))) := by decide +kernel
theorem nr_6_1 : ∀ j, j < 21 → 1 < j → nrT[posN.getD (21 + j) 0]? = some (Cond.not (Cond.eq (tmJ 1) (tmJ j))) := by decide +kernel
theorem nr_6_2 : ∀ j, j < 21 → 2 < j → nrT[posN.getD (42 + j) 0]? = some (Cond.not (Cond.eq (tmJ 2) (tmJ j))) := by decide +kernel
theorem nr_6_3 : ∀ j, j < 21 → 3 < j → nrT[posN.getD (63 + j) 0]? = some (Cond.not (Cond.eq (tmJ 3) (tmJ j))) := by decide +kernel
theorem nr_6_4 : ∀ j, j < 21 → 4 < j → nrT[posN.getD (84 + j) 0]? = some (Cond.not (Cond.eq (tmJ 4) (tmJ j))) := by decide +kernel
theorem nr_6_5 : ∀ j, j < 21 → 5 < j → nrT[posN.getD (105 + j) 0]? = some (Cond.not (Cond.eq (tmJ 5) (tmJ j))) := by decide +kernel
theorem nr_6_6 : ∀ j, j < 21 → 6 < j → nrT[posN.getD (126 + j) 0]? = some (Cond.not (Cond.eq (tmJ 6) (tmJ j))) := by decide +kernel
theorem nr_6_7 : ∀ j, j < 21 → 7 < j → nrT[posN.getD (147 + j) 0]? = some (Cond.not (Cond.eq (tmJ 7) (tmJ j))) := by decide +kernel
theorem nr_6_8 : ∀ j, j < 21 → 8 < j → nrT[posN.getD (168 + j) 0]? = some (Cond.not (Cond.eq (tmJ 8) (tmJ j))) := by decide +kernel
theorem nr_6_9 : ∀ j, j < 21 → 9 < j → nrT[posN.getD (189 + j) 0]? = some (Cond.not (Cond.eq (tmJ 9) (tmJ j))) := by decide +kernel
theorem nr_6_10 : ∀ j, j < 21 → 10 < j → nrT[posN.getD (210 + j) 0]? = some (Cond.not (Cond.eq (tmJ 10) (tmJ j))) := by decide +kernel
theorem nr_6_11 : ∀ j, j < 21 → 11 < j → nrT[posN.getD (231 + j) 0]? = some (Cond.not (Cond.eq (tmJ 11) (tmJ j))) := by decide +kernel
theorem nr_6_12 : ∀ j, j < 21 → 12 < j → nrT[posN.getD (252 + j) 0]? = some (Cond.not (Cond.eq (tmJ 12) (tmJ j))) := by decide +kernel
theorem nr_6_13 : ∀ j, j < 21 → 13 < j → nrT[posN.getD (273 + j) 0]? = some (Cond.not (Cond.eq (tmJ 13) (tmJ j))) := by decide +kernel
theorem nr_6_14 : ∀ j, j < 21 → 14 < j → nrT[posN.getD (294 + j) 0]? = some (Cond.not (Cond.eq (tmJ 14) (tmJ j))) := by decide +kernel
theorem nr_6_15 : ∀ j, j < 21 → 15 < j → nrT[posN.getD (315 + j) 0]? = some (Cond.not (Cond.eq (tmJ 15) (tmJ j))) := by decide +kernel
theorem nr_6_16 : ∀ j, j < 21 → 16 < j → nrT[posN.getD (336 + j) 0]? = some (Cond.not (Cond.eq (tmJ 16) (tmJ j))) := by decide +kernel
theorem nr_6_17 : ∀ j, j < 21 → 17 < j → nrT[posN.getD (357 + j) 0]? = some (Cond.not (Cond.eq (tmJ 17) (tmJ j))) := by decide +kernel
theorem nr_6_18 : ∀ j, j < 21 → 18 < j → nrT[posN.getD (378 + j) 0]? = some (Cond.not (Cond.eq (tmJ 18) (tmJ j))) := by decide +kernel
theorem nr_6_19 : ∀ j, j < 21 → 19 < j → nrT[posN.getD (399 + j) 0]? = some (Cond.not (Cond.eq (tmJ 19) (tmJ j))) := by decide +kernel
theorem nr_6_20 : ∀ j, j < 21 → 20 < j → nrT[posN.getD (420 + j) 0]? = some (Cond.not (Cond.eq (tmJ 20) (tmJ j))) := by decide +kernel
theorem nr_6 : ∀ i, i < 21 → ∀ j, j < 21 → i < j → Cond.not (Cond.eq (tmJ i) (tmJ j)) ∈ nrT := by
  intro i hi j hj hij
  rcases (show i = 0 ∨ i = 1 ∨ i = 2 ∨ i = 3 ∨ i = 4 ∨ i = 5 ∨ i = 6 ∨ i = 7 ∨ i = 8 ∨ i = 9 ∨ i = 10 ∨ i = 11 ∨ i = 12 ∨ i = 13 ∨ i = 14 ∨ i = 15 ∨ i = 16 ∨ i = 17 ∨ i = 18 ∨ i = 19 ∨ i = 20 by omega) with rfl | rfl | rfl | rfl | rfl | rfl | rfl | rfl | rfl | rfl | rfl | rfl | rfl | rfl | rfl | rfl | rfl | rfl | rfl | rfl | rfl
  · exact List.mem_of_getElem? (nr_6_0 j hj hij)
  · exact List.mem_of_getElem? (nr_6_1 j hj hij)
  · exact List.mem_of_getElem? (nr_6_2 j hj hij)
  · exact List.mem_of_getElem? (nr_6_3 j hj hij)
  · exact List.mem_of_getElem? (nr_6_4 j hj hij)
  · exact List.mem_of_getElem? (nr_6_5 j hj hij)
  · exact List.mem_of_getElem? (nr_6_6 j hj hij)
  · exact List.mem_of_getElem? (nr_6_7 j hj hij)
  · exact List.mem_of_getElem? (nr_6_8 j hj hij)
  · exact List.mem_of_getElem? (nr_6_9 j hj hij)
  · exact List.mem_of_getElem? (nr_6_10 j hj hij)
  · exact List.mem_of_getElem? (nr_6_11 j hj hij)
  · exact List.mem_of_getElem? (nr_6_12 j hj hij)
  · exact List.mem_of_getElem? (nr_6_13 j hj hij)
  · exact List.mem_of_getElem? (nr_6_14 j hj hij)
  · exact List.mem_of_getElem? (nr_6_15 j hj hij)
  · exact List.mem_of_getElem? (nr_6_16 j hj hij)
  · exact List.mem_of_getElem? (nr_6_17 j hj hij)
  · exact List.mem_of_getElem? (nr_6_18 j hj hij)
  · exact List.mem_of_getElem? (nr_6_19 j hj hij)
  · exact List.mem_of_getElem? (nr_6_20 j hj hij)
theorem nr_7_0 : Cond.stringRef "LineEnds$Reader" 45 "class" ∈ lw_tbl := by decide +kernel
theorem nr_7_1 : Cond.stringRef "LineEnds$Reader" 61 "wide" ∈ lw_tbl := by decide +kernel
theorem nr_7_2 : Cond.stringRef "LineEnds$Reader" 98 "shy" ∈ lw_tbl := by decide +kernel
theorem nr_7_3 : Cond.stringRef "LineEnds$Reader" 100 "begin" ∈ lw_tbl := by decide +kernel
theorem nr_7_4 : Cond.stringRef "LineEnds$Reader" 105 "end" ∈ lw_tbl := by decide +kernel
theorem nr_7_5 : Cond.stringRef "LineEnds$Reader" 82 "hang" ∈ lw_tbl := by decide +kernel
theorem nr_7_6 : Cond.stringRef "LineEnds$Reader" 87 "trim" ∈ lw_tbl := by decide +kernel
theorem nr_7_7 : Cond.stringRef "LineEnds$Reader" 89 "squeeze" ∈ lw_tbl := by decide +kernel
theorem nr_7_8 : Cond.stringRef "LineEnds$Reader" 91 "rank" ∈ lw_tbl := by decide +kernel
theorem nr_7_9 : Cond.stringRef "LineEnds$Reader" 93 "open" ∈ lw_tbl := by decide +kernel
theorem nr_7_10 : Cond.stringRef "LineEnds$Reader" 110 "keep" ∈ lw_tbl := by decide +kernel
theorem nr_7_11 : Cond.stringRef "LineEnds" 294 "class " ∈ lw_tbl := by decide +kernel
theorem nr_7_12 : Cond.stringRef "LineEnds" 300 " wide " ∈ lw_tbl := by decide +kernel
theorem nr_7_13 : Cond.stringRef "LineEnds" 306 " shy begin" ∈ lw_tbl := by decide +kernel
theorem nr_7_14 : Cond.stringRef "LineEnds" 308 " shy end" ∈ lw_tbl := by decide +kernel
theorem nr_7_15 : Cond.stringRef "LineEnds" 310 " hang" ∈ lw_tbl := by decide +kernel
theorem nr_7_16 : Cond.stringRef "LineEnds" 312 " trim " ∈ lw_tbl := by decide +kernel
theorem nr_7_17 : Cond.stringRef "LineEnds" 314 " squeeze " ∈ lw_tbl := by decide +kernel
theorem nr_7_18 : Cond.stringRef "LineEnds" 316 " rank " ∈ lw_tbl := by decide +kernel
theorem nr_7_19 : Cond.stringRef "LineEnds" 318 " open " ∈ lw_tbl := by decide +kernel
theorem nr_7_20 : Cond.stringRef "LineEnds" 320 "keep " ∈ lw_tbl := by decide +kernel
theorem sJ_mem : ∀ i : Nat, i < 21 → Cond.stringRef (sJ.getD i ("", 0, "")).1 (sJ.getD i ("", 0, "")).2.1 (sJ.getD i ("", 0, "")).2.2 ∈ lw_tbl := by
  intro i hi
  rcases (show i = 0 ∨ i = 1 ∨ i = 2 ∨ i = 3 ∨ i = 4 ∨ i = 5 ∨ i = 6 ∨ i = 7 ∨ i = 8 ∨ i = 9 ∨ i = 10 ∨ i = 11 ∨ i = 12 ∨ i = 13 ∨ i = 14 ∨ i = 15 ∨ i = 16 ∨ i = 17 ∨ i = 18 ∨ i = 19 ∨ i = 20 by omega) with rfl | rfl | rfl | rfl | rfl | rfl | rfl | rfl | rfl | rfl | rfl | rfl | rfl | rfl | rfl | rfl | rfl | rfl | rfl | rfl | rfl
  · exact nr_7_0
  · exact nr_7_1
  · exact nr_7_2
  · exact nr_7_3
  · exact nr_7_4
  · exact nr_7_5
  · exact nr_7_6
  · exact nr_7_7
  · exact nr_7_8
  · exact nr_7_9
  · exact nr_7_10
  · exact nr_7_11
  · exact nr_7_12
  · exact nr_7_13
  · exact nr_7_14
  · exact nr_7_15
  · exact nr_7_16
  · exact nr_7_17
  · exact nr_7_18
  · exact nr_7_19
  · exact nr_7_20
theorem entry_EV {args : Array Value} {s : State} {A : Nat → Prop} (hts : ∀ w ∈ lw_tbl, w.before args s = true) (hgv : (Jvm.Cond.and given_1 narrow_1).before args s = true) (hA : ∀ a : Nat, a < s.heap.size → ¬ A a) : ∃ ev : EvT, EV ev A s s.heap := by
  have hs := flat_of_before _ hgv
  obtain ⟨adK, adV, hS, hev⟩ := vk_Sof (N := 21) (tm := tmJ) (len := lenJ) (byt := bytJ) (A := A) (by decide +kernel) (nrP _ _ 21 nr_1 hgv) (nrP _ _ 21 nr_2 hgv) (nrP _ _ 21 nr_3 hgv) (nrP _ _ 21 nr_4 hgv) (fun i hi j hj => hs _ (List.mem_of_getElem? (nr_5 i hi j hj)))
    (fun i j hi hj hij => by
      rcases Nat.lt_or_gt_of_ne hij with h | h
      · exact Or.inl (hs _ (nr_6 i hi j hj h))
      · exact Or.inr (hs _ (nr_6 j hj i hi h))) hA
  obtain ⟨t0, e0, T0⟩ := va_Tof (tm := .static "LineEnds" "LEAST_WEIGHTS" "[I") (ty := .int) (N := 3) (f := fun j => .int (([0, 1, 1] : List Int32).getD j 0)) (A := A) (by decide) (hs _ (by decide +kernel)) (va_eqt (hs _ (by decide +kernel))) (fun j hj => va_eqt (hs _ ((by decide +kernel : ∀ j, j < 3 → Cond.eq (.elem (.static "LineEnds" "LEAST_WEIGHTS" "[I") (.int (Int32.ofNat j))) (.int (([0, 1, 1] : List Int32).getD j 0)) ∈ flatC (Jvm.Cond.and given_1 narrow_1)) j hj))) hA
  obtain ⟨t1, e1, T1⟩ := va_Tof (tm := .static "LineEnds" "MOST_WEIGHTS" "[I") (ty := .int) (N := 3) (f := fun j => .int (([9, 99, 9999] : List Int32).getD j 0)) (A := A) (by decide) (hs _ (by decide +kernel)) (va_eqt (hs _ (by decide +kernel))) (fun j hj => va_eqt (hs _ ((by decide +kernel : ∀ j, j < 3 → Cond.eq (.elem (.static "LineEnds" "MOST_WEIGHTS" "[I") (.int (Int32.ofNat j))) (.int (([9, 99, 9999] : List Int32).getD j 0)) ∈ flatC (Jvm.Cond.and given_1 narrow_1)) j hj))) hA
  refine ⟨(adK, adV, fun k => if k = 0 then t0 else t1), hS, va_Zof (hts _ (by decide +kernel)) (hts _ (by decide +kernel)) (va_eqt (hs _ (by decide +kernel))) hA, va_Zqof (hts _ (by decide +kernel)) (hts _ (by decide +kernel)) (hs _ (by decide +kernel)) hA, va_Zof (hts _ (by decide +kernel)) (hts _ (by decide +kernel)) e0 hA, T0, va_Zof (hts _ (by decide +kernel)) (hts _ (by decide +kernel)) e1 hA, T1, ?_, hts (Cond.arrayOver (.array .int)) (by decide +kernel), hts (Cond.arrayOver (.object "LineEnds$Page")) (by decide +kernel), hts (Cond.arrayOver (.object "LineEnds$Layout")) (by decide +kernel)⟩
  intro i q hq
  have hi : i < 21 := (List.getElem?_eq_some_iff.mp hq).1
  have e : sJ.getD i ("", 0, "") = q := by rw [List.getD_eq_getElem?_getD, hq]; rfl
  have h1 := hts _ (sJ_mem i hi)
  have h2 := hev i hi
  unfold tmJ at h2
  rw [e] at h1 h2
  exact vk_R.of h1 h2
