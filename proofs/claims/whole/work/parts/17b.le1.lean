theorem dX9_hasLine_0 : decode cX9_hasLine 0 = .ok (.iload_n 1, 1) := by decide +kernel
theorem dX9_hasLine_1 : decode cX9_hasLine 1 = .ok (.invokestatic 231, 3) := by decide +kernel
theorem dX9_hasLine_4 : decode cX9_hasLine 4 = .ok (.ifCond .eq 23, 3) := by decide +kernel
theorem dX9_hasLine_7 : decode cX9_hasLine 7 = .ok (.iload_n 2, 1) := by decide +kernel
theorem dX9_hasLine_8 : decode cX9_hasLine 8 = .ok (.ifCond .lt 19, 3) := by decide +kernel
theorem dX9_hasLine_11 : decode cX9_hasLine 11 = .ok (.iload_n 2, 1) := by decide +kernel
theorem dX9_hasLine_12 : decode cX9_hasLine 12 = .ok (.aload_n 0, 1) := by decide +kernel
theorem dX9_hasLine_13 : decode cX9_hasLine 13 = .ok (.iload_n 1, 1) := by decide +kernel
theorem dX9_hasLine_14 : decode cX9_hasLine 14 = .ok (.invokevirtual 234, 3) := by decide +kernel
theorem dX9_hasLine_17 : decode cX9_hasLine 17 = .ok (.getfield 238, 3) := by decide +kernel
theorem dX9_hasLine_20 : decode cX9_hasLine 20 = .ok (.if_icmp .ge 7, 3) := by decide +kernel
theorem dX9_hasLine_23 : decode cX9_hasLine 23 = .ok (.iconst 1, 1) := by decide +kernel
theorem dX9_hasLine_24 : decode cX9_hasLine 24 = .ok (.goto 4, 3) := by decide +kernel
theorem dX9_hasLine_27 : decode cX9_hasLine 27 = .ok (.iconst 0, 1) := by decide +kernel
theorem dX9_hasLine_28 : decode cX9_hasLine 28 = .ok (.ireturn, 1) := by decide +kernel
theorem ok_X9_hasLine : okY RX9 yX9_hasLine 2 := ⟨rfl, by decide, by decide, by decide +kernel⟩
def j_X9_hasLine_27_7 (L_3 : OV) (R_4 : OV) (N_5 : OV) (Y_6 : OV) : Option (Int32 × OV × OV × OV × OV) := some ((0 : Int32), L_3, R_4, N_5, Y_6)
def f_X9_hasLine (aL : Nat → Nat) (L : OV) (P : OV) (R : OV) (N : OV) (oC : Nat) (C : OV) (oY : Nat) (Y : OV) (p0 : Int32) (p1 : Int32) : Option (Int32 × OV × OV × OV × OV) := (f_X9_isKind p0).bind (un1 (fun r_1 => (if r_1 = 0 then j_X9_hasLine_27_7 L R N Y else (if p1 < 0 then j_X9_hasLine_27_7 L R N Y else (f_X9_layoutOf aL L P R N oC C oY Y p0).bind (un4 (fun L_8 R_9 N_10 Y_11 => (if (iv Y_11 6) ≤ p1 then j_X9_hasLine_27_7 L_8 R_9 N_10 Y_11 else some ((1 : Int32), L_8, R_9, N_10, Y_11))))))))
def r_X9_hasLine : Room := { frames := 6, cells := 0, slots := 0, locals := 147 }
set_option maxHeartbeats 4000000 in
set_option maxRecDepth 100000 in
theorem c_X9_hasLine (l : Launch) (D : va_G) (ev : EvT) (cy : Nat → ClassId) (oL : Nat) (aL : Nat → Nat) (L : OV) (aP : Nat → Nat) (P : OV) (aR : Nat → Nat) (R : OV) (aN : Nat → Nat) (N : OV) (oC : Nat) (aC : Nat → Nat) (C : OV) (oY : Nat) (aY : Nat → Nat) (Y : OV) (p0 : Int32) (p1 : Int32) (o : Int32 × OV × OV × OV × OV) (hf : f_X9_hasLine aL L P R N oC C oY Y p0 p1 = some o) : Fn l yX9_hasLine cX9_hasLine 3 (some .boolean) r_X9_hasLine D ev cy [.ref oL, .int p0, .int p1] [gX9 cy oL aL L, gX4 cy (aL 2) aP P, gX7 cy (aL 5) aR R, gX5 cy (aL 7) aN N, gX1 cy oC aC C, gX3 cy oY aY Y] (fun v G => v = some (.int o.1) ∧ G = [gX9 cy oL aL o.2.1, gX4 cy (aL 2) aP P, gX7 cy (aL 5) aR o.2.2.1, gX5 cy (aL 7) aN o.2.2.2.1, gX1 cy oC aC C, gX3 cy oY aY o.2.2.2.2]) := by
  refine Fn_of (by decide) (Nat.le_of_ble_eq_true rfl) (fun X A Q h hQ _ => ?_)
  unfold f_X9_hasLine at hf
  show ww X D A 3 Q 0 0 0 [(0, .ref oL), (1, .int p0), (2, .int p1)] [] [gX9 cy oL aL L, gX4 cy (aL 2) aP P, gX7 cy (aL 5) aR R, gX5 cy (aL 7) aN N, gX1 cy oC aC C, gX3 cy oY aY Y]
  refine ww_iload_n h dX9_hasLine_0 rfl 1 rfl 1 rfl ?_
  obtain ⟨r_1, hu2, hf⟩ := ob1 hf
  refine ww_cSi h (c_X9_isKind l D ev cy p0 _ hu2) ⟨w_851, w_849, w_850, w_101, ok_X9_isKind⟩ ⟨by decide, by decide⟩ ⟨by decide, by decide⟩ ⟨rfl, rfl⟩ [] rfl rfl (Nat.le_of_ble_eq_true rfl) dX9_hasLine_1 4 rfl (Gs' := [gX9 cy oL aL L, gX4 cy (aL 2) aP P, gX7 cy (aL 5) aR R, gX5 cy (aL 7) aN N, gX1 cy oC aC C, gX3 cy oY aY Y]) rfl ?_
  clear hu2
  have hJ27_7 : ∀ (L_3 : OV) (R_4 : OV) (N_5 : OV) (Y_6 : OV), j_X9_hasLine_27_7 L_3 R_4 N_5 Y_6 = some o → ww X D A 3 Q 0 0 27 [] [] [gX9 cy oL aL L_3, gX4 cy (aL 2) aP P, gX7 cy (aL 5) aR R_4, gX5 cy (aL 7) aN N_5, gX1 cy oC aC C, gX3 cy oY aY Y_6] := by
    intro L_3 R_4 N_5 Y_6 hf
    unfold j_X9_hasLine_27_7 at hf
    refine ww_iconst (v := 0) h dX9_hasLine_27 (by decide) 28 rfl ?_
    obtain rfl := Option.some.inj hf
    exact ww_zret h (Or.inl rfl) dX9_hasLine_28 hQ ⟨rfl, rfl⟩
  refine ww_if_eq h dX9_hasLine_4 27 (by decide) 7 rfl (fun c => ?_) (fun c => ?_)
  · replace hf := ite_t c hf
    refine ww_lo [] (lo' := []) rfl ?_
    exact hJ27_7 L R N Y hf
  · replace hf := ite_f c hf
    refine ww_iload_n h dX9_hasLine_7 rfl 2 rfl 8 rfl ?_
    refine ww_if_lt h dX9_hasLine_8 27 (by decide) 11 rfl (fun c => ?_) (fun c => ?_)
    · replace hf := ite_t c hf
      refine ww_lo [] (lo' := []) rfl ?_
      exact hJ27_7 L R N Y hf
    · replace hf := ite_f c hf
      refine ww_iload_n h dX9_hasLine_11 rfl 2 rfl 12 rfl ?_
      refine ww_aload_n h dX9_hasLine_12 rfl 0 rfl 13 rfl ?_
      refine ww_iload_n h dX9_hasLine_13 rfl 1 rfl 14 rfl ?_
      obtain ⟨L_8, R_9, N_10, Y_11, hu12, hf⟩ := ob4 hf
      refine ww_cVr h (c_X9_layoutOf l D ev cy oL aL L aP P aR R aN N oC aC C oY aY Y p0 _ hu12) ⟨w_855, w_852, w_854, w_21, w_101, ok_X9_layoutOf⟩ ⟨by decide, by decide⟩ ⟨by decide, by decide⟩ ⟨rfl, rfl⟩ [0, 0, 0, 0, 0, 0] rfl 0 rfl rfl rfl rfl (Nat.le_of_ble_eq_true rfl) dX9_hasLine_14 17 rfl (Gs' := [gX9 cy oL aL L_8, gX4 cy (aL 2) aP P, gX7 cy (aL 5) aR R_9, gX5 cy (aL 7) aN N_10, gX1 cy oC aC C, gX3 cy oY aY Y_11]) rfl ?_
      clear hu12
      refine ww_get h inG3 rfl 5 rfl rfl 6 (by decide) w_371 rfl dX9_hasLine_17 20 rfl ?_
      refine ww_icmp_ge h dX9_hasLine_20 27 (by decide) 23 rfl (fun c => ?_) (fun c => ?_)
      · replace hf := ite_t c hf
        refine ww_lo [] (lo' := []) rfl ?_
        exact hJ27_7 L_8 R_9 N_10 Y_11 hf
      · replace hf := ite_f c hf
        refine ww_iconst (v := 1) h dX9_hasLine_23 (by decide) 24 rfl ?_
        refine ww_goto h dX9_hasLine_24 28 (by decide) ?_
        obtain rfl := Option.some.inj hf
        exact ww_zret h (Or.inr rfl) dX9_hasLine_28 hQ ⟨rfl, rfl⟩
theorem dX9_currentWays_0 : decode cX9_currentWays 0 = .ok (.aload_n 0, 1) := by decide +kernel
theorem dX9_currentWays_1 : decode cX9_currentWays 1 = .ok (.getfield 77, 3) := by decide +kernel
theorem dX9_currentWays_4 : decode cX9_currentWays 4 = .ok (.getfield 374, 3) := by decide +kernel
theorem dX9_currentWays_7 : decode cX9_currentWays 7 = .ok (.ifCond .ne 14, 3) := by decide +kernel
theorem dX9_currentWays_10 : decode cX9_currentWays 10 = .ok (.aload_n 0, 1) := by decide +kernel
theorem dX9_currentWays_11 : decode cX9_currentWays 11 = .ok (.getfield 77, 3) := by decide +kernel
theorem dX9_currentWays_14 : decode cX9_currentWays 14 = .ok (.aload_n 0, 1) := by decide +kernel
theorem dX9_currentWays_15 : decode cX9_currentWays 15 = .ok (.invokevirtual 215, 3) := by decide +kernel
theorem dX9_currentWays_18 : decode cX9_currentWays 18 = .ok (.invokevirtual 392, 3) := by decide +kernel
theorem dX9_currentWays_21 : decode cX9_currentWays 21 = .ok (.aload_n 0, 1) := by decide +kernel
theorem dX9_currentWays_22 : decode cX9_currentWays 22 = .ok (.getfield 77, 3) := by decide +kernel
theorem dX9_currentWays_25 : decode cX9_currentWays 25 = .ok (.areturn, 1) := by decide +kernel
theorem ok_X9_currentWays : okY RX9 yX9_currentWays 0 := ⟨rfl, by decide, by decide, by decide +kernel⟩
def f_X9_currentWays (aL : Nat → Nat) (L : OV) (P : OV) (R : OV) (W : OV) (oC : Nat) (C : OV) : Option (OV × OV × OV) := (if (iv W 3) = 0 then (f_X9_currentRuler aL L P R oC C).bind (un2 (fun L_1 R_2 => (f_X8_reckon W R_2 (aL 2) P).bind (un2 (fun W_4 R_5 => some (L_1, R_5, W_4))))) else some (L, R, W))
def r_X9_currentWays : Room := { frames := 5, cells := 0, slots := 0, locals := 118 }
set_option maxHeartbeats 4000000 in
set_option maxRecDepth 100000 in
theorem c_X9_currentWays (l : Launch) (D : va_G) (ev : EvT) (cy : Nat → ClassId) (oL : Nat) (aL : Nat → Nat) (L : OV) (aP : Nat → Nat) (P : OV) (aR : Nat → Nat) (R : OV) (aW : Nat → Nat) (W : OV) (oC : Nat) (aC : Nat → Nat) (C : OV) (o : OV × OV × OV) (hf : f_X9_currentWays aL L P R W oC C = some o) : Fn l yX9_currentWays cX9_currentWays 1 (some (.object "LineEnds$Ways")) r_X9_currentWays D ev cy [.ref oL] [gX9 cy oL aL L, gX4 cy (aL 2) aP P, gX7 cy (aL 5) aR R, gX8 cy (aL 9) aW W, gX1 cy oC aC C] (fun v G => v = some (.ref (aL 9)) ∧ G = [gX9 cy oL aL o.1, gX4 cy (aL 2) aP P, gX7 cy (aL 5) aR o.2.1, gX8 cy (aL 9) aW o.2.2, gX1 cy oC aC C]) := by
  refine Fn_of (by decide) (Nat.le_of_ble_eq_true rfl) (fun X A Q h hQ _ => ?_)
  unfold f_X9_currentWays at hf
  show ww X D A 1 Q 0 0 0 [(0, .ref oL)] [] [gX9 cy oL aL L, gX4 cy (aL 2) aP P, gX7 cy (aL 5) aR R, gX8 cy (aL 9) aW W, gX1 cy oC aC C]
  refine ww_aload_n h dX9_currentWays_0 rfl 0 rfl 1 rfl ?_
  refine ww_get h inG9 rfl 0 rfl rfl 9 (by decide) w_422 rfl dX9_currentWays_1 4 rfl ?_
  refine ww_get h inG8 rfl 3 rfl rfl 3 (by decide) w_402 rfl dX9_currentWays_4 7 rfl ?_
  refine ww_if_ne h dX9_currentWays_7 21 (by decide) 10 rfl (fun c => ?_) (fun c => ?_)
  · replace hf := ite_f c hf
    refine ww_aload_n h dX9_currentWays_21 rfl 0 rfl 22 rfl ?_
    refine ww_get h inG9 rfl 0 rfl rfl 9 (by decide) w_422 rfl dX9_currentWays_22 25 rfl ?_
    obtain rfl := Option.some.inj hf
    exact ww_aret h (Or.inl ⟨_, rfl⟩) dX9_currentWays_25 hQ ⟨rfl, rfl⟩
  · replace hf := ite_t c hf
    refine ww_aload_n h dX9_currentWays_10 rfl 0 rfl 11 rfl ?_
    refine ww_get h inG9 rfl 0 rfl rfl 9 (by decide) w_422 rfl dX9_currentWays_11 14 rfl ?_
    refine ww_aload_n h dX9_currentWays_14 rfl 0 rfl 15 rfl ?_
    obtain ⟨L_1, R_2, hu3, hf⟩ := ob2 hf
    refine ww_cVr h (c_X9_currentRuler l D ev cy oL aL L aP P aR R oC aC C _ hu3) ⟨w_809, w_806, w_808, w_17, w_101, ok_X9_currentRuler⟩ ⟨by decide, by decide⟩ ⟨by decide, by decide⟩ ⟨rfl, rfl⟩ [0, 0, 0, 1] rfl 0 rfl rfl rfl rfl (Nat.le_of_ble_eq_true rfl) dX9_currentWays_15 18 rfl (Gs' := [gX9 cy oL aL L_1, gX4 cy (aL 2) aP P, gX7 cy (aL 5) aR R_2, gX1 cy oC aC C, gX8 cy (aL 9) aW W]) rfl ?_
    clear hu3
    obtain ⟨W_4, R_5, hu6, hf⟩ := ob2 hf
    refine ww_cVv h (c_X8_reckon l D ev cy (aL 9) aW W (aL 5) aR R_2 (aL 2) aP P _ hu6) ⟨w_1077, w_1074, w_1075, w_1076, w_110, ok_X8_reckon⟩ ⟨by decide, by decide⟩ ⟨by decide, by decide⟩ ⟨rfl, rfl⟩ [4, 2, 1] rfl 0 rfl rfl rfl rfl (Nat.le_of_ble_eq_true rfl) dX9_currentWays_18 21 rfl (Gs' := [gX8 cy (aL 9) aW W_4, gX7 cy (aL 5) aR R_5, gX4 cy (aL 2) aP P, gX9 cy oL aL L_1, gX1 cy oC aC C]) rfl ?_
    clear hu6
    refine ww_aload_n h dX9_currentWays_21 rfl 0 rfl 22 rfl ?_
    refine ww_get h inG9 rfl 3 rfl rfl 9 (by decide) w_422 rfl dX9_currentWays_22 25 rfl ?_
    refine ww_perm [3, 2, 1, 0, 0] (Gs' := [gX9 cy oL aL L_1, gX4 cy (aL 2) aP P, gX7 cy (aL 5) aR R_5, gX8 cy (aL 9) aW W_4, gX1 cy oC aC C]) rfl ?_
    obtain rfl := Option.some.inj hf
    exact ww_aret h (Or.inl ⟨_, rfl⟩) dX9_currentWays_25 hQ ⟨rfl, rfl⟩
theorem dX9_trialCost_0 : decode cX9_trialCost 0 = .ok (.aload_n 0, 1) := by decide +kernel
theorem dX9_trialCost_1 : decode cX9_trialCost 1 = .ok (.getfield 57, 3) := by decide +kernel
theorem dX9_trialCost_4 : decode cX9_trialCost 4 = .ok (.aload_n 0, 1) := by decide +kernel
theorem dX9_trialCost_5 : decode cX9_trialCost 5 = .ok (.getfield 24, 3) := by decide +kernel
theorem dX9_trialCost_8 : decode cX9_trialCost 8 = .ok (.aload_n 0, 1) := by decide +kernel
theorem dX9_trialCost_9 : decode cX9_trialCost 9 = .ok (.getfield 38, 3) := by decide +kernel
theorem dX9_trialCost_12 : decode cX9_trialCost 12 = .ok (.invokevirtual 349, 3) := by decide +kernel
theorem dX9_trialCost_15 : decode cX9_trialCost 15 = .ok (.aload_n 0, 1) := by decide +kernel
theorem dX9_trialCost_16 : decode cX9_trialCost 16 = .ok (.getfield 63, 3) := by decide +kernel
theorem dX9_trialCost_19 : decode cX9_trialCost 19 = .ok (.aload_n 0, 1) := by decide +kernel
theorem dX9_trialCost_20 : decode cX9_trialCost 20 = .ok (.getfield 57, 3) := by decide +kernel
theorem dX9_trialCost_23 : decode cX9_trialCost 23 = .ok (.ldc_w 345, 3) := by decide +kernel
theorem dX9_trialCost_26 : decode cX9_trialCost 26 = .ok (.invokevirtual 352, 3) := by decide +kernel
theorem dX9_trialCost_29 : decode cX9_trialCost 29 = .ok (.aload_n 0, 1) := by decide +kernel
theorem dX9_trialCost_30 : decode cX9_trialCost 30 = .ok (.getfield 63, 3) := by decide +kernel
theorem dX9_trialCost_33 : decode cX9_trialCost 33 = .ok (.getfield 359, 3) := by decide +kernel
theorem dX9_trialCost_36 : decode cX9_trialCost 36 = .ok (.iconst 0, 1) := by decide +kernel
theorem dX9_trialCost_37 : decode cX9_trialCost 37 = .ok (.iaload, 1) := by decide +kernel
theorem dX9_trialCost_38 : decode cX9_trialCost 38 = .ok (.ireturn, 1) := by decide +kernel
theorem ok_X9_trialCost : okY RX9 yX9_trialCost 0 := ⟨rfl, by decide, by decide, by decide +kernel⟩
def f_X9_trialCost (aL : Nat → Nat) (L : OV) (J : OV) (U : OV) (N : OV) (oC : Nat) (C : OV) : Option (Int32 × OV × OV) := gd (decide (nv L 10 = oC)) ((f_X7_read U oC C (aL 3) J).bind (un1 (fun U_1 => (f_X5_planBest N U_1 (aL 3) J (1000000000 : Int32)).bind (un2 (fun N_3 U_4 => gd (ix (0 : Int32) 41) (some ((ar N_3 0 (0 : Int32).toNatClampNeg), U_4, N_3)))))))
def r_X9_trialCost : Room := { frames := 4, cells := 0, slots := 0, locals := 97 }
set_option maxHeartbeats 4000000 in
set_option maxRecDepth 100000 in
theorem c_X9_trialCost (l : Launch) (D : va_G) (ev : EvT) (cy : Nat → ClassId) (oL : Nat) (aL : Nat → Nat) (L : OV) (aJ : Nat → Nat) (J : OV) (aU : Nat → Nat) (U : OV) (aN : Nat → Nat) (N : OV) (oC : Nat) (aC : Nat → Nat) (C : OV) (o : Int32 × OV × OV) (hf : f_X9_trialCost aL L J U N oC C = some o) : Fn l yX9_trialCost cX9_trialCost 1 (some .int) r_X9_trialCost D ev cy [.ref oL] [gX9 cy oL aL L, gX4 cy (aL 3) aJ J, gX7 cy (aL 6) aU U, gX5 cy (aL 7) aN N, gX1 cy oC aC C] (fun v G => v = some (.int o.1) ∧ G = [gX9 cy oL aL L, gX4 cy (aL 3) aJ J, gX7 cy (aL 6) aU o.2.1, gX5 cy (aL 7) aN o.2.2, gX1 cy oC aC C]) := by
  refine Fn_of (by decide) (Nat.le_of_ble_eq_true rfl) (fun X A Q h hQ _ => ?_)
  unfold f_X9_trialCost at hf
  show ww X D A 1 Q 0 0 0 [(0, .ref oL)] [] [gX9 cy oL aL L, gX4 cy (aL 3) aJ J, gX7 cy (aL 6) aU U, gX5 cy (aL 7) aN N, gX1 cy oC aC C]
  refine ww_aload_n h dX9_trialCost_0 rfl 0 rfl 1 rfl ?_
  refine ww_get h inG9 rfl 0 rfl rfl 6 (by decide) w_419 rfl dX9_trialCost_1 4 rfl ?_
  refine ww_aload_n h dX9_trialCost_4 rfl 0 rfl 5 rfl ?_
  refine ww_get h inG9 rfl 0 rfl rfl 10 (by decide) w_423 rfl dX9_trialCost_5 8 rfl ?_
  have hi := (gd_some hf).1
  replace hf := (gd_some hf).2
  refine ww_ref hi ?_
  clear hi
  refine ww_aload_n h dX9_trialCost_8 rfl 0 rfl 9 rfl ?_
  refine ww_get h inG9 rfl 0 rfl rfl 3 (by decide) w_416 rfl dX9_trialCost_9 12 rfl ?_
  obtain ⟨U_1, hu2, hf⟩ := ob1 hf
  refine ww_cVv h (c_X7_read l D ev cy (aL 6) aU U oC aC C (aL 3) aJ J _ hu2) ⟨w_813, w_810, w_811, w_812, w_107, ok_X7_read⟩ ⟨by decide, by decide⟩ ⟨by decide, by decide⟩ ⟨rfl, rfl⟩ [2, 3, 1] rfl 0 rfl rfl rfl rfl (Nat.le_of_ble_eq_true rfl) dX9_trialCost_12 15 rfl (Gs' := [gX7 cy (aL 6) aU U_1, gX1 cy oC aC C, gX4 cy (aL 3) aJ J, gX9 cy oL aL L, gX5 cy (aL 7) aN N]) rfl ?_
  clear hu2
  refine ww_aload_n h dX9_trialCost_15 rfl 0 rfl 16 rfl ?_
  refine ww_get h inG9 rfl 3 rfl rfl 7 (by decide) w_420 rfl dX9_trialCost_16 19 rfl ?_
  refine ww_aload_n h dX9_trialCost_19 rfl 0 rfl 20 rfl ?_
  refine ww_get h inG9 rfl 3 rfl rfl 6 (by decide) w_419 rfl dX9_trialCost_20 23 rfl ?_
  refine ww_ldcw h w_856 dX9_trialCost_23 26 rfl ?_
  obtain ⟨N_3, U_4, hu5, hf⟩ := ob2 hf
  refine ww_cVv h (c_X5_planBest l D ev cy (aL 7) aN N (aL 6) aU U_1 (aL 3) aJ J (1000000000 : Int32) _ hu5) ⟨w_860, w_857, w_858, w_859, w_108, ok_X5_planBest⟩ ⟨by decide, by decide⟩ ⟨by decide, by decide⟩ ⟨rfl, rfl⟩ [4, 0, 1] rfl 0 rfl rfl rfl rfl (Nat.le_of_ble_eq_true rfl) dX9_trialCost_26 29 rfl (Gs' := [gX5 cy (aL 7) aN N_3, gX7 cy (aL 6) aU U_4, gX4 cy (aL 3) aJ J, gX1 cy oC aC C, gX9 cy oL aL L]) rfl ?_
  clear hu5
  refine ww_aload_n h dX9_trialCost_29 rfl 0 rfl 30 rfl ?_
  refine ww_get h inG9 rfl 4 rfl rfl 7 (by decide) w_420 rfl dX9_trialCost_30 33 rfl ?_
  refine ww_get h inG5 rfl 0 rfl rfl 0 (by decide) w_341 rfl dX9_trialCost_33 36 rfl ?_
  refine ww_iconst (v := 0) h dX9_trialCost_36 (by decide) 37 rfl ?_
  have hi := (gd_some hf).1
  replace hf := (gd_some hf).2
  refine ww_iald h 0 rfl 1 rfl (ix_in hi) dX9_trialCost_37 38 rfl ?_
  clear hi
  refine ww_perm [4, 2, 1, 0, 0] (Gs' := [gX9 cy oL aL L, gX4 cy (aL 3) aJ J, gX7 cy (aL 6) aU U_4, gX5 cy (aL 7) aN N_3, gX1 cy oC aC C]) rfl ?_
  obtain rfl := Option.some.inj hf
  exact ww_iret h dX9_trialCost_38 hQ ⟨rfl, rfl⟩
theorem dX9_common_0 : decode cX9_common 0 = .ok (.iload_n 1, 1) := by decide +kernel
theorem dX9_common_1 : decode cX9_common 1 = .ok (.iconst (-1), 1) := by decide +kernel
theorem dX9_common_2 : decode cX9_common 2 = .ok (.if_icmp .ge 5, 3) := by decide +kernel
theorem dX9_common_5 : decode cX9_common 5 = .ok (.iconst (-1), 1) := by decide +kernel
theorem dX9_common_6 : decode cX9_common 6 = .ok (.ireturn, 1) := by decide +kernel
theorem dX9_common_7 : decode cX9_common 7 = .ok (.aload_n 0, 1) := by decide +kernel
theorem dX9_common_8 : decode cX9_common 8 = .ok (.iconst 0, 1) := by decide +kernel
theorem dX9_common_9 : decode cX9_common 9 = .ok (.invokevirtual 234, 3) := by decide +kernel
theorem dX9_common_12 : decode cX9_common 12 = .ok (.astore_n 2, 1) := by decide +kernel
theorem dX9_common_13 : decode cX9_common 13 = .ok (.aload_n 0, 1) := by decide +kernel
theorem dX9_common_14 : decode cX9_common 14 = .ok (.iconst 1, 1) := by decide +kernel
theorem dX9_common_15 : decode cX9_common 15 = .ok (.invokevirtual 234, 3) := by decide +kernel
theorem dX9_common_18 : decode cX9_common 18 = .ok (.astore_n 3, 1) := by decide +kernel
theorem dX9_common_19 : decode cX9_common 19 = .ok (.iconst 0, 1) := by decide +kernel
theorem dX9_common_20 : decode cX9_common 20 = .ok (.istore 4, 2) := by decide +kernel
theorem dX9_common_22 : decode cX9_common 22 = .ok (.iconst 0, 1) := by decide +kernel
theorem dX9_common_23 : decode cX9_common 23 = .ok (.istore 5, 2) := by decide +kernel
theorem dX9_common_25 : decode cX9_common 25 = .ok (.iload 5, 2) := by decide +kernel
theorem dX9_common_27 : decode cX9_common 27 = .ok (.aload_n 2, 1) := by decide +kernel
theorem dX9_common_28 : decode cX9_common 28 = .ok (.getfield 238, 3) := by decide +kernel
theorem dX9_common_31 : decode cX9_common 31 = .ok (.if_icmp .ge 41, 3) := by decide +kernel
theorem dX9_common_34 : decode cX9_common 34 = .ok (.aload_n 2, 1) := by decide +kernel
theorem dX9_common_35 : decode cX9_common 35 = .ok (.getfield 249, 3) := by decide +kernel
theorem dX9_common_38 : decode cX9_common 38 = .ok (.iconst 1, 1) := by decide +kernel
theorem dX9_common_39 : decode cX9_common 39 = .ok (.aaload, 1) := by decide +kernel
theorem dX9_common_40 : decode cX9_common 40 = .ok (.iload 5, 2) := by decide +kernel
theorem dX9_common_42 : decode cX9_common 42 = .ok (.iaload, 1) := by decide +kernel
theorem dX9_common_43 : decode cX9_common 43 = .ok (.istore 6, 2) := by decide +kernel
theorem dX9_common_45 : decode cX9_common 45 = .ok (.aload_n 3, 1) := by decide +kernel
theorem dX9_common_46 : decode cX9_common 46 = .ok (.iload 6, 2) := by decide +kernel
theorem dX9_common_48 : decode cX9_common 48 = .ok (.invokevirtual 266, 3) := by decide +kernel
theorem dX9_common_51 : decode cX9_common 51 = .ok (.ifCond .eq 15, 3) := by decide +kernel
theorem dX9_common_54 : decode cX9_common 54 = .ok (.iload 4, 2) := by decide +kernel
theorem dX9_common_56 : decode cX9_common 56 = .ok (.iload_n 1, 1) := by decide +kernel
theorem dX9_common_57 : decode cX9_common 57 = .ok (.if_icmp .ne 6, 3) := by decide +kernel
theorem dX9_common_60 : decode cX9_common 60 = .ok (.iload 6, 2) := by decide +kernel
theorem dX9_common_62 : decode cX9_common 62 = .ok (.ireturn, 1) := by decide +kernel
theorem dX9_common_63 : decode cX9_common 63 = .ok (.iinc 4 1, 3) := by decide +kernel
theorem dX9_common_66 : decode cX9_common 66 = .ok (.iinc 5 1, 3) := by decide +kernel
theorem dX9_common_69 : decode cX9_common 69 = .ok (.goto (-44), 3) := by decide +kernel
theorem dX9_common_72 : decode cX9_common 72 = .ok (.iload_n 1, 1) := by decide +kernel
theorem dX9_common_73 : decode cX9_common 73 = .ok (.iconst (-1), 1) := by decide +kernel
theorem dX9_common_74 : decode cX9_common 74 = .ok (.if_icmp .ne 8, 3) := by decide +kernel
theorem dX9_common_77 : decode cX9_common 77 = .ok (.iload 4, 2) := by decide +kernel
theorem dX9_common_79 : decode cX9_common 79 = .ok (.goto 5, 3) := by decide +kernel
theorem dX9_common_82 : decode cX9_common 82 = .ok (.bipush (-2), 2) := by decide +kernel
theorem dX9_common_84 : decode cX9_common 84 = .ok (.ireturn, 1) := by decide +kernel
theorem ok_X9_common : okY RX9 yX9_common 1 := ⟨rfl, by decide, by decide, by decide +kernel⟩
def j_X9_common_66_21 (v5_15 : Int32) (v4_20 : Int32) : Option ((Int32 × Int32) ⊕ ((Int32) ⊕ (Int32 × OV × OV × OV × OV × OV))) := bnd (v5_15 + 1) (fun v5_22 => some (.inl (v4_20, v5_22)))
def s_X9_common_25_13 (Y0_4 : OV) (L_6 : OV) (R_7 : OV) (N_8 : OV) (Y1_9 : OV) (p0 : Int32) : (Int32 × Int32) → Option ((Int32 × Int32) ⊕ ((Int32) ⊕ (Int32 × OV × OV × OV × OV × OV))) := un2 (fun v4_14 v5_15 => (if (iv Y0_4 6) ≤ v5_15 then some (.inr (.inl v4_14)) else gd (ix (1 : Int32) 11) (gd (ix v5_15 40) (bnd (gr Y0_4 0 (1 : Int32).toNatClampNeg v5_15.toNatClampNeg) (fun v6_17 => (f_X3_endsAt Y1_9 v6_17).bind (un1 (fun r_18 => (if r_18 = 0 then j_X9_common_66_21 v5_15 v4_14 else (if v4_14 = p0 then some (.inr (.inr (v6_17, L_6, R_7, N_8, Y0_4, Y1_9))) else bnd (v4_14 + 1) (fun v4_23 => j_X9_common_66_21 v5_15 v4_23))))))))))
def f_X9_common (aL : Nat → Nat) (L : OV) (P : OV) (R : OV) (N : OV) (oC : Nat) (C : OV) (Y0 : OV) (Y1 : OV) (p0 : Int32) : Option (Int32 × OV × OV × OV × OV × OV) := (if (-1 : Int32) ≤ p0 then (f_X9_layoutOf aL L P R N oC C (aL (900 + 0)) Y0 (0 : Int32)).bind (un4 (fun L_1 R_2 N_3 Y0_4 => (f_X9_layoutOf aL L_1 P R_2 N_3 oC C (aL (900 + 1)) Y1 (1 : Int32)).bind (un4 (fun L_6 R_7 N_8 Y1_9 => bnd (0 : Int32) (fun v4_11 => bnd (0 : Int32) (fun v5_12 => ((lp (s_X9_common_25_13 Y0_4 L_6 R_7 N_8 Y1_9 p0) 5000 (v4_11, v5_12)).bind (Sum.elim (un1 (fun v4_24 => (if p0 = (-1 : Int32) then some (v4_24, L_6, R_7, N_8, Y0_4, Y1_9) else some ((-2 : Int32), L_6, R_7, N_8, Y0_4, Y1_9)))) (fun r => some r))))))))) else some ((-1 : Int32), L, R, N, Y0, Y1))
def r_X9_common : Room := { frames := 6, cells := 0, slots := 0, locals := 147 }
set_option maxHeartbeats 4000000 in
set_option maxRecDepth 100000 in
theorem c_X9_common (l : Launch) (D : va_G) (ev : EvT) (cy : Nat → ClassId) (oL : Nat) (aL : Nat → Nat) (L : OV) (aP : Nat → Nat) (P : OV) (aR : Nat → Nat) (R : OV) (aN : Nat → Nat) (N : OV) (oC : Nat) (aC : Nat → Nat) (C : OV) (aY0 : Nat → Nat) (Y0 : OV) (aY1 : Nat → Nat) (Y1 : OV) (p0 : Int32) (o : Int32 × OV × OV × OV × OV × OV) (hf : f_X9_common aL L P R N oC C Y0 Y1 p0 = some o) : Fn l yX9_common cX9_common 7 (some .int) r_X9_common D ev cy [.ref oL, .int p0] [gX9 cy oL aL L, gX4 cy (aL 2) aP P, gX7 cy (aL 5) aR R, gX5 cy (aL 7) aN N, gX1 cy oC aC C, gX3 cy (aL (900 + 0)) aY0 Y0, gX3 cy (aL (900 + 1)) aY1 Y1] (fun v G => v = some (.int o.1) ∧ G = [gX9 cy oL aL o.2.1, gX4 cy (aL 2) aP P, gX7 cy (aL 5) aR o.2.2.1, gX5 cy (aL 7) aN o.2.2.2.1, gX1 cy oC aC C, gX3 cy (aL (900 + 0)) aY0 o.2.2.2.2.1, gX3 cy (aL (900 + 1)) aY1 o.2.2.2.2.2]) := by
  refine Fn_of (by decide) (Nat.le_of_ble_eq_true rfl) (fun X A Q h hQ _ => ?_)
  unfold f_X9_common at hf
  show ww X D A 7 Q 0 0 0 [(0, .ref oL), (1, .int p0)] [] [gX9 cy oL aL L, gX4 cy (aL 2) aP P, gX7 cy (aL 5) aR R, gX5 cy (aL 7) aN N, gX1 cy oC aC C, gX3 cy (aL (900 + 0)) aY0 Y0, gX3 cy (aL (900 + 1)) aY1 Y1]
  refine ww_iload_n h dX9_common_0 rfl 1 rfl 1 rfl ?_
  refine ww_iconst (v := (-1)) h dX9_common_1 (by decide) 2 rfl ?_
  refine ww_icmp_ge h dX9_common_2 7 (by decide) 5 rfl (fun c => ?_) (fun c => ?_)
  · replace hf := ite_t c hf
    refine ww_aload_n h dX9_common_7 rfl 0 rfl 8 rfl ?_
    refine ww_iconst (v := 0) h dX9_common_8 (by decide) 9 rfl ?_
    obtain ⟨L_1, R_2, N_3, Y0_4, hu5, hf⟩ := ob4 hf
    refine ww_cVr h (c_X9_layoutOf l D ev cy oL aL L aP P aR R aN N oC aC C (aL (900 + 0)) aY0 Y0 (0 : Int32) _ hu5) ⟨w_855, w_852, w_854, w_21, w_101, ok_X9_layoutOf⟩ ⟨by decide, by decide⟩ ⟨by decide, by decide⟩ ⟨rfl, rfl⟩ [0, 0, 0, 0, 0, 0] rfl 0 rfl rfl rfl rfl (Nat.le_of_ble_eq_true rfl) dX9_common_9 12 rfl (Gs' := [gX9 cy oL aL L_1, gX4 cy (aL 2) aP P, gX7 cy (aL 5) aR R_2, gX5 cy (aL 7) aN N_3, gX1 cy oC aC C, gX3 cy (aL (900 + 0)) aY0 Y0_4, gX3 cy (aL (900 + 1)) aY1 Y1]) rfl ?_
    clear hu5
    refine ww_astore_n h dX9_common_12 rfl (by decide) (lo' := [(2, .ref (aL (900 + 0))), (0, .ref oL), (1, .int p0)]) rfl 13 rfl ?_
    refine ww_aload_n h dX9_common_13 rfl 1 rfl 14 rfl ?_
    refine ww_iconst (v := 1) h dX9_common_14 (by decide) 15 rfl ?_
    obtain ⟨L_6, R_7, N_8, Y1_9, hu10, hf⟩ := ob4 hf
    refine ww_cVr h (c_X9_layoutOf l D ev cy oL aL L_1 aP P aR R_2 aN N_3 oC aC C (aL (900 + 1)) aY1 Y1 (1 : Int32) _ hu10) ⟨w_855, w_852, w_854, w_21, w_101, ok_X9_layoutOf⟩ ⟨by decide, by decide⟩ ⟨by decide, by decide⟩ ⟨rfl, rfl⟩ [0, 0, 0, 0, 0, 1] rfl 0 rfl rfl rfl rfl (Nat.le_of_ble_eq_true rfl) dX9_common_15 18 rfl (Gs' := [gX9 cy oL aL L_6, gX4 cy (aL 2) aP P, gX7 cy (aL 5) aR R_7, gX5 cy (aL 7) aN N_8, gX1 cy oC aC C, gX3 cy (aL (900 + 1)) aY1 Y1_9, gX3 cy (aL (900 + 0)) aY0 Y0_4]) rfl ?_
    clear hu10
    refine ww_astore_n h dX9_common_18 rfl (by decide) (lo' := [(3, .ref (aL (900 + 1))), (2, .ref (aL (900 + 0))), (0, .ref oL), (1, .int p0)]) rfl 19 rfl ?_
    refine ww_iconst (v := 0) h dX9_common_19 (by decide) 20 rfl ?_
    refine ww_ist h dX9_common_20 (by decide) (fun v4_11 => [(4, .int v4_11), (3, .ref (aL (900 + 1))), (2, .ref (aL (900 + 0))), (0, .ref oL), (1, .int p0)]) (fun _ => rfl) 22 rfl (fun v4_11 e => ?_)
    replace hf := bnd_at e hf
    clear e
    refine ww_iconst (v := 0) h dX9_common_22 (by decide) 23 rfl ?_
    refine ww_ist h dX9_common_23 (by decide) (fun v5_12 => [(5, .int v5_12), (4, .int v4_11), (3, .ref (aL (900 + 1))), (2, .ref (aL (900 + 0))), (0, .ref oL), (1, .int p0)]) (fun _ => rfl) 25 rfl (fun v5_12 e => ?_)
    replace hf := bnd_at e hf
    clear e
    refine ww_lo [5, 3, 2, 1, 0] (lo' := [(1, .int p0), (2, .ref (aL (900 + 0))), (3, .ref (aL (900 + 1))), (4, .int v4_11), (5, .int v5_12)]) rfl ?_
    refine ww_perm [0, 0, 0, 0, 0, 1, 0] (Gs' := [gX9 cy oL aL L_6, gX4 cy (aL 2) aP P, gX7 cy (aL 5) aR R_7, gX5 cy (aL 7) aN N_8, gX1 cy oC aC C, gX3 cy (aL (900 + 0)) aY0 Y0_4, gX3 cy (aL (900 + 1)) aY1 Y1_9]) rfl ?_
    obtain ⟨x13, h13, hf⟩ := ob_some hf
    refine lp_walk (un2 (fun v4_14 v5_15 => ww X D A 7 Q 0 0 25 [(1, .int p0), (2, .ref (aL (900 + 0))), (3, .ref (aL (900 + 1))), (4, .int v4_14), (5, .int v5_15)] [] [gX9 cy oL aL L_6, gX4 cy (aL 2) aP P, gX7 cy (aL 5) aR R_7, gX5 cy (aL 7) aN N_8, gX1 cy oC aC C, gX3 cy (aL (900 + 0)) aY0 Y0_4, gX3 cy (aL (900 + 1)) aY1 Y1_9])) (Sum.elim (un1 (fun v4_24 => ww X D A 7 Q 0 0 72 [(1, .int p0), (4, .int v4_24)] [] [gX9 cy oL aL L_6, gX4 cy (aL 2) aP P, gX7 cy (aL 5) aR R_7, gX5 cy (aL 7) aN N_8, gX1 cy oC aC C, gX3 cy (aL (900 + 0)) aY0 Y0_4, gX3 cy (aL (900 + 1)) aY1 Y1_9])) (fun r => r = o)) ?_ _ _ _ h13 ?_
    · clear h13 hf
      intro s13 o13 hf hI13 hE13
      obtain ⟨v4_14, v5_15⟩ := s13
      unfold s_X9_common_25_13 at hf
      replace hf := un2_e hf
      show ww X D A 7 Q 0 0 25 [(1, .int p0), (2, .ref (aL (900 + 0))), (3, .ref (aL (900 + 1))), (4, .int v4_14), (5, .int v5_15)] [] [gX9 cy oL aL L_6, gX4 cy (aL 2) aP P, gX7 cy (aL 5) aR R_7, gX5 cy (aL 7) aN N_8, gX1 cy oC aC C, gX3 cy (aL (900 + 0)) aY0 Y0_4, gX3 cy (aL (900 + 1)) aY1 Y1_9]
      refine ww_iload h dX9_common_25 4 rfl 27 rfl ?_
      refine ww_aload_n h dX9_common_27 rfl 1 rfl 28 rfl ?_
      refine ww_get h inG3 rfl 5 rfl rfl 6 (by decide) w_371 rfl dX9_common_28 31 rfl ?_
      refine ww_icmp_ge h dX9_common_31 72 (by decide) 34 rfl (fun c => ?_) (fun c => ?_)
      · replace hf := ite_t c hf
        refine ww_lo [0, 3] (lo' := [(1, .int p0), (4, .int v4_14)]) rfl ?_
        exact hE13 (.inl v4_14) (Option.some.inj hf).symm
      · replace hf := ite_f c hf
        refine ww_aload_n h dX9_common_34 rfl 1 rfl 35 rfl ?_
        refine ww_get h inG3 rfl 5 rfl rfl 0 (by decide) w_362 rfl dX9_common_35 38 rfl ?_
        refine ww_iconst (v := 1) h dX9_common_38 (by decide) 39 rfl ?_
        have hi := (gd_some hf).1
        replace hf := (gd_some hf).2
        have hj16 := ix_lt hi
        refine ww_aaldR h 5 rfl 1 rfl 4 rfl rfl (ix_in hi) dX9_common_39 40 rfl ?_
        clear hi
        refine ww_iload h dX9_common_40 4 rfl 42 rfl ?_
        have hi := (gd_some hf).1
        replace hf := (gd_some hf).2
        refine ww_iald h 5 rfl (7 + (1 : Int32).toNatClampNeg) (gX3_row0 hj16) (ix_in hi) dX9_common_42 43 rfl ?_
        clear hi
        refine ww_ist h dX9_common_43 (by decide) (fun v6_17 => [(6, .int v6_17), (1, .int p0), (2, .ref (aL (900 + 0))), (3, .ref (aL (900 + 1))), (4, .int v4_14), (5, .int v5_15)]) (fun _ => rfl) 45 rfl (fun v6_17 e => ?_)
        replace hf := bnd_at e hf
        clear e
        refine ww_aload_n h dX9_common_45 rfl 3 rfl 46 rfl ?_
        refine ww_iload h dX9_common_46 0 rfl 48 rfl ?_
        obtain ⟨r_18, hu19, hf⟩ := ob1 hf
        refine ww_cVi h (c_X3_endsAt l D ev cy (aL (900 + 1)) aY1 Y1_9 v6_17 _ hu19) ⟨w_981, w_978, w_979, w_980, w_109, ok_X3_endsAt⟩ ⟨by decide, by decide⟩ ⟨by decide, by decide⟩ ⟨rfl, rfl⟩ [6] rfl 0 rfl rfl rfl rfl (Nat.le_of_ble_eq_true rfl) dX9_common_48 51 rfl (Gs' := [gX3 cy (aL (900 + 1)) aY1 Y1_9, gX9 cy oL aL L_6, gX4 cy (aL 2) aP P, gX7 cy (aL 5) aR R_7, gX5 cy (aL 7) aN N_8, gX1 cy oC aC C, gX3 cy (aL (900 + 0)) aY0 Y0_4]) rfl ?_
        clear hu19
        have hJ66_21 : ∀ (v4_20 : Int32), j_X9_common_66_21 v5_15 v4_20 = some o13 → ww X D A 7 Q 0 0 66 [(1, .int p0), (2, .ref (aL (900 + 0))), (3, .ref (aL (900 + 1))), (4, .int v4_20), (5, .int v5_15)] [] [gX9 cy oL aL L_6, gX4 cy (aL 2) aP P, gX7 cy (aL 5) aR R_7, gX5 cy (aL 7) aN N_8, gX1 cy oC aC C, gX3 cy (aL (900 + 0)) aY0 Y0_4, gX3 cy (aL (900 + 1)) aY1 Y1_9] := by
          intro v4_20 hf
          unfold j_X9_common_66_21 at hf
          refine ww_inc (c := 1) h dX9_common_66 4 rfl (by decide) (by decide) (fun v5_22 => [(5, .int v5_22), (1, .int p0), (2, .ref (aL (900 + 0))), (3, .ref (aL (900 + 1))), (4, .int v4_20)]) (fun _ => rfl) 69 rfl (fun v5_22 e => ?_)
          replace hf := bnd_at e hf
          clear e
          refine ww_goto h dX9_common_69 25 (by decide) ?_
          refine ww_lo [1, 2, 3, 4, 0] (lo' := [(1, .int p0), (2, .ref (aL (900 + 0))), (3, .ref (aL (900 + 1))), (4, .int v4_20), (5, .int v5_22)]) rfl ?_
          exact hI13 (v4_20, v5_22) (Option.some.inj hf).symm
        refine ww_if_eq h dX9_common_51 66 (by decide) 54 rfl (fun c => ?_) (fun c => ?_)
        · replace hf := ite_t c hf
          refine ww_lo [1, 2, 3, 4, 5] (lo' := [(1, .int p0), (2, .ref (aL (900 + 0))), (3, .ref (aL (900 + 1))), (4, .int v4_14), (5, .int v5_15)]) rfl ?_
          refine ww_perm [1, 1, 1, 1, 1, 1, 0] (Gs' := [gX9 cy oL aL L_6, gX4 cy (aL 2) aP P, gX7 cy (aL 5) aR R_7, gX5 cy (aL 7) aN N_8, gX1 cy oC aC C, gX3 cy (aL (900 + 0)) aY0 Y0_4, gX3 cy (aL (900 + 1)) aY1 Y1_9]) rfl ?_
          exact hJ66_21 v4_14 hf
        · replace hf := ite_f c hf
          refine ww_iload h dX9_common_54 4 rfl 56 rfl ?_
          refine ww_iload_n h dX9_common_56 rfl 1 rfl 57 rfl ?_
          refine ww_icmp_ne h dX9_common_57 63 (by decide) 60 rfl (fun c => ?_) (fun c => ?_)
          · replace hf := ite_f c hf
            refine ww_inc (c := 1) h dX9_common_63 4 rfl (by decide) (by decide) (fun v4_23 => [(4, .int v4_23), (6, .int v6_17), (1, .int p0), (2, .ref (aL (900 + 0))), (3, .ref (aL (900 + 1))), (5, .int v5_15)]) (fun _ => rfl) 66 rfl (fun v4_23 e => ?_)
            replace hf := bnd_at e hf
            clear e
            refine ww_lo [2, 3, 4, 0, 5] (lo' := [(1, .int p0), (2, .ref (aL (900 + 0))), (3, .ref (aL (900 + 1))), (4, .int v4_23), (5, .int v5_15)]) rfl ?_
            refine ww_perm [1, 1, 1, 1, 1, 1, 0] (Gs' := [gX9 cy oL aL L_6, gX4 cy (aL 2) aP P, gX7 cy (aL 5) aR R_7, gX5 cy (aL 7) aN N_8, gX1 cy oC aC C, gX3 cy (aL (900 + 0)) aY0 Y0_4, gX3 cy (aL (900 + 1)) aY1 Y1_9]) rfl ?_
            exact hJ66_21 v4_23 hf
          · replace hf := ite_t c hf
            refine ww_iload h dX9_common_60 0 rfl 62 rfl ?_
            refine ww_perm [1, 1, 1, 1, 1, 1, 0] (Gs' := [gX9 cy oL aL L_6, gX4 cy (aL 2) aP P, gX7 cy (aL 5) aR R_7, gX5 cy (aL 7) aN N_8, gX1 cy oC aC C, gX3 cy (aL (900 + 0)) aY0 Y0_4, gX3 cy (aL (900 + 1)) aY1 Y1_9]) rfl ?_
            obtain rfl := hE13 (.inr (v6_17, L_6, R_7, N_8, Y0_4, Y1_9)) (Option.some.inj hf).symm
            exact ww_iret h dX9_common_62 hQ ⟨rfl, rfl⟩
    · clear h13
      rcases x13 with x13 | x13
      · replace hf := sel_l hf
        obtain ⟨v4_24, rfl⟩ : ∃ z, z = x13 := ⟨_, rfl⟩
        replace hf := un1_e hf
        show ww X D A 7 Q 0 0 72 [(1, .int p0), (4, .int v4_24)] [] [gX9 cy oL aL L_6, gX4 cy (aL 2) aP P, gX7 cy (aL 5) aR R_7, gX5 cy (aL 7) aN N_8, gX1 cy oC aC C, gX3 cy (aL (900 + 0)) aY0 Y0_4, gX3 cy (aL (900 + 1)) aY1 Y1_9]
        refine ww_iload_n h dX9_common_72 rfl 0 rfl 73 rfl ?_
        refine ww_iconst (v := (-1)) h dX9_common_73 (by decide) 74 rfl ?_
        refine ww_icmp_ne h dX9_common_74 82 (by decide) 77 rfl (fun c => ?_) (fun c => ?_)
        · replace hf := ite_f c hf
          refine ww_bipush (v := (-2)) h dX9_common_82 (by decide) 84 rfl ?_
          obtain rfl := Option.some.inj hf
          exact ww_iret h dX9_common_84 hQ ⟨rfl, rfl⟩
        · replace hf := ite_t c hf
          refine ww_iload h dX9_common_77 1 rfl 79 rfl ?_
          refine ww_goto h dX9_common_79 84 (by decide) ?_
          obtain rfl := Option.some.inj hf
          exact ww_iret h dX9_common_84 hQ ⟨rfl, rfl⟩
      · replace hf := sel_r hf
        exact Option.some.inj hf
  · replace hf := ite_f c hf
    refine ww_iconst (v := (-1)) h dX9_common_5 (by decide) 6 rfl ?_
    obtain rfl := Option.some.inj hf
    exact ww_iret h dX9_common_6 hQ ⟨rfl, rfl⟩
theorem dX9_same_0 : decode cX9_same 0 = .ok (.iload_n 1, 1) := by decide +kernel
theorem dX9_same_1 : decode cX9_same 1 = .ok (.invokestatic 231, 3) := by decide +kernel
theorem dX9_same_4 : decode cX9_same 4 = .ok (.ifCond .eq 10, 3) := by decide +kernel
theorem dX9_same_7 : decode cX9_same 7 = .ok (.iload_n 2, 1) := by decide +kernel
theorem dX9_same_8 : decode cX9_same 8 = .ok (.invokestatic 231, 3) := by decide +kernel
theorem dX9_same_11 : decode cX9_same 11 = .ok (.ifCond .ne 5, 3) := by decide +kernel
theorem dX9_same_14 : decode cX9_same 14 = .ok (.iconst (-1), 1) := by decide +kernel
theorem dX9_same_15 : decode cX9_same 15 = .ok (.ireturn, 1) := by decide +kernel
theorem dX9_same_16 : decode cX9_same 16 = .ok (.aload_n 0, 1) := by decide +kernel
theorem dX9_same_17 : decode cX9_same 17 = .ok (.iload_n 1, 1) := by decide +kernel
theorem dX9_same_18 : decode cX9_same 18 = .ok (.invokevirtual 234, 3) := by decide +kernel
theorem dX9_same_21 : decode cX9_same 21 = .ok (.astore_n 3, 1) := by decide +kernel
theorem dX9_same_22 : decode cX9_same 22 = .ok (.aload_n 0, 1) := by decide +kernel
theorem dX9_same_23 : decode cX9_same 23 = .ok (.iload_n 2, 1) := by decide +kernel
theorem dX9_same_24 : decode cX9_same 24 = .ok (.invokevirtual 234, 3) := by decide +kernel
theorem dX9_same_27 : decode cX9_same 27 = .ok (.astore 4, 2) := by decide +kernel
theorem dX9_same_29 : decode cX9_same 29 = .ok (.iconst 0, 1) := by decide +kernel
theorem dX9_same_30 : decode cX9_same 30 = .ok (.istore 5, 2) := by decide +kernel
theorem dX9_same_32 : decode cX9_same 32 = .ok (.iconst 0, 1) := by decide +kernel
theorem dX9_same_33 : decode cX9_same 33 = .ok (.istore 6, 2) := by decide +kernel
theorem dX9_same_35 : decode cX9_same 35 = .ok (.iload 6, 2) := by decide +kernel
theorem dX9_same_37 : decode cX9_same 37 = .ok (.aload_n 3, 1) := by decide +kernel
theorem dX9_same_38 : decode cX9_same 38 = .ok (.getfield 238, 3) := by decide +kernel
theorem dX9_same_41 : decode cX9_same 41 = .ok (.if_icmp .ge 38, 3) := by decide +kernel
theorem dX9_same_44 : decode cX9_same 44 = .ok (.aload 4, 2) := by decide +kernel
theorem dX9_same_46 : decode cX9_same 46 = .ok (.aload_n 3, 1) := by decide +kernel
theorem dX9_same_47 : decode cX9_same 47 = .ok (.getfield 249, 3) := by decide +kernel
theorem dX9_same_50 : decode cX9_same 50 = .ok (.iconst 0, 1) := by decide +kernel
theorem dX9_same_51 : decode cX9_same 51 = .ok (.aaload, 1) := by decide +kernel
theorem dX9_same_52 : decode cX9_same 52 = .ok (.iload 6, 2) := by decide +kernel
theorem dX9_same_54 : decode cX9_same 54 = .ok (.iaload, 1) := by decide +kernel
theorem dX9_same_55 : decode cX9_same 55 = .ok (.aload_n 3, 1) := by decide +kernel
theorem dX9_same_56 : decode cX9_same 56 = .ok (.getfield 249, 3) := by decide +kernel
theorem dX9_same_59 : decode cX9_same 59 = .ok (.iconst 1, 1) := by decide +kernel
theorem dX9_same_60 : decode cX9_same 60 = .ok (.aaload, 1) := by decide +kernel
theorem dX9_same_61 : decode cX9_same 61 = .ok (.iload 6, 2) := by decide +kernel
theorem dX9_same_63 : decode cX9_same 63 = .ok (.iaload, 1) := by decide +kernel
theorem dX9_same_64 : decode cX9_same 64 = .ok (.invokevirtual 269, 3) := by decide +kernel
theorem dX9_same_67 : decode cX9_same 67 = .ok (.ifCond .eq 6, 3) := by decide +kernel
theorem dX9_same_70 : decode cX9_same 70 = .ok (.iinc 5 1, 3) := by decide +kernel
theorem dX9_same_73 : decode cX9_same 73 = .ok (.iinc 6 1, 3) := by decide +kernel
theorem dX9_same_76 : decode cX9_same 76 = .ok (.goto (-41), 3) := by decide +kernel
theorem dX9_same_79 : decode cX9_same 79 = .ok (.iload 5, 2) := by decide +kernel
theorem dX9_same_81 : decode cX9_same 81 = .ok (.ireturn, 1) := by decide +kernel
theorem ok_X9_same : okY RX9 yX9_same 2 := ⟨rfl, by decide, by decide, by decide +kernel⟩
def j_X9_same_73_25 (v6_19 : Int32) (v5_24 : Int32) : Option ((Int32 × Int32) ⊕ (Int32)) := bnd (v6_19 + 1) (fun v6_26 => some (.inl (v5_24, v6_26)))
def s_X9_same_35_17 (Y_8 : OV) (V_13 : OV) : (Int32 × Int32) → Option ((Int32 × Int32) ⊕ (Int32)) := un2 (fun v5_18 v6_19 => (if (iv Y_8 6) ≤ v6_19 then some (.inr v5_18) else gd (ix (0 : Int32) 11) (gd (ix v6_19 40) (gd (ix (1 : Int32) 11) (gd (ix v6_19 40) ((f_X3_hasLineOf V_13 (gr Y_8 0 (0 : Int32).toNatClampNeg v6_19.toNatClampNeg) (gr Y_8 0 (1 : Int32).toNatClampNeg v6_19.toNatClampNeg)).bind (un1 (fun r_22 => (if r_22 = 0 then j_X9_same_73_25 v6_19 v5_18 else bnd (v5_18 + 1) (fun v5_27 => j_X9_same_73_25 v6_19 v5_27))))))))))
def f_X9_same (aL : Nat → Nat) (L : OV) (P : OV) (R : OV) (N : OV) (oC : Nat) (C : OV) (oY : Nat) (Y : OV) (oV : Nat) (V : OV) (p0 : Int32) (p1 : Int32) : Option (Int32 × OV × OV × OV × OV × OV) := (f_X9_isKind p0).bind (un1 (fun r_1 => (if r_1 = 0 then some ((-1 : Int32), L, R, N, Y, V) else (f_X9_isKind p1).bind (un1 (fun r_3 => (if r_3 = 0 then some ((-1 : Int32), L, R, N, Y, V) else (f_X9_layoutOf aL L P R N oC C oY Y p0).bind (un4 (fun L_5 R_6 N_7 Y_8 => (f_X9_layoutOf aL L_5 P R_6 N_7 oC C oV V p1).bind (un4 (fun L_10 R_11 N_12 V_13 => bnd (0 : Int32) (fun v5_15 => bnd (0 : Int32) (fun v6_16 => ((lp (s_X9_same_35_17 Y_8 V_13) 5000 (v5_15, v6_16)).bind (un1 (fun v5_28 => some (v5_28, L_10, R_11, N_12, Y_8, V_13))))))))))))))))
def r_X9_same : Room := { frames := 6, cells := 0, slots := 0, locals := 147 }
set_option maxHeartbeats 4000000 in
set_option maxRecDepth 100000 in
theorem c_X9_same (l : Launch) (D : va_G) (ev : EvT) (cy : Nat → ClassId) (oL : Nat) (aL : Nat → Nat) (L : OV) (aP : Nat → Nat) (P : OV) (aR : Nat → Nat) (R : OV) (aN : Nat → Nat) (N : OV) (oC : Nat) (aC : Nat → Nat) (C : OV) (oY : Nat) (aY : Nat → Nat) (Y : OV) (oV : Nat) (aV : Nat → Nat) (V : OV) (p0 : Int32) (p1 : Int32) (o : Int32 × OV × OV × OV × OV × OV) (hf : f_X9_same aL L P R N oC C oY Y oV V p0 p1 = some o) : Fn l yX9_same cX9_same 7 (some .int) r_X9_same D ev cy [.ref oL, .int p0, .int p1] [gX9 cy oL aL L, gX4 cy (aL 2) aP P, gX7 cy (aL 5) aR R, gX5 cy (aL 7) aN N, gX1 cy oC aC C, gX3 cy oY aY Y, gX3 cy oV aV V] (fun v G => v = some (.int o.1) ∧ G = [gX9 cy oL aL o.2.1, gX4 cy (aL 2) aP P, gX7 cy (aL 5) aR o.2.2.1, gX5 cy (aL 7) aN o.2.2.2.1, gX1 cy oC aC C, gX3 cy oY aY o.2.2.2.2.1, gX3 cy oV aV o.2.2.2.2.2]) := by
  refine Fn_of (by decide) (Nat.le_of_ble_eq_true rfl) (fun X A Q h hQ _ => ?_)
  unfold f_X9_same at hf
  show ww X D A 7 Q 0 0 0 [(0, .ref oL), (1, .int p0), (2, .int p1)] [] [gX9 cy oL aL L, gX4 cy (aL 2) aP P, gX7 cy (aL 5) aR R, gX5 cy (aL 7) aN N, gX1 cy oC aC C, gX3 cy oY aY Y, gX3 cy oV aV V]
  refine ww_iload_n h dX9_same_0 rfl 1 rfl 1 rfl ?_
  obtain ⟨r_1, hu2, hf⟩ := ob1 hf
  refine ww_cSi h (c_X9_isKind l D ev cy p0 _ hu2) ⟨w_851, w_849, w_850, w_101, ok_X9_isKind⟩ ⟨by decide, by decide⟩ ⟨by decide, by decide⟩ ⟨rfl, rfl⟩ [] rfl rfl (Nat.le_of_ble_eq_true rfl) dX9_same_1 4 rfl (Gs' := [gX9 cy oL aL L, gX4 cy (aL 2) aP P, gX7 cy (aL 5) aR R, gX5 cy (aL 7) aN N, gX1 cy oC aC C, gX3 cy oY aY Y, gX3 cy oV aV V]) rfl ?_
  clear hu2
  refine ww_if_eq h dX9_same_4 14 (by decide) 7 rfl (fun c => ?_) (fun c => ?_)
  · replace hf := ite_t c hf
    refine ww_iconst (v := (-1)) h dX9_same_14 (by decide) 15 rfl ?_
    obtain rfl := Option.some.inj hf
    exact ww_iret h dX9_same_15 hQ ⟨rfl, rfl⟩
  · replace hf := ite_f c hf
    refine ww_iload_n h dX9_same_7 rfl 2 rfl 8 rfl ?_
    obtain ⟨r_3, hu4, hf⟩ := ob1 hf
    refine ww_cSi h (c_X9_isKind l D ev cy p1 _ hu4) ⟨w_851, w_849, w_850, w_101, ok_X9_isKind⟩ ⟨by decide, by decide⟩ ⟨by decide, by decide⟩ ⟨rfl, rfl⟩ [] rfl rfl (Nat.le_of_ble_eq_true rfl) dX9_same_8 11 rfl (Gs' := [gX9 cy oL aL L, gX4 cy (aL 2) aP P, gX7 cy (aL 5) aR R, gX5 cy (aL 7) aN N, gX1 cy oC aC C, gX3 cy oY aY Y, gX3 cy oV aV V]) rfl ?_
    clear hu4
    refine ww_if_ne h dX9_same_11 16 (by decide) 14 rfl (fun c => ?_) (fun c => ?_)
    · replace hf := ite_f c hf
      refine ww_aload_n h dX9_same_16 rfl 0 rfl 17 rfl ?_
      refine ww_iload_n h dX9_same_17 rfl 1 rfl 18 rfl ?_
      obtain ⟨L_5, R_6, N_7, Y_8, hu9, hf⟩ := ob4 hf
      refine ww_cVr h (c_X9_layoutOf l D ev cy oL aL L aP P aR R aN N oC aC C oY aY Y p0 _ hu9) ⟨w_855, w_852, w_854, w_21, w_101, ok_X9_layoutOf⟩ ⟨by decide, by decide⟩ ⟨by decide, by decide⟩ ⟨rfl, rfl⟩ [0, 0, 0, 0, 0, 0] rfl 0 rfl rfl rfl rfl (Nat.le_of_ble_eq_true rfl) dX9_same_18 21 rfl (Gs' := [gX9 cy oL aL L_5, gX4 cy (aL 2) aP P, gX7 cy (aL 5) aR R_6, gX5 cy (aL 7) aN N_7, gX1 cy oC aC C, gX3 cy oY aY Y_8, gX3 cy oV aV V]) rfl ?_
      clear hu9
      refine ww_astore_n h dX9_same_21 rfl (by decide) (lo' := [(3, .ref oY), (0, .ref oL), (1, .int p0), (2, .int p1)]) rfl 22 rfl ?_
      refine ww_aload_n h dX9_same_22 rfl 1 rfl 23 rfl ?_
      refine ww_iload_n h dX9_same_23 rfl 3 rfl 24 rfl ?_
      obtain ⟨L_10, R_11, N_12, V_13, hu14, hf⟩ := ob4 hf
      refine ww_cVr h (c_X9_layoutOf l D ev cy oL aL L_5 aP P aR R_6 aN N_7 oC aC C oV aV V p1 _ hu14) ⟨w_855, w_852, w_854, w_21, w_101, ok_X9_layoutOf⟩ ⟨by decide, by decide⟩ ⟨by decide, by decide⟩ ⟨rfl, rfl⟩ [0, 0, 0, 0, 0, 1] rfl 0 rfl rfl rfl rfl (Nat.le_of_ble_eq_true rfl) dX9_same_24 27 rfl (Gs' := [gX9 cy oL aL L_10, gX4 cy (aL 2) aP P, gX7 cy (aL 5) aR R_11, gX5 cy (aL 7) aN N_12, gX1 cy oC aC C, gX3 cy oV aV V_13, gX3 cy oY aY Y_8]) rfl ?_
      clear hu14
      refine ww_astore h dX9_same_27 (by decide) (lo' := [(4, .ref oV), (3, .ref oY), (0, .ref oL), (1, .int p0), (2, .int p1)]) rfl 29 rfl ?_
      refine ww_iconst (v := 0) h dX9_same_29 (by decide) 30 rfl ?_
      refine ww_ist h dX9_same_30 (by decide) (fun v5_15 => [(5, .int v5_15), (4, .ref oV), (3, .ref oY), (0, .ref oL), (1, .int p0), (2, .int p1)]) (fun _ => rfl) 32 rfl (fun v5_15 e => ?_)
      replace hf := bnd_at e hf
      clear e
      refine ww_iconst (v := 0) h dX9_same_32 (by decide) 33 rfl ?_
      refine ww_ist h dX9_same_33 (by decide) (fun v6_16 => [(6, .int v6_16), (5, .int v5_15), (4, .ref oV), (3, .ref oY), (0, .ref oL), (1, .int p0), (2, .int p1)]) (fun _ => rfl) 35 rfl (fun v6_16 e => ?_)
      replace hf := bnd_at e hf
      clear e
      refine ww_lo [3, 2, 1, 0] (lo' := [(3, .ref oY), (4, .ref oV), (5, .int v5_15), (6, .int v6_16)]) rfl ?_
      refine ww_perm [0, 0, 0, 0, 0, 1, 0] (Gs' := [gX9 cy oL aL L_10, gX4 cy (aL 2) aP P, gX7 cy (aL 5) aR R_11, gX5 cy (aL 7) aN N_12, gX1 cy oC aC C, gX3 cy oY aY Y_8, gX3 cy oV aV V_13]) rfl ?_
      obtain ⟨v5_28, h17, hf⟩ := ob1 hf
      refine lp_walk (un2 (fun v5_18 v6_19 => ww X D A 7 Q 0 0 35 [(3, .ref oY), (4, .ref oV), (5, .int v5_18), (6, .int v6_19)] [] [gX9 cy oL aL L_10, gX4 cy (aL 2) aP P, gX7 cy (aL 5) aR R_11, gX5 cy (aL 7) aN N_12, gX1 cy oC aC C, gX3 cy oY aY Y_8, gX3 cy oV aV V_13])) (un1 (fun v5_28 => ww X D A 7 Q 0 0 79 [(5, .int v5_28)] [] [gX9 cy oL aL L_10, gX4 cy (aL 2) aP P, gX7 cy (aL 5) aR R_11, gX5 cy (aL 7) aN N_12, gX1 cy oC aC C, gX3 cy oY aY Y_8, gX3 cy oV aV V_13])) ?_ _ _ _ h17 ?_
      · clear h17 hf
        intro s17 o17 hf hI17 hE17
        obtain ⟨v5_18, v6_19⟩ := s17
        unfold s_X9_same_35_17 at hf
        replace hf := un2_e hf
        show ww X D A 7 Q 0 0 35 [(3, .ref oY), (4, .ref oV), (5, .int v5_18), (6, .int v6_19)] [] [gX9 cy oL aL L_10, gX4 cy (aL 2) aP P, gX7 cy (aL 5) aR R_11, gX5 cy (aL 7) aN N_12, gX1 cy oC aC C, gX3 cy oY aY Y_8, gX3 cy oV aV V_13]
        refine ww_iload h dX9_same_35 3 rfl 37 rfl ?_
        refine ww_aload_n h dX9_same_37 rfl 0 rfl 38 rfl ?_
        refine ww_get h inG3 rfl 5 rfl rfl 6 (by decide) w_371 rfl dX9_same_38 41 rfl ?_
        refine ww_icmp_ge h dX9_same_41 79 (by decide) 44 rfl (fun c => ?_) (fun c => ?_)
        · replace hf := ite_t c hf
          refine ww_lo [2] (lo' := [(5, .int v5_18)]) rfl ?_
          exact hE17 v5_18 (Option.some.inj hf).symm
        · replace hf := ite_f c hf
          refine ww_aload h dX9_same_44 1 rfl 46 rfl ?_
          refine ww_aload_n h dX9_same_46 rfl 0 rfl 47 rfl ?_
          refine ww_get h inG3 rfl 5 rfl rfl 0 (by decide) w_362 rfl dX9_same_47 50 rfl ?_
          refine ww_iconst (v := 0) h dX9_same_50 (by decide) 51 rfl ?_
          have hi := (gd_some hf).1
          replace hf := (gd_some hf).2
          have hj20 := ix_lt hi
          refine ww_aaldR h 5 rfl 1 rfl 4 rfl rfl (ix_in hi) dX9_same_51 52 rfl ?_
          clear hi
          refine ww_iload h dX9_same_52 3 rfl 54 rfl ?_
          have hi := (gd_some hf).1
          replace hf := (gd_some hf).2
          refine ww_iald h 5 rfl (7 + (0 : Int32).toNatClampNeg) (gX3_row0 hj20) (ix_in hi) dX9_same_54 55 rfl ?_
          clear hi
          refine ww_aload_n h dX9_same_55 rfl 0 rfl 56 rfl ?_
          refine ww_get h inG3 rfl 5 rfl rfl 0 (by decide) w_362 rfl dX9_same_56 59 rfl ?_
          refine ww_iconst (v := 1) h dX9_same_59 (by decide) 60 rfl ?_
          have hi := (gd_some hf).1
          replace hf := (gd_some hf).2
          have hj21 := ix_lt hi
          refine ww_aaldR h 5 rfl 1 rfl 4 rfl rfl (ix_in hi) dX9_same_60 61 rfl ?_
          clear hi
          refine ww_iload h dX9_same_61 3 rfl 63 rfl ?_
          have hi := (gd_some hf).1
          replace hf := (gd_some hf).2
          refine ww_iald h 5 rfl (7 + (1 : Int32).toNatClampNeg) (gX3_row0 hj21) (ix_in hi) dX9_same_63 64 rfl ?_
          clear hi
          obtain ⟨r_22, hu23, hf⟩ := ob1 hf
          refine ww_cVi h (c_X3_hasLineOf l D ev cy oV aV V_13 (gr Y_8 0 (0 : Int32).toNatClampNeg v6_19.toNatClampNeg) (gr Y_8 0 (1 : Int32).toNatClampNeg v6_19.toNatClampNeg) _ hu23) ⟨w_989, w_986, w_987, w_988, w_109, ok_X3_hasLineOf⟩ ⟨by decide, by decide⟩ ⟨by decide, by decide⟩ ⟨rfl, rfl⟩ [6] rfl 0 rfl rfl rfl rfl (Nat.le_of_ble_eq_true rfl) dX9_same_64 67 rfl (Gs' := [gX3 cy oV aV V_13, gX9 cy oL aL L_10, gX4 cy (aL 2) aP P, gX7 cy (aL 5) aR R_11, gX5 cy (aL 7) aN N_12, gX1 cy oC aC C, gX3 cy oY aY Y_8]) rfl ?_
          clear hu23
          have hJ73_25 : ∀ (v5_24 : Int32), j_X9_same_73_25 v6_19 v5_24 = some o17 → ww X D A 7 Q 0 0 73 [(3, .ref oY), (4, .ref oV), (5, .int v5_24), (6, .int v6_19)] [] [gX9 cy oL aL L_10, gX4 cy (aL 2) aP P, gX7 cy (aL 5) aR R_11, gX5 cy (aL 7) aN N_12, gX1 cy oC aC C, gX3 cy oY aY Y_8, gX3 cy oV aV V_13] := by
            intro v5_24 hf
            unfold j_X9_same_73_25 at hf
            refine ww_inc (c := 1) h dX9_same_73 3 rfl (by decide) (by decide) (fun v6_26 => [(6, .int v6_26), (3, .ref oY), (4, .ref oV), (5, .int v5_24)]) (fun _ => rfl) 76 rfl (fun v6_26 e => ?_)
            replace hf := bnd_at e hf
            clear e
            refine ww_goto h dX9_same_76 35 (by decide) ?_
            refine ww_lo [1, 2, 3, 0] (lo' := [(3, .ref oY), (4, .ref oV), (5, .int v5_24), (6, .int v6_26)]) rfl ?_
            exact hI17 (v5_24, v6_26) (Option.some.inj hf).symm
          refine ww_if_eq h dX9_same_67 73 (by decide) 70 rfl (fun c => ?_) (fun c => ?_)
          · replace hf := ite_t c hf
            refine ww_perm [1, 1, 1, 1, 1, 1, 0] (Gs' := [gX9 cy oL aL L_10, gX4 cy (aL 2) aP P, gX7 cy (aL 5) aR R_11, gX5 cy (aL 7) aN N_12, gX1 cy oC aC C, gX3 cy oY aY Y_8, gX3 cy oV aV V_13]) rfl ?_
            exact hJ73_25 v5_18 hf
          · replace hf := ite_f c hf
            refine ww_inc (c := 1) h dX9_same_70 2 rfl (by decide) (by decide) (fun v5_27 => [(5, .int v5_27), (3, .ref oY), (4, .ref oV), (6, .int v6_19)]) (fun _ => rfl) 73 rfl (fun v5_27 e => ?_)
            replace hf := bnd_at e hf
            clear e
            refine ww_lo [1, 2, 0, 3] (lo' := [(3, .ref oY), (4, .ref oV), (5, .int v5_27), (6, .int v6_19)]) rfl ?_
            refine ww_perm [1, 1, 1, 1, 1, 1, 0] (Gs' := [gX9 cy oL aL L_10, gX4 cy (aL 2) aP P, gX7 cy (aL 5) aR R_11, gX5 cy (aL 7) aN N_12, gX1 cy oC aC C, gX3 cy oY aY Y_8, gX3 cy oV aV V_13]) rfl ?_
            exact hJ73_25 v5_27 hf
      · clear h17
        show ww X D A 7 Q 0 0 79 [(5, .int v5_28)] [] [gX9 cy oL aL L_10, gX4 cy (aL 2) aP P, gX7 cy (aL 5) aR R_11, gX5 cy (aL 7) aN N_12, gX1 cy oC aC C, gX3 cy oY aY Y_8, gX3 cy oV aV V_13]
        refine ww_iload h dX9_same_79 0 rfl 81 rfl ?_
        obtain rfl := Option.some.inj hf
        exact ww_iret h dX9_same_81 hQ ⟨rfl, rfl⟩
    · replace hf := ite_t c hf
      refine ww_iconst (v := (-1)) h dX9_same_14 (by decide) 15 rfl ?_
      obtain rfl := Option.some.inj hf
      exact ww_iret h dX9_same_15 hQ ⟨rfl, rfl⟩
def j_X9_same_1_73_25 (v6_19 : Int32) (v5_24 : Int32) : Option ((Int32 × Int32) ⊕ (Int32)) := bnd (v6_19 + 1) (fun v6_26 => some (.inl (v5_24, v6_26)))
def s_X9_same_1_35_17 (Y_13 : OV) : (Int32 × Int32) → Option ((Int32 × Int32) ⊕ (Int32)) := un2 (fun v5_18 v6_19 => (if (iv Y_13 6) ≤ v6_19 then some (.inr v5_18) else gd (ix (0 : Int32) 11) (gd (ix v6_19 40) (gd (ix (1 : Int32) 11) (gd (ix v6_19 40) ((f_X3_hasLineOf Y_13 (gr Y_13 0 (0 : Int32).toNatClampNeg v6_19.toNatClampNeg) (gr Y_13 0 (1 : Int32).toNatClampNeg v6_19.toNatClampNeg)).bind (un1 (fun r_22 => (if r_22 = 0 then j_X9_same_1_73_25 v6_19 v5_18 else bnd (v5_18 + 1) (fun v5_27 => j_X9_same_1_73_25 v6_19 v5_27))))))))))
def f_X9_same_1 (aL : Nat → Nat) (L : OV) (P : OV) (R : OV) (N : OV) (oC : Nat) (C : OV) (oY : Nat) (Y : OV) (p0 : Int32) (p1 : Int32) : Option (Int32 × OV × OV × OV × OV) := (f_X9_isKind p0).bind (un1 (fun r_1 => (if r_1 = 0 then some ((-1 : Int32), L, R, N, Y) else (f_X9_isKind p1).bind (un1 (fun r_3 => (if r_3 = 0 then some ((-1 : Int32), L, R, N, Y) else (f_X9_layoutOf aL L P R N oC C oY Y p0).bind (un4 (fun L_5 R_6 N_7 Y_8 => (f_X9_layoutOf aL L_5 P R_6 N_7 oC C oY Y_8 p1).bind (un4 (fun L_10 R_11 N_12 Y_13 => bnd (0 : Int32) (fun v5_15 => bnd (0 : Int32) (fun v6_16 => ((lp (s_X9_same_1_35_17 Y_13) 5000 (v5_15, v6_16)).bind (un1 (fun v5_28 => some (v5_28, L_10, R_11, N_12, Y_13))))))))))))))))
def r_X9_same_1 : Room := { frames := 6, cells := 0, slots := 0, locals := 147 }
set_option maxHeartbeats 4000000 in
set_option maxRecDepth 100000 in
theorem c_X9_same_1 (l : Launch) (D : va_G) (ev : EvT) (cy : Nat → ClassId) (oL : Nat) (aL : Nat → Nat) (L : OV) (aP : Nat → Nat) (P : OV) (aR : Nat → Nat) (R : OV) (aN : Nat → Nat) (N : OV) (oC : Nat) (aC : Nat → Nat) (C : OV) (oY : Nat) (aY : Nat → Nat) (Y : OV) (p0 : Int32) (p1 : Int32) (o : Int32 × OV × OV × OV × OV) (hf : f_X9_same_1 aL L P R N oC C oY Y p0 p1 = some o) : Fn l yX9_same cX9_same 7 (some .int) r_X9_same_1 D ev cy [.ref oL, .int p0, .int p1] [gX9 cy oL aL L, gX4 cy (aL 2) aP P, gX7 cy (aL 5) aR R, gX5 cy (aL 7) aN N, gX1 cy oC aC C, gX3 cy oY aY Y] (fun v G => v = some (.int o.1) ∧ G = [gX9 cy oL aL o.2.1, gX4 cy (aL 2) aP P, gX7 cy (aL 5) aR o.2.2.1, gX5 cy (aL 7) aN o.2.2.2.1, gX1 cy oC aC C, gX3 cy oY aY o.2.2.2.2]) := by
  refine Fn_of (by decide) (Nat.le_of_ble_eq_true rfl) (fun X A Q h hQ _ => ?_)
  unfold f_X9_same_1 at hf
  show ww X D A 7 Q 0 0 0 [(0, .ref oL), (1, .int p0), (2, .int p1)] [] [gX9 cy oL aL L, gX4 cy (aL 2) aP P, gX7 cy (aL 5) aR R, gX5 cy (aL 7) aN N, gX1 cy oC aC C, gX3 cy oY aY Y]
  refine ww_iload_n h dX9_same_0 rfl 1 rfl 1 rfl ?_
  obtain ⟨r_1, hu2, hf⟩ := ob1 hf
  refine ww_cSi h (c_X9_isKind l D ev cy p0 _ hu2) ⟨w_851, w_849, w_850, w_101, ok_X9_isKind⟩ ⟨by decide, by decide⟩ ⟨by decide, by decide⟩ ⟨rfl, rfl⟩ [] rfl rfl (Nat.le_of_ble_eq_true rfl) dX9_same_1 4 rfl (Gs' := [gX9 cy oL aL L, gX4 cy (aL 2) aP P, gX7 cy (aL 5) aR R, gX5 cy (aL 7) aN N, gX1 cy oC aC C, gX3 cy oY aY Y]) rfl ?_
  clear hu2
  refine ww_if_eq h dX9_same_4 14 (by decide) 7 rfl (fun c => ?_) (fun c => ?_)
  · replace hf := ite_t c hf
    refine ww_iconst (v := (-1)) h dX9_same_14 (by decide) 15 rfl ?_
    obtain rfl := Option.some.inj hf
    exact ww_iret h dX9_same_15 hQ ⟨rfl, rfl⟩
  · replace hf := ite_f c hf
    refine ww_iload_n h dX9_same_7 rfl 2 rfl 8 rfl ?_
    obtain ⟨r_3, hu4, hf⟩ := ob1 hf
    refine ww_cSi h (c_X9_isKind l D ev cy p1 _ hu4) ⟨w_851, w_849, w_850, w_101, ok_X9_isKind⟩ ⟨by decide, by decide⟩ ⟨by decide, by decide⟩ ⟨rfl, rfl⟩ [] rfl rfl (Nat.le_of_ble_eq_true rfl) dX9_same_8 11 rfl (Gs' := [gX9 cy oL aL L, gX4 cy (aL 2) aP P, gX7 cy (aL 5) aR R, gX5 cy (aL 7) aN N, gX1 cy oC aC C, gX3 cy oY aY Y]) rfl ?_
    clear hu4
    refine ww_if_ne h dX9_same_11 16 (by decide) 14 rfl (fun c => ?_) (fun c => ?_)
    · replace hf := ite_f c hf
      refine ww_aload_n h dX9_same_16 rfl 0 rfl 17 rfl ?_
      refine ww_iload_n h dX9_same_17 rfl 1 rfl 18 rfl ?_
      obtain ⟨L_5, R_6, N_7, Y_8, hu9, hf⟩ := ob4 hf
      refine ww_cVr h (c_X9_layoutOf l D ev cy oL aL L aP P aR R aN N oC aC C oY aY Y p0 _ hu9) ⟨w_855, w_852, w_854, w_21, w_101, ok_X9_layoutOf⟩ ⟨by decide, by decide⟩ ⟨by decide, by decide⟩ ⟨rfl, rfl⟩ [0, 0, 0, 0, 0, 0] rfl 0 rfl rfl rfl rfl (Nat.le_of_ble_eq_true rfl) dX9_same_18 21 rfl (Gs' := [gX9 cy oL aL L_5, gX4 cy (aL 2) aP P, gX7 cy (aL 5) aR R_6, gX5 cy (aL 7) aN N_7, gX1 cy oC aC C, gX3 cy oY aY Y_8]) rfl ?_
      clear hu9
      refine ww_astore_n h dX9_same_21 rfl (by decide) (lo' := [(3, .ref oY), (0, .ref oL), (1, .int p0), (2, .int p1)]) rfl 22 rfl ?_
      refine ww_aload_n h dX9_same_22 rfl 1 rfl 23 rfl ?_
      refine ww_iload_n h dX9_same_23 rfl 3 rfl 24 rfl ?_
      obtain ⟨L_10, R_11, N_12, Y_13, hu14, hf⟩ := ob4 hf
      refine ww_cVr h (c_X9_layoutOf l D ev cy oL aL L_5 aP P aR R_6 aN N_7 oC aC C oY aY Y_8 p1 _ hu14) ⟨w_855, w_852, w_854, w_21, w_101, ok_X9_layoutOf⟩ ⟨by decide, by decide⟩ ⟨by decide, by decide⟩ ⟨rfl, rfl⟩ [0, 0, 0, 0, 0, 0] rfl 0 rfl rfl rfl rfl (Nat.le_of_ble_eq_true rfl) dX9_same_24 27 rfl (Gs' := [gX9 cy oL aL L_10, gX4 cy (aL 2) aP P, gX7 cy (aL 5) aR R_11, gX5 cy (aL 7) aN N_12, gX1 cy oC aC C, gX3 cy oY aY Y_13]) rfl ?_
      clear hu14
      refine ww_astore h dX9_same_27 (by decide) (lo' := [(4, .ref oY), (3, .ref oY), (0, .ref oL), (1, .int p0), (2, .int p1)]) rfl 29 rfl ?_
      refine ww_iconst (v := 0) h dX9_same_29 (by decide) 30 rfl ?_
      refine ww_ist h dX9_same_30 (by decide) (fun v5_15 => [(5, .int v5_15), (4, .ref oY), (3, .ref oY), (0, .ref oL), (1, .int p0), (2, .int p1)]) (fun _ => rfl) 32 rfl (fun v5_15 e => ?_)
      replace hf := bnd_at e hf
      clear e
      refine ww_iconst (v := 0) h dX9_same_32 (by decide) 33 rfl ?_
      refine ww_ist h dX9_same_33 (by decide) (fun v6_16 => [(6, .int v6_16), (5, .int v5_15), (4, .ref oY), (3, .ref oY), (0, .ref oL), (1, .int p0), (2, .int p1)]) (fun _ => rfl) 35 rfl (fun v6_16 e => ?_)
      replace hf := bnd_at e hf
      clear e
      refine ww_lo [3, 2, 1, 0] (lo' := [(3, .ref oY), (4, .ref oY), (5, .int v5_15), (6, .int v6_16)]) rfl ?_
      obtain ⟨v5_28, h17, hf⟩ := ob1 hf
      refine lp_walk (un2 (fun v5_18 v6_19 => ww X D A 7 Q 0 0 35 [(3, .ref oY), (4, .ref oY), (5, .int v5_18), (6, .int v6_19)] [] [gX9 cy oL aL L_10, gX4 cy (aL 2) aP P, gX7 cy (aL 5) aR R_11, gX5 cy (aL 7) aN N_12, gX1 cy oC aC C, gX3 cy oY aY Y_13])) (un1 (fun v5_28 => ww X D A 7 Q 0 0 79 [(5, .int v5_28)] [] [gX9 cy oL aL L_10, gX4 cy (aL 2) aP P, gX7 cy (aL 5) aR R_11, gX5 cy (aL 7) aN N_12, gX1 cy oC aC C, gX3 cy oY aY Y_13])) ?_ _ _ _ h17 ?_
      · clear h17 hf
        intro s17 o17 hf hI17 hE17
        obtain ⟨v5_18, v6_19⟩ := s17
        unfold s_X9_same_1_35_17 at hf
        replace hf := un2_e hf
        show ww X D A 7 Q 0 0 35 [(3, .ref oY), (4, .ref oY), (5, .int v5_18), (6, .int v6_19)] [] [gX9 cy oL aL L_10, gX4 cy (aL 2) aP P, gX7 cy (aL 5) aR R_11, gX5 cy (aL 7) aN N_12, gX1 cy oC aC C, gX3 cy oY aY Y_13]
        refine ww_iload h dX9_same_35 3 rfl 37 rfl ?_
        refine ww_aload_n h dX9_same_37 rfl 0 rfl 38 rfl ?_
        refine ww_get h inG3 rfl 5 rfl rfl 6 (by decide) w_371 rfl dX9_same_38 41 rfl ?_
        refine ww_icmp_ge h dX9_same_41 79 (by decide) 44 rfl (fun c => ?_) (fun c => ?_)
        · replace hf := ite_t c hf
          refine ww_lo [2] (lo' := [(5, .int v5_18)]) rfl ?_
          exact hE17 v5_18 (Option.some.inj hf).symm
        · replace hf := ite_f c hf
          refine ww_aload h dX9_same_44 1 rfl 46 rfl ?_
          refine ww_aload_n h dX9_same_46 rfl 0 rfl 47 rfl ?_
          refine ww_get h inG3 rfl 5 rfl rfl 0 (by decide) w_362 rfl dX9_same_47 50 rfl ?_
          refine ww_iconst (v := 0) h dX9_same_50 (by decide) 51 rfl ?_
          have hi := (gd_some hf).1
          replace hf := (gd_some hf).2
          have hj20 := ix_lt hi
          refine ww_aaldR h 5 rfl 1 rfl 4 rfl rfl (ix_in hi) dX9_same_51 52 rfl ?_
          clear hi
          refine ww_iload h dX9_same_52 3 rfl 54 rfl ?_
          have hi := (gd_some hf).1
          replace hf := (gd_some hf).2
          refine ww_iald h 5 rfl (7 + (0 : Int32).toNatClampNeg) (gX3_row0 hj20) (ix_in hi) dX9_same_54 55 rfl ?_
          clear hi
          refine ww_aload_n h dX9_same_55 rfl 0 rfl 56 rfl ?_
          refine ww_get h inG3 rfl 5 rfl rfl 0 (by decide) w_362 rfl dX9_same_56 59 rfl ?_
          refine ww_iconst (v := 1) h dX9_same_59 (by decide) 60 rfl ?_
          have hi := (gd_some hf).1
          replace hf := (gd_some hf).2
          have hj21 := ix_lt hi
          refine ww_aaldR h 5 rfl 1 rfl 4 rfl rfl (ix_in hi) dX9_same_60 61 rfl ?_
          clear hi
          refine ww_iload h dX9_same_61 3 rfl 63 rfl ?_
          have hi := (gd_some hf).1
          replace hf := (gd_some hf).2
          refine ww_iald h 5 rfl (7 + (1 : Int32).toNatClampNeg) (gX3_row0 hj21) (ix_in hi) dX9_same_63 64 rfl ?_
          clear hi
          obtain ⟨r_22, hu23, hf⟩ := ob1 hf
          refine ww_cVi h (c_X3_hasLineOf l D ev cy oY aY Y_13 (gr Y_13 0 (0 : Int32).toNatClampNeg v6_19.toNatClampNeg) (gr Y_13 0 (1 : Int32).toNatClampNeg v6_19.toNatClampNeg) _ hu23) ⟨w_989, w_986, w_987, w_988, w_109, ok_X3_hasLineOf⟩ ⟨by decide, by decide⟩ ⟨by decide, by decide⟩ ⟨rfl, rfl⟩ [5] rfl 0 rfl rfl rfl rfl (Nat.le_of_ble_eq_true rfl) dX9_same_64 67 rfl (Gs' := [gX3 cy oY aY Y_13, gX9 cy oL aL L_10, gX4 cy (aL 2) aP P, gX7 cy (aL 5) aR R_11, gX5 cy (aL 7) aN N_12, gX1 cy oC aC C]) rfl ?_
          clear hu23
          have hJ73_25 : ∀ (v5_24 : Int32), j_X9_same_1_73_25 v6_19 v5_24 = some o17 → ww X D A 7 Q 0 0 73 [(3, .ref oY), (4, .ref oY), (5, .int v5_24), (6, .int v6_19)] [] [gX9 cy oL aL L_10, gX4 cy (aL 2) aP P, gX7 cy (aL 5) aR R_11, gX5 cy (aL 7) aN N_12, gX1 cy oC aC C, gX3 cy oY aY Y_13] := by
            intro v5_24 hf
            unfold j_X9_same_1_73_25 at hf
            refine ww_inc (c := 1) h dX9_same_73 3 rfl (by decide) (by decide) (fun v6_26 => [(6, .int v6_26), (3, .ref oY), (4, .ref oY), (5, .int v5_24)]) (fun _ => rfl) 76 rfl (fun v6_26 e => ?_)
            replace hf := bnd_at e hf
            clear e
            refine ww_goto h dX9_same_76 35 (by decide) ?_
            refine ww_lo [1, 2, 3, 0] (lo' := [(3, .ref oY), (4, .ref oY), (5, .int v5_24), (6, .int v6_26)]) rfl ?_
            exact hI17 (v5_24, v6_26) (Option.some.inj hf).symm
          refine ww_if_eq h dX9_same_67 73 (by decide) 70 rfl (fun c => ?_) (fun c => ?_)
          · replace hf := ite_t c hf
            refine ww_perm [1, 1, 1, 1, 1, 0] (Gs' := [gX9 cy oL aL L_10, gX4 cy (aL 2) aP P, gX7 cy (aL 5) aR R_11, gX5 cy (aL 7) aN N_12, gX1 cy oC aC C, gX3 cy oY aY Y_13]) rfl ?_
            exact hJ73_25 v5_18 hf
          · replace hf := ite_f c hf
            refine ww_inc (c := 1) h dX9_same_70 2 rfl (by decide) (by decide) (fun v5_27 => [(5, .int v5_27), (3, .ref oY), (4, .ref oY), (6, .int v6_19)]) (fun _ => rfl) 73 rfl (fun v5_27 e => ?_)
            replace hf := bnd_at e hf
            clear e
            refine ww_lo [1, 2, 0, 3] (lo' := [(3, .ref oY), (4, .ref oY), (5, .int v5_27), (6, .int v6_19)]) rfl ?_
            refine ww_perm [1, 1, 1, 1, 1, 0] (Gs' := [gX9 cy oL aL L_10, gX4 cy (aL 2) aP P, gX7 cy (aL 5) aR R_11, gX5 cy (aL 7) aN N_12, gX1 cy oC aC C, gX3 cy oY aY Y_13]) rfl ?_
            exact hJ73_25 v5_27 hf
      · clear h17
        show ww X D A 7 Q 0 0 79 [(5, .int v5_28)] [] [gX9 cy oL aL L_10, gX4 cy (aL 2) aP P, gX7 cy (aL 5) aR R_11, gX5 cy (aL 7) aN N_12, gX1 cy oC aC C, gX3 cy oY aY Y_13]
        refine ww_iload h dX9_same_79 0 rfl 81 rfl ?_
        obtain rfl := Option.some.inj hf
        exact ww_iret h dX9_same_81 hQ ⟨rfl, rfl⟩
    · replace hf := ite_t c hf
      refine ww_iconst (v := (-1)) h dX9_same_14 (by decide) 15 rfl ?_
      obtain rfl := Option.some.inj hf
      exact ww_iret h dX9_same_15 hQ ⟨rfl, rfl⟩
theorem dX9_paragraph_0 : decode cX9_paragraph 0 = .ok (.aload_n 0, 1) := by decide +kernel
theorem dX9_paragraph_1 : decode cX9_paragraph 1 = .ok (.invokevirtual 114, 3) := by decide +kernel
theorem dX9_paragraph_4 : decode cX9_paragraph 4 = .ok (.istore_n 1, 1) := by decide +kernel
theorem dX9_paragraph_5 : decode cX9_paragraph 5 = .ok (.iload_n 1, 1) := by decide +kernel
theorem dX9_paragraph_6 : decode cX9_paragraph 6 = .ok (.iconst (-1), 1) := by decide +kernel
theorem dX9_paragraph_7 : decode cX9_paragraph 7 = .ok (.if_icmp .ne 81, 3) := by decide +kernel
theorem dX9_paragraph_10 : decode cX9_paragraph 10 = .ok (.aload_n 0, 1) := by decide +kernel
theorem dX9_paragraph_11 : decode cX9_paragraph 11 = .ok (.getfield 34, 3) := by decide +kernel
theorem dX9_paragraph_14 : decode cX9_paragraph 14 = .ok (.iconst 0, 1) := by decide +kernel
theorem dX9_paragraph_15 : decode cX9_paragraph 15 = .ok (.putfield 117, 3) := by decide +kernel
theorem dX9_paragraph_18 : decode cX9_paragraph 18 = .ok (.iconst 0, 1) := by decide +kernel
theorem dX9_paragraph_19 : decode cX9_paragraph 19 = .ok (.istore_n 2, 1) := by decide +kernel
theorem dX9_paragraph_20 : decode cX9_paragraph 20 = .ok (.iload_n 2, 1) := by decide +kernel
theorem dX9_paragraph_21 : decode cX9_paragraph 21 = .ok (.aload_n 0, 1) := by decide +kernel
theorem dX9_paragraph_22 : decode cX9_paragraph 22 = .ok (.getfield 14, 3) := by decide +kernel
theorem dX9_paragraph_25 : decode cX9_paragraph 25 = .ok (.getfield 85, 3) := by decide +kernel
theorem dX9_paragraph_28 : decode cX9_paragraph 28 = .ok (.if_icmp .ge 49, 3) := by decide +kernel
theorem dX9_paragraph_31 : decode cX9_paragraph 31 = .ok (.aload_n 0, 1) := by decide +kernel
theorem dX9_paragraph_32 : decode cX9_paragraph 32 = .ok (.getfield 14, 3) := by decide +kernel
theorem dX9_paragraph_35 : decode cX9_paragraph 35 = .ok (.getfield 118, 3) := by decide +kernel
theorem dX9_paragraph_38 : decode cX9_paragraph 38 = .ok (.iload_n 2, 1) := by decide +kernel
theorem dX9_paragraph_39 : decode cX9_paragraph 39 = .ok (.iaload, 1) := by decide +kernel
theorem dX9_paragraph_40 : decode cX9_paragraph 40 = .ok (.bipush 32, 2) := by decide +kernel
theorem dX9_paragraph_42 : decode cX9_paragraph 42 = .ok (.if_icmp .eq 29, 3) := by decide +kernel
theorem dX9_paragraph_45 : decode cX9_paragraph 45 = .ok (.aload_n 0, 1) := by decide +kernel
theorem dX9_paragraph_46 : decode cX9_paragraph 46 = .ok (.getfield 34, 3) := by decide +kernel
theorem dX9_paragraph_49 : decode cX9_paragraph 49 = .ok (.aload_n 0, 1) := by decide +kernel
theorem dX9_paragraph_50 : decode cX9_paragraph 50 = .ok (.getfield 34, 3) := by decide +kernel
theorem dX9_paragraph_53 : decode cX9_paragraph 53 = .ok (.getfield 117, 3) := by decide +kernel
theorem dX9_paragraph_56 : decode cX9_paragraph 56 = .ok (.aload_n 0, 1) := by decide +kernel
theorem dX9_paragraph_57 : decode cX9_paragraph 57 = .ok (.getfield 14, 3) := by decide +kernel
theorem dX9_paragraph_60 : decode cX9_paragraph 60 = .ok (.getfield 118, 3) := by decide +kernel
theorem dX9_paragraph_63 : decode cX9_paragraph 63 = .ok (.iload_n 2, 1) := by decide +kernel
theorem dX9_paragraph_64 : decode cX9_paragraph 64 = .ok (.iaload, 1) := by decide +kernel
theorem dX9_paragraph_65 : decode cX9_paragraph 65 = .ok (.bipush 97, 2) := by decide +kernel
theorem dX9_paragraph_67 : decode cX9_paragraph 67 = .ok (.isub, 1) := by decide +kernel
theorem dX9_paragraph_68 : decode cX9_paragraph 68 = .ok (.invokevirtual 122, 3) := by decide +kernel
theorem dX9_paragraph_71 : decode cX9_paragraph 71 = .ok (.iinc 2 1, 3) := by decide +kernel
theorem dX9_paragraph_74 : decode cX9_paragraph 74 = .ok (.goto (-54), 3) := by decide +kernel
theorem dX9_paragraph_77 : decode cX9_paragraph 77 = .ok (.aload_n 0, 1) := by decide +kernel
theorem dX9_paragraph_78 : decode cX9_paragraph 78 = .ok (.getfield 44, 3) := by decide +kernel
theorem dX9_paragraph_81 : decode cX9_paragraph 81 = .ok (.invokevirtual 105, 3) := by decide +kernel
theorem dX9_paragraph_84 : decode cX9_paragraph 84 = .ok (.aload_n 0, 1) := by decide +kernel
theorem dX9_paragraph_85 : decode cX9_paragraph 85 = .ok (.invokevirtual 108, 3) := by decide +kernel
theorem dX9_paragraph_88 : decode cX9_paragraph 88 = .ok (.aload_n 0, 1) := by decide +kernel
theorem dX9_paragraph_89 : decode cX9_paragraph 89 = .ok (.getfield 14, 3) := by decide +kernel
theorem dX9_paragraph_92 : decode cX9_paragraph 92 = .ok (.iconst 0, 1) := by decide +kernel
theorem dX9_paragraph_93 : decode cX9_paragraph 93 = .ok (.putfield 85, 3) := by decide +kernel
theorem dX9_paragraph_96 : decode cX9_paragraph 96 = .ok (.iload_n 1, 1) := by decide +kernel
theorem dX9_paragraph_97 : decode cX9_paragraph 97 = .ok (.iconst (-1), 1) := by decide +kernel
theorem dX9_paragraph_98 : decode cX9_paragraph 98 = .ok (.if_icmp .ne 13, 3) := by decide +kernel
theorem dX9_paragraph_101 : decode cX9_paragraph 101 = .ok (.aload_n 0, 1) := by decide +kernel
theorem dX9_paragraph_102 : decode cX9_paragraph 102 = .ok (.getfield 34, 3) := by decide +kernel
theorem dX9_paragraph_105 : decode cX9_paragraph 105 = .ok (.getfield 117, 3) := by decide +kernel
theorem dX9_paragraph_108 : decode cX9_paragraph 108 = .ok (.goto 7, 3) := by decide +kernel
theorem dX9_paragraph_111 : decode cX9_paragraph 111 = .ok (.bipush (-4), 2) := by decide +kernel
theorem dX9_paragraph_113 : decode cX9_paragraph 113 = .ok (.iload_n 1, 1) := by decide +kernel
theorem dX9_paragraph_114 : decode cX9_paragraph 114 = .ok (.isub, 1) := by decide +kernel
theorem dX9_paragraph_115 : decode cX9_paragraph 115 = .ok (.ireturn, 1) := by decide +kernel
theorem ok_X9_paragraph : okY RX9 yX9_paragraph 0 := ⟨rfl, by decide, by decide, by decide +kernel⟩
def j_X9_paragraph_88_12 (T : OV) (v1_3 : Int32) (L_4 : OV) (P_5 : OV) (H_6 : OV) (W_7 : OV) (Y0_8 : OV) (Y1_9 : OV) (Y2_10 : OV) (Y3_11 : OV) : Option (Int32 × OV × OV × OV × OV × OV × OV × OV × OV × OV) := bnd (sI T 1 (0 : Int32)) (fun T_13 => (if v1_3 = (-1 : Int32) then some ((iv P_5 4), L_4, T_13, P_5, H_6, W_7, Y0_8, Y1_9, Y2_10, Y3_11) else some (((-4 : Int32) - v1_3), L_4, T_13, P_5, H_6, W_7, Y0_8, Y1_9, Y2_10, Y3_11)))
def j_X9_paragraph_71_20 (v2_17 : Int32) (P_19 : OV) : Option ((Int32 × OV) ⊕ (OV)) := bnd (v2_17 + 1) (fun v2_21 => some (.inl (v2_21, P_19)))
def s_X9_paragraph_20_16 (aT : Nat → Nat) (T : OV) : (Int32 × OV) → Option ((Int32 × OV) ⊕ (OV)) := un2 (fun v2_17 P_18 => (if (iv T 1) ≤ v2_17 then some (.inr P_18) else gd (ix v2_17 (aT 98)) ((if (ar T 0 v2_17.toNatClampNeg) = (32 : Int32) then j_X9_paragraph_71_20 v2_17 P_18 else gd (ix v2_17 (aT 98)) ((f_X4_putIn P_18 (iv P_18 4) ((ar T 0 v2_17.toNatClampNeg) - (97 : Int32))).bind (un1 (fun P_22 => j_X9_paragraph_71_20 v2_17 P_22)))))))
def f_X9_paragraph (L : OV) (aT : Nat → Nat) (T : OV) (P : OV) (H : OV) (W : OV) (oC : Nat) (C : OV) (Y0 : OV) (Y1 : OV) (Y2 : OV) (Y3 : OV) : Option (Int32 × OV × OV × OV × OV × OV × OV × OV × OV × OV) := (f_X9_paragraphFault L aT T oC C).bind (un1 (fun r_1 => bnd r_1 (fun v1_3 => (if v1_3 = (-1 : Int32) then bnd (sI P 4 (0 : Int32)) (fun P_14 => bnd (0 : Int32) (fun v2_15 => ((lp (s_X9_paragraph_20_16 aT T) 5000 (v2_15, P_14)).bind (un1 (fun P_24 => (f_X2_clear H).bind (un1 (fun H_25 => (f_X9_forget L W Y0 Y1 Y2 Y3).bind (un6 (fun L_27 W_28 Y0_29 Y1_30 Y2_31 Y3_32 => j_X9_paragraph_88_12 T v1_3 L_27 P_24 H_25 W_28 Y0_29 Y1_30 Y2_31 Y3_32))))))))) else j_X9_paragraph_88_12 T v1_3 L P H W Y0 Y1 Y2 Y3))))
def r_X9_paragraph : Room := { frames := 2, cells := 0, slots := 0, locals := 43 }
set_option maxHeartbeats 4000000 in
set_option maxRecDepth 100000 in
theorem c_X9_paragraph (l : Launch) (D : va_G) (ev : EvT) (cy : Nat → ClassId) (oL : Nat) (aL : Nat → Nat) (L : OV) (aT : Nat → Nat) (T : OV) (aP : Nat → Nat) (P : OV) (aH : Nat → Nat) (H : OV) (aW : Nat → Nat) (W : OV) (oC : Nat) (aC : Nat → Nat) (C : OV) (aY0 : Nat → Nat) (Y0 : OV) (aY1 : Nat → Nat) (Y1 : OV) (aY2 : Nat → Nat) (Y2 : OV) (aY3 : Nat → Nat) (Y3 : OV) (o : Int32 × OV × OV × OV × OV × OV × OV × OV × OV × OV) (hf : f_X9_paragraph L aT T P H W oC C Y0 Y1 Y2 Y3 = some o) : Fn l yX9_paragraph cX9_paragraph 3 (some .int) r_X9_paragraph D ev cy [.ref oL] [gX9 cy oL aL L, gX0 cy (aL 0) aT T, gX4 cy (aL 2) aP P, gX2 cy (aL 4) aH H, gX8 cy (aL 9) aW W, gX1 cy oC aC C, gX3 cy (aL (900 + 0)) aY0 Y0, gX3 cy (aL (900 + 1)) aY1 Y1, gX3 cy (aL (900 + 2)) aY2 Y2, gX3 cy (aL (900 + 3)) aY3 Y3] (fun v G => v = some (.int o.1) ∧ G = [gX9 cy oL aL o.2.1, gX0 cy (aL 0) aT o.2.2.1, gX4 cy (aL 2) aP o.2.2.2.1, gX2 cy (aL 4) aH o.2.2.2.2.1, gX8 cy (aL 9) aW o.2.2.2.2.2.1, gX1 cy oC aC C, gX3 cy (aL (900 + 0)) aY0 o.2.2.2.2.2.2.1, gX3 cy (aL (900 + 1)) aY1 o.2.2.2.2.2.2.2.1, gX3 cy (aL (900 + 2)) aY2 o.2.2.2.2.2.2.2.2.1, gX3 cy (aL (900 + 3)) aY3 o.2.2.2.2.2.2.2.2.2]) := by
  refine Fn_of (by decide) (Nat.le_of_ble_eq_true rfl) (fun X A Q h hQ _ => ?_)
  unfold f_X9_paragraph at hf
  show ww X D A 3 Q 0 0 0 [(0, .ref oL)] [] [gX9 cy oL aL L, gX0 cy (aL 0) aT T, gX4 cy (aL 2) aP P, gX2 cy (aL 4) aH H, gX8 cy (aL 9) aW W, gX1 cy oC aC C, gX3 cy (aL (900 + 0)) aY0 Y0, gX3 cy (aL (900 + 1)) aY1 Y1, gX3 cy (aL (900 + 2)) aY2 Y2, gX3 cy (aL (900 + 3)) aY3 Y3]
  refine ww_aload_n h dX9_paragraph_0 rfl 0 rfl 1 rfl ?_
  obtain ⟨r_1, hu2, hf⟩ := ob1 hf
  refine ww_cVi h (c_X9_paragraphFault l D ev cy oL aL L aT T oC aC C _ hu2) ⟨w_660, w_657, w_659, w_15, w_101, ok_X9_paragraphFault⟩ ⟨by decide, by decide⟩ ⟨by decide, by decide⟩ ⟨rfl, rfl⟩ [0, 0, 3] rfl 0 rfl rfl rfl rfl (Nat.le_of_ble_eq_true rfl) dX9_paragraph_1 4 rfl (Gs' := [gX9 cy oL aL L, gX0 cy (aL 0) aT T, gX1 cy oC aC C, gX4 cy (aL 2) aP P, gX2 cy (aL 4) aH H, gX8 cy (aL 9) aW W, gX3 cy (aL (900 + 0)) aY0 Y0, gX3 cy (aL (900 + 1)) aY1 Y1, gX3 cy (aL (900 + 2)) aY2 Y2, gX3 cy (aL (900 + 3)) aY3 Y3]) rfl ?_
  clear hu2
  refine ww_ist_n h dX9_paragraph_4 rfl (by decide) (fun v1_3 => [(1, .int v1_3), (0, .ref oL)]) (fun _ => rfl) 5 rfl (fun v1_3 e => ?_)
  replace hf := bnd_at e hf
  clear e
  refine ww_iload_n h dX9_paragraph_5 rfl 0 rfl 6 rfl ?_
  refine ww_iconst (v := (-1)) h dX9_paragraph_6 (by decide) 7 rfl ?_
  have hJ88_12 : ∀ (L_4 : OV) (P_5 : OV) (H_6 : OV) (W_7 : OV) (Y0_8 : OV) (Y1_9 : OV) (Y2_10 : OV) (Y3_11 : OV), j_X9_paragraph_88_12 T v1_3 L_4 P_5 H_6 W_7 Y0_8 Y1_9 Y2_10 Y3_11 = some o → ww X D A 3 Q 0 0 88 [(0, .ref oL), (1, .int v1_3)] [] [gX9 cy oL aL L_4, gX0 cy (aL 0) aT T, gX4 cy (aL 2) aP P_5, gX2 cy (aL 4) aH H_6, gX8 cy (aL 9) aW W_7, gX1 cy oC aC C, gX3 cy (aL (900 + 0)) aY0 Y0_8, gX3 cy (aL (900 + 1)) aY1 Y1_9, gX3 cy (aL (900 + 2)) aY2 Y2_10, gX3 cy (aL (900 + 3)) aY3 Y3_11] := by
    intro L_4 P_5 H_6 W_7 Y0_8 Y1_9 Y2_10 Y3_11 hf
    unfold j_X9_paragraph_88_12 at hf
    refine ww_aload_n h dX9_paragraph_88 rfl 0 rfl 89 rfl ?_
    refine ww_get h inG9 rfl 0 rfl rfl 0 (by decide) w_413 rfl dX9_paragraph_89 92 rfl ?_
    refine ww_iconst (v := 0) h dX9_paragraph_92 (by decide) 93 rfl ?_
    refine ww_put (ty := .int) h inG0 tyX0_ok nmX0 rfl 1 rfl rfl 1 (by decide) w_141 rfl (by decide +kernel) rfl rfl (Nat.le_of_ble_eq_true rfl) (Nat.le_of_ble_eq_true rfl) dX9_paragraph_93 96 rfl ?_
    refine ww_nm (fun z => [gX9 cy oL aL L_4, gX0 cy (aL 0) aT z, gX4 cy (aL 2) aP P_5, gX2 cy (aL 4) aH H_6, gX8 cy (aL 9) aW W_7, gX1 cy oC aC C, gX3 cy (aL (900 + 0)) aY0 Y0_8, gX3 cy (aL (900 + 1)) aY1 Y1_9, gX3 cy (aL (900 + 2)) aY2 Y2_10, gX3 cy (aL (900 + 3)) aY3 Y3_11]) (sI T 1 (0 : Int32)) (fun T_13 e => ?_)
    replace hf := bnd_at e hf
    clear e
    refine ww_iload_n h dX9_paragraph_96 rfl 1 rfl 97 rfl ?_
    refine ww_iconst (v := (-1)) h dX9_paragraph_97 (by decide) 98 rfl ?_
    refine ww_icmp_ne h dX9_paragraph_98 111 (by decide) 101 rfl (fun c => ?_) (fun c => ?_)
    · replace hf := ite_f c hf
      refine ww_bipush (v := (-4)) h dX9_paragraph_111 (by decide) 113 rfl ?_
      refine ww_iload_n h dX9_paragraph_113 rfl 1 rfl 114 rfl ?_
      refine ww_isub h dX9_paragraph_114 115 rfl ?_
      obtain rfl := Option.some.inj hf
      exact ww_iret h dX9_paragraph_115 hQ ⟨rfl, rfl⟩
    · replace hf := ite_t c hf
      refine ww_aload_n h dX9_paragraph_101 rfl 0 rfl 102 rfl ?_
      refine ww_get h inG9 rfl 0 rfl rfl 2 (by decide) w_415 rfl dX9_paragraph_102 105 rfl ?_
      refine ww_get h inG4 rfl 2 rfl rfl 4 (by decide) w_209 rfl dX9_paragraph_105 108 rfl ?_
      refine ww_goto h dX9_paragraph_108 115 (by decide) ?_
      obtain rfl := Option.some.inj hf
      exact ww_iret h dX9_paragraph_115 hQ ⟨rfl, rfl⟩
  refine ww_icmp_ne h dX9_paragraph_7 88 (by decide) 10 rfl (fun c => ?_) (fun c => ?_)
  · replace hf := ite_f c hf
    refine ww_lo [1, 0] (lo' := [(0, .ref oL), (1, .int v1_3)]) rfl ?_
    refine ww_perm [0, 0, 1, 1, 1, 0, 0, 0, 0, 0] (Gs' := [gX9 cy oL aL L, gX0 cy (aL 0) aT T, gX4 cy (aL 2) aP P, gX2 cy (aL 4) aH H, gX8 cy (aL 9) aW W, gX1 cy oC aC C, gX3 cy (aL (900 + 0)) aY0 Y0, gX3 cy (aL (900 + 1)) aY1 Y1, gX3 cy (aL (900 + 2)) aY2 Y2, gX3 cy (aL (900 + 3)) aY3 Y3]) rfl ?_
    exact hJ88_12 L P H W Y0 Y1 Y2 Y3 hf
  · replace hf := ite_t c hf
    refine ww_aload_n h dX9_paragraph_10 rfl 1 rfl 11 rfl ?_
    refine ww_get h inG9 rfl 0 rfl rfl 2 (by decide) w_415 rfl dX9_paragraph_11 14 rfl ?_
    refine ww_iconst (v := 0) h dX9_paragraph_14 (by decide) 15 rfl ?_
    refine ww_put (ty := .int) h inG4 tyX4_ok nmX4 rfl 3 rfl rfl 4 (by decide) w_209 rfl (by decide +kernel) rfl rfl (Nat.le_of_ble_eq_true rfl) (Nat.le_of_ble_eq_true rfl) dX9_paragraph_15 18 rfl ?_
    refine ww_nm (fun z => [gX9 cy oL aL L, gX0 cy (aL 0) aT T, gX1 cy oC aC C, gX4 cy (aL 2) aP z, gX2 cy (aL 4) aH H, gX8 cy (aL 9) aW W, gX3 cy (aL (900 + 0)) aY0 Y0, gX3 cy (aL (900 + 1)) aY1 Y1, gX3 cy (aL (900 + 2)) aY2 Y2, gX3 cy (aL (900 + 3)) aY3 Y3]) (sI P 4 (0 : Int32)) (fun P_14 e => ?_)
    replace hf := bnd_at e hf
    clear e
    refine ww_iconst (v := 0) h dX9_paragraph_18 (by decide) 19 rfl ?_
    refine ww_ist_n h dX9_paragraph_19 rfl (by decide) (fun v2_15 => [(2, .int v2_15), (1, .int v1_3), (0, .ref oL)]) (fun _ => rfl) 20 rfl (fun v2_15 e => ?_)
    replace hf := bnd_at e hf
    clear e
    refine ww_lo [2, 1, 0] (lo' := [(0, .ref oL), (1, .int v1_3), (2, .int v2_15)]) rfl ?_
    refine ww_perm [0, 0, 1, 1, 1, 0, 0, 0, 0, 0] (Gs' := [gX9 cy oL aL L, gX0 cy (aL 0) aT T, gX4 cy (aL 2) aP P_14, gX2 cy (aL 4) aH H, gX8 cy (aL 9) aW W, gX1 cy oC aC C, gX3 cy (aL (900 + 0)) aY0 Y0, gX3 cy (aL (900 + 1)) aY1 Y1, gX3 cy (aL (900 + 2)) aY2 Y2, gX3 cy (aL (900 + 3)) aY3 Y3]) rfl ?_
    obtain ⟨P_24, h16, hf⟩ := ob1 hf
    refine lp_walk (un2 (fun v2_17 P_18 => ww X D A 3 Q 0 0 20 [(0, .ref oL), (1, .int v1_3), (2, .int v2_17)] [] [gX9 cy oL aL L, gX0 cy (aL 0) aT T, gX4 cy (aL 2) aP P_18, gX2 cy (aL 4) aH H, gX8 cy (aL 9) aW W, gX1 cy oC aC C, gX3 cy (aL (900 + 0)) aY0 Y0, gX3 cy (aL (900 + 1)) aY1 Y1, gX3 cy (aL (900 + 2)) aY2 Y2, gX3 cy (aL (900 + 3)) aY3 Y3])) (un1 (fun P_24 => ww X D A 3 Q 0 0 77 [(0, .ref oL), (1, .int v1_3)] [] [gX9 cy oL aL L, gX0 cy (aL 0) aT T, gX4 cy (aL 2) aP P_24, gX2 cy (aL 4) aH H, gX8 cy (aL 9) aW W, gX1 cy oC aC C, gX3 cy (aL (900 + 0)) aY0 Y0, gX3 cy (aL (900 + 1)) aY1 Y1, gX3 cy (aL (900 + 2)) aY2 Y2, gX3 cy (aL (900 + 3)) aY3 Y3])) ?_ _ _ _ h16 ?_
    · clear h16 hf
      intro s16 o16 hf hI16 hE16
      obtain ⟨v2_17, P_18⟩ := s16
      unfold s_X9_paragraph_20_16 at hf
      replace hf := un2_e hf
      show ww X D A 3 Q 0 0 20 [(0, .ref oL), (1, .int v1_3), (2, .int v2_17)] [] [gX9 cy oL aL L, gX0 cy (aL 0) aT T, gX4 cy (aL 2) aP P_18, gX2 cy (aL 4) aH H, gX8 cy (aL 9) aW W, gX1 cy oC aC C, gX3 cy (aL (900 + 0)) aY0 Y0, gX3 cy (aL (900 + 1)) aY1 Y1, gX3 cy (aL (900 + 2)) aY2 Y2, gX3 cy (aL (900 + 3)) aY3 Y3]
      refine ww_iload_n h dX9_paragraph_20 rfl 2 rfl 21 rfl ?_
      refine ww_aload_n h dX9_paragraph_21 rfl 0 rfl 22 rfl ?_
      refine ww_get h inG9 rfl 0 rfl rfl 0 (by decide) w_413 rfl dX9_paragraph_22 25 rfl ?_
      refine ww_get h inG0 rfl 1 rfl rfl 1 (by decide) w_141 rfl dX9_paragraph_25 28 rfl ?_
      refine ww_icmp_ge h dX9_paragraph_28 77 (by decide) 31 rfl (fun c => ?_) (fun c => ?_)
      · replace hf := ite_t c hf
        refine ww_lo [0, 1] (lo' := [(0, .ref oL), (1, .int v1_3)]) rfl ?_
        exact hE16 P_18 (Option.some.inj hf).symm
      · replace hf := ite_f c hf
        refine ww_aload_n h dX9_paragraph_31 rfl 0 rfl 32 rfl ?_
        refine ww_get h inG9 rfl 0 rfl rfl 0 (by decide) w_413 rfl dX9_paragraph_32 35 rfl ?_
        refine ww_get h inG0 rfl 1 rfl rfl 0 (by decide) w_137 rfl dX9_paragraph_35 38 rfl ?_
        refine ww_iload_n h dX9_paragraph_38 rfl 2 rfl 39 rfl ?_
        have hi := (gd_some hf).1
        replace hf := (gd_some hf).2
        refine ww_iald h 1 rfl 1 rfl (ix_in hi) dX9_paragraph_39 40 rfl ?_
        clear hi
        refine ww_bipush (v := 32) h dX9_paragraph_40 (by decide) 42 rfl ?_
        have hJ71_20 : ∀ (P_19 : OV), j_X9_paragraph_71_20 v2_17 P_19 = some o16 → ww X D A 3 Q 0 0 71 [(0, .ref oL), (1, .int v1_3), (2, .int v2_17)] [] [gX9 cy oL aL L, gX0 cy (aL 0) aT T, gX4 cy (aL 2) aP P_19, gX2 cy (aL 4) aH H, gX8 cy (aL 9) aW W, gX1 cy oC aC C, gX3 cy (aL (900 + 0)) aY0 Y0, gX3 cy (aL (900 + 1)) aY1 Y1, gX3 cy (aL (900 + 2)) aY2 Y2, gX3 cy (aL (900 + 3)) aY3 Y3] := by
          intro P_19 hf
          unfold j_X9_paragraph_71_20 at hf
          refine ww_inc (c := 1) h dX9_paragraph_71 2 rfl (by decide) (by decide) (fun v2_21 => [(2, .int v2_21), (0, .ref oL), (1, .int v1_3)]) (fun _ => rfl) 74 rfl (fun v2_21 e => ?_)
          replace hf := bnd_at e hf
          clear e
          refine ww_goto h dX9_paragraph_74 20 (by decide) ?_
          refine ww_lo [1, 2, 0] (lo' := [(0, .ref oL), (1, .int v1_3), (2, .int v2_21)]) rfl ?_
          exact hI16 (v2_21, P_19) (Option.some.inj hf).symm
        refine ww_icmp_eq h dX9_paragraph_42 71 (by decide) 45 rfl (fun c => ?_) (fun c => ?_)
        · replace hf := ite_t c hf
          exact hJ71_20 P_18 hf
        · replace hf := ite_f c hf
          refine ww_aload_n h dX9_paragraph_45 rfl 0 rfl 46 rfl ?_
          refine ww_get h inG9 rfl 0 rfl rfl 2 (by decide) w_415 rfl dX9_paragraph_46 49 rfl ?_
          refine ww_aload_n h dX9_paragraph_49 rfl 0 rfl 50 rfl ?_
          refine ww_get h inG9 rfl 0 rfl rfl 2 (by decide) w_415 rfl dX9_paragraph_50 53 rfl ?_
          refine ww_get h inG4 rfl 2 rfl rfl 4 (by decide) w_209 rfl dX9_paragraph_53 56 rfl ?_
          refine ww_aload_n h dX9_paragraph_56 rfl 0 rfl 57 rfl ?_
          refine ww_get h inG9 rfl 0 rfl rfl 0 (by decide) w_413 rfl dX9_paragraph_57 60 rfl ?_
          refine ww_get h inG0 rfl 1 rfl rfl 0 (by decide) w_137 rfl dX9_paragraph_60 63 rfl ?_
          refine ww_iload_n h dX9_paragraph_63 rfl 2 rfl 64 rfl ?_
          have hi := (gd_some hf).1
          replace hf := (gd_some hf).2
          refine ww_iald h 1 rfl 1 rfl (ix_in hi) dX9_paragraph_64 65 rfl ?_
          clear hi
          refine ww_bipush (v := 97) h dX9_paragraph_65 (by decide) 67 rfl ?_
          refine ww_isub h dX9_paragraph_67 68 rfl ?_
          obtain ⟨P_22, hu23, hf⟩ := ob1 hf
          refine ww_cVv h (c_X4_putIn l D ev cy (aL 2) aP P_18 (iv P_18 4) ((ar T 0 v2_17.toNatClampNeg) - (97 : Int32)) _ hu23) ⟨w_665, w_662, w_663, w_664, w_105, ok_X4_putIn⟩ ⟨by decide, by decide⟩ ⟨by decide, by decide⟩ ⟨rfl, rfl⟩ [2] rfl 0 rfl rfl rfl rfl (Nat.le_of_ble_eq_true rfl) dX9_paragraph_68 71 rfl (Gs' := [gX4 cy (aL 2) aP P_22, gX9 cy oL aL L, gX0 cy (aL 0) aT T, gX2 cy (aL 4) aH H, gX8 cy (aL 9) aW W, gX1 cy oC aC C, gX3 cy (aL (900 + 0)) aY0 Y0, gX3 cy (aL (900 + 1)) aY1 Y1, gX3 cy (aL (900 + 2)) aY2 Y2, gX3 cy (aL (900 + 3)) aY3 Y3]) rfl ?_
          clear hu23
          refine ww_perm [1, 1, 0, 0, 0, 0, 0, 0, 0, 0] (Gs' := [gX9 cy oL aL L, gX0 cy (aL 0) aT T, gX4 cy (aL 2) aP P_22, gX2 cy (aL 4) aH H, gX8 cy (aL 9) aW W, gX1 cy oC aC C, gX3 cy (aL (900 + 0)) aY0 Y0, gX3 cy (aL (900 + 1)) aY1 Y1, gX3 cy (aL (900 + 2)) aY2 Y2, gX3 cy (aL (900 + 3)) aY3 Y3]) rfl ?_
          exact hJ71_20 P_22 hf
    · clear h16
      show ww X D A 3 Q 0 0 77 [(0, .ref oL), (1, .int v1_3)] [] [gX9 cy oL aL L, gX0 cy (aL 0) aT T, gX4 cy (aL 2) aP P_24, gX2 cy (aL 4) aH H, gX8 cy (aL 9) aW W, gX1 cy oC aC C, gX3 cy (aL (900 + 0)) aY0 Y0, gX3 cy (aL (900 + 1)) aY1 Y1, gX3 cy (aL (900 + 2)) aY2 Y2, gX3 cy (aL (900 + 3)) aY3 Y3]
      refine ww_aload_n h dX9_paragraph_77 rfl 0 rfl 78 rfl ?_
      refine ww_get h inG9 rfl 0 rfl rfl 4 (by decide) w_417 rfl dX9_paragraph_78 81 rfl ?_
      obtain ⟨H_25, hu26, hf⟩ := ob1 hf
      refine ww_cVv h (c_X2_clear l D ev cy (aL 4) aH H _ hu26) ⟨w_647, w_644, w_645, w_646, w_106, ok_X2_clear⟩ ⟨by decide, by decide⟩ ⟨by decide, by decide⟩ ⟨rfl, rfl⟩ [3] rfl 0 rfl rfl rfl rfl (Nat.le_of_ble_eq_true rfl) dX9_paragraph_81 84 rfl (Gs' := [gX2 cy (aL 4) aH H_25, gX9 cy oL aL L, gX0 cy (aL 0) aT T, gX4 cy (aL 2) aP P_24, gX8 cy (aL 9) aW W, gX1 cy oC aC C, gX3 cy (aL (900 + 0)) aY0 Y0, gX3 cy (aL (900 + 1)) aY1 Y1, gX3 cy (aL (900 + 2)) aY2 Y2, gX3 cy (aL (900 + 3)) aY3 Y3]) rfl ?_
      clear hu26
      refine ww_aload_n h dX9_paragraph_84 rfl 0 rfl 85 rfl ?_
      obtain ⟨L_27, W_28, Y0_29, Y1_30, Y2_31, Y3_32, hu33, hf⟩ := ob6 hf
      refine ww_cVv h (c_X9_forget l D ev cy oL aL L aW W aY0 Y0 aY1 Y1 aY2 Y2 aY3 Y3 _ hu33) ⟨w_651, w_648, w_650, w_14, w_101, ok_X9_forget⟩ ⟨by decide, by decide⟩ ⟨by decide, by decide⟩ ⟨rfl, rfl⟩ [1, 3, 4, 4, 4, 4] rfl 0 rfl rfl rfl rfl (Nat.le_of_ble_eq_true rfl) dX9_paragraph_85 88 rfl (Gs' := [gX9 cy oL aL L_27, gX8 cy (aL 9) aW W_28, gX3 cy (aL (900 + 0)) aY0 Y0_29, gX3 cy (aL (900 + 1)) aY1 Y1_30, gX3 cy (aL (900 + 2)) aY2 Y2_31, gX3 cy (aL (900 + 3)) aY3 Y3_32, gX2 cy (aL 4) aH H_25, gX0 cy (aL 0) aT T, gX4 cy (aL 2) aP P_24, gX1 cy oC aC C]) rfl ?_
      clear hu33
      refine ww_perm [0, 6, 6, 5, 0, 4, 0, 0, 0, 0] (Gs' := [gX9 cy oL aL L_27, gX0 cy (aL 0) aT T, gX4 cy (aL 2) aP P_24, gX2 cy (aL 4) aH H_25, gX8 cy (aL 9) aW W_28, gX1 cy oC aC C, gX3 cy (aL (900 + 0)) aY0 Y0_29, gX3 cy (aL (900 + 1)) aY1 Y1_30, gX3 cy (aL (900 + 2)) aY2 Y2_31, gX3 cy (aL (900 + 3)) aY3 Y3_32]) rfl ?_
      exact hJ88_12 L_27 P_24 H_25 W_28 Y0_29 Y1_30 Y2_31 Y3_32 hf
theorem dX9_undo_0 : decode cX9_undo 0 = .ok (.aload_n 0, 1) := by decide +kernel
theorem dX9_undo_1 : decode cX9_undo 1 = .ok (.getfield 44, 3) := by decide +kernel
theorem dX9_undo_4 : decode cX9_undo 4 = .ok (.getfield 196, 3) := by decide +kernel
theorem dX9_undo_7 : decode cX9_undo 7 = .ok (.ifCond .ne 5, 3) := by decide +kernel
theorem dX9_undo_10 : decode cX9_undo 10 = .ok (.iconst (-1), 1) := by decide +kernel
theorem dX9_undo_11 : decode cX9_undo 11 = .ok (.ireturn, 1) := by decide +kernel
theorem dX9_undo_12 : decode cX9_undo 12 = .ok (.aload_n 0, 1) := by decide +kernel
theorem dX9_undo_13 : decode cX9_undo 13 = .ok (.getfield 44, 3) := by decide +kernel
theorem dX9_undo_16 : decode cX9_undo 16 = .ok (.aload_n 0, 1) := by decide +kernel
theorem dX9_undo_17 : decode cX9_undo 17 = .ok (.getfield 34, 3) := by decide +kernel
theorem dX9_undo_20 : decode cX9_undo 20 = .ok (.invokevirtual 197, 3) := by decide +kernel
theorem dX9_undo_23 : decode cX9_undo 23 = .ok (.aload_n 0, 1) := by decide +kernel
theorem dX9_undo_24 : decode cX9_undo 24 = .ok (.invokevirtual 108, 3) := by decide +kernel
theorem dX9_undo_27 : decode cX9_undo 27 = .ok (.aload_n 0, 1) := by decide +kernel
theorem dX9_undo_28 : decode cX9_undo 28 = .ok (.getfield 44, 3) := by decide +kernel
theorem dX9_undo_31 : decode cX9_undo 31 = .ok (.getfield 196, 3) := by decide +kernel
theorem dX9_undo_34 : decode cX9_undo 34 = .ok (.ireturn, 1) := by decide +kernel
theorem ok_X9_undo : okY RX9 yX9_undo 0 := ⟨rfl, by decide, by decide, by decide +kernel⟩
def f_X9_undo (L : OV) (P : OV) (aH : Nat → Nat) (H : OV) (W : OV) (oK : Nat) (K : OV) (Y0 : OV) (Y1 : OV) (Y2 : OV) (Y3 : OV) : Option (Int32 × OV × OV × OV × OV × OV × OV × OV × OV) := (if (iv H 2) = 0 then some ((-1 : Int32), L, P, H, W, Y0, Y1, Y2, Y3) else (f_X2_bringBack aH H P oK K).bind (un2 (fun H_1 P_2 => (f_X9_forget L W Y0 Y1 Y2 Y3).bind (un6 (fun L_4 W_5 Y0_6 Y1_7 Y2_8 Y3_9 => some ((iv H_1 2), L_4, P_2, H_1, W_5, Y0_6, Y1_7, Y2_8, Y3_9))))))
def r_X9_undo : Room := { frames := 3, cells := 0, slots := 0, locals := 68 }
set_option maxHeartbeats 4000000 in
set_option maxRecDepth 100000 in
theorem c_X9_undo (l : Launch) (D : va_G) (ev : EvT) (cy : Nat → ClassId) (oL : Nat) (aL : Nat → Nat) (L : OV) (aP : Nat → Nat) (P : OV) (aH : Nat → Nat) (H : OV) (aW : Nat → Nat) (W : OV) (oK : Nat) (aK : Nat → Nat) (K : OV) (aY0 : Nat → Nat) (Y0 : OV) (aY1 : Nat → Nat) (Y1 : OV) (aY2 : Nat → Nat) (Y2 : OV) (aY3 : Nat → Nat) (Y3 : OV) (o : Int32 × OV × OV × OV × OV × OV × OV × OV × OV) (hf : f_X9_undo L P aH H W oK K Y0 Y1 Y2 Y3 = some o) : Fn l yX9_undo cX9_undo 1 (some .int) r_X9_undo D ev cy [.ref oL] [gX9 cy oL aL L, gX4 cy (aL 2) aP P, gX2 cy (aL 4) aH H, gX8 cy (aL 9) aW W, gX4 cy oK aK K, gX3 cy (aL (900 + 0)) aY0 Y0, gX3 cy (aL (900 + 1)) aY1 Y1, gX3 cy (aL (900 + 2)) aY2 Y2, gX3 cy (aL (900 + 3)) aY3 Y3] (fun v G => v = some (.int o.1) ∧ G = [gX9 cy oL aL o.2.1, gX4 cy (aL 2) aP o.2.2.1, gX2 cy (aL 4) aH o.2.2.2.1, gX8 cy (aL 9) aW o.2.2.2.2.1, gX4 cy oK aK K, gX3 cy (aL (900 + 0)) aY0 o.2.2.2.2.2.1, gX3 cy (aL (900 + 1)) aY1 o.2.2.2.2.2.2.1, gX3 cy (aL (900 + 2)) aY2 o.2.2.2.2.2.2.2.1, gX3 cy (aL (900 + 3)) aY3 o.2.2.2.2.2.2.2.2]) := by
  refine Fn_of (by decide) (Nat.le_of_ble_eq_true rfl) (fun X A Q h hQ _ => ?_)
  unfold f_X9_undo at hf
  show ww X D A 1 Q 0 0 0 [(0, .ref oL)] [] [gX9 cy oL aL L, gX4 cy (aL 2) aP P, gX2 cy (aL 4) aH H, gX8 cy (aL 9) aW W, gX4 cy oK aK K, gX3 cy (aL (900 + 0)) aY0 Y0, gX3 cy (aL (900 + 1)) aY1 Y1, gX3 cy (aL (900 + 2)) aY2 Y2, gX3 cy (aL (900 + 3)) aY3 Y3]
  refine ww_aload_n h dX9_undo_0 rfl 0 rfl 1 rfl ?_
  refine ww_get h inG9 rfl 0 rfl rfl 4 (by decide) w_417 rfl dX9_undo_1 4 rfl ?_
  refine ww_get h inG2 rfl 2 rfl rfl 2 (by decide) w_250 rfl dX9_undo_4 7 rfl ?_
  refine ww_if_ne h dX9_undo_7 12 (by decide) 10 rfl (fun c => ?_) (fun c => ?_)
  · replace hf := ite_f c hf
    refine ww_aload_n h dX9_undo_12 rfl 0 rfl 13 rfl ?_
    refine ww_get h inG9 rfl 0 rfl rfl 4 (by decide) w_417 rfl dX9_undo_13 16 rfl ?_
    refine ww_aload_n h dX9_undo_16 rfl 0 rfl 17 rfl ?_
    refine ww_get h inG9 rfl 0 rfl rfl 2 (by decide) w_415 rfl dX9_undo_17 20 rfl ?_
    obtain ⟨H_1, P_2, hu3, hf⟩ := ob2 hf
    refine ww_cVv h (c_X2_bringBack l D ev cy (aL 4) aH H (aL 2) aP P oK aK K _ hu3) ⟨w_765, w_762, w_763, w_764, w_106, ok_X2_bringBack⟩ ⟨by decide, by decide⟩ ⟨by decide, by decide⟩ ⟨rfl, rfl⟩ [2, 1, 2] rfl 0 rfl rfl rfl rfl (Nat.le_of_ble_eq_true rfl) dX9_undo_20 23 rfl (Gs' := [gX2 cy (aL 4) aH H_1, gX4 cy (aL 2) aP P_2, gX4 cy oK aK K, gX9 cy oL aL L, gX8 cy (aL 9) aW W, gX3 cy (aL (900 + 0)) aY0 Y0, gX3 cy (aL (900 + 1)) aY1 Y1, gX3 cy (aL (900 + 2)) aY2 Y2, gX3 cy (aL (900 + 3)) aY3 Y3]) rfl ?_
    clear hu3
    refine ww_aload_n h dX9_undo_23 rfl 0 rfl 24 rfl ?_
    obtain ⟨L_4, W_5, Y0_6, Y1_7, Y2_8, Y3_9, hu10, hf⟩ := ob6 hf
    refine ww_cVv h (c_X9_forget l D ev cy oL aL L aW W aY0 Y0 aY1 Y1 aY2 Y2 aY3 Y3 _ hu10) ⟨w_651, w_648, w_650, w_14, w_101, ok_X9_forget⟩ ⟨by decide, by decide⟩ ⟨by decide, by decide⟩ ⟨rfl, rfl⟩ [3, 3, 3, 3, 3, 3] rfl 0 rfl rfl rfl rfl (Nat.le_of_ble_eq_true rfl) dX9_undo_24 27 rfl (Gs' := [gX9 cy oL aL L_4, gX8 cy (aL 9) aW W_5, gX3 cy (aL (900 + 0)) aY0 Y0_6, gX3 cy (aL (900 + 1)) aY1 Y1_7, gX3 cy (aL (900 + 2)) aY2 Y2_8, gX3 cy (aL (900 + 3)) aY3 Y3_9, gX2 cy (aL 4) aH H_1, gX4 cy (aL 2) aP P_2, gX4 cy oK aK K]) rfl ?_
    clear hu10
    refine ww_aload_n h dX9_undo_27 rfl 0 rfl 28 rfl ?_
    refine ww_get h inG9 rfl 0 rfl rfl 4 (by decide) w_417 rfl dX9_undo_28 31 rfl ?_
    refine ww_get h inG2 rfl 6 rfl rfl 2 (by decide) w_250 rfl dX9_undo_31 34 rfl ?_
    refine ww_perm [0, 6, 5, 0, 4, 0, 0, 0, 0] (Gs' := [gX9 cy oL aL L_4, gX4 cy (aL 2) aP P_2, gX2 cy (aL 4) aH H_1, gX8 cy (aL 9) aW W_5, gX4 cy oK aK K, gX3 cy (aL (900 + 0)) aY0 Y0_6, gX3 cy (aL (900 + 1)) aY1 Y1_7, gX3 cy (aL (900 + 2)) aY2 Y2_8, gX3 cy (aL (900 + 3)) aY3 Y3_9]) rfl ?_
    obtain rfl := Option.some.inj hf
    exact ww_iret h dX9_undo_34 hQ ⟨rfl, rfl⟩
  · replace hf := ite_t c hf
    refine ww_iconst (v := (-1)) h dX9_undo_10 (by decide) 11 rfl ?_
    obtain rfl := Option.some.inj hf
    exact ww_iret h dX9_undo_11 hQ ⟨rfl, rfl⟩
theorem dX9_natural_0 : decode cX9_natural 0 = .ok (.aload_n 0, 1) := by decide +kernel
theorem dX9_natural_1 : decode cX9_natural 1 = .ok (.getfield 34, 3) := by decide +kernel
theorem dX9_natural_4 : decode cX9_natural 4 = .ok (.iload_n 1, 1) := by decide +kernel
theorem dX9_natural_5 : decode cX9_natural 5 = .ok (.invokevirtual 140, 3) := by decide +kernel
theorem dX9_natural_8 : decode cX9_natural 8 = .ok (.ifCond .eq 19, 3) := by decide +kernel
theorem dX9_natural_11 : decode cX9_natural 11 = .ok (.aload_n 0, 1) := by decide +kernel
theorem dX9_natural_12 : decode cX9_natural 12 = .ok (.getfield 34, 3) := by decide +kernel
theorem dX9_natural_15 : decode cX9_natural 15 = .ok (.iload_n 2, 1) := by decide +kernel
theorem dX9_natural_16 : decode cX9_natural 16 = .ok (.invokevirtual 140, 3) := by decide +kernel
theorem dX9_natural_19 : decode cX9_natural 19 = .ok (.ifCond .eq 8, 3) := by decide +kernel
theorem dX9_natural_22 : decode cX9_natural 22 = .ok (.iload_n 1, 1) := by decide +kernel
theorem dX9_natural_23 : decode cX9_natural 23 = .ok (.iload_n 2, 1) := by decide +kernel
theorem dX9_natural_24 : decode cX9_natural 24 = .ok (.if_icmp .le 5, 3) := by decide +kernel
theorem dX9_natural_27 : decode cX9_natural 27 = .ok (.iconst (-1), 1) := by decide +kernel
theorem dX9_natural_28 : decode cX9_natural 28 = .ok (.ireturn, 1) := by decide +kernel
theorem dX9_natural_29 : decode cX9_natural 29 = .ok (.aload_n 0, 1) := by decide +kernel
theorem dX9_natural_30 : decode cX9_natural 30 = .ok (.invokevirtual 215, 3) := by decide +kernel
theorem dX9_natural_33 : decode cX9_natural 33 = .ok (.iload_n 1, 1) := by decide +kernel
theorem dX9_natural_34 : decode cX9_natural 34 = .ok (.iload_n 2, 1) := by decide +kernel
theorem dX9_natural_35 : decode cX9_natural 35 = .ok (.invokevirtual 219, 3) := by decide +kernel
theorem dX9_natural_38 : decode cX9_natural 38 = .ok (.ireturn, 1) := by decide +kernel
theorem ok_X9_natural : okY RX9 yX9_natural 2 := ⟨rfl, by decide, by decide, by decide +kernel⟩
def f_X9_natural (aL : Nat → Nat) (L : OV) (P : OV) (R : OV) (oC : Nat) (C : OV) (p0 : Int32) (p1 : Int32) : Option (Int32 × OV × OV) := (f_X4_has P p0).bind (un1 (fun r_1 => (if r_1 = 0 then some ((-1 : Int32), L, R) else (f_X4_has P p1).bind (un1 (fun r_3 => (if r_3 = 0 then some ((-1 : Int32), L, R) else (if p0 ≤ p1 then (f_X9_currentRuler aL L P R oC C).bind (un2 (fun L_5 R_6 => (f_X7_naturalWidth R_6 p0 p1).bind (un1 (fun r_8 => some (r_8, L_5, R_6))))) else some ((-1 : Int32), L, R))))))))
def r_X9_natural : Room := { frames := 4, cells := 0, slots := 0, locals := 91 }
set_option maxHeartbeats 4000000 in
set_option maxRecDepth 100000 in
theorem c_X9_natural (l : Launch) (D : va_G) (ev : EvT) (cy : Nat → ClassId) (oL : Nat) (aL : Nat → Nat) (L : OV) (aP : Nat → Nat) (P : OV) (aR : Nat → Nat) (R : OV) (oC : Nat) (aC : Nat → Nat) (C : OV) (p0 : Int32) (p1 : Int32) (o : Int32 × OV × OV) (hf : f_X9_natural aL L P R oC C p0 p1 = some o) : Fn l yX9_natural cX9_natural 3 (some .int) r_X9_natural D ev cy [.ref oL, .int p0, .int p1] [gX9 cy oL aL L, gX4 cy (aL 2) aP P, gX7 cy (aL 5) aR R, gX1 cy oC aC C] (fun v G => v = some (.int o.1) ∧ G = [gX9 cy oL aL o.2.1, gX4 cy (aL 2) aP P, gX7 cy (aL 5) aR o.2.2, gX1 cy oC aC C]) := by
  refine Fn_of (by decide) (Nat.le_of_ble_eq_true rfl) (fun X A Q h hQ _ => ?_)
  unfold f_X9_natural at hf
  show ww X D A 3 Q 0 0 0 [(0, .ref oL), (1, .int p0), (2, .int p1)] [] [gX9 cy oL aL L, gX4 cy (aL 2) aP P, gX7 cy (aL 5) aR R, gX1 cy oC aC C]
  refine ww_aload_n h dX9_natural_0 rfl 0 rfl 1 rfl ?_
  refine ww_get h inG9 rfl 0 rfl rfl 2 (by decide) w_415 rfl dX9_natural_1 4 rfl ?_
  refine ww_iload_n h dX9_natural_4 rfl 1 rfl 5 rfl ?_
  obtain ⟨r_1, hu2, hf⟩ := ob1 hf
  refine ww_cVi h (c_X4_has l D ev cy (aL 2) aP P p0 _ hu2) ⟨w_694, w_704, w_692, w_693, w_105, ok_X4_has⟩ ⟨by decide, by decide⟩ ⟨by decide, by decide⟩ ⟨rfl, rfl⟩ [1] rfl 0 rfl rfl rfl rfl (Nat.le_of_ble_eq_true rfl) dX9_natural_5 8 rfl (Gs' := [gX4 cy (aL 2) aP P, gX9 cy oL aL L, gX7 cy (aL 5) aR R, gX1 cy oC aC C]) rfl ?_
  clear hu2
  refine ww_if_eq h dX9_natural_8 27 (by decide) 11 rfl (fun c => ?_) (fun c => ?_)
  · replace hf := ite_t c hf
    refine ww_iconst (v := (-1)) h dX9_natural_27 (by decide) 28 rfl ?_
    refine ww_perm [1, 0, 0, 0] (Gs' := [gX9 cy oL aL L, gX4 cy (aL 2) aP P, gX7 cy (aL 5) aR R, gX1 cy oC aC C]) rfl ?_
    obtain rfl := Option.some.inj hf
    exact ww_iret h dX9_natural_28 hQ ⟨rfl, rfl⟩
  · replace hf := ite_f c hf
    refine ww_aload_n h dX9_natural_11 rfl 0 rfl 12 rfl ?_
    refine ww_get h inG9 rfl 1 rfl rfl 2 (by decide) w_415 rfl dX9_natural_12 15 rfl ?_
    refine ww_iload_n h dX9_natural_15 rfl 2 rfl 16 rfl ?_
    obtain ⟨r_3, hu4, hf⟩ := ob1 hf
    refine ww_cVi h (c_X4_has l D ev cy (aL 2) aP P p1 _ hu4) ⟨w_694, w_704, w_692, w_693, w_105, ok_X4_has⟩ ⟨by decide, by decide⟩ ⟨by decide, by decide⟩ ⟨rfl, rfl⟩ [0] rfl 0 rfl rfl rfl rfl (Nat.le_of_ble_eq_true rfl) dX9_natural_16 19 rfl (Gs' := [gX4 cy (aL 2) aP P, gX9 cy oL aL L, gX7 cy (aL 5) aR R, gX1 cy oC aC C]) rfl ?_
    clear hu4
    refine ww_if_eq h dX9_natural_19 27 (by decide) 22 rfl (fun c => ?_) (fun c => ?_)
    · replace hf := ite_t c hf
      refine ww_iconst (v := (-1)) h dX9_natural_27 (by decide) 28 rfl ?_
      refine ww_perm [1, 0, 0, 0] (Gs' := [gX9 cy oL aL L, gX4 cy (aL 2) aP P, gX7 cy (aL 5) aR R, gX1 cy oC aC C]) rfl ?_
      obtain rfl := Option.some.inj hf
      exact ww_iret h dX9_natural_28 hQ ⟨rfl, rfl⟩
    · replace hf := ite_f c hf
      refine ww_iload_n h dX9_natural_22 rfl 1 rfl 23 rfl ?_
      refine ww_iload_n h dX9_natural_23 rfl 2 rfl 24 rfl ?_
      refine ww_icmp_le h dX9_natural_24 29 (by decide) 27 rfl (fun c => ?_) (fun c => ?_)
      · replace hf := ite_t c hf
        refine ww_aload_n h dX9_natural_29 rfl 0 rfl 30 rfl ?_
        obtain ⟨L_5, R_6, hu7, hf⟩ := ob2 hf
        refine ww_cVr h (c_X9_currentRuler l D ev cy oL aL L aP P aR R oC aC C _ hu7) ⟨w_809, w_806, w_808, w_17, w_101, ok_X9_currentRuler⟩ ⟨by decide, by decide⟩ ⟨by decide, by decide⟩ ⟨rfl, rfl⟩ [1, 0, 0, 0] rfl 0 rfl rfl rfl rfl (Nat.le_of_ble_eq_true rfl) dX9_natural_30 33 rfl (Gs' := [gX9 cy oL aL L_5, gX4 cy (aL 2) aP P, gX7 cy (aL 5) aR R_6, gX1 cy oC aC C]) rfl ?_
        clear hu7
        refine ww_iload_n h dX9_natural_33 rfl 1 rfl 34 rfl ?_
        refine ww_iload_n h dX9_natural_34 rfl 2 rfl 35 rfl ?_
        obtain ⟨r_8, hu9, hf⟩ := ob1 hf
        refine ww_cVi h (c_X7_naturalWidth l D ev cy (aL 5) aR R_6 p0 p1 _ hu9) ⟨w_827, w_824, w_825, w_826, w_107, ok_X7_naturalWidth⟩ ⟨by decide, by decide⟩ ⟨by decide, by decide⟩ ⟨rfl, rfl⟩ [2] rfl 0 rfl rfl rfl rfl (Nat.le_of_ble_eq_true rfl) dX9_natural_35 38 rfl (Gs' := [gX7 cy (aL 5) aR R_6, gX9 cy oL aL L_5, gX4 cy (aL 2) aP P, gX1 cy oC aC C]) rfl ?_
        clear hu9
        refine ww_perm [1, 1, 0, 0] (Gs' := [gX9 cy oL aL L_5, gX4 cy (aL 2) aP P, gX7 cy (aL 5) aR R_6, gX1 cy oC aC C]) rfl ?_
        obtain rfl := Option.some.inj hf
        exact ww_iret h dX9_natural_38 hQ ⟨rfl, rfl⟩
      · replace hf := ite_f c hf
        refine ww_iconst (v := (-1)) h dX9_natural_27 (by decide) 28 rfl ?_
        refine ww_perm [1, 0, 0, 0] (Gs' := [gX9 cy oL aL L, gX4 cy (aL 2) aP P, gX7 cy (aL 5) aR R, gX1 cy oC aC C]) rfl ?_
        obtain rfl := Option.some.inj hf
        exact ww_iret h dX9_natural_28 hQ ⟨rfl, rfl⟩
theorem dX9_cost_0 : decode cX9_cost 0 = .ok (.aload_n 0, 1) := by decide +kernel
theorem dX9_cost_1 : decode cX9_cost 1 = .ok (.getfield 34, 3) := by decide +kernel
theorem dX9_cost_4 : decode cX9_cost 4 = .ok (.iload_n 1, 1) := by decide +kernel
theorem dX9_cost_5 : decode cX9_cost 5 = .ok (.invokevirtual 140, 3) := by decide +kernel
theorem dX9_cost_8 : decode cX9_cost 8 = .ok (.ifCond .eq 19, 3) := by decide +kernel
theorem dX9_cost_11 : decode cX9_cost 11 = .ok (.aload_n 0, 1) := by decide +kernel
theorem dX9_cost_12 : decode cX9_cost 12 = .ok (.getfield 34, 3) := by decide +kernel
theorem dX9_cost_15 : decode cX9_cost 15 = .ok (.iload_n 2, 1) := by decide +kernel
theorem dX9_cost_16 : decode cX9_cost 16 = .ok (.invokevirtual 140, 3) := by decide +kernel
theorem dX9_cost_19 : decode cX9_cost 19 = .ok (.ifCond .eq 8, 3) := by decide +kernel
theorem dX9_cost_22 : decode cX9_cost 22 = .ok (.iload_n 1, 1) := by decide +kernel
theorem dX9_cost_23 : decode cX9_cost 23 = .ok (.iload_n 2, 1) := by decide +kernel
theorem dX9_cost_24 : decode cX9_cost 24 = .ok (.if_icmp .le 5, 3) := by decide +kernel
theorem dX9_cost_27 : decode cX9_cost 27 = .ok (.iconst (-1), 1) := by decide +kernel
theorem dX9_cost_28 : decode cX9_cost 28 = .ok (.ireturn, 1) := by decide +kernel
theorem dX9_cost_29 : decode cX9_cost 29 = .ok (.aload_n 0, 1) := by decide +kernel
theorem dX9_cost_30 : decode cX9_cost 30 = .ok (.invokevirtual 215, 3) := by decide +kernel
theorem dX9_cost_33 : decode cX9_cost 33 = .ok (.astore_n 3, 1) := by decide +kernel
theorem dX9_cost_34 : decode cX9_cost 34 = .ok (.aload_n 3, 1) := by decide +kernel
theorem dX9_cost_35 : decode cX9_cost 35 = .ok (.iload_n 1, 1) := by decide +kernel
theorem dX9_cost_36 : decode cX9_cost 36 = .ok (.iload_n 2, 1) := by decide +kernel
theorem dX9_cost_37 : decode cX9_cost 37 = .ok (.invokevirtual 222, 3) := by decide +kernel
theorem dX9_cost_40 : decode cX9_cost 40 = .ok (.aload_n 3, 1) := by decide +kernel
theorem dX9_cost_41 : decode cX9_cost 41 = .ok (.getfield 225, 3) := by decide +kernel
theorem dX9_cost_44 : decode cX9_cost 44 = .ok (.ifCond .eq 8, 3) := by decide +kernel
theorem dX9_cost_47 : decode cX9_cost 47 = .ok (.bipush (-2), 2) := by decide +kernel
theorem dX9_cost_49 : decode cX9_cost 49 = .ok (.goto 7, 3) := by decide +kernel
theorem dX9_cost_52 : decode cX9_cost 52 = .ok (.aload_n 3, 1) := by decide +kernel
theorem dX9_cost_53 : decode cX9_cost 53 = .ok (.getfield 228, 3) := by decide +kernel
theorem dX9_cost_56 : decode cX9_cost 56 = .ok (.ireturn, 1) := by decide +kernel
theorem ok_X9_cost : okY RX9 yX9_cost 2 := ⟨rfl, by decide, by decide, by decide +kernel⟩
def f_X9_cost (aL : Nat → Nat) (L : OV) (P : OV) (R : OV) (oC : Nat) (C : OV) (p0 : Int32) (p1 : Int32) : Option (Int32 × OV × OV) := (f_X4_has P p0).bind (un1 (fun r_1 => (if r_1 = 0 then some ((-1 : Int32), L, R) else (f_X4_has P p1).bind (un1 (fun r_3 => (if r_3 = 0 then some ((-1 : Int32), L, R) else (if p0 ≤ p1 then (f_X9_currentRuler aL L P R oC C).bind (un2 (fun L_5 R_6 => (f_X7_measure R_6 (aL 2) P p0 p1).bind (un1 (fun R_8 => (if (iv R_8 12) = 0 then some ((iv R_8 17), L_5, R_8) else some ((-2 : Int32), L_5, R_8)))))) else some ((-1 : Int32), L, R))))))))
def r_X9_cost : Room := { frames := 4, cells := 0, slots := 0, locals := 91 }
set_option maxHeartbeats 4000000 in
set_option maxRecDepth 100000 in
theorem c_X9_cost (l : Launch) (D : va_G) (ev : EvT) (cy : Nat → ClassId) (oL : Nat) (aL : Nat → Nat) (L : OV) (aP : Nat → Nat) (P : OV) (aR : Nat → Nat) (R : OV) (oC : Nat) (aC : Nat → Nat) (C : OV) (p0 : Int32) (p1 : Int32) (o : Int32 × OV × OV) (hf : f_X9_cost aL L P R oC C p0 p1 = some o) : Fn l yX9_cost cX9_cost 4 (some .int) r_X9_cost D ev cy [.ref oL, .int p0, .int p1] [gX9 cy oL aL L, gX4 cy (aL 2) aP P, gX7 cy (aL 5) aR R, gX1 cy oC aC C] (fun v G => v = some (.int o.1) ∧ G = [gX9 cy oL aL o.2.1, gX4 cy (aL 2) aP P, gX7 cy (aL 5) aR o.2.2, gX1 cy oC aC C]) := by
  refine Fn_of (by decide) (Nat.le_of_ble_eq_true rfl) (fun X A Q h hQ _ => ?_)
  unfold f_X9_cost at hf
  show ww X D A 4 Q 0 0 0 [(0, .ref oL), (1, .int p0), (2, .int p1)] [] [gX9 cy oL aL L, gX4 cy (aL 2) aP P, gX7 cy (aL 5) aR R, gX1 cy oC aC C]
  refine ww_aload_n h dX9_cost_0 rfl 0 rfl 1 rfl ?_
  refine ww_get h inG9 rfl 0 rfl rfl 2 (by decide) w_415 rfl dX9_cost_1 4 rfl ?_
  refine ww_iload_n h dX9_cost_4 rfl 1 rfl 5 rfl ?_
  obtain ⟨r_1, hu2, hf⟩ := ob1 hf
  refine ww_cVi h (c_X4_has l D ev cy (aL 2) aP P p0 _ hu2) ⟨w_694, w_704, w_692, w_693, w_105, ok_X4_has⟩ ⟨by decide, by decide⟩ ⟨by decide, by decide⟩ ⟨rfl, rfl⟩ [1] rfl 0 rfl rfl rfl rfl (Nat.le_of_ble_eq_true rfl) dX9_cost_5 8 rfl (Gs' := [gX4 cy (aL 2) aP P, gX9 cy oL aL L, gX7 cy (aL 5) aR R, gX1 cy oC aC C]) rfl ?_
  clear hu2
  refine ww_if_eq h dX9_cost_8 27 (by decide) 11 rfl (fun c => ?_) (fun c => ?_)
  · replace hf := ite_t c hf
    refine ww_iconst (v := (-1)) h dX9_cost_27 (by decide) 28 rfl ?_
    refine ww_perm [1, 0, 0, 0] (Gs' := [gX9 cy oL aL L, gX4 cy (aL 2) aP P, gX7 cy (aL 5) aR R, gX1 cy oC aC C]) rfl ?_
    obtain rfl := Option.some.inj hf
    exact ww_iret h dX9_cost_28 hQ ⟨rfl, rfl⟩
  · replace hf := ite_f c hf
    refine ww_aload_n h dX9_cost_11 rfl 0 rfl 12 rfl ?_
    refine ww_get h inG9 rfl 1 rfl rfl 2 (by decide) w_415 rfl dX9_cost_12 15 rfl ?_
    refine ww_iload_n h dX9_cost_15 rfl 2 rfl 16 rfl ?_
    obtain ⟨r_3, hu4, hf⟩ := ob1 hf
    refine ww_cVi h (c_X4_has l D ev cy (aL 2) aP P p1 _ hu4) ⟨w_694, w_704, w_692, w_693, w_105, ok_X4_has⟩ ⟨by decide, by decide⟩ ⟨by decide, by decide⟩ ⟨rfl, rfl⟩ [0] rfl 0 rfl rfl rfl rfl (Nat.le_of_ble_eq_true rfl) dX9_cost_16 19 rfl (Gs' := [gX4 cy (aL 2) aP P, gX9 cy oL aL L, gX7 cy (aL 5) aR R, gX1 cy oC aC C]) rfl ?_
    clear hu4
    refine ww_if_eq h dX9_cost_19 27 (by decide) 22 rfl (fun c => ?_) (fun c => ?_)
    · replace hf := ite_t c hf
      refine ww_iconst (v := (-1)) h dX9_cost_27 (by decide) 28 rfl ?_
      refine ww_perm [1, 0, 0, 0] (Gs' := [gX9 cy oL aL L, gX4 cy (aL 2) aP P, gX7 cy (aL 5) aR R, gX1 cy oC aC C]) rfl ?_
      obtain rfl := Option.some.inj hf
      exact ww_iret h dX9_cost_28 hQ ⟨rfl, rfl⟩
    · replace hf := ite_f c hf
      refine ww_iload_n h dX9_cost_22 rfl 1 rfl 23 rfl ?_
      refine ww_iload_n h dX9_cost_23 rfl 2 rfl 24 rfl ?_
      refine ww_icmp_le h dX9_cost_24 29 (by decide) 27 rfl (fun c => ?_) (fun c => ?_)
      · replace hf := ite_t c hf
        refine ww_aload_n h dX9_cost_29 rfl 0 rfl 30 rfl ?_
        obtain ⟨L_5, R_6, hu7, hf⟩ := ob2 hf
        refine ww_cVr h (c_X9_currentRuler l D ev cy oL aL L aP P aR R oC aC C _ hu7) ⟨w_809, w_806, w_808, w_17, w_101, ok_X9_currentRuler⟩ ⟨by decide, by decide⟩ ⟨by decide, by decide⟩ ⟨rfl, rfl⟩ [1, 0, 0, 0] rfl 0 rfl rfl rfl rfl (Nat.le_of_ble_eq_true rfl) dX9_cost_30 33 rfl (Gs' := [gX9 cy oL aL L_5, gX4 cy (aL 2) aP P, gX7 cy (aL 5) aR R_6, gX1 cy oC aC C]) rfl ?_
        clear hu7
        refine ww_astore_n h dX9_cost_33 rfl (by decide) (lo' := [(3, .ref (aL 5)), (0, .ref oL), (1, .int p0), (2, .int p1)]) rfl 34 rfl ?_
        refine ww_aload_n h dX9_cost_34 rfl 0 rfl 35 rfl ?_
        refine ww_iload_n h dX9_cost_35 rfl 2 rfl 36 rfl ?_
        refine ww_iload_n h dX9_cost_36 rfl 3 rfl 37 rfl ?_
        obtain ⟨R_8, hu9, hf⟩ := ob1 hf
        refine ww_cVv h (c_X7_measure l D ev cy (aL 5) aR R_6 (aL 2) aP P p0 p1 _ hu9) ⟨w_835, w_832, w_833, w_834, w_107, ok_X7_measure⟩ ⟨by decide, by decide⟩ ⟨by decide, by decide⟩ ⟨rfl, rfl⟩ [2, 1] rfl 0 rfl rfl rfl rfl (Nat.le_of_ble_eq_true rfl) dX9_cost_37 40 rfl (Gs' := [gX7 cy (aL 5) aR R_8, gX4 cy (aL 2) aP P, gX9 cy oL aL L_5, gX1 cy oC aC C]) rfl ?_
        clear hu9
        refine ww_aload_n h dX9_cost_40 rfl 0 rfl 41 rfl ?_
        refine ww_get h inG7 rfl 0 rfl rfl 12 (by decide) w_282 rfl dX9_cost_41 44 rfl ?_
        refine ww_if_eq h dX9_cost_44 52 (by decide) 47 rfl (fun c => ?_) (fun c => ?_)
        · replace hf := ite_t c hf
          refine ww_aload_n h dX9_cost_52 rfl 0 rfl 53 rfl ?_
          refine ww_get h inG7 rfl 0 rfl rfl 17 (by decide) w_295 rfl dX9_cost_53 56 rfl ?_
          refine ww_perm [2, 1, 0, 0] (Gs' := [gX9 cy oL aL L_5, gX4 cy (aL 2) aP P, gX7 cy (aL 5) aR R_8, gX1 cy oC aC C]) rfl ?_
          obtain rfl := Option.some.inj hf
          exact ww_iret h dX9_cost_56 hQ ⟨rfl, rfl⟩
        · replace hf := ite_f c hf
          refine ww_bipush (v := (-2)) h dX9_cost_47 (by decide) 49 rfl ?_
          refine ww_goto h dX9_cost_49 56 (by decide) ?_
          refine ww_perm [2, 1, 0, 0] (Gs' := [gX9 cy oL aL L_5, gX4 cy (aL 2) aP P, gX7 cy (aL 5) aR R_8, gX1 cy oC aC C]) rfl ?_
          obtain rfl := Option.some.inj hf
          exact ww_iret h dX9_cost_56 hQ ⟨rfl, rfl⟩
      · replace hf := ite_f c hf
        refine ww_iconst (v := (-1)) h dX9_cost_27 (by decide) 28 rfl ?_
        refine ww_perm [1, 0, 0, 0] (Gs' := [gX9 cy oL aL L, gX4 cy (aL 2) aP P, gX7 cy (aL 5) aR R, gX1 cy oC aC C]) rfl ?_
        obtain rfl := Option.some.inj hf
        exact ww_iret h dX9_cost_28 hQ ⟨rfl, rfl⟩
theorem dX9_lines_0 : decode cX9_lines 0 = .ok (.iload_n 1, 1) := by decide +kernel
theorem dX9_lines_1 : decode cX9_lines 1 = .ok (.invokestatic 231, 3) := by decide +kernel
theorem dX9_lines_4 : decode cX9_lines 4 = .ok (.ifCond .ne 5, 3) := by decide +kernel
theorem dX9_lines_7 : decode cX9_lines 7 = .ok (.iconst (-1), 1) := by decide +kernel
theorem dX9_lines_8 : decode cX9_lines 8 = .ok (.ireturn, 1) := by decide +kernel
theorem dX9_lines_9 : decode cX9_lines 9 = .ok (.aload_n 0, 1) := by decide +kernel
theorem dX9_lines_10 : decode cX9_lines 10 = .ok (.iload_n 1, 1) := by decide +kernel
theorem dX9_lines_11 : decode cX9_lines 11 = .ok (.invokevirtual 234, 3) := by decide +kernel
theorem dX9_lines_14 : decode cX9_lines 14 = .ok (.astore_n 3, 1) := by decide +kernel
theorem dX9_lines_15 : decode cX9_lines 15 = .ok (.iload_n 2, 1) := by decide +kernel
theorem dX9_lines_16 : decode cX9_lines 16 = .ok (.tableswitch 118 0 8 #[52, 57, 63, 75, 81, 88, 95, 102, 109], 52) := by decide +kernel
theorem dX9_lines_68 : decode cX9_lines 68 = .ok (.aload_n 3, 1) := by decide +kernel
theorem dX9_lines_69 : decode cX9_lines 69 = .ok (.getfield 238, 3) := by decide +kernel
theorem dX9_lines_72 : decode cX9_lines 72 = .ok (.ireturn, 1) := by decide +kernel
theorem dX9_lines_73 : decode cX9_lines 73 = .ok (.aload_n 3, 1) := by decide +kernel
theorem dX9_lines_74 : decode cX9_lines 74 = .ok (.iconst 2, 1) := by decide +kernel
theorem dX9_lines_75 : decode cX9_lines 75 = .ok (.invokevirtual 239, 3) := by decide +kernel
theorem dX9_lines_78 : decode cX9_lines 78 = .ok (.ireturn, 1) := by decide +kernel
theorem dX9_lines_79 : decode cX9_lines 79 = .ok (.aload_n 3, 1) := by decide +kernel
theorem dX9_lines_80 : decode cX9_lines 80 = .ok (.getfield 238, 3) := by decide +kernel
theorem dX9_lines_83 : decode cX9_lines 83 = .ok (.aload_n 3, 1) := by decide +kernel
theorem dX9_lines_84 : decode cX9_lines 84 = .ok (.bipush 9, 2) := by decide +kernel
theorem dX9_lines_86 : decode cX9_lines 86 = .ok (.invokevirtual 239, 3) := by decide +kernel
theorem dX9_lines_89 : decode cX9_lines 89 = .ok (.isub, 1) := by decide +kernel
theorem dX9_lines_90 : decode cX9_lines 90 = .ok (.ireturn, 1) := by decide +kernel
theorem dX9_lines_91 : decode cX9_lines 91 = .ok (.aload_n 3, 1) := by decide +kernel
theorem dX9_lines_92 : decode cX9_lines 92 = .ok (.iconst 5, 1) := by decide +kernel
theorem dX9_lines_93 : decode cX9_lines 93 = .ok (.invokevirtual 239, 3) := by decide +kernel
theorem dX9_lines_96 : decode cX9_lines 96 = .ok (.ireturn, 1) := by decide +kernel
theorem dX9_lines_97 : decode cX9_lines 97 = .ok (.aload_n 3, 1) := by decide +kernel
theorem dX9_lines_98 : decode cX9_lines 98 = .ok (.bipush 6, 2) := by decide +kernel
theorem dX9_lines_100 : decode cX9_lines 100 = .ok (.invokevirtual 239, 3) := by decide +kernel
theorem dX9_lines_103 : decode cX9_lines 103 = .ok (.ireturn, 1) := by decide +kernel
theorem dX9_lines_104 : decode cX9_lines 104 = .ok (.aload_n 3, 1) := by decide +kernel
theorem dX9_lines_105 : decode cX9_lines 105 = .ok (.bipush 7, 2) := by decide +kernel
theorem dX9_lines_107 : decode cX9_lines 107 = .ok (.invokevirtual 239, 3) := by decide +kernel
theorem dX9_lines_110 : decode cX9_lines 110 = .ok (.ireturn, 1) := by decide +kernel
theorem dX9_lines_111 : decode cX9_lines 111 = .ok (.aload_n 3, 1) := by decide +kernel
theorem dX9_lines_112 : decode cX9_lines 112 = .ok (.bipush 8, 2) := by decide +kernel
theorem dX9_lines_114 : decode cX9_lines 114 = .ok (.invokevirtual 239, 3) := by decide +kernel
theorem dX9_lines_117 : decode cX9_lines 117 = .ok (.ireturn, 1) := by decide +kernel
theorem dX9_lines_118 : decode cX9_lines 118 = .ok (.aload_n 3, 1) := by decide +kernel
theorem dX9_lines_119 : decode cX9_lines 119 = .ok (.bipush 10, 2) := by decide +kernel
theorem dX9_lines_121 : decode cX9_lines 121 = .ok (.invokevirtual 239, 3) := by decide +kernel
theorem dX9_lines_124 : decode cX9_lines 124 = .ok (.ireturn, 1) := by decide +kernel
theorem dX9_lines_125 : decode cX9_lines 125 = .ok (.aload_n 3, 1) := by decide +kernel
theorem dX9_lines_126 : decode cX9_lines 126 = .ok (.aload_n 0, 1) := by decide +kernel
theorem dX9_lines_127 : decode cX9_lines 127 = .ok (.getfield 34, 3) := by decide +kernel
theorem dX9_lines_130 : decode cX9_lines 130 = .ok (.invokevirtual 242, 3) := by decide +kernel
theorem dX9_lines_133 : decode cX9_lines 133 = .ok (.ireturn, 1) := by decide +kernel
theorem dX9_lines_134 : decode cX9_lines 134 = .ok (.iconst (-1), 1) := by decide +kernel
theorem dX9_lines_135 : decode cX9_lines 135 = .ok (.ireturn, 1) := by decide +kernel
theorem ok_X9_lines : okY RX9 yX9_lines 2 := ⟨rfl, by decide, by decide, by decide +kernel⟩
def f_X9_lines (aL : Nat → Nat) (L : OV) (P : OV) (R : OV) (N : OV) (oC : Nat) (C : OV) (oY : Nat) (Y : OV) (p0 : Int32) (p1 : Int32) : Option (Int32 × OV × OV × OV × OV) := (f_X9_isKind p0).bind (un1 (fun r_1 => (if r_1 = 0 then some ((-1 : Int32), L, R, N, Y) else (f_X9_layoutOf aL L P R N oC C oY Y p0).bind (un4 (fun L_3 R_4 N_5 Y_6 => (if p1 = 0 then some ((iv Y_6 6), L_3, R_4, N_5, Y_6) else (if p1 = 1 then (f_X3_sumOf Y_6 (2 : Int32)).bind (un1 (fun r_8 => some (r_8, L_3, R_4, N_5, Y_6))) else (if p1 = 2 then (f_X3_sumOf Y_6 (9 : Int32)).bind (un1 (fun r_10 => some (((iv Y_6 6) - r_10), L_3, R_4, N_5, Y_6))) else (if p1 = 3 then (f_X3_sumOf Y_6 (5 : Int32)).bind (un1 (fun r_12 => some (r_12, L_3, R_4, N_5, Y_6))) else (if p1 = 4 then (f_X3_sumOf Y_6 (6 : Int32)).bind (un1 (fun r_14 => some (r_14, L_3, R_4, N_5, Y_6))) else (if p1 = 5 then (f_X3_sumOf Y_6 (7 : Int32)).bind (un1 (fun r_16 => some (r_16, L_3, R_4, N_5, Y_6))) else (if p1 = 6 then (f_X3_sumOf Y_6 (8 : Int32)).bind (un1 (fun r_18 => some (r_18, L_3, R_4, N_5, Y_6))) else (if p1 = 7 then (f_X3_sumOf Y_6 (10 : Int32)).bind (un1 (fun r_20 => some (r_20, L_3, R_4, N_5, Y_6))) else (if p1 = 8 then (f_X3_breaksOf Y_6 P).bind (un1 (fun r_22 => some (r_22, L_3, R_4, N_5, Y_6))) else some ((-1 : Int32), L_3, R_4, N_5, Y_6)))))))))))))))
def r_X9_lines : Room := { frames := 6, cells := 0, slots := 0, locals := 147 }
set_option maxHeartbeats 4000000 in
set_option maxRecDepth 100000 in
theorem c_X9_lines (l : Launch) (D : va_G) (ev : EvT) (cy : Nat → ClassId) (oL : Nat) (aL : Nat → Nat) (L : OV) (aP : Nat → Nat) (P : OV) (aR : Nat → Nat) (R : OV) (aN : Nat → Nat) (N : OV) (oC : Nat) (aC : Nat → Nat) (C : OV) (oY : Nat) (aY : Nat → Nat) (Y : OV) (p0 : Int32) (p1 : Int32) (o : Int32 × OV × OV × OV × OV) (hf : f_X9_lines aL L P R N oC C oY Y p0 p1 = some o) : Fn l yX9_lines cX9_lines 4 (some .int) r_X9_lines D ev cy [.ref oL, .int p0, .int p1] [gX9 cy oL aL L, gX4 cy (aL 2) aP P, gX7 cy (aL 5) aR R, gX5 cy (aL 7) aN N, gX1 cy oC aC C, gX3 cy oY aY Y] (fun v G => v = some (.int o.1) ∧ G = [gX9 cy oL aL o.2.1, gX4 cy (aL 2) aP P, gX7 cy (aL 5) aR o.2.2.1, gX5 cy (aL 7) aN o.2.2.2.1, gX1 cy oC aC C, gX3 cy oY aY o.2.2.2.2]) := by
  refine Fn_of (by decide) (Nat.le_of_ble_eq_true rfl) (fun X A Q h hQ _ => ?_)
  unfold f_X9_lines at hf
  show ww X D A 4 Q 0 0 0 [(0, .ref oL), (1, .int p0), (2, .int p1)] [] [gX9 cy oL aL L, gX4 cy (aL 2) aP P, gX7 cy (aL 5) aR R, gX5 cy (aL 7) aN N, gX1 cy oC aC C, gX3 cy oY aY Y]
  refine ww_iload_n h dX9_lines_0 rfl 1 rfl 1 rfl ?_
  obtain ⟨r_1, hu2, hf⟩ := ob1 hf
  refine ww_cSi h (c_X9_isKind l D ev cy p0 _ hu2) ⟨w_851, w_849, w_850, w_101, ok_X9_isKind⟩ ⟨by decide, by decide⟩ ⟨by decide, by decide⟩ ⟨rfl, rfl⟩ [] rfl rfl (Nat.le_of_ble_eq_true rfl) dX9_lines_1 4 rfl (Gs' := [gX9 cy oL aL L, gX4 cy (aL 2) aP P, gX7 cy (aL 5) aR R, gX5 cy (aL 7) aN N, gX1 cy oC aC C, gX3 cy oY aY Y]) rfl ?_
  clear hu2
  refine ww_if_ne h dX9_lines_4 9 (by decide) 7 rfl (fun c => ?_) (fun c => ?_)
  · replace hf := ite_f c hf
    refine ww_aload_n h dX9_lines_9 rfl 0 rfl 10 rfl ?_
    refine ww_iload_n h dX9_lines_10 rfl 1 rfl 11 rfl ?_
    obtain ⟨L_3, R_4, N_5, Y_6, hu7, hf⟩ := ob4 hf
    refine ww_cVr h (c_X9_layoutOf l D ev cy oL aL L aP P aR R aN N oC aC C oY aY Y p0 _ hu7) ⟨w_855, w_852, w_854, w_21, w_101, ok_X9_layoutOf⟩ ⟨by decide, by decide⟩ ⟨by decide, by decide⟩ ⟨rfl, rfl⟩ [0, 0, 0, 0, 0, 0] rfl 0 rfl rfl rfl rfl (Nat.le_of_ble_eq_true rfl) dX9_lines_11 14 rfl (Gs' := [gX9 cy oL aL L_3, gX4 cy (aL 2) aP P, gX7 cy (aL 5) aR R_4, gX5 cy (aL 7) aN N_5, gX1 cy oC aC C, gX3 cy oY aY Y_6]) rfl ?_
    clear hu7
    refine ww_astore_n h dX9_lines_14 rfl (by decide) (lo' := [(3, .ref oY), (0, .ref oL), (1, .int p0), (2, .int p1)]) rfl 15 rfl ?_
    refine ww_iload_n h dX9_lines_15 rfl 3 rfl 16 rfl ?_
    by_cases c16_0 : p1 = 0
    · replace hf := ite_t c16_0 hf
      refine ww_tabIn h dX9_lines_16 (by rw [c16_0]; decide) (by rw [c16_0]; decide) (by rw [c16_0]; rfl) 68 (by decide) ?_
      refine ww_aload_n h dX9_lines_68 rfl 0 rfl 69 rfl ?_
      refine ww_get h inG3 rfl 5 rfl rfl 6 (by decide) w_371 rfl dX9_lines_69 72 rfl ?_
      obtain rfl := Option.some.inj hf
      exact ww_iret h dX9_lines_72 hQ ⟨rfl, rfl⟩
    · replace hf := ite_f c16_0 hf
      by_cases c16_1 : p1 = 1
      · replace hf := ite_t c16_1 hf
        refine ww_tabIn h dX9_lines_16 (by rw [c16_1]; decide) (by rw [c16_1]; decide) (by rw [c16_1]; rfl) 73 (by decide) ?_
        refine ww_aload_n h dX9_lines_73 rfl 0 rfl 74 rfl ?_
        refine ww_iconst (v := 2) h dX9_lines_74 (by decide) 75 rfl ?_
        obtain ⟨r_8, hu9, hf⟩ := ob1 hf
        refine ww_cVi h (c_X3_sumOf l D ev cy oY aY Y_6 (2 : Int32) _ hu9) ⟨w_935, w_932, w_933, w_934, w_109, ok_X3_sumOf⟩ ⟨by decide, by decide⟩ ⟨by decide, by decide⟩ ⟨rfl, rfl⟩ [5] rfl 0 rfl rfl rfl rfl (Nat.le_of_ble_eq_true rfl) dX9_lines_75 78 rfl (Gs' := [gX3 cy oY aY Y_6, gX9 cy oL aL L_3, gX4 cy (aL 2) aP P, gX7 cy (aL 5) aR R_4, gX5 cy (aL 7) aN N_5, gX1 cy oC aC C]) rfl ?_
        clear hu9
        refine ww_perm [1, 1, 1, 1, 1, 0] (Gs' := [gX9 cy oL aL L_3, gX4 cy (aL 2) aP P, gX7 cy (aL 5) aR R_4, gX5 cy (aL 7) aN N_5, gX1 cy oC aC C, gX3 cy oY aY Y_6]) rfl ?_
        obtain rfl := Option.some.inj hf
        exact ww_iret h dX9_lines_78 hQ ⟨rfl, rfl⟩
      · replace hf := ite_f c16_1 hf
        by_cases c16_2 : p1 = 2
        · replace hf := ite_t c16_2 hf
          refine ww_tabIn h dX9_lines_16 (by rw [c16_2]; decide) (by rw [c16_2]; decide) (by rw [c16_2]; rfl) 79 (by decide) ?_
          refine ww_aload_n h dX9_lines_79 rfl 0 rfl 80 rfl ?_
          refine ww_get h inG3 rfl 5 rfl rfl 6 (by decide) w_371 rfl dX9_lines_80 83 rfl ?_
          refine ww_aload_n h dX9_lines_83 rfl 0 rfl 84 rfl ?_
          refine ww_bipush (v := 9) h dX9_lines_84 (by decide) 86 rfl ?_
          obtain ⟨r_10, hu11, hf⟩ := ob1 hf
          refine ww_cVi h (c_X3_sumOf l D ev cy oY aY Y_6 (9 : Int32) _ hu11) ⟨w_935, w_932, w_933, w_934, w_109, ok_X3_sumOf⟩ ⟨by decide, by decide⟩ ⟨by decide, by decide⟩ ⟨rfl, rfl⟩ [5] rfl 0 rfl rfl rfl rfl (Nat.le_of_ble_eq_true rfl) dX9_lines_86 89 rfl (Gs' := [gX3 cy oY aY Y_6, gX9 cy oL aL L_3, gX4 cy (aL 2) aP P, gX7 cy (aL 5) aR R_4, gX5 cy (aL 7) aN N_5, gX1 cy oC aC C]) rfl ?_
          clear hu11
          refine ww_isub h dX9_lines_89 90 rfl ?_
          refine ww_perm [1, 1, 1, 1, 1, 0] (Gs' := [gX9 cy oL aL L_3, gX4 cy (aL 2) aP P, gX7 cy (aL 5) aR R_4, gX5 cy (aL 7) aN N_5, gX1 cy oC aC C, gX3 cy oY aY Y_6]) rfl ?_
          obtain rfl := Option.some.inj hf
          exact ww_iret h dX9_lines_90 hQ ⟨rfl, rfl⟩
        · replace hf := ite_f c16_2 hf
          by_cases c16_3 : p1 = 3
          · replace hf := ite_t c16_3 hf
            refine ww_tabIn h dX9_lines_16 (by rw [c16_3]; decide) (by rw [c16_3]; decide) (by rw [c16_3]; rfl) 91 (by decide) ?_
            refine ww_aload_n h dX9_lines_91 rfl 0 rfl 92 rfl ?_
            refine ww_iconst (v := 5) h dX9_lines_92 (by decide) 93 rfl ?_
            obtain ⟨r_12, hu13, hf⟩ := ob1 hf
            refine ww_cVi h (c_X3_sumOf l D ev cy oY aY Y_6 (5 : Int32) _ hu13) ⟨w_935, w_932, w_933, w_934, w_109, ok_X3_sumOf⟩ ⟨by decide, by decide⟩ ⟨by decide, by decide⟩ ⟨rfl, rfl⟩ [5] rfl 0 rfl rfl rfl rfl (Nat.le_of_ble_eq_true rfl) dX9_lines_93 96 rfl (Gs' := [gX3 cy oY aY Y_6, gX9 cy oL aL L_3, gX4 cy (aL 2) aP P, gX7 cy (aL 5) aR R_4, gX5 cy (aL 7) aN N_5, gX1 cy oC aC C]) rfl ?_
            clear hu13
            refine ww_perm [1, 1, 1, 1, 1, 0] (Gs' := [gX9 cy oL aL L_3, gX4 cy (aL 2) aP P, gX7 cy (aL 5) aR R_4, gX5 cy (aL 7) aN N_5, gX1 cy oC aC C, gX3 cy oY aY Y_6]) rfl ?_
            obtain rfl := Option.some.inj hf
            exact ww_iret h dX9_lines_96 hQ ⟨rfl, rfl⟩
          · replace hf := ite_f c16_3 hf
            by_cases c16_4 : p1 = 4
            · replace hf := ite_t c16_4 hf
              refine ww_tabIn h dX9_lines_16 (by rw [c16_4]; decide) (by rw [c16_4]; decide) (by rw [c16_4]; rfl) 97 (by decide) ?_
              refine ww_aload_n h dX9_lines_97 rfl 0 rfl 98 rfl ?_
              refine ww_bipush (v := 6) h dX9_lines_98 (by decide) 100 rfl ?_
              obtain ⟨r_14, hu15, hf⟩ := ob1 hf
              refine ww_cVi h (c_X3_sumOf l D ev cy oY aY Y_6 (6 : Int32) _ hu15) ⟨w_935, w_932, w_933, w_934, w_109, ok_X3_sumOf⟩ ⟨by decide, by decide⟩ ⟨by decide, by decide⟩ ⟨rfl, rfl⟩ [5] rfl 0 rfl rfl rfl rfl (Nat.le_of_ble_eq_true rfl) dX9_lines_100 103 rfl (Gs' := [gX3 cy oY aY Y_6, gX9 cy oL aL L_3, gX4 cy (aL 2) aP P, gX7 cy (aL 5) aR R_4, gX5 cy (aL 7) aN N_5, gX1 cy oC aC C]) rfl ?_
              clear hu15
              refine ww_perm [1, 1, 1, 1, 1, 0] (Gs' := [gX9 cy oL aL L_3, gX4 cy (aL 2) aP P, gX7 cy (aL 5) aR R_4, gX5 cy (aL 7) aN N_5, gX1 cy oC aC C, gX3 cy oY aY Y_6]) rfl ?_
              obtain rfl := Option.some.inj hf
              exact ww_iret h dX9_lines_103 hQ ⟨rfl, rfl⟩
            · replace hf := ite_f c16_4 hf
              by_cases c16_5 : p1 = 5
              · replace hf := ite_t c16_5 hf
                refine ww_tabIn h dX9_lines_16 (by rw [c16_5]; decide) (by rw [c16_5]; decide) (by rw [c16_5]; rfl) 104 (by decide) ?_
                refine ww_aload_n h dX9_lines_104 rfl 0 rfl 105 rfl ?_
                refine ww_bipush (v := 7) h dX9_lines_105 (by decide) 107 rfl ?_
                obtain ⟨r_16, hu17, hf⟩ := ob1 hf
                refine ww_cVi h (c_X3_sumOf l D ev cy oY aY Y_6 (7 : Int32) _ hu17) ⟨w_935, w_932, w_933, w_934, w_109, ok_X3_sumOf⟩ ⟨by decide, by decide⟩ ⟨by decide, by decide⟩ ⟨rfl, rfl⟩ [5] rfl 0 rfl rfl rfl rfl (Nat.le_of_ble_eq_true rfl) dX9_lines_107 110 rfl (Gs' := [gX3 cy oY aY Y_6, gX9 cy oL aL L_3, gX4 cy (aL 2) aP P, gX7 cy (aL 5) aR R_4, gX5 cy (aL 7) aN N_5, gX1 cy oC aC C]) rfl ?_
                clear hu17
                refine ww_perm [1, 1, 1, 1, 1, 0] (Gs' := [gX9 cy oL aL L_3, gX4 cy (aL 2) aP P, gX7 cy (aL 5) aR R_4, gX5 cy (aL 7) aN N_5, gX1 cy oC aC C, gX3 cy oY aY Y_6]) rfl ?_
                obtain rfl := Option.some.inj hf
                exact ww_iret h dX9_lines_110 hQ ⟨rfl, rfl⟩
              · replace hf := ite_f c16_5 hf
                by_cases c16_6 : p1 = 6
                · replace hf := ite_t c16_6 hf
                  refine ww_tabIn h dX9_lines_16 (by rw [c16_6]; decide) (by rw [c16_6]; decide) (by rw [c16_6]; rfl) 111 (by decide) ?_
                  refine ww_aload_n h dX9_lines_111 rfl 0 rfl 112 rfl ?_
                  refine ww_bipush (v := 8) h dX9_lines_112 (by decide) 114 rfl ?_
                  obtain ⟨r_18, hu19, hf⟩ := ob1 hf
                  refine ww_cVi h (c_X3_sumOf l D ev cy oY aY Y_6 (8 : Int32) _ hu19) ⟨w_935, w_932, w_933, w_934, w_109, ok_X3_sumOf⟩ ⟨by decide, by decide⟩ ⟨by decide, by decide⟩ ⟨rfl, rfl⟩ [5] rfl 0 rfl rfl rfl rfl (Nat.le_of_ble_eq_true rfl) dX9_lines_114 117 rfl (Gs' := [gX3 cy oY aY Y_6, gX9 cy oL aL L_3, gX4 cy (aL 2) aP P, gX7 cy (aL 5) aR R_4, gX5 cy (aL 7) aN N_5, gX1 cy oC aC C]) rfl ?_
                  clear hu19
                  refine ww_perm [1, 1, 1, 1, 1, 0] (Gs' := [gX9 cy oL aL L_3, gX4 cy (aL 2) aP P, gX7 cy (aL 5) aR R_4, gX5 cy (aL 7) aN N_5, gX1 cy oC aC C, gX3 cy oY aY Y_6]) rfl ?_
                  obtain rfl := Option.some.inj hf
                  exact ww_iret h dX9_lines_117 hQ ⟨rfl, rfl⟩
                · replace hf := ite_f c16_6 hf
                  by_cases c16_7 : p1 = 7
                  · replace hf := ite_t c16_7 hf
                    refine ww_tabIn h dX9_lines_16 (by rw [c16_7]; decide) (by rw [c16_7]; decide) (by rw [c16_7]; rfl) 118 (by decide) ?_
                    refine ww_aload_n h dX9_lines_118 rfl 0 rfl 119 rfl ?_
                    refine ww_bipush (v := 10) h dX9_lines_119 (by decide) 121 rfl ?_
                    obtain ⟨r_20, hu21, hf⟩ := ob1 hf
                    refine ww_cVi h (c_X3_sumOf l D ev cy oY aY Y_6 (10 : Int32) _ hu21) ⟨w_935, w_932, w_933, w_934, w_109, ok_X3_sumOf⟩ ⟨by decide, by decide⟩ ⟨by decide, by decide⟩ ⟨rfl, rfl⟩ [5] rfl 0 rfl rfl rfl rfl (Nat.le_of_ble_eq_true rfl) dX9_lines_121 124 rfl (Gs' := [gX3 cy oY aY Y_6, gX9 cy oL aL L_3, gX4 cy (aL 2) aP P, gX7 cy (aL 5) aR R_4, gX5 cy (aL 7) aN N_5, gX1 cy oC aC C]) rfl ?_
                    clear hu21
                    refine ww_perm [1, 1, 1, 1, 1, 0] (Gs' := [gX9 cy oL aL L_3, gX4 cy (aL 2) aP P, gX7 cy (aL 5) aR R_4, gX5 cy (aL 7) aN N_5, gX1 cy oC aC C, gX3 cy oY aY Y_6]) rfl ?_
                    obtain rfl := Option.some.inj hf
                    exact ww_iret h dX9_lines_124 hQ ⟨rfl, rfl⟩
                  · replace hf := ite_f c16_7 hf
                    by_cases c16_8 : p1 = 8
                    · replace hf := ite_t c16_8 hf
                      refine ww_tabIn h dX9_lines_16 (by rw [c16_8]; decide) (by rw [c16_8]; decide) (by rw [c16_8]; rfl) 125 (by decide) ?_
                      refine ww_aload_n h dX9_lines_125 rfl 0 rfl 126 rfl ?_
                      refine ww_aload_n h dX9_lines_126 rfl 1 rfl 127 rfl ?_
                      refine ww_get h inG9 rfl 0 rfl rfl 2 (by decide) w_415 rfl dX9_lines_127 130 rfl ?_
                      obtain ⟨r_22, hu23, hf⟩ := ob1 hf
                      refine ww_cVi h (c_X3_breaksOf l D ev cy oY aY Y_6 (aL 2) aP P _ hu23) ⟨w_939, w_936, w_937, w_938, w_109, ok_X3_breaksOf⟩ ⟨by decide, by decide⟩ ⟨by decide, by decide⟩ ⟨rfl, rfl⟩ [5, 1] rfl 0 rfl rfl rfl rfl (Nat.le_of_ble_eq_true rfl) dX9_lines_130 133 rfl (Gs' := [gX3 cy oY aY Y_6, gX4 cy (aL 2) aP P, gX9 cy oL aL L_3, gX7 cy (aL 5) aR R_4, gX5 cy (aL 7) aN N_5, gX1 cy oC aC C]) rfl ?_
                      clear hu23
                      refine ww_perm [2, 1, 1, 1, 1, 0] (Gs' := [gX9 cy oL aL L_3, gX4 cy (aL 2) aP P, gX7 cy (aL 5) aR R_4, gX5 cy (aL 7) aN N_5, gX1 cy oC aC C, gX3 cy oY aY Y_6]) rfl ?_
                      obtain rfl := Option.some.inj hf
                      exact ww_iret h dX9_lines_133 hQ ⟨rfl, rfl⟩
                    · replace hf := ite_f c16_8 hf
                      refine ww_tabOut h dX9_lines_16 (by have z0 := ne_int c16_0 0 (by decide); have z1 := ne_int c16_1 1 (by decide); have z2 := ne_int c16_2 2 (by decide); have z3 := ne_int c16_3 3 (by decide); have z4 := ne_int c16_4 4 (by decide); have z5 := ne_int c16_5 5 (by decide); have z6 := ne_int c16_6 6 (by decide); have z7 := ne_int c16_7 7 (by decide); have z8 := ne_int c16_8 8 (by decide); omega) 134 (by decide) ?_
                      refine ww_iconst (v := (-1)) h dX9_lines_134 (by decide) 135 rfl ?_
                      obtain rfl := Option.some.inj hf
                      exact ww_iret h dX9_lines_135 hQ ⟨rfl, rfl⟩
  · replace hf := ite_t c hf
    refine ww_iconst (v := (-1)) h dX9_lines_7 (by decide) 8 rfl ?_
    obtain rfl := Option.some.inj hf
    exact ww_iret h dX9_lines_8 hQ ⟨rfl, rfl⟩
theorem dX9_line_0 : decode cX9_line 0 = .ok (.iload_n 3, 1) := by decide +kernel
theorem dX9_line_1 : decode cX9_line 1 = .ok (.ifCond .lt 9, 3) := by decide +kernel
theorem dX9_line_4 : decode cX9_line 4 = .ok (.iload_n 3, 1) := by decide +kernel
theorem dX9_line_5 : decode cX9_line 5 = .ok (.bipush 11, 2) := by decide +kernel
theorem dX9_line_7 : decode cX9_line 7 = .ok (.if_icmp .lt 5, 3) := by decide +kernel
theorem dX9_line_10 : decode cX9_line 10 = .ok (.iconst (-1), 1) := by decide +kernel
theorem dX9_line_11 : decode cX9_line 11 = .ok (.ireturn, 1) := by decide +kernel
theorem dX9_line_12 : decode cX9_line 12 = .ok (.aload_n 0, 1) := by decide +kernel
theorem dX9_line_13 : decode cX9_line 13 = .ok (.iload_n 1, 1) := by decide +kernel
theorem dX9_line_14 : decode cX9_line 14 = .ok (.iload_n 2, 1) := by decide +kernel
theorem dX9_line_15 : decode cX9_line 15 = .ok (.invokevirtual 246, 3) := by decide +kernel
theorem dX9_line_18 : decode cX9_line 18 = .ok (.ifCond .ne 15, 3) := by decide +kernel
theorem dX9_line_21 : decode cX9_line 21 = .ok (.iload_n 3, 1) := by decide +kernel
theorem dX9_line_22 : decode cX9_line 22 = .ok (.iconst 4, 1) := by decide +kernel
theorem dX9_line_23 : decode cX9_line 23 = .ok (.if_icmp .ne 8, 3) := by decide +kernel
theorem dX9_line_26 : decode cX9_line 26 = .ok (.bipush (-100), 2) := by decide +kernel
theorem dX9_line_28 : decode cX9_line 28 = .ok (.goto 4, 3) := by decide +kernel
theorem dX9_line_31 : decode cX9_line 31 = .ok (.iconst (-1), 1) := by decide +kernel
theorem dX9_line_32 : decode cX9_line 32 = .ok (.ireturn, 1) := by decide +kernel
theorem dX9_line_33 : decode cX9_line 33 = .ok (.aload_n 0, 1) := by decide +kernel
theorem dX9_line_34 : decode cX9_line 34 = .ok (.iload_n 1, 1) := by decide +kernel
theorem dX9_line_35 : decode cX9_line 35 = .ok (.invokevirtual 234, 3) := by decide +kernel
theorem dX9_line_38 : decode cX9_line 38 = .ok (.getfield 249, 3) := by decide +kernel
theorem dX9_line_41 : decode cX9_line 41 = .ok (.iload_n 3, 1) := by decide +kernel
theorem dX9_line_42 : decode cX9_line 42 = .ok (.aaload, 1) := by decide +kernel
theorem dX9_line_43 : decode cX9_line 43 = .ok (.iload_n 2, 1) := by decide +kernel
theorem dX9_line_44 : decode cX9_line 44 = .ok (.iaload, 1) := by decide +kernel
theorem dX9_line_45 : decode cX9_line 45 = .ok (.ireturn, 1) := by decide +kernel
theorem ok_X9_line : okY RX9 yX9_line 3 := ⟨rfl, by decide, by decide, by decide +kernel⟩
def f_X9_line (aL : Nat → Nat) (L : OV) (P : OV) (R : OV) (N : OV) (oC : Nat) (C : OV) (oY : Nat) (Y : OV) (p0 : Int32) (p1 : Int32) (p2 : Int32) : Option (Int32 × OV × OV × OV × OV) := (if p2 < 0 then some ((-1 : Int32), L, R, N, Y) else (if p2 < (11 : Int32) then (f_X9_hasLine aL L P R N oC C oY Y p0 p1).bind (un5 (fun r_1 L_2 R_3 N_4 Y_5 => (if r_1 = 0 then (if p2 = (4 : Int32) then some ((-100 : Int32), L_2, R_3, N_4, Y_5) else some ((-1 : Int32), L_2, R_3, N_4, Y_5)) else (f_X9_layoutOf aL L_2 P R_3 N_4 oC C oY Y_5 p0).bind (un4 (fun L_7 R_8 N_9 Y_10 => gd (ix p2 11) (gd (ix p1 40) (some ((gr Y_10 0 p2.toNatClampNeg p1.toNatClampNeg), L_7, R_8, N_9, Y_10)))))))) else some ((-1 : Int32), L, R, N, Y)))
def r_X9_line : Room := { frames := 7, cells := 0, slots := 0, locals := 169 }
set_option maxHeartbeats 4000000 in
set_option maxRecDepth 100000 in
theorem c_X9_line (l : Launch) (D : va_G) (ev : EvT) (cy : Nat → ClassId) (oL : Nat) (aL : Nat → Nat) (L : OV) (aP : Nat → Nat) (P : OV) (aR : Nat → Nat) (R : OV) (aN : Nat → Nat) (N : OV) (oC : Nat) (aC : Nat → Nat) (C : OV) (oY : Nat) (aY : Nat → Nat) (Y : OV) (p0 : Int32) (p1 : Int32) (p2 : Int32) (o : Int32 × OV × OV × OV × OV) (hf : f_X9_line aL L P R N oC C oY Y p0 p1 p2 = some o) : Fn l yX9_line cX9_line 4 (some .int) r_X9_line D ev cy [.ref oL, .int p0, .int p1, .int p2] [gX9 cy oL aL L, gX4 cy (aL 2) aP P, gX7 cy (aL 5) aR R, gX5 cy (aL 7) aN N, gX1 cy oC aC C, gX3 cy oY aY Y] (fun v G => v = some (.int o.1) ∧ G = [gX9 cy oL aL o.2.1, gX4 cy (aL 2) aP P, gX7 cy (aL 5) aR o.2.2.1, gX5 cy (aL 7) aN o.2.2.2.1, gX1 cy oC aC C, gX3 cy oY aY o.2.2.2.2]) := by
  refine Fn_of (by decide) (Nat.le_of_ble_eq_true rfl) (fun X A Q h hQ _ => ?_)
  unfold f_X9_line at hf
  show ww X D A 4 Q 0 0 0 [(0, .ref oL), (1, .int p0), (2, .int p1), (3, .int p2)] [] [gX9 cy oL aL L, gX4 cy (aL 2) aP P, gX7 cy (aL 5) aR R, gX5 cy (aL 7) aN N, gX1 cy oC aC C, gX3 cy oY aY Y]
  refine ww_iload_n h dX9_line_0 rfl 3 rfl 1 rfl ?_
  refine ww_if_lt h dX9_line_1 10 (by decide) 4 rfl (fun c => ?_) (fun c => ?_)
  · replace hf := ite_t c hf
    refine ww_iconst (v := (-1)) h dX9_line_10 (by decide) 11 rfl ?_
    obtain rfl := Option.some.inj hf
    exact ww_iret h dX9_line_11 hQ ⟨rfl, rfl⟩
  · replace hf := ite_f c hf
    refine ww_iload_n h dX9_line_4 rfl 3 rfl 5 rfl ?_
    refine ww_bipush (v := 11) h dX9_line_5 (by decide) 7 rfl ?_
    refine ww_icmp_lt h dX9_line_7 12 (by decide) 10 rfl (fun c => ?_) (fun c => ?_)
    · replace hf := ite_t c hf
      refine ww_aload_n h dX9_line_12 rfl 0 rfl 13 rfl ?_
      refine ww_iload_n h dX9_line_13 rfl 1 rfl 14 rfl ?_
      refine ww_iload_n h dX9_line_14 rfl 2 rfl 15 rfl ?_
      obtain ⟨r_1, L_2, R_3, N_4, Y_5, hu6, hf⟩ := ob5 hf
      refine ww_cVi h (c_X9_hasLine l D ev cy oL aL L aP P aR R aN N oC aC C oY aY Y p0 p1 _ hu6) ⟨w_947, w_944, w_946, w_29, w_101, ok_X9_hasLine⟩ ⟨by decide, by decide⟩ ⟨by decide, by decide⟩ ⟨rfl, rfl⟩ [0, 0, 0, 0, 0, 0] rfl 0 rfl rfl rfl rfl (Nat.le_of_ble_eq_true rfl) dX9_line_15 18 rfl (Gs' := [gX9 cy oL aL L_2, gX4 cy (aL 2) aP P, gX7 cy (aL 5) aR R_3, gX5 cy (aL 7) aN N_4, gX1 cy oC aC C, gX3 cy oY aY Y_5]) rfl ?_
      clear hu6
      refine ww_if_ne h dX9_line_18 33 (by decide) 21 rfl (fun c => ?_) (fun c => ?_)
      · replace hf := ite_f c hf
        refine ww_aload_n h dX9_line_33 rfl 0 rfl 34 rfl ?_
        refine ww_iload_n h dX9_line_34 rfl 1 rfl 35 rfl ?_
        obtain ⟨L_7, R_8, N_9, Y_10, hu11, hf⟩ := ob4 hf
        refine ww_cVr h (c_X9_layoutOf l D ev cy oL aL L_2 aP P aR R_3 aN N_4 oC aC C oY aY Y_5 p0 _ hu11) ⟨w_855, w_852, w_854, w_21, w_101, ok_X9_layoutOf⟩ ⟨by decide, by decide⟩ ⟨by decide, by decide⟩ ⟨rfl, rfl⟩ [0, 0, 0, 0, 0, 0] rfl 0 rfl rfl rfl rfl (Nat.le_of_ble_eq_true rfl) dX9_line_35 38 rfl (Gs' := [gX9 cy oL aL L_7, gX4 cy (aL 2) aP P, gX7 cy (aL 5) aR R_8, gX5 cy (aL 7) aN N_9, gX1 cy oC aC C, gX3 cy oY aY Y_10]) rfl ?_
        clear hu11
        refine ww_get h inG3 rfl 5 rfl rfl 0 (by decide) w_362 rfl dX9_line_38 41 rfl ?_
        refine ww_iload_n h dX9_line_41 rfl 3 rfl 42 rfl ?_
        have hi := (gd_some hf).1
        replace hf := (gd_some hf).2
        have hj12 := ix_lt hi
        refine ww_aaldR h 5 rfl 1 rfl 4 rfl rfl (ix_in hi) dX9_line_42 43 rfl ?_
        clear hi
        refine ww_iload_n h dX9_line_43 rfl 2 rfl 44 rfl ?_
        have hi := (gd_some hf).1
        replace hf := (gd_some hf).2
        refine ww_iald h 5 rfl (7 + p2.toNatClampNeg) (gX3_row0 hj12) (ix_in hi) dX9_line_44 45 rfl ?_
        clear hi
        obtain rfl := Option.some.inj hf
        exact ww_iret h dX9_line_45 hQ ⟨rfl, rfl⟩
      · replace hf := ite_t c hf
        refine ww_iload_n h dX9_line_21 rfl 3 rfl 22 rfl ?_
        refine ww_iconst (v := 4) h dX9_line_22 (by decide) 23 rfl ?_
        refine ww_icmp_ne h dX9_line_23 31 (by decide) 26 rfl (fun c => ?_) (fun c => ?_)
        · replace hf := ite_f c hf
          refine ww_iconst (v := (-1)) h dX9_line_31 (by decide) 32 rfl ?_
          obtain rfl := Option.some.inj hf
          exact ww_iret h dX9_line_32 hQ ⟨rfl, rfl⟩
        · replace hf := ite_t c hf
          refine ww_bipush (v := (-100)) h dX9_line_26 (by decide) 28 rfl ?_
          refine ww_goto h dX9_line_28 32 (by decide) ?_
          obtain rfl := Option.some.inj hf
          exact ww_iret h dX9_line_32 hQ ⟨rfl, rfl⟩
    · replace hf := ite_f c hf
      refine ww_iconst (v := (-1)) h dX9_line_10 (by decide) 11 rfl ?_
      obtain rfl := Option.some.inj hf
      exact ww_iret h dX9_line_11 hQ ⟨rfl, rfl⟩
theorem dX9_lineOf_0 : decode cX9_lineOf 0 = .ok (.iload_n 1, 1) := by decide +kernel
theorem dX9_lineOf_1 : decode cX9_lineOf 1 = .ok (.invokestatic 231, 3) := by decide +kernel
theorem dX9_lineOf_4 : decode cX9_lineOf 4 = .ok (.ifCond .eq 14, 3) := by decide +kernel
theorem dX9_lineOf_7 : decode cX9_lineOf 7 = .ok (.aload_n 0, 1) := by decide +kernel
theorem dX9_lineOf_8 : decode cX9_lineOf 8 = .ok (.getfield 34, 3) := by decide +kernel
theorem dX9_lineOf_11 : decode cX9_lineOf 11 = .ok (.iload_n 2, 1) := by decide +kernel
theorem dX9_lineOf_12 : decode cX9_lineOf 12 = .ok (.invokevirtual 140, 3) := by decide +kernel
theorem dX9_lineOf_15 : decode cX9_lineOf 15 = .ok (.ifCond .ne 5, 3) := by decide +kernel
theorem dX9_lineOf_18 : decode cX9_lineOf 18 = .ok (.iconst (-1), 1) := by decide +kernel
theorem dX9_lineOf_19 : decode cX9_lineOf 19 = .ok (.ireturn, 1) := by decide +kernel
theorem dX9_lineOf_20 : decode cX9_lineOf 20 = .ok (.aload_n 0, 1) := by decide +kernel
theorem dX9_lineOf_21 : decode cX9_lineOf 21 = .ok (.iload_n 1, 1) := by decide +kernel
theorem dX9_lineOf_22 : decode cX9_lineOf 22 = .ok (.invokevirtual 234, 3) := by decide +kernel
theorem dX9_lineOf_25 : decode cX9_lineOf 25 = .ok (.iload_n 2, 1) := by decide +kernel
theorem dX9_lineOf_26 : decode cX9_lineOf 26 = .ok (.invokevirtual 250, 3) := by decide +kernel
theorem dX9_lineOf_29 : decode cX9_lineOf 29 = .ok (.ireturn, 1) := by decide +kernel
theorem ok_X9_lineOf : okY RX9 yX9_lineOf 2 := ⟨rfl, by decide, by decide, by decide +kernel⟩
def f_X9_lineOf (aL : Nat → Nat) (L : OV) (P : OV) (R : OV) (N : OV) (oC : Nat) (C : OV) (oY : Nat) (Y : OV) (p0 : Int32) (p1 : Int32) : Option (Int32 × OV × OV × OV × OV) := (f_X9_isKind p0).bind (un1 (fun r_1 => (if r_1 = 0 then some ((-1 : Int32), L, R, N, Y) else (f_X4_has P p1).bind (un1 (fun r_3 => (if r_3 = 0 then some ((-1 : Int32), L, R, N, Y) else (f_X9_layoutOf aL L P R N oC C oY Y p0).bind (un4 (fun L_5 R_6 N_7 Y_8 => (f_X3_lineWith Y_8 p1).bind (un1 (fun r_10 => some (r_10, L_5, R_6, N_7, Y_8)))))))))))
def r_X9_lineOf : Room := { frames := 6, cells := 0, slots := 0, locals := 147 }
set_option maxHeartbeats 4000000 in
set_option maxRecDepth 100000 in
theorem c_X9_lineOf (l : Launch) (D : va_G) (ev : EvT) (cy : Nat → ClassId) (oL : Nat) (aL : Nat → Nat) (L : OV) (aP : Nat → Nat) (P : OV) (aR : Nat → Nat) (R : OV) (aN : Nat → Nat) (N : OV) (oC : Nat) (aC : Nat → Nat) (C : OV) (oY : Nat) (aY : Nat → Nat) (Y : OV) (p0 : Int32) (p1 : Int32) (o : Int32 × OV × OV × OV × OV) (hf : f_X9_lineOf aL L P R N oC C oY Y p0 p1 = some o) : Fn l yX9_lineOf cX9_lineOf 3 (some .int) r_X9_lineOf D ev cy [.ref oL, .int p0, .int p1] [gX9 cy oL aL L, gX4 cy (aL 2) aP P, gX7 cy (aL 5) aR R, gX5 cy (aL 7) aN N, gX1 cy oC aC C, gX3 cy oY aY Y] (fun v G => v = some (.int o.1) ∧ G = [gX9 cy oL aL o.2.1, gX4 cy (aL 2) aP P, gX7 cy (aL 5) aR o.2.2.1, gX5 cy (aL 7) aN o.2.2.2.1, gX1 cy oC aC C, gX3 cy oY aY o.2.2.2.2]) := by
  refine Fn_of (by decide) (Nat.le_of_ble_eq_true rfl) (fun X A Q h hQ _ => ?_)
  unfold f_X9_lineOf at hf
  show ww X D A 3 Q 0 0 0 [(0, .ref oL), (1, .int p0), (2, .int p1)] [] [gX9 cy oL aL L, gX4 cy (aL 2) aP P, gX7 cy (aL 5) aR R, gX5 cy (aL 7) aN N, gX1 cy oC aC C, gX3 cy oY aY Y]
  refine ww_iload_n h dX9_lineOf_0 rfl 1 rfl 1 rfl ?_
  obtain ⟨r_1, hu2, hf⟩ := ob1 hf
  refine ww_cSi h (c_X9_isKind l D ev cy p0 _ hu2) ⟨w_851, w_849, w_850, w_101, ok_X9_isKind⟩ ⟨by decide, by decide⟩ ⟨by decide, by decide⟩ ⟨rfl, rfl⟩ [] rfl rfl (Nat.le_of_ble_eq_true rfl) dX9_lineOf_1 4 rfl (Gs' := [gX9 cy oL aL L, gX4 cy (aL 2) aP P, gX7 cy (aL 5) aR R, gX5 cy (aL 7) aN N, gX1 cy oC aC C, gX3 cy oY aY Y]) rfl ?_
  clear hu2
  refine ww_if_eq h dX9_lineOf_4 18 (by decide) 7 rfl (fun c => ?_) (fun c => ?_)
  · replace hf := ite_t c hf
    refine ww_iconst (v := (-1)) h dX9_lineOf_18 (by decide) 19 rfl ?_
    obtain rfl := Option.some.inj hf
    exact ww_iret h dX9_lineOf_19 hQ ⟨rfl, rfl⟩
  · replace hf := ite_f c hf
    refine ww_aload_n h dX9_lineOf_7 rfl 0 rfl 8 rfl ?_
    refine ww_get h inG9 rfl 0 rfl rfl 2 (by decide) w_415 rfl dX9_lineOf_8 11 rfl ?_
    refine ww_iload_n h dX9_lineOf_11 rfl 2 rfl 12 rfl ?_
    obtain ⟨r_3, hu4, hf⟩ := ob1 hf
    refine ww_cVi h (c_X4_has l D ev cy (aL 2) aP P p1 _ hu4) ⟨w_694, w_704, w_692, w_693, w_105, ok_X4_has⟩ ⟨by decide, by decide⟩ ⟨by decide, by decide⟩ ⟨rfl, rfl⟩ [1] rfl 0 rfl rfl rfl rfl (Nat.le_of_ble_eq_true rfl) dX9_lineOf_12 15 rfl (Gs' := [gX4 cy (aL 2) aP P, gX9 cy oL aL L, gX7 cy (aL 5) aR R, gX5 cy (aL 7) aN N, gX1 cy oC aC C, gX3 cy oY aY Y]) rfl ?_
    clear hu4
    refine ww_if_ne h dX9_lineOf_15 20 (by decide) 18 rfl (fun c => ?_) (fun c => ?_)
    · replace hf := ite_f c hf
      refine ww_aload_n h dX9_lineOf_20 rfl 0 rfl 21 rfl ?_
      refine ww_iload_n h dX9_lineOf_21 rfl 1 rfl 22 rfl ?_
      obtain ⟨L_5, R_6, N_7, Y_8, hu9, hf⟩ := ob4 hf
      refine ww_cVr h (c_X9_layoutOf l D ev cy oL aL L aP P aR R aN N oC aC C oY aY Y p0 _ hu9) ⟨w_855, w_852, w_854, w_21, w_101, ok_X9_layoutOf⟩ ⟨by decide, by decide⟩ ⟨by decide, by decide⟩ ⟨rfl, rfl⟩ [1, 0, 0, 0, 0, 0] rfl 0 rfl rfl rfl rfl (Nat.le_of_ble_eq_true rfl) dX9_lineOf_22 25 rfl (Gs' := [gX9 cy oL aL L_5, gX4 cy (aL 2) aP P, gX7 cy (aL 5) aR R_6, gX5 cy (aL 7) aN N_7, gX1 cy oC aC C, gX3 cy oY aY Y_8]) rfl ?_
      clear hu9
      refine ww_iload_n h dX9_lineOf_25 rfl 2 rfl 26 rfl ?_
      obtain ⟨r_10, hu11, hf⟩ := ob1 hf
      refine ww_cVi h (c_X3_lineWith l D ev cy oY aY Y_8 p1 _ hu11) ⟨w_955, w_952, w_953, w_954, w_109, ok_X3_lineWith⟩ ⟨by decide, by decide⟩ ⟨by decide, by decide⟩ ⟨rfl, rfl⟩ [5] rfl 0 rfl rfl rfl rfl (Nat.le_of_ble_eq_true rfl) dX9_lineOf_26 29 rfl (Gs' := [gX3 cy oY aY Y_8, gX9 cy oL aL L_5, gX4 cy (aL 2) aP P, gX7 cy (aL 5) aR R_6, gX5 cy (aL 7) aN N_7, gX1 cy oC aC C]) rfl ?_
      clear hu11
      refine ww_perm [1, 1, 1, 1, 1, 0] (Gs' := [gX9 cy oL aL L_5, gX4 cy (aL 2) aP P, gX7 cy (aL 5) aR R_6, gX5 cy (aL 7) aN N_7, gX1 cy oC aC C, gX3 cy oY aY Y_8]) rfl ?_
      obtain rfl := Option.some.inj hf
      exact ww_iret h dX9_lineOf_29 hQ ⟨rfl, rfl⟩
    · replace hf := ite_t c hf
      refine ww_iconst (v := (-1)) h dX9_lineOf_18 (by decide) 19 rfl ?_
      refine ww_perm [1, 0, 0, 0, 0, 0] (Gs' := [gX9 cy oL aL L, gX4 cy (aL 2) aP P, gX7 cy (aL 5) aR R, gX5 cy (aL 7) aN N, gX1 cy oC aC C, gX3 cy oY aY Y]) rfl ?_
      obtain rfl := Option.some.inj hf
      exact ww_iret h dX9_lineOf_19 hQ ⟨rfl, rfl⟩
theorem dX9_place_0 : decode cX9_place 0 = .ok (.iload_n 1, 1) := by decide +kernel
theorem dX9_place_1 : decode cX9_place 1 = .ok (.invokestatic 231, 3) := by decide +kernel
theorem dX9_place_4 : decode cX9_place 4 = .ok (.ifCond .eq 14, 3) := by decide +kernel
theorem dX9_place_7 : decode cX9_place 7 = .ok (.aload_n 0, 1) := by decide +kernel
theorem dX9_place_8 : decode cX9_place 8 = .ok (.getfield 34, 3) := by decide +kernel
theorem dX9_place_11 : decode cX9_place 11 = .ok (.iload_n 2, 1) := by decide +kernel
theorem dX9_place_12 : decode cX9_place 12 = .ok (.invokevirtual 140, 3) := by decide +kernel
theorem dX9_place_15 : decode cX9_place 15 = .ok (.ifCond .ne 5, 3) := by decide +kernel
theorem dX9_place_18 : decode cX9_place 18 = .ok (.iconst (-1), 1) := by decide +kernel
theorem dX9_place_19 : decode cX9_place 19 = .ok (.ireturn, 1) := by decide +kernel
theorem dX9_place_20 : decode cX9_place 20 = .ok (.aload_n 0, 1) := by decide +kernel
theorem dX9_place_21 : decode cX9_place 21 = .ok (.iload_n 1, 1) := by decide +kernel
theorem dX9_place_22 : decode cX9_place 22 = .ok (.invokevirtual 234, 3) := by decide +kernel
theorem dX9_place_25 : decode cX9_place 25 = .ok (.astore 4, 2) := by decide +kernel
theorem dX9_place_27 : decode cX9_place 27 = .ok (.iload_n 3, 1) := by decide +kernel
theorem dX9_place_28 : decode cX9_place 28 = .ok (.tableswitch 55 0 2 #[28, 39, 47], 28) := by decide +kernel
theorem dX9_place_56 : decode cX9_place 56 = .ok (.aload 4, 2) := by decide +kernel
theorem dX9_place_58 : decode cX9_place 58 = .ok (.aload_n 0, 1) := by decide +kernel
theorem dX9_place_59 : decode cX9_place 59 = .ok (.invokevirtual 215, 3) := by decide +kernel
theorem dX9_place_62 : decode cX9_place 62 = .ok (.iload_n 2, 1) := by decide +kernel
theorem dX9_place_63 : decode cX9_place 63 = .ok (.invokevirtual 253, 3) := by decide +kernel
theorem dX9_place_66 : decode cX9_place 66 = .ok (.ireturn, 1) := by decide +kernel
theorem dX9_place_67 : decode cX9_place 67 = .ok (.aload 4, 2) := by decide +kernel
theorem dX9_place_69 : decode cX9_place 69 = .ok (.getfield 257, 3) := by decide +kernel
theorem dX9_place_72 : decode cX9_place 72 = .ok (.iload_n 2, 1) := by decide +kernel
theorem dX9_place_73 : decode cX9_place 73 = .ok (.iaload, 1) := by decide +kernel
theorem dX9_place_74 : decode cX9_place 74 = .ok (.ireturn, 1) := by decide +kernel
theorem dX9_place_75 : decode cX9_place 75 = .ok (.aload 4, 2) := by decide +kernel
theorem dX9_place_77 : decode cX9_place 77 = .ok (.getfield 260, 3) := by decide +kernel
theorem dX9_place_80 : decode cX9_place 80 = .ok (.iload_n 2, 1) := by decide +kernel
theorem dX9_place_81 : decode cX9_place 81 = .ok (.iaload, 1) := by decide +kernel
theorem dX9_place_82 : decode cX9_place 82 = .ok (.ireturn, 1) := by decide +kernel
theorem dX9_place_83 : decode cX9_place 83 = .ok (.iconst (-1), 1) := by decide +kernel
theorem dX9_place_84 : decode cX9_place 84 = .ok (.ireturn, 1) := by decide +kernel
theorem ok_X9_place : okY RX9 yX9_place 3 := ⟨rfl, by decide, by decide, by decide +kernel⟩
def f_X9_place (aL : Nat → Nat) (L : OV) (P : OV) (R : OV) (N : OV) (oC : Nat) (C : OV) (oY : Nat) (Y : OV) (p0 : Int32) (p1 : Int32) (p2 : Int32) : Option (Int32 × OV × OV × OV × OV) := (f_X9_isKind p0).bind (un1 (fun r_1 => (if r_1 = 0 then some ((-1 : Int32), L, R, N, Y) else (f_X4_has P p1).bind (un1 (fun r_3 => (if r_3 = 0 then some ((-1 : Int32), L, R, N, Y) else (f_X9_layoutOf aL L P R N oC C oY Y p0).bind (un4 (fun L_5 R_6 N_7 Y_8 => (if p2 = 0 then (f_X9_currentRuler aL L_5 P R_6 oC C).bind (un2 (fun L_10 R_11 => (f_X3_leftEdge Y_8 R_11 oC C (aL 2) P p1).bind (un1 (fun r_13 => some (r_13, L_10, R_11, N_7, Y_8))))) else (if p2 = 1 then gd (ix p1 40) (some ((ar Y_8 1 p1.toNatClampNeg), L_5, R_6, N_7, Y_8)) else (if p2 = 2 then gd (ix p1 40) (some ((ar Y_8 2 p1.toNatClampNeg), L_5, R_6, N_7, Y_8)) else some ((-1 : Int32), L_5, R_6, N_7, Y_8))))))))))))
def r_X9_place : Room := { frames := 6, cells := 0, slots := 0, locals := 147 }
set_option maxHeartbeats 4000000 in
set_option maxRecDepth 100000 in
theorem c_X9_place (l : Launch) (D : va_G) (ev : EvT) (cy : Nat → ClassId) (oL : Nat) (aL : Nat → Nat) (L : OV) (aP : Nat → Nat) (P : OV) (aR : Nat → Nat) (R : OV) (aN : Nat → Nat) (N : OV) (oC : Nat) (aC : Nat → Nat) (C : OV) (oY : Nat) (aY : Nat → Nat) (Y : OV) (p0 : Int32) (p1 : Int32) (p2 : Int32) (o : Int32 × OV × OV × OV × OV) (hf : f_X9_place aL L P R N oC C oY Y p0 p1 p2 = some o) : Fn l yX9_place cX9_place 5 (some .int) r_X9_place D ev cy [.ref oL, .int p0, .int p1, .int p2] [gX9 cy oL aL L, gX4 cy (aL 2) aP P, gX7 cy (aL 5) aR R, gX5 cy (aL 7) aN N, gX1 cy oC aC C, gX3 cy oY aY Y] (fun v G => v = some (.int o.1) ∧ G = [gX9 cy oL aL o.2.1, gX4 cy (aL 2) aP P, gX7 cy (aL 5) aR o.2.2.1, gX5 cy (aL 7) aN o.2.2.2.1, gX1 cy oC aC C, gX3 cy oY aY o.2.2.2.2]) := by
  refine Fn_of (by decide) (Nat.le_of_ble_eq_true rfl) (fun X A Q h hQ _ => ?_)
  unfold f_X9_place at hf
  show ww X D A 5 Q 0 0 0 [(0, .ref oL), (1, .int p0), (2, .int p1), (3, .int p2)] [] [gX9 cy oL aL L, gX4 cy (aL 2) aP P, gX7 cy (aL 5) aR R, gX5 cy (aL 7) aN N, gX1 cy oC aC C, gX3 cy oY aY Y]
  refine ww_iload_n h dX9_place_0 rfl 1 rfl 1 rfl ?_
  obtain ⟨r_1, hu2, hf⟩ := ob1 hf
  refine ww_cSi h (c_X9_isKind l D ev cy p0 _ hu2) ⟨w_851, w_849, w_850, w_101, ok_X9_isKind⟩ ⟨by decide, by decide⟩ ⟨by decide, by decide⟩ ⟨rfl, rfl⟩ [] rfl rfl (Nat.le_of_ble_eq_true rfl) dX9_place_1 4 rfl (Gs' := [gX9 cy oL aL L, gX4 cy (aL 2) aP P, gX7 cy (aL 5) aR R, gX5 cy (aL 7) aN N, gX1 cy oC aC C, gX3 cy oY aY Y]) rfl ?_
  clear hu2
  refine ww_if_eq h dX9_place_4 18 (by decide) 7 rfl (fun c => ?_) (fun c => ?_)
  · replace hf := ite_t c hf
    refine ww_iconst (v := (-1)) h dX9_place_18 (by decide) 19 rfl ?_
    obtain rfl := Option.some.inj hf
    exact ww_iret h dX9_place_19 hQ ⟨rfl, rfl⟩
  · replace hf := ite_f c hf
    refine ww_aload_n h dX9_place_7 rfl 0 rfl 8 rfl ?_
    refine ww_get h inG9 rfl 0 rfl rfl 2 (by decide) w_415 rfl dX9_place_8 11 rfl ?_
    refine ww_iload_n h dX9_place_11 rfl 2 rfl 12 rfl ?_
    obtain ⟨r_3, hu4, hf⟩ := ob1 hf
    refine ww_cVi h (c_X4_has l D ev cy (aL 2) aP P p1 _ hu4) ⟨w_694, w_704, w_692, w_693, w_105, ok_X4_has⟩ ⟨by decide, by decide⟩ ⟨by decide, by decide⟩ ⟨rfl, rfl⟩ [1] rfl 0 rfl rfl rfl rfl (Nat.le_of_ble_eq_true rfl) dX9_place_12 15 rfl (Gs' := [gX4 cy (aL 2) aP P, gX9 cy oL aL L, gX7 cy (aL 5) aR R, gX5 cy (aL 7) aN N, gX1 cy oC aC C, gX3 cy oY aY Y]) rfl ?_
    clear hu4
    refine ww_if_ne h dX9_place_15 20 (by decide) 18 rfl (fun c => ?_) (fun c => ?_)
    · replace hf := ite_f c hf
      refine ww_aload_n h dX9_place_20 rfl 0 rfl 21 rfl ?_
      refine ww_iload_n h dX9_place_21 rfl 1 rfl 22 rfl ?_
      obtain ⟨L_5, R_6, N_7, Y_8, hu9, hf⟩ := ob4 hf
      refine ww_cVr h (c_X9_layoutOf l D ev cy oL aL L aP P aR R aN N oC aC C oY aY Y p0 _ hu9) ⟨w_855, w_852, w_854, w_21, w_101, ok_X9_layoutOf⟩ ⟨by decide, by decide⟩ ⟨by decide, by decide⟩ ⟨rfl, rfl⟩ [1, 0, 0, 0, 0, 0] rfl 0 rfl rfl rfl rfl (Nat.le_of_ble_eq_true rfl) dX9_place_22 25 rfl (Gs' := [gX9 cy oL aL L_5, gX4 cy (aL 2) aP P, gX7 cy (aL 5) aR R_6, gX5 cy (aL 7) aN N_7, gX1 cy oC aC C, gX3 cy oY aY Y_8]) rfl ?_
      clear hu9
      refine ww_astore h dX9_place_25 (by decide) (lo' := [(4, .ref oY), (0, .ref oL), (1, .int p0), (2, .int p1), (3, .int p2)]) rfl 27 rfl ?_
      refine ww_iload_n h dX9_place_27 rfl 4 rfl 28 rfl ?_
      by_cases c28_0 : p2 = 0
      · replace hf := ite_t c28_0 hf
        refine ww_tabIn h dX9_place_28 (by rw [c28_0]; decide) (by rw [c28_0]; decide) (by rw [c28_0]; rfl) 56 (by decide) ?_
        refine ww_aload h dX9_place_56 0 rfl 58 rfl ?_
        refine ww_aload_n h dX9_place_58 rfl 1 rfl 59 rfl ?_
        obtain ⟨L_10, R_11, hu12, hf⟩ := ob2 hf
        refine ww_cVr h (c_X9_currentRuler l D ev cy oL aL L_5 aP P aR R_6 oC aC C _ hu12) ⟨w_809, w_806, w_808, w_17, w_101, ok_X9_currentRuler⟩ ⟨by decide, by decide⟩ ⟨by decide, by decide⟩ ⟨rfl, rfl⟩ [0, 0, 0, 1] rfl 0 rfl rfl rfl rfl (Nat.le_of_ble_eq_true rfl) dX9_place_59 62 rfl (Gs' := [gX9 cy oL aL L_10, gX4 cy (aL 2) aP P, gX7 cy (aL 5) aR R_11, gX1 cy oC aC C, gX5 cy (aL 7) aN N_7, gX3 cy oY aY Y_8]) rfl ?_
        clear hu12
        refine ww_iload_n h dX9_place_62 rfl 3 rfl 63 rfl ?_
        obtain ⟨r_13, hu14, hf⟩ := ob1 hf
        refine ww_cVi h (c_X3_leftEdge l D ev cy oY aY Y_8 (aL 5) aR R_11 oC aC C (aL 2) aP P p1 _ hu14) ⟨w_963, w_960, w_961, w_962, w_109, ok_X3_leftEdge⟩ ⟨by decide, by decide⟩ ⟨by decide, by decide⟩ ⟨rfl, rfl⟩ [5, 2, 2, 1] rfl 0 rfl rfl rfl rfl (Nat.le_of_ble_eq_true rfl) dX9_place_63 66 rfl (Gs' := [gX3 cy oY aY Y_8, gX7 cy (aL 5) aR R_11, gX1 cy oC aC C, gX4 cy (aL 2) aP P, gX9 cy oL aL L_10, gX5 cy (aL 7) aN N_7]) rfl ?_
        clear hu14
        refine ww_perm [4, 3, 1, 2, 1, 0] (Gs' := [gX9 cy oL aL L_10, gX4 cy (aL 2) aP P, gX7 cy (aL 5) aR R_11, gX5 cy (aL 7) aN N_7, gX1 cy oC aC C, gX3 cy oY aY Y_8]) rfl ?_
        obtain rfl := Option.some.inj hf
        exact ww_iret h dX9_place_66 hQ ⟨rfl, rfl⟩
      · replace hf := ite_f c28_0 hf
        by_cases c28_1 : p2 = 1
        · replace hf := ite_t c28_1 hf
          refine ww_tabIn h dX9_place_28 (by rw [c28_1]; decide) (by rw [c28_1]; decide) (by rw [c28_1]; rfl) 67 (by decide) ?_
          refine ww_aload h dX9_place_67 0 rfl 69 rfl ?_
          refine ww_get h inG3 rfl 5 rfl rfl 1 (by decide) w_364 rfl dX9_place_69 72 rfl ?_
          refine ww_iload_n h dX9_place_72 rfl 3 rfl 73 rfl ?_
          have hi := (gd_some hf).1
          replace hf := (gd_some hf).2
          refine ww_iald h 5 rfl 2 rfl (ix_in hi) dX9_place_73 74 rfl ?_
          clear hi
          obtain rfl := Option.some.inj hf
          exact ww_iret h dX9_place_74 hQ ⟨rfl, rfl⟩
        · replace hf := ite_f c28_1 hf
          by_cases c28_2 : p2 = 2
          · replace hf := ite_t c28_2 hf
            refine ww_tabIn h dX9_place_28 (by rw [c28_2]; decide) (by rw [c28_2]; decide) (by rw [c28_2]; rfl) 75 (by decide) ?_
            refine ww_aload h dX9_place_75 0 rfl 77 rfl ?_
            refine ww_get h inG3 rfl 5 rfl rfl 2 (by decide) w_366 rfl dX9_place_77 80 rfl ?_
            refine ww_iload_n h dX9_place_80 rfl 3 rfl 81 rfl ?_
            have hi := (gd_some hf).1
            replace hf := (gd_some hf).2
            refine ww_iald h 5 rfl 3 rfl (ix_in hi) dX9_place_81 82 rfl ?_
            clear hi
            obtain rfl := Option.some.inj hf
            exact ww_iret h dX9_place_82 hQ ⟨rfl, rfl⟩
          · replace hf := ite_f c28_2 hf
            refine ww_tabOut h dX9_place_28 (by have z0 := ne_int c28_0 0 (by decide); have z1 := ne_int c28_1 1 (by decide); have z2 := ne_int c28_2 2 (by decide); omega) 83 (by decide) ?_
            refine ww_iconst (v := (-1)) h dX9_place_83 (by decide) 84 rfl ?_
            obtain rfl := Option.some.inj hf
            exact ww_iret h dX9_place_84 hQ ⟨rfl, rfl⟩
    · replace hf := ite_t c hf
      refine ww_iconst (v := (-1)) h dX9_place_18 (by decide) 19 rfl ?_
      refine ww_perm [1, 0, 0, 0, 0, 0] (Gs' := [gX9 cy oL aL L, gX4 cy (aL 2) aP P, gX7 cy (aL 5) aR R, gX5 cy (aL 7) aN N, gX1 cy oC aC C, gX3 cy oY aY Y]) rfl ?_
      obtain rfl := Option.some.inj hf
      exact ww_iret h dX9_place_19 hQ ⟨rfl, rfl⟩
theorem dX9_at_0 : decode cX9_at 0 = .ok (.iload_n 3, 1) := by decide +kernel
theorem dX9_at_1 : decode cX9_at 1 = .ok (.ifCond .lt 12, 3) := by decide +kernel
theorem dX9_at_4 : decode cX9_at 4 = .ok (.aload_n 0, 1) := by decide +kernel
theorem dX9_at_5 : decode cX9_at 5 = .ok (.iload_n 1, 1) := by decide +kernel
theorem dX9_at_6 : decode cX9_at 6 = .ok (.iload_n 2, 1) := by decide +kernel
theorem dX9_at_7 : decode cX9_at 7 = .ok (.invokevirtual 246, 3) := by decide +kernel
theorem dX9_at_10 : decode cX9_at 10 = .ok (.ifCond .ne 5, 3) := by decide +kernel
theorem dX9_at_13 : decode cX9_at 13 = .ok (.iconst (-1), 1) := by decide +kernel
theorem dX9_at_14 : decode cX9_at 14 = .ok (.ireturn, 1) := by decide +kernel
theorem dX9_at_15 : decode cX9_at 15 = .ok (.aload_n 0, 1) := by decide +kernel
theorem dX9_at_16 : decode cX9_at 16 = .ok (.iload_n 1, 1) := by decide +kernel
theorem dX9_at_17 : decode cX9_at 17 = .ok (.invokevirtual 234, 3) := by decide +kernel
theorem dX9_at_20 : decode cX9_at 20 = .ok (.astore 4, 2) := by decide +kernel
theorem dX9_at_22 : decode cX9_at 22 = .ok (.aload 4, 2) := by decide +kernel
theorem dX9_at_24 : decode cX9_at 24 = .ok (.getfield 249, 3) := by decide +kernel
theorem dX9_at_27 : decode cX9_at 27 = .ok (.iconst 1, 1) := by decide +kernel
theorem dX9_at_28 : decode cX9_at 28 = .ok (.aaload, 1) := by decide +kernel
theorem dX9_at_29 : decode cX9_at 29 = .ok (.iload_n 2, 1) := by decide +kernel
theorem dX9_at_30 : decode cX9_at 30 = .ok (.iaload, 1) := by decide +kernel
theorem dX9_at_31 : decode cX9_at 31 = .ok (.istore 5, 2) := by decide +kernel
theorem dX9_at_33 : decode cX9_at 33 = .ok (.iconst 0, 1) := by decide +kernel
theorem dX9_at_34 : decode cX9_at 34 = .ok (.istore 6, 2) := by decide +kernel
theorem dX9_at_36 : decode cX9_at 36 = .ok (.aload 4, 2) := by decide +kernel
theorem dX9_at_38 : decode cX9_at 38 = .ok (.getfield 249, 3) := by decide +kernel
theorem dX9_at_41 : decode cX9_at 41 = .ok (.iconst 0, 1) := by decide +kernel
theorem dX9_at_42 : decode cX9_at 42 = .ok (.aaload, 1) := by decide +kernel
theorem dX9_at_43 : decode cX9_at 43 = .ok (.iload_n 2, 1) := by decide +kernel
theorem dX9_at_44 : decode cX9_at 44 = .ok (.iaload, 1) := by decide +kernel
theorem dX9_at_45 : decode cX9_at 45 = .ok (.istore 7, 2) := by decide +kernel
theorem dX9_at_47 : decode cX9_at 47 = .ok (.iload 7, 2) := by decide +kernel
theorem dX9_at_49 : decode cX9_at 49 = .ok (.iload 5, 2) := by decide +kernel
theorem dX9_at_51 : decode cX9_at 51 = .ok (.if_icmp .gt 66, 3) := by decide +kernel
theorem dX9_at_54 : decode cX9_at 54 = .ok (.iload 6, 2) := by decide +kernel
theorem dX9_at_56 : decode cX9_at 56 = .ok (.aload 4, 2) := by decide +kernel
theorem dX9_at_58 : decode cX9_at 58 = .ok (.aload_n 0, 1) := by decide +kernel
theorem dX9_at_59 : decode cX9_at 59 = .ok (.invokevirtual 215, 3) := by decide +kernel
theorem dX9_at_62 : decode cX9_at 62 = .ok (.iload 7, 2) := by decide +kernel
theorem dX9_at_64 : decode cX9_at 64 = .ok (.invokevirtual 263, 3) := by decide +kernel
theorem dX9_at_67 : decode cX9_at 67 = .ok (.iadd, 1) := by decide +kernel
theorem dX9_at_68 : decode cX9_at 68 = .ok (.istore 6, 2) := by decide +kernel
theorem dX9_at_70 : decode cX9_at 70 = .ok (.iload 7, 2) := by decide +kernel
theorem dX9_at_72 : decode cX9_at 72 = .ok (.iload 5, 2) := by decide +kernel
theorem dX9_at_74 : decode cX9_at 74 = .ok (.if_icmp .ne 28, 3) := by decide +kernel
theorem dX9_at_77 : decode cX9_at 77 = .ok (.iload 6, 2) := by decide +kernel
theorem dX9_at_79 : decode cX9_at 79 = .ok (.aload_n 0, 1) := by decide +kernel
theorem dX9_at_80 : decode cX9_at 80 = .ok (.getfield 24, 3) := by decide +kernel
theorem dX9_at_83 : decode cX9_at 83 = .ok (.getfield 200, 3) := by decide +kernel
theorem dX9_at_86 : decode cX9_at 86 = .ok (.iconst 4, 1) := by decide +kernel
theorem dX9_at_87 : decode cX9_at 87 = .ok (.aaload, 1) := by decide +kernel
theorem dX9_at_88 : decode cX9_at 88 = .ok (.aload_n 0, 1) := by decide +kernel
theorem dX9_at_89 : decode cX9_at 89 = .ok (.getfield 34, 3) := by decide +kernel
theorem dX9_at_92 : decode cX9_at 92 = .ok (.getfield 141, 3) := by decide +kernel
theorem dX9_at_95 : decode cX9_at 95 = .ok (.iload 7, 2) := by decide +kernel
theorem dX9_at_97 : decode cX9_at 97 = .ok (.iaload, 1) := by decide +kernel
theorem dX9_at_98 : decode cX9_at 98 = .ok (.iaload, 1) := by decide +kernel
theorem dX9_at_99 : decode cX9_at 99 = .ok (.isub, 1) := by decide +kernel
theorem dX9_at_100 : decode cX9_at 100 = .ok (.istore 6, 2) := by decide +kernel
theorem dX9_at_102 : decode cX9_at 102 = .ok (.iload_n 3, 1) := by decide +kernel
theorem dX9_at_103 : decode cX9_at 103 = .ok (.iload 6, 2) := by decide +kernel
theorem dX9_at_105 : decode cX9_at 105 = .ok (.if_icmp .ge 6, 3) := by decide +kernel
theorem dX9_at_108 : decode cX9_at 108 = .ok (.iload 7, 2) := by decide +kernel
theorem dX9_at_110 : decode cX9_at 110 = .ok (.ireturn, 1) := by decide +kernel
theorem dX9_at_111 : decode cX9_at 111 = .ok (.iinc 7 1, 3) := by decide +kernel
theorem dX9_at_114 : decode cX9_at 114 = .ok (.goto (-67), 3) := by decide +kernel
theorem dX9_at_117 : decode cX9_at 117 = .ok (.bipush (-2), 2) := by decide +kernel
theorem dX9_at_119 : decode cX9_at 119 = .ok (.ireturn, 1) := by decide +kernel
theorem ok_X9_at : okY RX9 yX9_at 3 := ⟨rfl, by decide, by decide, by decide +kernel⟩
def j_X9_at_102_29 (N_9 : OV) (Y_10 : OV) (L_22 : OV) (R_23 : OV) (p2 : Int32) (v7_19 : Int32) (v6_28 : Int32) : Option ((Int32 × Int32 × OV × OV) ⊕ ((OV × OV) ⊕ (Int32 × OV × OV × OV × OV))) := (if v6_28 ≤ p2 then bnd (v7_19 + 1) (fun v7_30 => some (.inl (v6_28, v7_30, L_22, R_23))) else some (.inr (.inr (v7_19, L_22, R_23, N_9, Y_10))))
def s_X9_at_47_17 (oC : Nat) (aL : Nat → Nat) (P : OV) (C : OV) (N_9 : OV) (Y_10 : OV) (p2 : Int32) (v5_13 : Int32) : (Int32 × Int32 × OV × OV) → Option ((Int32 × Int32 × OV × OV) ⊕ ((OV × OV) ⊕ (Int32 × OV × OV × OV × OV))) := un4 (fun v6_18 v7_19 L_20 R_21 => (if v5_13 < v7_19 then some (.inr (.inl (L_20, R_21))) else (f_X9_currentRuler aL L_20 P R_21 oC C).bind (un2 (fun L_22 R_23 => (f_X3_advanceOf Y_10 R_23 oC C (aL 2) P v7_19).bind (un1 (fun r_25 => bnd (v6_18 + r_25) (fun v6_27 => (if v7_19 = v5_13 then gd (decide (nv L_22 10 = oC)) (gd (ix (4 : Int32) 9) (gd (ix v7_19 40) (gd (ix (ar P 0 v7_19.toNatClampNeg) 26) (bnd (v6_27 - (gr C 0 (4 : Int32).toNatClampNeg (ar P 0 v7_19.toNatClampNeg).toNatClampNeg)) (fun v6_32 => j_X9_at_102_29 N_9 Y_10 L_22 R_23 p2 v7_19 v6_32))))) else j_X9_at_102_29 N_9 Y_10 L_22 R_23 p2 v7_19 v6_27))))))))
def f_X9_at (aL : Nat → Nat) (L : OV) (P : OV) (R : OV) (N : OV) (oC : Nat) (C : OV) (oY : Nat) (Y : OV) (p0 : Int32) (p1 : Int32) (p2 : Int32) : Option (Int32 × OV × OV × OV × OV) := (if p2 < 0 then some ((-1 : Int32), L, R, N, Y) else (f_X9_hasLine aL L P R N oC C oY Y p0 p1).bind (un5 (fun r_1 L_2 R_3 N_4 Y_5 => (if r_1 = 0 then some ((-1 : Int32), L_2, R_3, N_4, Y_5) else (f_X9_layoutOf aL L_2 P R_3 N_4 oC C oY Y_5 p0).bind (un4 (fun L_7 R_8 N_9 Y_10 => gd (ix (1 : Int32) 11) (gd (ix p1 40) (bnd (gr Y_10 0 (1 : Int32).toNatClampNeg p1.toNatClampNeg) (fun v5_13 => bnd (0 : Int32) (fun v6_14 => gd (ix (0 : Int32) 11) (gd (ix p1 40) (bnd (gr Y_10 0 (0 : Int32).toNatClampNeg p1.toNatClampNeg) (fun v7_16 => ((lp (s_X9_at_47_17 oC aL P C N_9 Y_10 p2 v5_13) 5000 (v6_14, v7_16, L_7, R_8)).bind (Sum.elim (un2 (fun L_33 R_34 => some ((-2 : Int32), L_33, R_34, N_9, Y_10))) (fun r => some r))))))))))))))))
def r_X9_at : Room := { frames := 7, cells := 0, slots := 0, locals := 169 }
set_option maxHeartbeats 4000000 in
set_option maxRecDepth 100000 in
theorem c_X9_at (l : Launch) (D : va_G) (ev : EvT) (cy : Nat → ClassId) (oL : Nat) (aL : Nat → Nat) (L : OV) (aP : Nat → Nat) (P : OV) (aR : Nat → Nat) (R : OV) (aN : Nat → Nat) (N : OV) (oC : Nat) (aC : Nat → Nat) (C : OV) (oY : Nat) (aY : Nat → Nat) (Y : OV) (p0 : Int32) (p1 : Int32) (p2 : Int32) (o : Int32 × OV × OV × OV × OV) (hf : f_X9_at aL L P R N oC C oY Y p0 p1 p2 = some o) : Fn l yX9_at cX9_at 8 (some .int) r_X9_at D ev cy [.ref oL, .int p0, .int p1, .int p2] [gX9 cy oL aL L, gX4 cy (aL 2) aP P, gX7 cy (aL 5) aR R, gX5 cy (aL 7) aN N, gX1 cy oC aC C, gX3 cy oY aY Y] (fun v G => v = some (.int o.1) ∧ G = [gX9 cy oL aL o.2.1, gX4 cy (aL 2) aP P, gX7 cy (aL 5) aR o.2.2.1, gX5 cy (aL 7) aN o.2.2.2.1, gX1 cy oC aC C, gX3 cy oY aY o.2.2.2.2]) := by
  refine Fn_of (by decide) (Nat.le_of_ble_eq_true rfl) (fun X A Q h hQ _ => ?_)
  unfold f_X9_at at hf
  show ww X D A 8 Q 0 0 0 [(0, .ref oL), (1, .int p0), (2, .int p1), (3, .int p2)] [] [gX9 cy oL aL L, gX4 cy (aL 2) aP P, gX7 cy (aL 5) aR R, gX5 cy (aL 7) aN N, gX1 cy oC aC C, gX3 cy oY aY Y]
  refine ww_iload_n h dX9_at_0 rfl 3 rfl 1 rfl ?_
  refine ww_if_lt h dX9_at_1 13 (by decide) 4 rfl (fun c => ?_) (fun c => ?_)
  · replace hf := ite_t c hf
    refine ww_iconst (v := (-1)) h dX9_at_13 (by decide) 14 rfl ?_
    obtain rfl := Option.some.inj hf
    exact ww_iret h dX9_at_14 hQ ⟨rfl, rfl⟩
  · replace hf := ite_f c hf
    refine ww_aload_n h dX9_at_4 rfl 0 rfl 5 rfl ?_
    refine ww_iload_n h dX9_at_5 rfl 1 rfl 6 rfl ?_
    refine ww_iload_n h dX9_at_6 rfl 2 rfl 7 rfl ?_
    obtain ⟨r_1, L_2, R_3, N_4, Y_5, hu6, hf⟩ := ob5 hf
    refine ww_cVi h (c_X9_hasLine l D ev cy oL aL L aP P aR R aN N oC aC C oY aY Y p0 p1 _ hu6) ⟨w_947, w_944, w_946, w_29, w_101, ok_X9_hasLine⟩ ⟨by decide, by decide⟩ ⟨by decide, by decide⟩ ⟨rfl, rfl⟩ [0, 0, 0, 0, 0, 0] rfl 0 rfl rfl rfl rfl (Nat.le_of_ble_eq_true rfl) dX9_at_7 10 rfl (Gs' := [gX9 cy oL aL L_2, gX4 cy (aL 2) aP P, gX7 cy (aL 5) aR R_3, gX5 cy (aL 7) aN N_4, gX1 cy oC aC C, gX3 cy oY aY Y_5]) rfl ?_
    clear hu6
    refine ww_if_ne h dX9_at_10 15 (by decide) 13 rfl (fun c => ?_) (fun c => ?_)
    · replace hf := ite_f c hf
      refine ww_aload_n h dX9_at_15 rfl 0 rfl 16 rfl ?_
      refine ww_iload_n h dX9_at_16 rfl 1 rfl 17 rfl ?_
      obtain ⟨L_7, R_8, N_9, Y_10, hu11, hf⟩ := ob4 hf
      refine ww_cVr h (c_X9_layoutOf l D ev cy oL aL L_2 aP P aR R_3 aN N_4 oC aC C oY aY Y_5 p0 _ hu11) ⟨w_855, w_852, w_854, w_21, w_101, ok_X9_layoutOf⟩ ⟨by decide, by decide⟩ ⟨by decide, by decide⟩ ⟨rfl, rfl⟩ [0, 0, 0, 0, 0, 0] rfl 0 rfl rfl rfl rfl (Nat.le_of_ble_eq_true rfl) dX9_at_17 20 rfl (Gs' := [gX9 cy oL aL L_7, gX4 cy (aL 2) aP P, gX7 cy (aL 5) aR R_8, gX5 cy (aL 7) aN N_9, gX1 cy oC aC C, gX3 cy oY aY Y_10]) rfl ?_
      clear hu11
      refine ww_astore h dX9_at_20 (by decide) (lo' := [(4, .ref oY), (0, .ref oL), (1, .int p0), (2, .int p1), (3, .int p2)]) rfl 22 rfl ?_
      refine ww_aload h dX9_at_22 0 rfl 24 rfl ?_
      refine ww_get h inG3 rfl 5 rfl rfl 0 (by decide) w_362 rfl dX9_at_24 27 rfl ?_
      refine ww_iconst (v := 1) h dX9_at_27 (by decide) 28 rfl ?_
      have hi := (gd_some hf).1
      replace hf := (gd_some hf).2
      have hj12 := ix_lt hi
      refine ww_aaldR h 5 rfl 1 rfl 4 rfl rfl (ix_in hi) dX9_at_28 29 rfl ?_
      clear hi
      refine ww_iload_n h dX9_at_29 rfl 3 rfl 30 rfl ?_
      have hi := (gd_some hf).1
      replace hf := (gd_some hf).2
      refine ww_iald h 5 rfl (7 + (1 : Int32).toNatClampNeg) (gX3_row0 hj12) (ix_in hi) dX9_at_30 31 rfl ?_
      clear hi
      refine ww_ist h dX9_at_31 (by decide) (fun v5_13 => [(5, .int v5_13), (4, .ref oY), (0, .ref oL), (1, .int p0), (2, .int p1), (3, .int p2)]) (fun _ => rfl) 33 rfl (fun v5_13 e => ?_)
      replace hf := bnd_at e hf
      clear e
      refine ww_iconst (v := 0) h dX9_at_33 (by decide) 34 rfl ?_
      refine ww_ist h dX9_at_34 (by decide) (fun v6_14 => [(6, .int v6_14), (5, .int v5_13), (4, .ref oY), (0, .ref oL), (1, .int p0), (2, .int p1), (3, .int p2)]) (fun _ => rfl) 36 rfl (fun v6_14 e => ?_)
      replace hf := bnd_at e hf
      clear e
      refine ww_aload h dX9_at_36 2 rfl 38 rfl ?_
      refine ww_get h inG3 rfl 5 rfl rfl 0 (by decide) w_362 rfl dX9_at_38 41 rfl ?_
      refine ww_iconst (v := 0) h dX9_at_41 (by decide) 42 rfl ?_
      have hi := (gd_some hf).1
      replace hf := (gd_some hf).2
      have hj15 := ix_lt hi
      refine ww_aaldR h 5 rfl 1 rfl 4 rfl rfl (ix_in hi) dX9_at_42 43 rfl ?_
      clear hi
      refine ww_iload_n h dX9_at_43 rfl 5 rfl 44 rfl ?_
      have hi := (gd_some hf).1
      replace hf := (gd_some hf).2
      refine ww_iald h 5 rfl (7 + (0 : Int32).toNatClampNeg) (gX3_row0 hj15) (ix_in hi) dX9_at_44 45 rfl ?_
      clear hi
      refine ww_ist h dX9_at_45 (by decide) (fun v7_16 => [(7, .int v7_16), (6, .int v6_14), (5, .int v5_13), (4, .ref oY), (0, .ref oL), (1, .int p0), (2, .int p1), (3, .int p2)]) (fun _ => rfl) 47 rfl (fun v7_16 e => ?_)
      replace hf := bnd_at e hf
      clear e
      refine ww_lo [4, 7, 3, 2, 1, 0] (lo' := [(0, .ref oL), (3, .int p2), (4, .ref oY), (5, .int v5_13), (6, .int v6_14), (7, .int v7_16)]) rfl ?_
      obtain ⟨x17, h17, hf⟩ := ob_some hf
      refine lp_walk (un4 (fun v6_18 v7_19 L_20 R_21 => ww X D A 8 Q 0 0 47 [(0, .ref oL), (3, .int p2), (4, .ref oY), (5, .int v5_13), (6, .int v6_18), (7, .int v7_19)] [] [gX9 cy oL aL L_20, gX4 cy (aL 2) aP P, gX7 cy (aL 5) aR R_21, gX5 cy (aL 7) aN N_9, gX1 cy oC aC C, gX3 cy oY aY Y_10])) (Sum.elim (un2 (fun L_33 R_34 => ww X D A 8 Q 0 0 117 [] [] [gX9 cy oL aL L_33, gX4 cy (aL 2) aP P, gX7 cy (aL 5) aR R_34, gX5 cy (aL 7) aN N_9, gX1 cy oC aC C, gX3 cy oY aY Y_10])) (fun r => r = o)) ?_ _ _ _ h17 ?_
      · clear h17 hf
        intro s17 o17 hf hI17 hE17
        obtain ⟨v6_18, v7_19, L_20, R_21⟩ := s17
        unfold s_X9_at_47_17 at hf
        replace hf := un4_e hf
        show ww X D A 8 Q 0 0 47 [(0, .ref oL), (3, .int p2), (4, .ref oY), (5, .int v5_13), (6, .int v6_18), (7, .int v7_19)] [] [gX9 cy oL aL L_20, gX4 cy (aL 2) aP P, gX7 cy (aL 5) aR R_21, gX5 cy (aL 7) aN N_9, gX1 cy oC aC C, gX3 cy oY aY Y_10]
        refine ww_iload h dX9_at_47 5 rfl 49 rfl ?_
        refine ww_iload h dX9_at_49 3 rfl 51 rfl ?_
        refine ww_icmp_gt h dX9_at_51 117 (by decide) 54 rfl (fun c => ?_) (fun c => ?_)
        · replace hf := ite_t c hf
          refine ww_lo [] (lo' := []) rfl ?_
          exact hE17 (.inl (L_20, R_21)) (Option.some.inj hf).symm
        · replace hf := ite_f c hf
          refine ww_iload h dX9_at_54 4 rfl 56 rfl ?_
          refine ww_aload h dX9_at_56 2 rfl 58 rfl ?_
          refine ww_aload_n h dX9_at_58 rfl 0 rfl 59 rfl ?_
          obtain ⟨L_22, R_23, hu24, hf⟩ := ob2 hf
          refine ww_cVr h (c_X9_currentRuler l D ev cy oL aL L_20 aP P aR R_21 oC aC C _ hu24) ⟨w_809, w_806, w_808, w_17, w_101, ok_X9_currentRuler⟩ ⟨by decide, by decide⟩ ⟨by decide, by decide⟩ ⟨rfl, rfl⟩ [0, 0, 0, 1] rfl 0 rfl rfl rfl rfl (Nat.le_of_ble_eq_true rfl) dX9_at_59 62 rfl (Gs' := [gX9 cy oL aL L_22, gX4 cy (aL 2) aP P, gX7 cy (aL 5) aR R_23, gX1 cy oC aC C, gX5 cy (aL 7) aN N_9, gX3 cy oY aY Y_10]) rfl ?_
          clear hu24
          refine ww_iload h dX9_at_62 5 rfl 64 rfl ?_
          obtain ⟨r_25, hu26, hf⟩ := ob1 hf
          refine ww_cVi h (c_X3_advanceOf l D ev cy oY aY Y_10 (aL 5) aR R_23 oC aC C (aL 2) aP P v7_19 _ hu26) ⟨w_968, w_973, w_966, w_967, w_109, ok_X3_advanceOf⟩ ⟨by decide, by decide⟩ ⟨by decide, by decide⟩ ⟨rfl, rfl⟩ [5, 2, 2, 1] rfl 0 rfl rfl rfl rfl (Nat.le_of_ble_eq_true rfl) dX9_at_64 67 rfl (Gs' := [gX3 cy oY aY Y_10, gX7 cy (aL 5) aR R_23, gX1 cy oC aC C, gX4 cy (aL 2) aP P, gX9 cy oL aL L_22, gX5 cy (aL 7) aN N_9]) rfl ?_
          clear hu26
          refine ww_iadd h dX9_at_67 68 rfl ?_
          refine ww_ist h dX9_at_68 (by decide) (fun v6_27 => [(6, .int v6_27), (0, .ref oL), (3, .int p2), (4, .ref oY), (5, .int v5_13), (7, .int v7_19)]) (fun _ => rfl) 70 rfl (fun v6_27 e => ?_)
          replace hf := bnd_at e hf
          clear e
          refine ww_iload h dX9_at_70 5 rfl 72 rfl ?_
          refine ww_iload h dX9_at_72 4 rfl 74 rfl ?_
          have hJ102_29 : ∀ (v6_28 : Int32), j_X9_at_102_29 N_9 Y_10 L_22 R_23 p2 v7_19 v6_28 = some o17 → ww X D A 8 Q 0 0 102 [(0, .ref oL), (3, .int p2), (4, .ref oY), (5, .int v5_13), (6, .int v6_28), (7, .int v7_19)] [] [gX9 cy oL aL L_22, gX4 cy (aL 2) aP P, gX7 cy (aL 5) aR R_23, gX5 cy (aL 7) aN N_9, gX1 cy oC aC C, gX3 cy oY aY Y_10] := by
            intro v6_28 hf
            unfold j_X9_at_102_29 at hf
            refine ww_iload_n h dX9_at_102 rfl 1 rfl 103 rfl ?_
            refine ww_iload h dX9_at_103 4 rfl 105 rfl ?_
            refine ww_icmp_ge h dX9_at_105 111 (by decide) 108 rfl (fun c => ?_) (fun c => ?_)
            · replace hf := ite_t c hf
              refine ww_inc (c := 1) h dX9_at_111 5 rfl (by decide) (by decide) (fun v7_30 => [(7, .int v7_30), (0, .ref oL), (3, .int p2), (4, .ref oY), (5, .int v5_13), (6, .int v6_28)]) (fun _ => rfl) 114 rfl (fun v7_30 e => ?_)
              replace hf := bnd_at e hf
              clear e
              refine ww_goto h dX9_at_114 47 (by decide) ?_
              refine ww_lo [1, 2, 3, 4, 5, 0] (lo' := [(0, .ref oL), (3, .int p2), (4, .ref oY), (5, .int v5_13), (6, .int v6_28), (7, .int v7_30)]) rfl ?_
              exact hI17 (v6_28, v7_30, L_22, R_23) (Option.some.inj hf).symm
            · replace hf := ite_f c hf
              refine ww_iload h dX9_at_108 5 rfl 110 rfl ?_
              obtain rfl := hE17 (.inr (v7_19, L_22, R_23, N_9, Y_10)) (Option.some.inj hf).symm
              exact ww_iret h dX9_at_110 hQ ⟨rfl, rfl⟩
          refine ww_icmp_ne h dX9_at_74 102 (by decide) 77 rfl (fun c => ?_) (fun c => ?_)
          · replace hf := ite_f c hf
            refine ww_lo [1, 2, 3, 4, 0, 5] (lo' := [(0, .ref oL), (3, .int p2), (4, .ref oY), (5, .int v5_13), (6, .int v6_27), (7, .int v7_19)]) rfl ?_
            refine ww_perm [4, 3, 1, 2, 1, 0] (Gs' := [gX9 cy oL aL L_22, gX4 cy (aL 2) aP P, gX7 cy (aL 5) aR R_23, gX5 cy (aL 7) aN N_9, gX1 cy oC aC C, gX3 cy oY aY Y_10]) rfl ?_
            exact hJ102_29 v6_27 hf
          · replace hf := ite_t c hf
            refine ww_iload h dX9_at_77 0 rfl 79 rfl ?_
            refine ww_aload_n h dX9_at_79 rfl 1 rfl 80 rfl ?_
            refine ww_get h inG9 rfl 4 rfl rfl 10 (by decide) w_423 rfl dX9_at_80 83 rfl ?_
            have hi := (gd_some hf).1
            replace hf := (gd_some hf).2
            refine ww_ref hi ?_
            clear hi
            refine ww_get h inG1 rfl 2 rfl rfl 0 (by decide) w_160 rfl dX9_at_83 86 rfl ?_
            refine ww_iconst (v := 4) h dX9_at_86 (by decide) 87 rfl ?_
            have hi := (gd_some hf).1
            replace hf := (gd_some hf).2
            have hj31 := ix_lt hi
            refine ww_aaldR h 2 rfl 1 rfl 4 rfl rfl (ix_in hi) dX9_at_87 88 rfl ?_
            clear hi
            refine ww_aload_n h dX9_at_88 rfl 1 rfl 89 rfl ?_
            refine ww_get h inG9 rfl 4 rfl rfl 2 (by decide) w_415 rfl dX9_at_89 92 rfl ?_
            refine ww_get h inG4 rfl 3 rfl rfl 0 (by decide) w_197 rfl dX9_at_92 95 rfl ?_
            refine ww_iload h dX9_at_95 5 rfl 97 rfl ?_
            have hi := (gd_some hf).1
            replace hf := (gd_some hf).2
            refine ww_iald h 3 rfl 1 rfl (ix_in hi) dX9_at_97 98 rfl ?_
            clear hi
            have hi := (gd_some hf).1
            replace hf := (gd_some hf).2
            refine ww_iald h 2 rfl (3 + (4 : Int32).toNatClampNeg) (gX1_row0 hj31) (ix_in hi) dX9_at_98 99 rfl ?_
            clear hi
            refine ww_isub h dX9_at_99 100 rfl ?_
            refine ww_ist h dX9_at_100 (by decide) (fun v6_32 => [(6, .int v6_32), (0, .ref oL), (3, .int p2), (4, .ref oY), (5, .int v5_13), (7, .int v7_19)]) (fun _ => rfl) 102 rfl (fun v6_32 e => ?_)
            replace hf := bnd_at e hf
            clear e
            refine ww_lo [1, 2, 3, 4, 0, 5] (lo' := [(0, .ref oL), (3, .int p2), (4, .ref oY), (5, .int v5_13), (6, .int v6_32), (7, .int v7_19)]) rfl ?_
            refine ww_perm [4, 3, 1, 2, 1, 0] (Gs' := [gX9 cy oL aL L_22, gX4 cy (aL 2) aP P, gX7 cy (aL 5) aR R_23, gX5 cy (aL 7) aN N_9, gX1 cy oC aC C, gX3 cy oY aY Y_10]) rfl ?_
            exact hJ102_29 v6_32 hf
      · clear h17
        rcases x17 with x17 | x17
        · replace hf := sel_l hf
          obtain ⟨L_33, R_34⟩ := x17
          replace hf := un2_e hf
          show ww X D A 8 Q 0 0 117 [] [] [gX9 cy oL aL L_33, gX4 cy (aL 2) aP P, gX7 cy (aL 5) aR R_34, gX5 cy (aL 7) aN N_9, gX1 cy oC aC C, gX3 cy oY aY Y_10]
          refine ww_bipush (v := (-2)) h dX9_at_117 (by decide) 119 rfl ?_
          obtain rfl := Option.some.inj hf
          exact ww_iret h dX9_at_119 hQ ⟨rfl, rfl⟩
        · replace hf := sel_r hf
          exact Option.some.inj hf
    · replace hf := ite_t c hf
      refine ww_iconst (v := (-1)) h dX9_at_13 (by decide) 14 rfl ?_
      obtain rfl := Option.some.inj hf
      exact ww_iret h dX9_at_14 hQ ⟨rfl, rfl⟩
theorem dX9_dearest_0 : decode cX9_dearest 0 = .ok (.iload_n 1, 1) := by decide +kernel
theorem dX9_dearest_1 : decode cX9_dearest 1 = .ok (.invokestatic 231, 3) := by decide +kernel
theorem dX9_dearest_4 : decode cX9_dearest 4 = .ok (.ifCond .ne 5, 3) := by decide +kernel
theorem dX9_dearest_7 : decode cX9_dearest 7 = .ok (.iconst (-1), 1) := by decide +kernel
theorem dX9_dearest_8 : decode cX9_dearest 8 = .ok (.ireturn, 1) := by decide +kernel
theorem dX9_dearest_9 : decode cX9_dearest 9 = .ok (.aload_n 0, 1) := by decide +kernel
theorem dX9_dearest_10 : decode cX9_dearest 10 = .ok (.iload_n 1, 1) := by decide +kernel
theorem dX9_dearest_11 : decode cX9_dearest 11 = .ok (.invokevirtual 234, 3) := by decide +kernel
theorem dX9_dearest_14 : decode cX9_dearest 14 = .ok (.astore_n 2, 1) := by decide +kernel
theorem dX9_dearest_15 : decode cX9_dearest 15 = .ok (.bipush (-2), 2) := by decide +kernel
theorem dX9_dearest_17 : decode cX9_dearest 17 = .ok (.istore_n 3, 1) := by decide +kernel
theorem dX9_dearest_18 : decode cX9_dearest 18 = .ok (.iconst (-1), 1) := by decide +kernel
theorem dX9_dearest_19 : decode cX9_dearest 19 = .ok (.istore 4, 2) := by decide +kernel
theorem dX9_dearest_21 : decode cX9_dearest 21 = .ok (.iconst 0, 1) := by decide +kernel
theorem dX9_dearest_22 : decode cX9_dearest 22 = .ok (.istore 5, 2) := by decide +kernel
theorem dX9_dearest_24 : decode cX9_dearest 24 = .ok (.iload 5, 2) := by decide +kernel
theorem dX9_dearest_26 : decode cX9_dearest 26 = .ok (.aload_n 2, 1) := by decide +kernel
theorem dX9_dearest_27 : decode cX9_dearest 27 = .ok (.getfield 238, 3) := by decide +kernel
theorem dX9_dearest_30 : decode cX9_dearest 30 = .ok (.if_icmp .ge 37, 3) := by decide +kernel
theorem dX9_dearest_33 : decode cX9_dearest 33 = .ok (.aload_n 2, 1) := by decide +kernel
theorem dX9_dearest_34 : decode cX9_dearest 34 = .ok (.getfield 249, 3) := by decide +kernel
theorem dX9_dearest_37 : decode cX9_dearest 37 = .ok (.iconst 2, 1) := by decide +kernel
theorem dX9_dearest_38 : decode cX9_dearest 38 = .ok (.aaload, 1) := by decide +kernel
theorem dX9_dearest_39 : decode cX9_dearest 39 = .ok (.iload 5, 2) := by decide +kernel
theorem dX9_dearest_41 : decode cX9_dearest 41 = .ok (.iaload, 1) := by decide +kernel
theorem dX9_dearest_42 : decode cX9_dearest 42 = .ok (.iload 4, 2) := by decide +kernel
theorem dX9_dearest_44 : decode cX9_dearest 44 = .ok (.if_icmp .le 17, 3) := by decide +kernel
theorem dX9_dearest_47 : decode cX9_dearest 47 = .ok (.aload_n 2, 1) := by decide +kernel
theorem dX9_dearest_48 : decode cX9_dearest 48 = .ok (.getfield 249, 3) := by decide +kernel
theorem dX9_dearest_51 : decode cX9_dearest 51 = .ok (.iconst 2, 1) := by decide +kernel
theorem dX9_dearest_52 : decode cX9_dearest 52 = .ok (.aaload, 1) := by decide +kernel
theorem dX9_dearest_53 : decode cX9_dearest 53 = .ok (.iload 5, 2) := by decide +kernel
theorem dX9_dearest_55 : decode cX9_dearest 55 = .ok (.iaload, 1) := by decide +kernel
theorem dX9_dearest_56 : decode cX9_dearest 56 = .ok (.istore 4, 2) := by decide +kernel
theorem dX9_dearest_58 : decode cX9_dearest 58 = .ok (.iload 5, 2) := by decide +kernel
theorem dX9_dearest_60 : decode cX9_dearest 60 = .ok (.istore_n 3, 1) := by decide +kernel
theorem dX9_dearest_61 : decode cX9_dearest 61 = .ok (.iinc 5 1, 3) := by decide +kernel
theorem dX9_dearest_64 : decode cX9_dearest 64 = .ok (.goto (-40), 3) := by decide +kernel
theorem dX9_dearest_67 : decode cX9_dearest 67 = .ok (.iload_n 3, 1) := by decide +kernel
theorem dX9_dearest_68 : decode cX9_dearest 68 = .ok (.ireturn, 1) := by decide +kernel
theorem ok_X9_dearest : okY RX9 yX9_dearest 1 := ⟨rfl, by decide, by decide, by decide +kernel⟩
def j_X9_dearest_61_18 (v5_14 : Int32) (v3_16 : Int32) (v4_17 : Int32) : Option ((Int32 × Int32 × Int32) ⊕ (Int32)) := bnd (v5_14 + 1) (fun v5_19 => some (.inl (v3_16, v4_17, v5_19)))
def s_X9_dearest_24_11 (Y_6 : OV) : (Int32 × Int32 × Int32) → Option ((Int32 × Int32 × Int32) ⊕ (Int32)) := un3 (fun v3_12 v4_13 v5_14 => (if (iv Y_6 6) ≤ v5_14 then some (.inr v3_12) else gd (ix (2 : Int32) 11) (gd (ix v5_14 40) ((if (gr Y_6 0 (2 : Int32).toNatClampNeg v5_14.toNatClampNeg) ≤ v4_13 then j_X9_dearest_61_18 v5_14 v3_12 v4_13 else gd (ix (2 : Int32) 11) (gd (ix v5_14 40) (bnd (gr Y_6 0 (2 : Int32).toNatClampNeg v5_14.toNatClampNeg) (fun v4_21 => bnd v5_14 (fun v3_22 => j_X9_dearest_61_18 v5_14 v3_22 v4_21)))))))))
def f_X9_dearest (aL : Nat → Nat) (L : OV) (P : OV) (R : OV) (N : OV) (oC : Nat) (C : OV) (oY : Nat) (Y : OV) (p0 : Int32) : Option (Int32 × OV × OV × OV × OV) := (f_X9_isKind p0).bind (un1 (fun r_1 => (if r_1 = 0 then some ((-1 : Int32), L, R, N, Y) else (f_X9_layoutOf aL L P R N oC C oY Y p0).bind (un4 (fun L_3 R_4 N_5 Y_6 => bnd (-2 : Int32) (fun v3_8 => bnd (-1 : Int32) (fun v4_9 => bnd (0 : Int32) (fun v5_10 => ((lp (s_X9_dearest_24_11 Y_6) 5000 (v3_8, v4_9, v5_10)).bind (un1 (fun v3_23 => some (v3_23, L_3, R_4, N_5, Y_6))))))))))))
def r_X9_dearest : Room := { frames := 6, cells := 0, slots := 0, locals := 147 }
set_option maxHeartbeats 4000000 in
set_option maxRecDepth 100000 in
theorem c_X9_dearest (l : Launch) (D : va_G) (ev : EvT) (cy : Nat → ClassId) (oL : Nat) (aL : Nat → Nat) (L : OV) (aP : Nat → Nat) (P : OV) (aR : Nat → Nat) (R : OV) (aN : Nat → Nat) (N : OV) (oC : Nat) (aC : Nat → Nat) (C : OV) (oY : Nat) (aY : Nat → Nat) (Y : OV) (p0 : Int32) (o : Int32 × OV × OV × OV × OV) (hf : f_X9_dearest aL L P R N oC C oY Y p0 = some o) : Fn l yX9_dearest cX9_dearest 6 (some .int) r_X9_dearest D ev cy [.ref oL, .int p0] [gX9 cy oL aL L, gX4 cy (aL 2) aP P, gX7 cy (aL 5) aR R, gX5 cy (aL 7) aN N, gX1 cy oC aC C, gX3 cy oY aY Y] (fun v G => v = some (.int o.1) ∧ G = [gX9 cy oL aL o.2.1, gX4 cy (aL 2) aP P, gX7 cy (aL 5) aR o.2.2.1, gX5 cy (aL 7) aN o.2.2.2.1, gX1 cy oC aC C, gX3 cy oY aY o.2.2.2.2]) := by
  refine Fn_of (by decide) (Nat.le_of_ble_eq_true rfl) (fun X A Q h hQ _ => ?_)
  unfold f_X9_dearest at hf
  show ww X D A 6 Q 0 0 0 [(0, .ref oL), (1, .int p0)] [] [gX9 cy oL aL L, gX4 cy (aL 2) aP P, gX7 cy (aL 5) aR R, gX5 cy (aL 7) aN N, gX1 cy oC aC C, gX3 cy oY aY Y]
  refine ww_iload_n h dX9_dearest_0 rfl 1 rfl 1 rfl ?_
  obtain ⟨r_1, hu2, hf⟩ := ob1 hf
  refine ww_cSi h (c_X9_isKind l D ev cy p0 _ hu2) ⟨w_851, w_849, w_850, w_101, ok_X9_isKind⟩ ⟨by decide, by decide⟩ ⟨by decide, by decide⟩ ⟨rfl, rfl⟩ [] rfl rfl (Nat.le_of_ble_eq_true rfl) dX9_dearest_1 4 rfl (Gs' := [gX9 cy oL aL L, gX4 cy (aL 2) aP P, gX7 cy (aL 5) aR R, gX5 cy (aL 7) aN N, gX1 cy oC aC C, gX3 cy oY aY Y]) rfl ?_
  clear hu2
  refine ww_if_ne h dX9_dearest_4 9 (by decide) 7 rfl (fun c => ?_) (fun c => ?_)
  · replace hf := ite_f c hf
    refine ww_aload_n h dX9_dearest_9 rfl 0 rfl 10 rfl ?_
    refine ww_iload_n h dX9_dearest_10 rfl 1 rfl 11 rfl ?_
    obtain ⟨L_3, R_4, N_5, Y_6, hu7, hf⟩ := ob4 hf
    refine ww_cVr h (c_X9_layoutOf l D ev cy oL aL L aP P aR R aN N oC aC C oY aY Y p0 _ hu7) ⟨w_855, w_852, w_854, w_21, w_101, ok_X9_layoutOf⟩ ⟨by decide, by decide⟩ ⟨by decide, by decide⟩ ⟨rfl, rfl⟩ [0, 0, 0, 0, 0, 0] rfl 0 rfl rfl rfl rfl (Nat.le_of_ble_eq_true rfl) dX9_dearest_11 14 rfl (Gs' := [gX9 cy oL aL L_3, gX4 cy (aL 2) aP P, gX7 cy (aL 5) aR R_4, gX5 cy (aL 7) aN N_5, gX1 cy oC aC C, gX3 cy oY aY Y_6]) rfl ?_
    clear hu7
    refine ww_astore_n h dX9_dearest_14 rfl (by decide) (lo' := [(2, .ref oY), (0, .ref oL), (1, .int p0)]) rfl 15 rfl ?_
    refine ww_bipush (v := (-2)) h dX9_dearest_15 (by decide) 17 rfl ?_
    refine ww_ist_n h dX9_dearest_17 rfl (by decide) (fun v3_8 => [(3, .int v3_8), (2, .ref oY), (0, .ref oL), (1, .int p0)]) (fun _ => rfl) 18 rfl (fun v3_8 e => ?_)
    replace hf := bnd_at e hf
    clear e
    refine ww_iconst (v := (-1)) h dX9_dearest_18 (by decide) 19 rfl ?_
    refine ww_ist h dX9_dearest_19 (by decide) (fun v4_9 => [(4, .int v4_9), (3, .int v3_8), (2, .ref oY), (0, .ref oL), (1, .int p0)]) (fun _ => rfl) 21 rfl (fun v4_9 e => ?_)
    replace hf := bnd_at e hf
    clear e
    refine ww_iconst (v := 0) h dX9_dearest_21 (by decide) 22 rfl ?_
    refine ww_ist h dX9_dearest_22 (by decide) (fun v5_10 => [(5, .int v5_10), (4, .int v4_9), (3, .int v3_8), (2, .ref oY), (0, .ref oL), (1, .int p0)]) (fun _ => rfl) 24 rfl (fun v5_10 e => ?_)
    replace hf := bnd_at e hf
    clear e
    refine ww_lo [3, 2, 1, 0] (lo' := [(2, .ref oY), (3, .int v3_8), (4, .int v4_9), (5, .int v5_10)]) rfl ?_
    obtain ⟨v3_23, h11, hf⟩ := ob1 hf
    refine lp_walk (un3 (fun v3_12 v4_13 v5_14 => ww X D A 6 Q 0 0 24 [(2, .ref oY), (3, .int v3_12), (4, .int v4_13), (5, .int v5_14)] [] [gX9 cy oL aL L_3, gX4 cy (aL 2) aP P, gX7 cy (aL 5) aR R_4, gX5 cy (aL 7) aN N_5, gX1 cy oC aC C, gX3 cy oY aY Y_6])) (un1 (fun v3_23 => ww X D A 6 Q 0 0 67 [(3, .int v3_23)] [] [gX9 cy oL aL L_3, gX4 cy (aL 2) aP P, gX7 cy (aL 5) aR R_4, gX5 cy (aL 7) aN N_5, gX1 cy oC aC C, gX3 cy oY aY Y_6])) ?_ _ _ _ h11 ?_
    · clear h11 hf
      intro s11 o11 hf hI11 hE11
      obtain ⟨v3_12, v4_13, v5_14⟩ := s11
      unfold s_X9_dearest_24_11 at hf
      replace hf := un3_e hf
      show ww X D A 6 Q 0 0 24 [(2, .ref oY), (3, .int v3_12), (4, .int v4_13), (5, .int v5_14)] [] [gX9 cy oL aL L_3, gX4 cy (aL 2) aP P, gX7 cy (aL 5) aR R_4, gX5 cy (aL 7) aN N_5, gX1 cy oC aC C, gX3 cy oY aY Y_6]
      refine ww_iload h dX9_dearest_24 3 rfl 26 rfl ?_
      refine ww_aload_n h dX9_dearest_26 rfl 0 rfl 27 rfl ?_
      refine ww_get h inG3 rfl 5 rfl rfl 6 (by decide) w_371 rfl dX9_dearest_27 30 rfl ?_
      refine ww_icmp_ge h dX9_dearest_30 67 (by decide) 33 rfl (fun c => ?_) (fun c => ?_)
      · replace hf := ite_t c hf
        refine ww_lo [1] (lo' := [(3, .int v3_12)]) rfl ?_
        exact hE11 v3_12 (Option.some.inj hf).symm
      · replace hf := ite_f c hf
        refine ww_aload_n h dX9_dearest_33 rfl 0 rfl 34 rfl ?_
        refine ww_get h inG3 rfl 5 rfl rfl 0 (by decide) w_362 rfl dX9_dearest_34 37 rfl ?_
        refine ww_iconst (v := 2) h dX9_dearest_37 (by decide) 38 rfl ?_
        have hi := (gd_some hf).1
        replace hf := (gd_some hf).2
        have hj15 := ix_lt hi
        refine ww_aaldR h 5 rfl 1 rfl 4 rfl rfl (ix_in hi) dX9_dearest_38 39 rfl ?_
        clear hi
        refine ww_iload h dX9_dearest_39 3 rfl 41 rfl ?_
        have hi := (gd_some hf).1
        replace hf := (gd_some hf).2
        refine ww_iald h 5 rfl (7 + (2 : Int32).toNatClampNeg) (gX3_row0 hj15) (ix_in hi) dX9_dearest_41 42 rfl ?_
        clear hi
        refine ww_iload h dX9_dearest_42 2 rfl 44 rfl ?_
        have hJ61_18 : ∀ (v3_16 : Int32) (v4_17 : Int32), j_X9_dearest_61_18 v5_14 v3_16 v4_17 = some o11 → ww X D A 6 Q 0 0 61 [(2, .ref oY), (3, .int v3_16), (4, .int v4_17), (5, .int v5_14)] [] [gX9 cy oL aL L_3, gX4 cy (aL 2) aP P, gX7 cy (aL 5) aR R_4, gX5 cy (aL 7) aN N_5, gX1 cy oC aC C, gX3 cy oY aY Y_6] := by
          intro v3_16 v4_17 hf
          unfold j_X9_dearest_61_18 at hf
          refine ww_inc (c := 1) h dX9_dearest_61 3 rfl (by decide) (by decide) (fun v5_19 => [(5, .int v5_19), (2, .ref oY), (3, .int v3_16), (4, .int v4_17)]) (fun _ => rfl) 64 rfl (fun v5_19 e => ?_)
          replace hf := bnd_at e hf
          clear e
          refine ww_goto h dX9_dearest_64 24 (by decide) ?_
          refine ww_lo [1, 2, 3, 0] (lo' := [(2, .ref oY), (3, .int v3_16), (4, .int v4_17), (5, .int v5_19)]) rfl ?_
          exact hI11 (v3_16, v4_17, v5_19) (Option.some.inj hf).symm
        refine ww_icmp_le h dX9_dearest_44 61 (by decide) 47 rfl (fun c => ?_) (fun c => ?_)
        · replace hf := ite_t c hf
          exact hJ61_18 v3_12 v4_13 hf
        · replace hf := ite_f c hf
          refine ww_aload_n h dX9_dearest_47 rfl 0 rfl 48 rfl ?_
          refine ww_get h inG3 rfl 5 rfl rfl 0 (by decide) w_362 rfl dX9_dearest_48 51 rfl ?_
          refine ww_iconst (v := 2) h dX9_dearest_51 (by decide) 52 rfl ?_
          have hi := (gd_some hf).1
          replace hf := (gd_some hf).2
          have hj20 := ix_lt hi
          refine ww_aaldR h 5 rfl 1 rfl 4 rfl rfl (ix_in hi) dX9_dearest_52 53 rfl ?_
          clear hi
          refine ww_iload h dX9_dearest_53 3 rfl 55 rfl ?_
          have hi := (gd_some hf).1
          replace hf := (gd_some hf).2
          refine ww_iald h 5 rfl (7 + (2 : Int32).toNatClampNeg) (gX3_row0 hj20) (ix_in hi) dX9_dearest_55 56 rfl ?_
          clear hi
          refine ww_ist h dX9_dearest_56 (by decide) (fun v4_21 => [(4, .int v4_21), (2, .ref oY), (3, .int v3_12), (5, .int v5_14)]) (fun _ => rfl) 58 rfl (fun v4_21 e => ?_)
          replace hf := bnd_at e hf
          clear e
          refine ww_iload h dX9_dearest_58 3 rfl 60 rfl ?_
          refine ww_ist_n h dX9_dearest_60 rfl (by decide) (fun v3_22 => [(3, .int v3_22), (4, .int v4_21), (2, .ref oY), (5, .int v5_14)]) (fun _ => rfl) 61 rfl (fun v3_22 e => ?_)
          replace hf := bnd_at e hf
          clear e
          refine ww_lo [2, 0, 1, 3] (lo' := [(2, .ref oY), (3, .int v3_22), (4, .int v4_21), (5, .int v5_14)]) rfl ?_
          exact hJ61_18 v3_22 v4_21 hf
    · clear h11
      show ww X D A 6 Q 0 0 67 [(3, .int v3_23)] [] [gX9 cy oL aL L_3, gX4 cy (aL 2) aP P, gX7 cy (aL 5) aR R_4, gX5 cy (aL 7) aN N_5, gX1 cy oC aC C, gX3 cy oY aY Y_6]
      refine ww_iload_n h dX9_dearest_67 rfl 0 rfl 68 rfl ?_
      obtain rfl := Option.some.inj hf
      exact ww_iret h dX9_dearest_68 hQ ⟨rfl, rfl⟩
  · replace hf := ite_t c hf
    refine ww_iconst (v := (-1)) h dX9_dearest_7 (by decide) 8 rfl ?_
    obtain rfl := Option.some.inj hf
    exact ww_iret h dX9_dearest_8 hQ ⟨rfl, rfl⟩
theorem dX9_units_0 : decode cX9_units 0 = .ok (.iload_n 1, 1) := by decide +kernel
theorem dX9_units_1 : decode cX9_units 1 = .ok (.invokestatic 231, 3) := by decide +kernel
theorem dX9_units_4 : decode cX9_units 4 = .ok (.ifCond .eq 13, 3) := by decide +kernel
theorem dX9_units_7 : decode cX9_units 7 = .ok (.iload_n 2, 1) := by decide +kernel
theorem dX9_units_8 : decode cX9_units 8 = .ok (.iconst 1, 1) := by decide +kernel
theorem dX9_units_9 : decode cX9_units 9 = .ok (.if_icmp .lt 8, 3) := by decide +kernel
theorem dX9_units_12 : decode cX9_units 12 = .ok (.iload_n 2, 1) := by decide +kernel
theorem dX9_units_13 : decode cX9_units 13 = .ok (.iconst 3, 1) := by decide +kernel
theorem dX9_units_14 : decode cX9_units 14 = .ok (.if_icmp .le 5, 3) := by decide +kernel
theorem dX9_units_17 : decode cX9_units 17 = .ok (.iconst (-1), 1) := by decide +kernel
theorem dX9_units_18 : decode cX9_units 18 = .ok (.ireturn, 1) := by decide +kernel
theorem dX9_units_19 : decode cX9_units 19 = .ok (.aload_n 0, 1) := by decide +kernel
theorem dX9_units_20 : decode cX9_units 20 = .ok (.iload_n 1, 1) := by decide +kernel
theorem dX9_units_21 : decode cX9_units 21 = .ok (.invokevirtual 234, 3) := by decide +kernel
theorem dX9_units_24 : decode cX9_units 24 = .ok (.astore 4, 2) := by decide +kernel
theorem dX9_units_26 : decode cX9_units 26 = .ok (.aload_n 0, 1) := by decide +kernel
theorem dX9_units_27 : decode cX9_units 27 = .ok (.getfield 24, 3) := by decide +kernel
theorem dX9_units_30 : decode cX9_units 30 = .ok (.getfield 200, 3) := by decide +kernel
theorem dX9_units_33 : decode cX9_units 33 = .ok (.iload_n 3, 1) := by decide +kernel
theorem dX9_units_34 : decode cX9_units 34 = .ok (.ifCond .eq 8, 3) := by decide +kernel
theorem dX9_units_37 : decode cX9_units 37 = .ok (.bipush 6, 2) := by decide +kernel
theorem dX9_units_39 : decode cX9_units 39 = .ok (.goto 5, 3) := by decide +kernel
theorem dX9_units_42 : decode cX9_units 42 = .ok (.bipush 8, 2) := by decide +kernel
theorem dX9_units_44 : decode cX9_units 44 = .ok (.aaload, 1) := by decide +kernel
theorem dX9_units_45 : decode cX9_units 45 = .ok (.astore 5, 2) := by decide +kernel
theorem dX9_units_47 : decode cX9_units 47 = .ok (.iload_n 3, 1) := by decide +kernel
theorem dX9_units_48 : decode cX9_units 48 = .ok (.ifCond .eq 11, 3) := by decide +kernel
theorem dX9_units_51 : decode cX9_units 51 = .ok (.aload 4, 2) := by decide +kernel
theorem dX9_units_53 : decode cX9_units 53 = .ok (.getfield 257, 3) := by decide +kernel
theorem dX9_units_56 : decode cX9_units 56 = .ok (.goto 8, 3) := by decide +kernel
theorem dX9_units_59 : decode cX9_units 59 = .ok (.aload 4, 2) := by decide +kernel
theorem dX9_units_61 : decode cX9_units 61 = .ok (.getfield 260, 3) := by decide +kernel
theorem dX9_units_64 : decode cX9_units 64 = .ok (.astore 6, 2) := by decide +kernel
theorem dX9_units_66 : decode cX9_units 66 = .ok (.iconst 0, 1) := by decide +kernel
theorem dX9_units_67 : decode cX9_units 67 = .ok (.istore 7, 2) := by decide +kernel
theorem dX9_units_69 : decode cX9_units 69 = .ok (.iconst 0, 1) := by decide +kernel
theorem dX9_units_70 : decode cX9_units 70 = .ok (.istore 8, 2) := by decide +kernel
theorem dX9_units_72 : decode cX9_units 72 = .ok (.iload 8, 2) := by decide +kernel
theorem dX9_units_74 : decode cX9_units 74 = .ok (.aload_n 0, 1) := by decide +kernel
theorem dX9_units_75 : decode cX9_units 75 = .ok (.getfield 34, 3) := by decide +kernel
theorem dX9_units_78 : decode cX9_units 78 = .ok (.getfield 117, 3) := by decide +kernel
theorem dX9_units_81 : decode cX9_units 81 = .ok (.if_icmp .ge 36, 3) := by decide +kernel
theorem dX9_units_84 : decode cX9_units 84 = .ok (.aload 5, 2) := by decide +kernel
theorem dX9_units_86 : decode cX9_units 86 = .ok (.aload_n 0, 1) := by decide +kernel
theorem dX9_units_87 : decode cX9_units 87 = .ok (.getfield 34, 3) := by decide +kernel
theorem dX9_units_90 : decode cX9_units 90 = .ok (.getfield 141, 3) := by decide +kernel
theorem dX9_units_93 : decode cX9_units 93 = .ok (.iload 8, 2) := by decide +kernel
theorem dX9_units_95 : decode cX9_units 95 = .ok (.iaload, 1) := by decide +kernel
theorem dX9_units_96 : decode cX9_units 96 = .ok (.iaload, 1) := by decide +kernel
theorem dX9_units_97 : decode cX9_units 97 = .ok (.iload_n 2, 1) := by decide +kernel
theorem dX9_units_98 : decode cX9_units 98 = .ok (.if_icmp .ne 13, 3) := by decide +kernel
theorem dX9_units_101 : decode cX9_units 101 = .ok (.iload 7, 2) := by decide +kernel
theorem dX9_units_103 : decode cX9_units 103 = .ok (.aload 6, 2) := by decide +kernel
theorem dX9_units_105 : decode cX9_units 105 = .ok (.iload 8, 2) := by decide +kernel
theorem dX9_units_107 : decode cX9_units 107 = .ok (.iaload, 1) := by decide +kernel
theorem dX9_units_108 : decode cX9_units 108 = .ok (.iadd, 1) := by decide +kernel
theorem dX9_units_109 : decode cX9_units 109 = .ok (.istore 7, 2) := by decide +kernel
theorem dX9_units_111 : decode cX9_units 111 = .ok (.iinc 8 1, 3) := by decide +kernel
theorem dX9_units_114 : decode cX9_units 114 = .ok (.goto (-42), 3) := by decide +kernel
theorem dX9_units_117 : decode cX9_units 117 = .ok (.iload 7, 2) := by decide +kernel
theorem dX9_units_119 : decode cX9_units 119 = .ok (.ireturn, 1) := by decide +kernel
theorem ok_X9_units : okY RX9 yX9_units 3 := ⟨rfl, by decide, by decide, by decide +kernel⟩
def j_X9_units_111_17 (v8_15 : Int32) (v7_16 : Int32) : Option ((Int32 × Int32) ⊕ (Int32)) := bnd (v8_15 + 1) (fun v8_18 => some (.inl (v7_16, v8_18)))
def s_X9_units_72_13 (P : OV) (C : OV) (Y_6 : OV) (p1 : Int32) (t_8 : Int32) : (Int32 × Int32) → Option ((Int32 × Int32) ⊕ (Int32)) := un2 (fun v7_14 v8_15 => (if (iv P 4) ≤ v8_15 then some (.inr v7_14) else gd (ix v8_15 40) (gd (ix (ar P 0 v8_15.toNatClampNeg) 26) ((if (gr C 0 t_8.toNatClampNeg (ar P 0 v8_15.toNatClampNeg).toNatClampNeg) = p1 then gd (ix v8_15 40) (bnd (v7_14 + (ar Y_6 2 v8_15.toNatClampNeg)) (fun v7_19 => j_X9_units_111_17 v8_15 v7_19)) else j_X9_units_111_17 v8_15 v7_14)))))
def j_X9_units_111_27 (v8_25 : Int32) (v7_26 : Int32) : Option ((Int32 × Int32) ⊕ (Int32)) := bnd (v8_25 + 1) (fun v8_28 => some (.inl (v7_26, v8_28)))
def s_X9_units_72_23 (P : OV) (C : OV) (Y_6 : OV) (p1 : Int32) (t_8 : Int32) : (Int32 × Int32) → Option ((Int32 × Int32) ⊕ (Int32)) := un2 (fun v7_24 v8_25 => (if (iv P 4) ≤ v8_25 then some (.inr v7_24) else gd (ix v8_25 40) (gd (ix (ar P 0 v8_25.toNatClampNeg) 26) ((if (gr C 0 t_8.toNatClampNeg (ar P 0 v8_25.toNatClampNeg).toNatClampNeg) = p1 then gd (ix v8_25 40) (bnd (v7_24 + (ar Y_6 1 v8_25.toNatClampNeg)) (fun v7_29 => j_X9_units_111_27 v8_25 v7_29)) else j_X9_units_111_27 v8_25 v7_24)))))
def j_X9_units_44_9 (P : OV) (C : OV) (L_3 : OV) (R_4 : OV) (N_5 : OV) (Y_6 : OV) (p1 : Int32) (p2 : Int32) (t_8 : Int32) : Option (Int32 × OV × OV × OV × OV) := gd (ix t_8 9) ((if p2 = 0 then bnd (0 : Int32) (fun v7_11 => bnd (0 : Int32) (fun v8_12 => ((lp (s_X9_units_72_13 P C Y_6 p1 t_8) 5000 (v7_11, v8_12)).bind (un1 (fun v7_20 => some (v7_20, L_3, R_4, N_5, Y_6)))))) else bnd (0 : Int32) (fun v7_21 => bnd (0 : Int32) (fun v8_22 => ((lp (s_X9_units_72_23 P C Y_6 p1 t_8) 5000 (v7_21, v8_22)).bind (un1 (fun v7_30 => some (v7_30, L_3, R_4, N_5, Y_6))))))))
def f_X9_units (aL : Nat → Nat) (L : OV) (P : OV) (R : OV) (N : OV) (oC : Nat) (C : OV) (oY : Nat) (Y : OV) (p0 : Int32) (p1 : Int32) (p2 : Int32) : Option (Int32 × OV × OV × OV × OV) := (f_X9_isKind p0).bind (un1 (fun r_1 => (if r_1 = 0 then some ((-1 : Int32), L, R, N, Y) else (if p1 < (1 : Int32) then some ((-1 : Int32), L, R, N, Y) else (if p1 ≤ (3 : Int32) then (f_X9_layoutOf aL L P R N oC C oY Y p0).bind (un4 (fun L_3 R_4 N_5 Y_6 => gd (decide (nv L_3 10 = oC)) ((if p2 = 0 then j_X9_units_44_9 P C L_3 R_4 N_5 Y_6 p1 p2 (8 : Int32) else j_X9_units_44_9 P C L_3 R_4 N_5 Y_6 p1 p2 (6 : Int32))))) else some ((-1 : Int32), L, R, N, Y))))))
def r_X9_units : Room := { frames := 6, cells := 0, slots := 0, locals := 147 }
set_option maxHeartbeats 4000000 in
set_option maxRecDepth 100000 in
theorem c_X9_units (l : Launch) (D : va_G) (ev : EvT) (cy : Nat → ClassId) (oL : Nat) (aL : Nat → Nat) (L : OV) (aP : Nat → Nat) (P : OV) (aR : Nat → Nat) (R : OV) (aN : Nat → Nat) (N : OV) (oC : Nat) (aC : Nat → Nat) (C : OV) (oY : Nat) (aY : Nat → Nat) (Y : OV) (p0 : Int32) (p1 : Int32) (p2 : Int32) (o : Int32 × OV × OV × OV × OV) (hf : f_X9_units aL L P R N oC C oY Y p0 p1 p2 = some o) : Fn l yX9_units cX9_units 9 (some .int) r_X9_units D ev cy [.ref oL, .int p0, .int p1, .int p2] [gX9 cy oL aL L, gX4 cy (aL 2) aP P, gX7 cy (aL 5) aR R, gX5 cy (aL 7) aN N, gX1 cy oC aC C, gX3 cy oY aY Y] (fun v G => v = some (.int o.1) ∧ G = [gX9 cy oL aL o.2.1, gX4 cy (aL 2) aP P, gX7 cy (aL 5) aR o.2.2.1, gX5 cy (aL 7) aN o.2.2.2.1, gX1 cy oC aC C, gX3 cy oY aY o.2.2.2.2]) := by
  refine Fn_of (by decide) (Nat.le_of_ble_eq_true rfl) (fun X A Q h hQ _ => ?_)
  unfold f_X9_units at hf
  show ww X D A 9 Q 0 0 0 [(0, .ref oL), (1, .int p0), (2, .int p1), (3, .int p2)] [] [gX9 cy oL aL L, gX4 cy (aL 2) aP P, gX7 cy (aL 5) aR R, gX5 cy (aL 7) aN N, gX1 cy oC aC C, gX3 cy oY aY Y]
  refine ww_iload_n h dX9_units_0 rfl 1 rfl 1 rfl ?_
  obtain ⟨r_1, hu2, hf⟩ := ob1 hf
  refine ww_cSi h (c_X9_isKind l D ev cy p0 _ hu2) ⟨w_851, w_849, w_850, w_101, ok_X9_isKind⟩ ⟨by decide, by decide⟩ ⟨by decide, by decide⟩ ⟨rfl, rfl⟩ [] rfl rfl (Nat.le_of_ble_eq_true rfl) dX9_units_1 4 rfl (Gs' := [gX9 cy oL aL L, gX4 cy (aL 2) aP P, gX7 cy (aL 5) aR R, gX5 cy (aL 7) aN N, gX1 cy oC aC C, gX3 cy oY aY Y]) rfl ?_
  clear hu2
  refine ww_if_eq h dX9_units_4 17 (by decide) 7 rfl (fun c => ?_) (fun c => ?_)
  · replace hf := ite_t c hf
    refine ww_iconst (v := (-1)) h dX9_units_17 (by decide) 18 rfl ?_
    obtain rfl := Option.some.inj hf
    exact ww_iret h dX9_units_18 hQ ⟨rfl, rfl⟩
  · replace hf := ite_f c hf
    refine ww_iload_n h dX9_units_7 rfl 2 rfl 8 rfl ?_
    refine ww_iconst (v := 1) h dX9_units_8 (by decide) 9 rfl ?_
    refine ww_icmp_lt h dX9_units_9 17 (by decide) 12 rfl (fun c => ?_) (fun c => ?_)
    · replace hf := ite_t c hf
      refine ww_iconst (v := (-1)) h dX9_units_17 (by decide) 18 rfl ?_
      obtain rfl := Option.some.inj hf
      exact ww_iret h dX9_units_18 hQ ⟨rfl, rfl⟩
    · replace hf := ite_f c hf
      refine ww_iload_n h dX9_units_12 rfl 2 rfl 13 rfl ?_
      refine ww_iconst (v := 3) h dX9_units_13 (by decide) 14 rfl ?_
      refine ww_icmp_le h dX9_units_14 19 (by decide) 17 rfl (fun c => ?_) (fun c => ?_)
      · replace hf := ite_t c hf
        refine ww_aload_n h dX9_units_19 rfl 0 rfl 20 rfl ?_
        refine ww_iload_n h dX9_units_20 rfl 1 rfl 21 rfl ?_
        obtain ⟨L_3, R_4, N_5, Y_6, hu7, hf⟩ := ob4 hf
        refine ww_cVr h (c_X9_layoutOf l D ev cy oL aL L aP P aR R aN N oC aC C oY aY Y p0 _ hu7) ⟨w_855, w_852, w_854, w_21, w_101, ok_X9_layoutOf⟩ ⟨by decide, by decide⟩ ⟨by decide, by decide⟩ ⟨rfl, rfl⟩ [0, 0, 0, 0, 0, 0] rfl 0 rfl rfl rfl rfl (Nat.le_of_ble_eq_true rfl) dX9_units_21 24 rfl (Gs' := [gX9 cy oL aL L_3, gX4 cy (aL 2) aP P, gX7 cy (aL 5) aR R_4, gX5 cy (aL 7) aN N_5, gX1 cy oC aC C, gX3 cy oY aY Y_6]) rfl ?_
        clear hu7
        refine ww_astore h dX9_units_24 (by decide) (lo' := [(4, .ref oY), (0, .ref oL), (1, .int p0), (2, .int p1), (3, .int p2)]) rfl 26 rfl ?_
        refine ww_aload_n h dX9_units_26 rfl 1 rfl 27 rfl ?_
        refine ww_get h inG9 rfl 0 rfl rfl 10 (by decide) w_423 rfl dX9_units_27 30 rfl ?_
        have hi := (gd_some hf).1
        replace hf := (gd_some hf).2
        refine ww_ref hi ?_
        clear hi
        refine ww_get h inG1 rfl 4 rfl rfl 0 (by decide) w_160 rfl dX9_units_30 33 rfl ?_
        refine ww_iload_n h dX9_units_33 rfl 4 rfl 34 rfl ?_
        have hJ44_9 : ∀ (t_8 : Int32), j_X9_units_44_9 P C L_3 R_4 N_5 Y_6 p1 p2 t_8 = some o → ww X D A 9 Q 0 0 44 [(0, .ref oL), (2, .int p1), (3, .int p2), (4, .ref oY)] [.int t_8, .ref (aC 0)] [gX9 cy oL aL L_3, gX4 cy (aL 2) aP P, gX7 cy (aL 5) aR R_4, gX5 cy (aL 7) aN N_5, gX1 cy oC aC C, gX3 cy oY aY Y_6] := by
          intro t_8 hf
          unfold j_X9_units_44_9 at hf
          have hi := (gd_some hf).1
          replace hf := (gd_some hf).2
          have hj10 := ix_lt hi
          refine ww_aaldR h 4 rfl 1 rfl 4 rfl rfl (ix_in hi) dX9_units_44 45 rfl ?_
          clear hi
          refine ww_astore h dX9_units_45 (by decide) (lo' := [(5, .ref (aC (100 + t_8.toNatClampNeg))), (0, .ref oL), (2, .int p1), (3, .int p2), (4, .ref oY)]) rfl 47 rfl ?_
          refine ww_iload_n h dX9_units_47 rfl 3 rfl 48 rfl ?_
          refine ww_if_eq h dX9_units_48 59 (by decide) 51 rfl (fun c => ?_) (fun c => ?_)
          · replace hf := ite_t c hf
            refine ww_aload h dX9_units_59 4 rfl 61 rfl ?_
            refine ww_get h inG3 rfl 5 rfl rfl 2 (by decide) w_366 rfl dX9_units_61 64 rfl ?_
            refine ww_astore h dX9_units_64 (by decide) (lo' := [(6, .ref (aY 2)), (5, .ref (aC (100 + t_8.toNatClampNeg))), (0, .ref oL), (2, .int p1), (3, .int p2), (4, .ref oY)]) rfl 66 rfl ?_
            refine ww_iconst (v := 0) h dX9_units_66 (by decide) 67 rfl ?_
            refine ww_ist h dX9_units_67 (by decide) (fun v7_11 => [(7, .int v7_11), (6, .ref (aY 2)), (5, .ref (aC (100 + t_8.toNatClampNeg))), (0, .ref oL), (2, .int p1), (3, .int p2), (4, .ref oY)]) (fun _ => rfl) 69 rfl (fun v7_11 e => ?_)
            replace hf := bnd_at e hf
            clear e
            refine ww_iconst (v := 0) h dX9_units_69 (by decide) 70 rfl ?_
            refine ww_ist h dX9_units_70 (by decide) (fun v8_12 => [(8, .int v8_12), (7, .int v7_11), (6, .ref (aY 2)), (5, .ref (aC (100 + t_8.toNatClampNeg))), (0, .ref oL), (2, .int p1), (3, .int p2), (4, .ref oY)]) (fun _ => rfl) 72 rfl (fun v8_12 e => ?_)
            replace hf := bnd_at e hf
            clear e
            refine ww_lo [4, 5, 3, 2, 1, 0] (lo' := [(0, .ref oL), (2, .int p1), (5, .ref (aC (100 + t_8.toNatClampNeg))), (6, .ref (aY 2)), (7, .int v7_11), (8, .int v8_12)]) rfl ?_
            obtain ⟨v7_20, h13, hf⟩ := ob1 hf
            refine lp_walk (un2 (fun v7_14 v8_15 => ww X D A 9 Q 0 0 72 [(0, .ref oL), (2, .int p1), (5, .ref (aC (100 + t_8.toNatClampNeg))), (6, .ref (aY 2)), (7, .int v7_14), (8, .int v8_15)] [] [gX9 cy oL aL L_3, gX4 cy (aL 2) aP P, gX7 cy (aL 5) aR R_4, gX5 cy (aL 7) aN N_5, gX1 cy oC aC C, gX3 cy oY aY Y_6])) (un1 (fun v7_20 => ww X D A 9 Q 0 0 117 [(7, .int v7_20)] [] [gX9 cy oL aL L_3, gX4 cy (aL 2) aP P, gX7 cy (aL 5) aR R_4, gX5 cy (aL 7) aN N_5, gX1 cy oC aC C, gX3 cy oY aY Y_6])) ?_ _ _ _ h13 ?_
            · clear h13 hf
              intro s13 o13 hf hI13 hE13
              obtain ⟨v7_14, v8_15⟩ := s13
              unfold s_X9_units_72_13 at hf
              replace hf := un2_e hf
              show ww X D A 9 Q 0 0 72 [(0, .ref oL), (2, .int p1), (5, .ref (aC (100 + t_8.toNatClampNeg))), (6, .ref (aY 2)), (7, .int v7_14), (8, .int v8_15)] [] [gX9 cy oL aL L_3, gX4 cy (aL 2) aP P, gX7 cy (aL 5) aR R_4, gX5 cy (aL 7) aN N_5, gX1 cy oC aC C, gX3 cy oY aY Y_6]
              refine ww_iload h dX9_units_72 5 rfl 74 rfl ?_
              refine ww_aload_n h dX9_units_74 rfl 0 rfl 75 rfl ?_
              refine ww_get h inG9 rfl 0 rfl rfl 2 (by decide) w_415 rfl dX9_units_75 78 rfl ?_
              refine ww_get h inG4 rfl 1 rfl rfl 4 (by decide) w_209 rfl dX9_units_78 81 rfl ?_
              refine ww_icmp_ge h dX9_units_81 117 (by decide) 84 rfl (fun c => ?_) (fun c => ?_)
              · replace hf := ite_t c hf
                refine ww_lo [4] (lo' := [(7, .int v7_14)]) rfl ?_
                exact hE13 v7_14 (Option.some.inj hf).symm
              · replace hf := ite_f c hf
                refine ww_aload h dX9_units_84 2 rfl 86 rfl ?_
                refine ww_aload_n h dX9_units_86 rfl 0 rfl 87 rfl ?_
                refine ww_get h inG9 rfl 0 rfl rfl 2 (by decide) w_415 rfl dX9_units_87 90 rfl ?_
                refine ww_get h inG4 rfl 1 rfl rfl 0 (by decide) w_197 rfl dX9_units_90 93 rfl ?_
                refine ww_iload h dX9_units_93 5 rfl 95 rfl ?_
                have hi := (gd_some hf).1
                replace hf := (gd_some hf).2
                refine ww_iald h 1 rfl 1 rfl (ix_in hi) dX9_units_95 96 rfl ?_
                clear hi
                have hi := (gd_some hf).1
                replace hf := (gd_some hf).2
                refine ww_iald h 4 rfl (3 + t_8.toNatClampNeg) (gX1_row0 hj10) (ix_in hi) dX9_units_96 97 rfl ?_
                clear hi
                refine ww_iload_n h dX9_units_97 rfl 1 rfl 98 rfl ?_
                have hJ111_17 : ∀ (v7_16 : Int32), j_X9_units_111_17 v8_15 v7_16 = some o13 → ww X D A 9 Q 0 0 111 [(0, .ref oL), (2, .int p1), (5, .ref (aC (100 + t_8.toNatClampNeg))), (6, .ref (aY 2)), (7, .int v7_16), (8, .int v8_15)] [] [gX9 cy oL aL L_3, gX4 cy (aL 2) aP P, gX7 cy (aL 5) aR R_4, gX5 cy (aL 7) aN N_5, gX1 cy oC aC C, gX3 cy oY aY Y_6] := by
                  intro v7_16 hf
                  unfold j_X9_units_111_17 at hf
                  refine ww_inc (c := 1) h dX9_units_111 5 rfl (by decide) (by decide) (fun v8_18 => [(8, .int v8_18), (0, .ref oL), (2, .int p1), (5, .ref (aC (100 + t_8.toNatClampNeg))), (6, .ref (aY 2)), (7, .int v7_16)]) (fun _ => rfl) 114 rfl (fun v8_18 e => ?_)
                  replace hf := bnd_at e hf
                  clear e
                  refine ww_goto h dX9_units_114 72 (by decide) ?_
                  refine ww_lo [1, 2, 3, 4, 5, 0] (lo' := [(0, .ref oL), (2, .int p1), (5, .ref (aC (100 + t_8.toNatClampNeg))), (6, .ref (aY 2)), (7, .int v7_16), (8, .int v8_18)]) rfl ?_
                  exact hI13 (v7_16, v8_18) (Option.some.inj hf).symm
                refine ww_icmp_ne h dX9_units_98 111 (by decide) 101 rfl (fun c => ?_) (fun c => ?_)
                · replace hf := ite_f c hf
                  exact hJ111_17 v7_14 hf
                · replace hf := ite_t c hf
                  refine ww_iload h dX9_units_101 4 rfl 103 rfl ?_
                  refine ww_aload h dX9_units_103 3 rfl 105 rfl ?_
                  refine ww_iload h dX9_units_105 5 rfl 107 rfl ?_
                  have hi := (gd_some hf).1
                  replace hf := (gd_some hf).2
                  refine ww_iald h 5 rfl 3 rfl (ix_in hi) dX9_units_107 108 rfl ?_
                  clear hi
                  refine ww_iadd h dX9_units_108 109 rfl ?_
                  refine ww_ist h dX9_units_109 (by decide) (fun v7_19 => [(7, .int v7_19), (0, .ref oL), (2, .int p1), (5, .ref (aC (100 + t_8.toNatClampNeg))), (6, .ref (aY 2)), (8, .int v8_15)]) (fun _ => rfl) 111 rfl (fun v7_19 e => ?_)
                  replace hf := bnd_at e hf
                  clear e
                  refine ww_lo [1, 2, 3, 4, 0, 5] (lo' := [(0, .ref oL), (2, .int p1), (5, .ref (aC (100 + t_8.toNatClampNeg))), (6, .ref (aY 2)), (7, .int v7_19), (8, .int v8_15)]) rfl ?_
                  exact hJ111_17 v7_19 hf
            · clear h13
              show ww X D A 9 Q 0 0 117 [(7, .int v7_20)] [] [gX9 cy oL aL L_3, gX4 cy (aL 2) aP P, gX7 cy (aL 5) aR R_4, gX5 cy (aL 7) aN N_5, gX1 cy oC aC C, gX3 cy oY aY Y_6]
              refine ww_iload h dX9_units_117 0 rfl 119 rfl ?_
              obtain rfl := Option.some.inj hf
              exact ww_iret h dX9_units_119 hQ ⟨rfl, rfl⟩
          · replace hf := ite_f c hf
            refine ww_aload h dX9_units_51 4 rfl 53 rfl ?_
            refine ww_get h inG3 rfl 5 rfl rfl 1 (by decide) w_364 rfl dX9_units_53 56 rfl ?_
            refine ww_goto h dX9_units_56 64 (by decide) ?_
            refine ww_astore h dX9_units_64 (by decide) (lo' := [(6, .ref (aY 1)), (5, .ref (aC (100 + t_8.toNatClampNeg))), (0, .ref oL), (2, .int p1), (3, .int p2), (4, .ref oY)]) rfl 66 rfl ?_
            refine ww_iconst (v := 0) h dX9_units_66 (by decide) 67 rfl ?_
            refine ww_ist h dX9_units_67 (by decide) (fun v7_21 => [(7, .int v7_21), (6, .ref (aY 1)), (5, .ref (aC (100 + t_8.toNatClampNeg))), (0, .ref oL), (2, .int p1), (3, .int p2), (4, .ref oY)]) (fun _ => rfl) 69 rfl (fun v7_21 e => ?_)
            replace hf := bnd_at e hf
            clear e
            refine ww_iconst (v := 0) h dX9_units_69 (by decide) 70 rfl ?_
            refine ww_ist h dX9_units_70 (by decide) (fun v8_22 => [(8, .int v8_22), (7, .int v7_21), (6, .ref (aY 1)), (5, .ref (aC (100 + t_8.toNatClampNeg))), (0, .ref oL), (2, .int p1), (3, .int p2), (4, .ref oY)]) (fun _ => rfl) 72 rfl (fun v8_22 e => ?_)
            replace hf := bnd_at e hf
            clear e
            refine ww_lo [4, 5, 3, 2, 1, 0] (lo' := [(0, .ref oL), (2, .int p1), (5, .ref (aC (100 + t_8.toNatClampNeg))), (6, .ref (aY 1)), (7, .int v7_21), (8, .int v8_22)]) rfl ?_
            obtain ⟨v7_30, h23, hf⟩ := ob1 hf
            refine lp_walk (un2 (fun v7_24 v8_25 => ww X D A 9 Q 0 0 72 [(0, .ref oL), (2, .int p1), (5, .ref (aC (100 + t_8.toNatClampNeg))), (6, .ref (aY 1)), (7, .int v7_24), (8, .int v8_25)] [] [gX9 cy oL aL L_3, gX4 cy (aL 2) aP P, gX7 cy (aL 5) aR R_4, gX5 cy (aL 7) aN N_5, gX1 cy oC aC C, gX3 cy oY aY Y_6])) (un1 (fun v7_30 => ww X D A 9 Q 0 0 117 [(7, .int v7_30)] [] [gX9 cy oL aL L_3, gX4 cy (aL 2) aP P, gX7 cy (aL 5) aR R_4, gX5 cy (aL 7) aN N_5, gX1 cy oC aC C, gX3 cy oY aY Y_6])) ?_ _ _ _ h23 ?_
            · clear h23 hf
              intro s23 o23 hf hI23 hE23
              obtain ⟨v7_24, v8_25⟩ := s23
              unfold s_X9_units_72_23 at hf
              replace hf := un2_e hf
              show ww X D A 9 Q 0 0 72 [(0, .ref oL), (2, .int p1), (5, .ref (aC (100 + t_8.toNatClampNeg))), (6, .ref (aY 1)), (7, .int v7_24), (8, .int v8_25)] [] [gX9 cy oL aL L_3, gX4 cy (aL 2) aP P, gX7 cy (aL 5) aR R_4, gX5 cy (aL 7) aN N_5, gX1 cy oC aC C, gX3 cy oY aY Y_6]
              refine ww_iload h dX9_units_72 5 rfl 74 rfl ?_
              refine ww_aload_n h dX9_units_74 rfl 0 rfl 75 rfl ?_
              refine ww_get h inG9 rfl 0 rfl rfl 2 (by decide) w_415 rfl dX9_units_75 78 rfl ?_
              refine ww_get h inG4 rfl 1 rfl rfl 4 (by decide) w_209 rfl dX9_units_78 81 rfl ?_
              refine ww_icmp_ge h dX9_units_81 117 (by decide) 84 rfl (fun c => ?_) (fun c => ?_)
              · replace hf := ite_t c hf
                refine ww_lo [4] (lo' := [(7, .int v7_24)]) rfl ?_
                exact hE23 v7_24 (Option.some.inj hf).symm
              · replace hf := ite_f c hf
                refine ww_aload h dX9_units_84 2 rfl 86 rfl ?_
                refine ww_aload_n h dX9_units_86 rfl 0 rfl 87 rfl ?_
                refine ww_get h inG9 rfl 0 rfl rfl 2 (by decide) w_415 rfl dX9_units_87 90 rfl ?_
                refine ww_get h inG4 rfl 1 rfl rfl 0 (by decide) w_197 rfl dX9_units_90 93 rfl ?_
                refine ww_iload h dX9_units_93 5 rfl 95 rfl ?_
                have hi := (gd_some hf).1
                replace hf := (gd_some hf).2
                refine ww_iald h 1 rfl 1 rfl (ix_in hi) dX9_units_95 96 rfl ?_
                clear hi
                have hi := (gd_some hf).1
                replace hf := (gd_some hf).2
                refine ww_iald h 4 rfl (3 + t_8.toNatClampNeg) (gX1_row0 hj10) (ix_in hi) dX9_units_96 97 rfl ?_
                clear hi
                refine ww_iload_n h dX9_units_97 rfl 1 rfl 98 rfl ?_
                have hJ111_27 : ∀ (v7_26 : Int32), j_X9_units_111_27 v8_25 v7_26 = some o23 → ww X D A 9 Q 0 0 111 [(0, .ref oL), (2, .int p1), (5, .ref (aC (100 + t_8.toNatClampNeg))), (6, .ref (aY 1)), (7, .int v7_26), (8, .int v8_25)] [] [gX9 cy oL aL L_3, gX4 cy (aL 2) aP P, gX7 cy (aL 5) aR R_4, gX5 cy (aL 7) aN N_5, gX1 cy oC aC C, gX3 cy oY aY Y_6] := by
                  intro v7_26 hf
                  unfold j_X9_units_111_27 at hf
                  refine ww_inc (c := 1) h dX9_units_111 5 rfl (by decide) (by decide) (fun v8_28 => [(8, .int v8_28), (0, .ref oL), (2, .int p1), (5, .ref (aC (100 + t_8.toNatClampNeg))), (6, .ref (aY 1)), (7, .int v7_26)]) (fun _ => rfl) 114 rfl (fun v8_28 e => ?_)
                  replace hf := bnd_at e hf
                  clear e
                  refine ww_goto h dX9_units_114 72 (by decide) ?_
                  refine ww_lo [1, 2, 3, 4, 5, 0] (lo' := [(0, .ref oL), (2, .int p1), (5, .ref (aC (100 + t_8.toNatClampNeg))), (6, .ref (aY 1)), (7, .int v7_26), (8, .int v8_28)]) rfl ?_
                  exact hI23 (v7_26, v8_28) (Option.some.inj hf).symm
                refine ww_icmp_ne h dX9_units_98 111 (by decide) 101 rfl (fun c => ?_) (fun c => ?_)
                · replace hf := ite_f c hf
                  exact hJ111_27 v7_24 hf
                · replace hf := ite_t c hf
                  refine ww_iload h dX9_units_101 4 rfl 103 rfl ?_
                  refine ww_aload h dX9_units_103 3 rfl 105 rfl ?_
                  refine ww_iload h dX9_units_105 5 rfl 107 rfl ?_
                  have hi := (gd_some hf).1
                  replace hf := (gd_some hf).2
                  refine ww_iald h 5 rfl 2 rfl (ix_in hi) dX9_units_107 108 rfl ?_
                  clear hi
                  refine ww_iadd h dX9_units_108 109 rfl ?_
                  refine ww_ist h dX9_units_109 (by decide) (fun v7_29 => [(7, .int v7_29), (0, .ref oL), (2, .int p1), (5, .ref (aC (100 + t_8.toNatClampNeg))), (6, .ref (aY 1)), (8, .int v8_25)]) (fun _ => rfl) 111 rfl (fun v7_29 e => ?_)
                  replace hf := bnd_at e hf
                  clear e
                  refine ww_lo [1, 2, 3, 4, 0, 5] (lo' := [(0, .ref oL), (2, .int p1), (5, .ref (aC (100 + t_8.toNatClampNeg))), (6, .ref (aY 1)), (7, .int v7_29), (8, .int v8_25)]) rfl ?_
                  exact hJ111_27 v7_29 hf
            · clear h23
              show ww X D A 9 Q 0 0 117 [(7, .int v7_30)] [] [gX9 cy oL aL L_3, gX4 cy (aL 2) aP P, gX7 cy (aL 5) aR R_4, gX5 cy (aL 7) aN N_5, gX1 cy oC aC C, gX3 cy oY aY Y_6]
              refine ww_iload h dX9_units_117 0 rfl 119 rfl ?_
              obtain rfl := Option.some.inj hf
              exact ww_iret h dX9_units_119 hQ ⟨rfl, rfl⟩
        refine ww_if_eq h dX9_units_34 42 (by decide) 37 rfl (fun c => ?_) (fun c => ?_)
        · replace hf := ite_t c hf
          refine ww_bipush (v := 8) h dX9_units_42 (by decide) 44 rfl ?_
          refine ww_lo [1, 3, 4, 0] (lo' := [(0, .ref oL), (2, .int p1), (3, .int p2), (4, .ref oY)]) rfl ?_
          exact hJ44_9 (8 : Int32) hf
        · replace hf := ite_f c hf
          refine ww_bipush (v := 6) h dX9_units_37 (by decide) 39 rfl ?_
          refine ww_goto h dX9_units_39 44 (by decide) ?_
          refine ww_lo [1, 3, 4, 0] (lo' := [(0, .ref oL), (2, .int p1), (3, .int p2), (4, .ref oY)]) rfl ?_
          exact hJ44_9 (6 : Int32) hf
      · replace hf := ite_f c hf
        refine ww_iconst (v := (-1)) h dX9_units_17 (by decide) 18 rfl ?_
        obtain rfl := Option.some.inj hf
        exact ww_iret h dX9_units_18 hQ ⟨rfl, rfl⟩
theorem dX9_river_0 : decode cX9_river 0 = .ok (.iload_n 1, 1) := by decide +kernel
theorem dX9_river_1 : decode cX9_river 1 = .ok (.invokestatic 231, 3) := by decide +kernel
theorem dX9_river_4 : decode cX9_river 4 = .ok (.ifCond .ne 5, 3) := by decide +kernel
theorem dX9_river_7 : decode cX9_river 7 = .ok (.iconst (-1), 1) := by decide +kernel
theorem dX9_river_8 : decode cX9_river 8 = .ok (.ireturn, 1) := by decide +kernel
theorem dX9_river_9 : decode cX9_river 9 = .ok (.aload_n 0, 1) := by decide +kernel
theorem dX9_river_10 : decode cX9_river 10 = .ok (.iload_n 1, 1) := by decide +kernel
theorem dX9_river_11 : decode cX9_river 11 = .ok (.invokevirtual 234, 3) := by decide +kernel
theorem dX9_river_14 : decode cX9_river 14 = .ok (.aload_n 0, 1) := by decide +kernel
theorem dX9_river_15 : decode cX9_river 15 = .ok (.invokevirtual 215, 3) := by decide +kernel
theorem dX9_river_18 : decode cX9_river 18 = .ok (.invokevirtual 272, 3) := by decide +kernel
theorem dX9_river_21 : decode cX9_river 21 = .ok (.ireturn, 1) := by decide +kernel
theorem ok_X9_river : okY RX9 yX9_river 1 := ⟨rfl, by decide, by decide, by decide +kernel⟩
def f_X9_river (aL : Nat → Nat) (L : OV) (P : OV) (R : OV) (N : OV) (oC : Nat) (C : OV) (oY : Nat) (Y : OV) (p0 : Int32) : Option (Int32 × OV × OV × OV × OV) := (f_X9_isKind p0).bind (un1 (fun r_1 => (if r_1 = 0 then some ((-1 : Int32), L, R, N, Y) else (f_X9_layoutOf aL L P R N oC C oY Y p0).bind (un4 (fun L_3 R_4 N_5 Y_6 => (f_X9_currentRuler aL L_3 P R_4 oC C).bind (un2 (fun L_8 R_9 => (f_X3_longestRiver Y_6 R_9 oC C (aL 2) P).bind (un2 (fun r_11 Y_12 => some (r_11, L_8, R_9, N_5, Y_12))))))))))
def r_X9_river : Room := { frames := 6, cells := 0, slots := 0, locals := 147 }
set_option maxHeartbeats 4000000 in
set_option maxRecDepth 100000 in
theorem c_X9_river (l : Launch) (D : va_G) (ev : EvT) (cy : Nat → ClassId) (oL : Nat) (aL : Nat → Nat) (L : OV) (aP : Nat → Nat) (P : OV) (aR : Nat → Nat) (R : OV) (aN : Nat → Nat) (N : OV) (oC : Nat) (aC : Nat → Nat) (C : OV) (oY : Nat) (aY : Nat → Nat) (Y : OV) (p0 : Int32) (o : Int32 × OV × OV × OV × OV) (hf : f_X9_river aL L P R N oC C oY Y p0 = some o) : Fn l yX9_river cX9_river 2 (some .int) r_X9_river D ev cy [.ref oL, .int p0] [gX9 cy oL aL L, gX4 cy (aL 2) aP P, gX7 cy (aL 5) aR R, gX5 cy (aL 7) aN N, gX1 cy oC aC C, gX3 cy oY aY Y] (fun v G => v = some (.int o.1) ∧ G = [gX9 cy oL aL o.2.1, gX4 cy (aL 2) aP P, gX7 cy (aL 5) aR o.2.2.1, gX5 cy (aL 7) aN o.2.2.2.1, gX1 cy oC aC C, gX3 cy oY aY o.2.2.2.2]) := by
  refine Fn_of (by decide) (Nat.le_of_ble_eq_true rfl) (fun X A Q h hQ _ => ?_)
  unfold f_X9_river at hf
  show ww X D A 2 Q 0 0 0 [(0, .ref oL), (1, .int p0)] [] [gX9 cy oL aL L, gX4 cy (aL 2) aP P, gX7 cy (aL 5) aR R, gX5 cy (aL 7) aN N, gX1 cy oC aC C, gX3 cy oY aY Y]
  refine ww_iload_n h dX9_river_0 rfl 1 rfl 1 rfl ?_
  obtain ⟨r_1, hu2, hf⟩ := ob1 hf
  refine ww_cSi h (c_X9_isKind l D ev cy p0 _ hu2) ⟨w_851, w_849, w_850, w_101, ok_X9_isKind⟩ ⟨by decide, by decide⟩ ⟨by decide, by decide⟩ ⟨rfl, rfl⟩ [] rfl rfl (Nat.le_of_ble_eq_true rfl) dX9_river_1 4 rfl (Gs' := [gX9 cy oL aL L, gX4 cy (aL 2) aP P, gX7 cy (aL 5) aR R, gX5 cy (aL 7) aN N, gX1 cy oC aC C, gX3 cy oY aY Y]) rfl ?_
  clear hu2
  refine ww_if_ne h dX9_river_4 9 (by decide) 7 rfl (fun c => ?_) (fun c => ?_)
  · replace hf := ite_f c hf
    refine ww_aload_n h dX9_river_9 rfl 0 rfl 10 rfl ?_
    refine ww_iload_n h dX9_river_10 rfl 1 rfl 11 rfl ?_
    obtain ⟨L_3, R_4, N_5, Y_6, hu7, hf⟩ := ob4 hf
    refine ww_cVr h (c_X9_layoutOf l D ev cy oL aL L aP P aR R aN N oC aC C oY aY Y p0 _ hu7) ⟨w_855, w_852, w_854, w_21, w_101, ok_X9_layoutOf⟩ ⟨by decide, by decide⟩ ⟨by decide, by decide⟩ ⟨rfl, rfl⟩ [0, 0, 0, 0, 0, 0] rfl 0 rfl rfl rfl rfl (Nat.le_of_ble_eq_true rfl) dX9_river_11 14 rfl (Gs' := [gX9 cy oL aL L_3, gX4 cy (aL 2) aP P, gX7 cy (aL 5) aR R_4, gX5 cy (aL 7) aN N_5, gX1 cy oC aC C, gX3 cy oY aY Y_6]) rfl ?_
    clear hu7
    refine ww_aload_n h dX9_river_14 rfl 0 rfl 15 rfl ?_
    obtain ⟨L_8, R_9, hu10, hf⟩ := ob2 hf
    refine ww_cVr h (c_X9_currentRuler l D ev cy oL aL L_3 aP P aR R_4 oC aC C _ hu10) ⟨w_809, w_806, w_808, w_17, w_101, ok_X9_currentRuler⟩ ⟨by decide, by decide⟩ ⟨by decide, by decide⟩ ⟨rfl, rfl⟩ [0, 0, 0, 1] rfl 0 rfl rfl rfl rfl (Nat.le_of_ble_eq_true rfl) dX9_river_15 18 rfl (Gs' := [gX9 cy oL aL L_8, gX4 cy (aL 2) aP P, gX7 cy (aL 5) aR R_9, gX1 cy oC aC C, gX5 cy (aL 7) aN N_5, gX3 cy oY aY Y_6]) rfl ?_
    clear hu10
    obtain ⟨r_11, Y_12, hu13, hf⟩ := ob2 hf
    refine ww_cVi h (c_X3_longestRiver l D ev cy oY aY Y_6 (aL 5) aR R_9 oC aC C (aL 2) aP P _ hu13) ⟨w_1005, w_1002, w_1003, w_1004, w_109, ok_X3_longestRiver⟩ ⟨by decide, by decide⟩ ⟨by decide, by decide⟩ ⟨rfl, rfl⟩ [5, 2, 2, 1] rfl 0 rfl rfl rfl rfl (Nat.le_of_ble_eq_true rfl) dX9_river_18 21 rfl (Gs' := [gX3 cy oY aY Y_12, gX7 cy (aL 5) aR R_9, gX1 cy oC aC C, gX4 cy (aL 2) aP P, gX9 cy oL aL L_8, gX5 cy (aL 7) aN N_5]) rfl ?_
    clear hu13
    refine ww_perm [4, 3, 1, 2, 1, 0] (Gs' := [gX9 cy oL aL L_8, gX4 cy (aL 2) aP P, gX7 cy (aL 5) aR R_9, gX5 cy (aL 7) aN N_5, gX1 cy oC aC C, gX3 cy oY aY Y_12]) rfl ?_
    obtain rfl := Option.some.inj hf
    exact ww_iret h dX9_river_21 hQ ⟨rfl, rfl⟩
  · replace hf := ite_t c hf
    refine ww_iconst (v := (-1)) h dX9_river_7 (by decide) 8 rfl ?_
    obtain rfl := Option.some.inj hf
    exact ww_iret h dX9_river_8 hQ ⟨rfl, rfl⟩
theorem dX9_spell_0 : decode cX9_spell 0 = .ok (.iload_n 3, 1) := by decide +kernel
theorem dX9_spell_1 : decode cX9_spell 1 = .ok (.iconst (-1), 1) := by decide +kernel
theorem dX9_spell_2 : decode cX9_spell 2 = .ok (.if_icmp .lt 12, 3) := by decide +kernel
theorem dX9_spell_5 : decode cX9_spell 5 = .ok (.aload_n 0, 1) := by decide +kernel
theorem dX9_spell_6 : decode cX9_spell 6 = .ok (.iload_n 1, 1) := by decide +kernel
theorem dX9_spell_7 : decode cX9_spell 7 = .ok (.iload_n 2, 1) := by decide +kernel
theorem dX9_spell_8 : decode cX9_spell 8 = .ok (.invokevirtual 246, 3) := by decide +kernel
theorem dX9_spell_11 : decode cX9_spell 11 = .ok (.ifCond .ne 5, 3) := by decide +kernel
theorem dX9_spell_14 : decode cX9_spell 14 = .ok (.iconst (-1), 1) := by decide +kernel
theorem dX9_spell_15 : decode cX9_spell 15 = .ok (.ireturn, 1) := by decide +kernel
theorem dX9_spell_16 : decode cX9_spell 16 = .ok (.aload_n 0, 1) := by decide +kernel
theorem dX9_spell_17 : decode cX9_spell 17 = .ok (.aload_n 0, 1) := by decide +kernel
theorem dX9_spell_18 : decode cX9_spell 18 = .ok (.iload_n 1, 1) := by decide +kernel
theorem dX9_spell_19 : decode cX9_spell 19 = .ok (.invokevirtual 234, 3) := by decide +kernel
theorem dX9_spell_22 : decode cX9_spell 22 = .ok (.iload_n 2, 1) := by decide +kernel
theorem dX9_spell_23 : decode cX9_spell 23 = .ok (.invokevirtual 276, 3) := by decide +kernel
theorem dX9_spell_26 : decode cX9_spell 26 = .ok (.aload_n 0, 1) := by decide +kernel
theorem dX9_spell_27 : decode cX9_spell 27 = .ok (.getfield 18, 3) := by decide +kernel
theorem dX9_spell_30 : decode cX9_spell 30 = .ok (.iload_n 3, 1) := by decide +kernel
theorem dX9_spell_31 : decode cX9_spell 31 = .ok (.invokevirtual 280, 3) := by decide +kernel
theorem dX9_spell_34 : decode cX9_spell 34 = .ok (.ireturn, 1) := by decide +kernel
theorem ok_X9_spell : okY RX9 yX9_spell 3 := ⟨rfl, by decide, by decide, by decide +kernel⟩
def f_X9_spell (aL : Nat → Nat) (L : OV) (aS : Nat → Nat) (S : OV) (P : OV) (R : OV) (N : OV) (oC : Nat) (C : OV) (oY : Nat) (Y : OV) (p0 : Int32) (p1 : Int32) (p2 : Int32) : Option (Int32 × OV × OV × OV × OV × OV) := (if p2 < (-1 : Int32) then some ((-1 : Int32), L, S, R, N, Y) else (f_X9_hasLine aL L P R N oC C oY Y p0 p1).bind (un5 (fun r_1 L_2 R_3 N_4 Y_5 => (if r_1 = 0 then some ((-1 : Int32), L_2, S, R_3, N_4, Y_5) else (f_X9_layoutOf aL L_2 P R_3 N_4 oC C oY Y_5 p0).bind (un4 (fun L_7 R_8 N_9 Y_10 => (f_X9_spellLine aS S P Y_10 p1).bind (un1 (fun S_12 => (f_X0_told aS S_12 p2).bind (un1 (fun r_14 => some (r_14, L_7, S_12, R_8, N_9, Y_10)))))))))))
def r_X9_spell : Room := { frames := 7, cells := 0, slots := 0, locals := 169 }
set_option maxHeartbeats 4000000 in
set_option maxRecDepth 100000 in
theorem c_X9_spell (l : Launch) (D : va_G) (ev : EvT) (cy : Nat → ClassId) (oL : Nat) (aL : Nat → Nat) (L : OV) (aS : Nat → Nat) (S : OV) (aP : Nat → Nat) (P : OV) (aR : Nat → Nat) (R : OV) (aN : Nat → Nat) (N : OV) (oC : Nat) (aC : Nat → Nat) (C : OV) (oY : Nat) (aY : Nat → Nat) (Y : OV) (p0 : Int32) (p1 : Int32) (p2 : Int32) (o : Int32 × OV × OV × OV × OV × OV) (hf : f_X9_spell aL L aS S P R N oC C oY Y p0 p1 p2 = some o) : Fn l yX9_spell cX9_spell 4 (some .int) r_X9_spell D ev cy [.ref oL, .int p0, .int p1, .int p2] [gX9 cy oL aL L, gX0 cy (aL 1) aS S, gX4 cy (aL 2) aP P, gX7 cy (aL 5) aR R, gX5 cy (aL 7) aN N, gX1 cy oC aC C, gX3 cy oY aY Y] (fun v G => v = some (.int o.1) ∧ G = [gX9 cy oL aL o.2.1, gX0 cy (aL 1) aS o.2.2.1, gX4 cy (aL 2) aP P, gX7 cy (aL 5) aR o.2.2.2.1, gX5 cy (aL 7) aN o.2.2.2.2.1, gX1 cy oC aC C, gX3 cy oY aY o.2.2.2.2.2]) := by
  refine Fn_of (by decide) (Nat.le_of_ble_eq_true rfl) (fun X A Q h hQ _ => ?_)
  unfold f_X9_spell at hf
  show ww X D A 4 Q 0 0 0 [(0, .ref oL), (1, .int p0), (2, .int p1), (3, .int p2)] [] [gX9 cy oL aL L, gX0 cy (aL 1) aS S, gX4 cy (aL 2) aP P, gX7 cy (aL 5) aR R, gX5 cy (aL 7) aN N, gX1 cy oC aC C, gX3 cy oY aY Y]
  refine ww_iload_n h dX9_spell_0 rfl 3 rfl 1 rfl ?_
  refine ww_iconst (v := (-1)) h dX9_spell_1 (by decide) 2 rfl ?_
  refine ww_icmp_lt h dX9_spell_2 14 (by decide) 5 rfl (fun c => ?_) (fun c => ?_)
  · replace hf := ite_t c hf
    refine ww_iconst (v := (-1)) h dX9_spell_14 (by decide) 15 rfl ?_
    obtain rfl := Option.some.inj hf
    exact ww_iret h dX9_spell_15 hQ ⟨rfl, rfl⟩
  · replace hf := ite_f c hf
    refine ww_aload_n h dX9_spell_5 rfl 0 rfl 6 rfl ?_
    refine ww_iload_n h dX9_spell_6 rfl 1 rfl 7 rfl ?_
    refine ww_iload_n h dX9_spell_7 rfl 2 rfl 8 rfl ?_
    obtain ⟨r_1, L_2, R_3, N_4, Y_5, hu6, hf⟩ := ob5 hf
    refine ww_cVi h (c_X9_hasLine l D ev cy oL aL L aP P aR R aN N oC aC C oY aY Y p0 p1 _ hu6) ⟨w_947, w_944, w_946, w_29, w_101, ok_X9_hasLine⟩ ⟨by decide, by decide⟩ ⟨by decide, by decide⟩ ⟨rfl, rfl⟩ [0, 1, 1, 1, 1, 1] rfl 0 rfl rfl rfl rfl (Nat.le_of_ble_eq_true rfl) dX9_spell_8 11 rfl (Gs' := [gX9 cy oL aL L_2, gX4 cy (aL 2) aP P, gX7 cy (aL 5) aR R_3, gX5 cy (aL 7) aN N_4, gX1 cy oC aC C, gX3 cy oY aY Y_5, gX0 cy (aL 1) aS S]) rfl ?_
    clear hu6
    refine ww_if_ne h dX9_spell_11 16 (by decide) 14 rfl (fun c => ?_) (fun c => ?_)
    · replace hf := ite_f c hf
      refine ww_aload_n h dX9_spell_16 rfl 0 rfl 17 rfl ?_
      refine ww_aload_n h dX9_spell_17 rfl 0 rfl 18 rfl ?_
      refine ww_iload_n h dX9_spell_18 rfl 1 rfl 19 rfl ?_
      obtain ⟨L_7, R_8, N_9, Y_10, hu11, hf⟩ := ob4 hf
      refine ww_cVr h (c_X9_layoutOf l D ev cy oL aL L_2 aP P aR R_3 aN N_4 oC aC C oY aY Y_5 p0 _ hu11) ⟨w_855, w_852, w_854, w_21, w_101, ok_X9_layoutOf⟩ ⟨by decide, by decide⟩ ⟨by decide, by decide⟩ ⟨rfl, rfl⟩ [0, 0, 0, 0, 0, 0] rfl 0 rfl rfl rfl rfl (Nat.le_of_ble_eq_true rfl) dX9_spell_19 22 rfl (Gs' := [gX9 cy oL aL L_7, gX4 cy (aL 2) aP P, gX7 cy (aL 5) aR R_8, gX5 cy (aL 7) aN N_9, gX1 cy oC aC C, gX3 cy oY aY Y_10, gX0 cy (aL 1) aS S]) rfl ?_
      clear hu11
      refine ww_iload_n h dX9_spell_22 rfl 2 rfl 23 rfl ?_
      obtain ⟨S_12, hu13, hf⟩ := ob1 hf
      refine ww_cVv h (c_X9_spellLine l D ev cy oL aL L_7 aS S aP P oY aY Y_10 p1 _ hu13) ⟨w_1023, w_1020, w_1022, w_32, w_101, ok_X9_spellLine⟩ ⟨by decide, by decide⟩ ⟨by decide, by decide⟩ ⟨rfl, rfl⟩ [0, 5, 0, 3] rfl 0 rfl rfl rfl rfl (Nat.le_of_ble_eq_true rfl) dX9_spell_23 26 rfl (Gs' := [gX9 cy oL aL L_7, gX0 cy (aL 1) aS S_12, gX4 cy (aL 2) aP P, gX3 cy oY aY Y_10, gX7 cy (aL 5) aR R_8, gX5 cy (aL 7) aN N_9, gX1 cy oC aC C]) rfl ?_
      clear hu13
      refine ww_aload_n h dX9_spell_26 rfl 0 rfl 27 rfl ?_
      refine ww_get h inG9 rfl 0 rfl rfl 1 (by decide) w_414 rfl dX9_spell_27 30 rfl ?_
      refine ww_iload_n h dX9_spell_30 rfl 3 rfl 31 rfl ?_
      obtain ⟨r_14, hu15, hf⟩ := ob1 hf
      refine ww_cVi h (c_X0_told l D ev cy (aL 1) aS S_12 p2 _ hu15) ⟨w_1032, w_1029, w_1030, w_1031, w_102, ok_X0_told⟩ ⟨by decide, by decide⟩ ⟨by decide, by decide⟩ ⟨rfl, rfl⟩ [1] rfl 0 rfl rfl rfl rfl (Nat.le_of_ble_eq_true rfl) dX9_spell_31 34 rfl (Gs' := [gX0 cy (aL 1) aS S_12, gX9 cy oL aL L_7, gX4 cy (aL 2) aP P, gX3 cy oY aY Y_10, gX7 cy (aL 5) aR R_8, gX5 cy (aL 7) aN N_9, gX1 cy oC aC C]) rfl ?_
      clear hu15
      refine ww_perm [1, 0, 0, 1, 1, 1, 0] (Gs' := [gX9 cy oL aL L_7, gX0 cy (aL 1) aS S_12, gX4 cy (aL 2) aP P, gX7 cy (aL 5) aR R_8, gX5 cy (aL 7) aN N_9, gX1 cy oC aC C, gX3 cy oY aY Y_10]) rfl ?_
      obtain rfl := Option.some.inj hf
      exact ww_iret h dX9_spell_34 hQ ⟨rfl, rfl⟩
    · replace hf := ite_t c hf
      refine ww_iconst (v := (-1)) h dX9_spell_14 (by decide) 15 rfl ?_
      refine ww_perm [0, 5, 0, 0, 0, 0, 0] (Gs' := [gX9 cy oL aL L_2, gX0 cy (aL 1) aS S, gX4 cy (aL 2) aP P, gX7 cy (aL 5) aR R_3, gX5 cy (aL 7) aN N_4, gX1 cy oC aC C, gX3 cy oY aY Y_5]) rfl ?_
      obtain rfl := Option.some.inj hf
      exact ww_iret h dX9_spell_15 hQ ⟨rfl, rfl⟩
theorem dX9_spellTable_0 : decode cX9_spellTable 0 = .ok (.iload_n 1, 1) := by decide +kernel
theorem dX9_spellTable_1 : decode cX9_spellTable 1 = .ok (.iconst (-1), 1) := by decide +kernel
theorem dX9_spellTable_2 : decode cX9_spellTable 2 = .ok (.if_icmp .ge 5, 3) := by decide +kernel
theorem dX9_spellTable_5 : decode cX9_spellTable 5 = .ok (.iconst (-1), 1) := by decide +kernel
theorem dX9_spellTable_6 : decode cX9_spellTable 6 = .ok (.ireturn, 1) := by decide +kernel
theorem dX9_spellTable_7 : decode cX9_spellTable 7 = .ok (.aload_n 0, 1) := by decide +kernel
theorem dX9_spellTable_8 : decode cX9_spellTable 8 = .ok (.getfield 18, 3) := by decide +kernel
theorem dX9_spellTable_11 : decode cX9_spellTable 11 = .ok (.iconst 0, 1) := by decide +kernel
theorem dX9_spellTable_12 : decode cX9_spellTable 12 = .ok (.putfield 85, 3) := by decide +kernel
theorem dX9_spellTable_15 : decode cX9_spellTable 15 = .ok (.iconst 0, 1) := by decide +kernel
theorem dX9_spellTable_16 : decode cX9_spellTable 16 = .ok (.istore_n 2, 1) := by decide +kernel
theorem dX9_spellTable_17 : decode cX9_spellTable 17 = .ok (.iload_n 2, 1) := by decide +kernel
theorem dX9_spellTable_18 : decode cX9_spellTable 18 = .ok (.bipush 26, 2) := by decide +kernel
theorem dX9_spellTable_20 : decode cX9_spellTable 20 = .ok (.if_icmp .ge 25, 3) := by decide +kernel
theorem dX9_spellTable_23 : decode cX9_spellTable 23 = .ok (.aload_n 0, 1) := by decide +kernel
theorem dX9_spellTable_24 : decode cX9_spellTable 24 = .ok (.getfield 24, 3) := by decide +kernel
theorem dX9_spellTable_27 : decode cX9_spellTable 27 = .ok (.iload_n 2, 1) := by decide +kernel
theorem dX9_spellTable_28 : decode cX9_spellTable 28 = .ok (.invokevirtual 126, 3) := by decide +kernel
theorem dX9_spellTable_31 : decode cX9_spellTable 31 = .ok (.ifCond .eq 8, 3) := by decide +kernel
theorem dX9_spellTable_34 : decode cX9_spellTable 34 = .ok (.aload_n 0, 1) := by decide +kernel
theorem dX9_spellTable_35 : decode cX9_spellTable 35 = .ok (.iload_n 2, 1) := by decide +kernel
theorem dX9_spellTable_36 : decode cX9_spellTable 36 = .ok (.invokevirtual 288, 3) := by decide +kernel
theorem dX9_spellTable_39 : decode cX9_spellTable 39 = .ok (.iinc 2 1, 3) := by decide +kernel
theorem dX9_spellTable_42 : decode cX9_spellTable 42 = .ok (.goto (-25), 3) := by decide +kernel
theorem dX9_spellTable_45 : decode cX9_spellTable 45 = .ok (.iconst 0, 1) := by decide +kernel
theorem dX9_spellTable_46 : decode cX9_spellTable 46 = .ok (.istore_n 2, 1) := by decide +kernel
theorem dX9_spellTable_47 : decode cX9_spellTable 47 = .ok (.iload_n 2, 1) := by decide +kernel
theorem dX9_spellTable_48 : decode cX9_spellTable 48 = .ok (.bipush 26, 2) := by decide +kernel
theorem dX9_spellTable_50 : decode cX9_spellTable 50 = .ok (.if_icmp .ge 41, 3) := by decide +kernel
theorem dX9_spellTable_53 : decode cX9_spellTable 53 = .ok (.iconst 0, 1) := by decide +kernel
theorem dX9_spellTable_54 : decode cX9_spellTable 54 = .ok (.istore_n 3, 1) := by decide +kernel
theorem dX9_spellTable_55 : decode cX9_spellTable 55 = .ok (.iload_n 3, 1) := by decide +kernel
theorem dX9_spellTable_56 : decode cX9_spellTable 56 = .ok (.bipush 26, 2) := by decide +kernel
theorem dX9_spellTable_58 : decode cX9_spellTable 58 = .ok (.if_icmp .ge 27, 3) := by decide +kernel
theorem dX9_spellTable_61 : decode cX9_spellTable 61 = .ok (.aload_n 0, 1) := by decide +kernel
theorem dX9_spellTable_62 : decode cX9_spellTable 62 = .ok (.getfield 34, 3) := by decide +kernel
theorem dX9_spellTable_65 : decode cX9_spellTable 65 = .ok (.iload_n 2, 1) := by decide +kernel
theorem dX9_spellTable_66 : decode cX9_spellTable 66 = .ok (.iload_n 3, 1) := by decide +kernel
theorem dX9_spellTable_67 : decode cX9_spellTable 67 = .ok (.invokevirtual 168, 3) := by decide +kernel
theorem dX9_spellTable_70 : decode cX9_spellTable 70 = .ok (.ifCond .eq 9, 3) := by decide +kernel
theorem dX9_spellTable_73 : decode cX9_spellTable 73 = .ok (.aload_n 0, 1) := by decide +kernel
theorem dX9_spellTable_74 : decode cX9_spellTable 74 = .ok (.iload_n 2, 1) := by decide +kernel
theorem dX9_spellTable_75 : decode cX9_spellTable 75 = .ok (.iload_n 3, 1) := by decide +kernel
theorem dX9_spellTable_76 : decode cX9_spellTable 76 = .ok (.invokevirtual 291, 3) := by decide +kernel
theorem dX9_spellTable_79 : decode cX9_spellTable 79 = .ok (.iinc 3 1, 3) := by decide +kernel
theorem dX9_spellTable_82 : decode cX9_spellTable 82 = .ok (.goto (-27), 3) := by decide +kernel
theorem dX9_spellTable_85 : decode cX9_spellTable 85 = .ok (.iinc 2 1, 3) := by decide +kernel
theorem dX9_spellTable_88 : decode cX9_spellTable 88 = .ok (.goto (-41), 3) := by decide +kernel
theorem dX9_spellTable_91 : decode cX9_spellTable 91 = .ok (.aload_n 0, 1) := by decide +kernel
theorem dX9_spellTable_92 : decode cX9_spellTable 92 = .ok (.getfield 18, 3) := by decide +kernel
theorem dX9_spellTable_95 : decode cX9_spellTable 95 = .ok (.iload_n 1, 1) := by decide +kernel
theorem dX9_spellTable_96 : decode cX9_spellTable 96 = .ok (.invokevirtual 280, 3) := by decide +kernel
theorem dX9_spellTable_99 : decode cX9_spellTable 99 = .ok (.ireturn, 1) := by decide +kernel
theorem ok_X9_spellTable : okY RX9 yX9_spellTable 1 := ⟨rfl, by decide, by decide, by decide +kernel⟩
def j_X9_spellTable_39_9 (v2_4 : Int32) (S_8 : OV) : Option ((Int32 × OV) ⊕ (OV)) := bnd (v2_4 + 1) (fun v2_10 => some (.inl (v2_10, S_8)))
def s_X9_spellTable_17_3 (oC : Nat) (aS : Nat → Nat) (L : OV) (P : OV) (C : OV) : (Int32 × OV) → Option ((Int32 × OV) ⊕ (OV)) := un2 (fun v2_4 S_5 => (if (26 : Int32) ≤ v2_4 then some (.inr S_5) else gd (decide (nv L 10 = oC)) ((f_X1_has C v2_4).bind (un1 (fun r_6 => (if r_6 = 0 then j_X9_spellTable_39_9 v2_4 S_5 else (f_X9_spellClass L aS S_5 P oC C v2_4).bind (un1 (fun S_11 => j_X9_spellTable_39_9 v2_4 S_11))))))))
def j_X9_spellTable_79_25 (v3_20 : Int32) (S_24 : OV) : Option ((Int32 × OV) ⊕ (OV)) := bnd (v3_20 + 1) (fun v3_26 => some (.inl (v3_26, S_24)))
def s_X9_spellTable_55_19 (aS : Nat → Nat) (P : OV) (v2_16 : Int32) : (Int32 × OV) → Option ((Int32 × OV) ⊕ (OV)) := un2 (fun v3_20 S_21 => (if (26 : Int32) ≤ v3_20 then some (.inr S_21) else (f_X4_isKept P v2_16 v3_20).bind (un1 (fun r_22 => (if r_22 = 0 then j_X9_spellTable_79_25 v3_20 S_21 else (f_X9_spellPair aS S_21 v2_16 v3_20).bind (un1 (fun S_27 => j_X9_spellTable_79_25 v3_20 S_27)))))))
def s_X9_spellTable_47_15 (aS : Nat → Nat) (P : OV) : (Int32 × OV) → Option ((Int32 × OV) ⊕ (OV)) := un2 (fun v2_16 S_17 => (if (26 : Int32) ≤ v2_16 then some (.inr S_17) else bnd (0 : Int32) (fun v3_18 => ((lp (s_X9_spellTable_55_19 aS P v2_16) 5000 (v3_18, S_17)).bind (un1 (fun S_29 => bnd (v2_16 + 1) (fun v2_30 => some (.inl (v2_30, S_29)))))))))
def f_X9_spellTable (L : OV) (aS : Nat → Nat) (S : OV) (P : OV) (oC : Nat) (C : OV) (p0 : Int32) : Option (Int32 × OV) := (if (-1 : Int32) ≤ p0 then bnd (sI S 1 (0 : Int32)) (fun S_1 => bnd (0 : Int32) (fun v2_2 => ((lp (s_X9_spellTable_17_3 oC aS L P C) 5000 (v2_2, S_1)).bind (un1 (fun S_13 => bnd (0 : Int32) (fun v2_14 => ((lp (s_X9_spellTable_47_15 aS P) 5000 (v2_14, S_13)).bind (un1 (fun S_31 => (f_X0_told aS S_31 p0).bind (un1 (fun r_32 => some (r_32, S_31)))))))))))) else some ((-1 : Int32), S))
def r_X9_spellTable : Room := { frames := 7, cells := 0, slots := 0, locals := 150 }
set_option maxHeartbeats 4000000 in
set_option maxRecDepth 100000 in
theorem c_X9_spellTable (l : Launch) (D : va_G) (ev : EvT) (cy : Nat → ClassId) (oL : Nat) (aL : Nat → Nat) (L : OV) (aS : Nat → Nat) (S : OV) (aP : Nat → Nat) (P : OV) (oC : Nat) (aC : Nat → Nat) (C : OV) (p0 : Int32) (o : Int32 × OV) (hf : f_X9_spellTable L aS S P oC C p0 = some o) : Fn l yX9_spellTable cX9_spellTable 4 (some .int) r_X9_spellTable D ev cy [.ref oL, .int p0] [gX9 cy oL aL L, gX0 cy (aL 1) aS S, gX4 cy (aL 2) aP P, gX1 cy oC aC C] (fun v G => v = some (.int o.1) ∧ G = [gX9 cy oL aL L, gX0 cy (aL 1) aS o.2, gX4 cy (aL 2) aP P, gX1 cy oC aC C]) := by
  refine Fn_of (by decide) (Nat.le_of_ble_eq_true rfl) (fun X A Q h hQ _ => ?_)
  unfold f_X9_spellTable at hf
  show ww X D A 4 Q 0 0 0 [(0, .ref oL), (1, .int p0)] [] [gX9 cy oL aL L, gX0 cy (aL 1) aS S, gX4 cy (aL 2) aP P, gX1 cy oC aC C]
  refine ww_iload_n h dX9_spellTable_0 rfl 1 rfl 1 rfl ?_
  refine ww_iconst (v := (-1)) h dX9_spellTable_1 (by decide) 2 rfl ?_
  refine ww_icmp_ge h dX9_spellTable_2 7 (by decide) 5 rfl (fun c => ?_) (fun c => ?_)
  · replace hf := ite_t c hf
    refine ww_aload_n h dX9_spellTable_7 rfl 0 rfl 8 rfl ?_
    refine ww_get h inG9 rfl 0 rfl rfl 1 (by decide) w_414 rfl dX9_spellTable_8 11 rfl ?_
    refine ww_iconst (v := 0) h dX9_spellTable_11 (by decide) 12 rfl ?_
    refine ww_put (ty := .int) h inG0 tyX0_ok nmX0 rfl 1 rfl rfl 1 (by decide) w_141 rfl (by decide +kernel) rfl rfl (Nat.le_of_ble_eq_true rfl) (Nat.le_of_ble_eq_true rfl) dX9_spellTable_12 15 rfl ?_
    refine ww_nm (fun z => [gX9 cy oL aL L, gX0 cy (aL 1) aS z, gX4 cy (aL 2) aP P, gX1 cy oC aC C]) (sI S 1 (0 : Int32)) (fun S_1 e => ?_)
    replace hf := bnd_at e hf
    clear e
    refine ww_iconst (v := 0) h dX9_spellTable_15 (by decide) 16 rfl ?_
    refine ww_ist_n h dX9_spellTable_16 rfl (by decide) (fun v2_2 => [(2, .int v2_2), (0, .ref oL), (1, .int p0)]) (fun _ => rfl) 17 rfl (fun v2_2 e => ?_)
    replace hf := bnd_at e hf
    clear e
    refine ww_lo [1, 2, 0] (lo' := [(0, .ref oL), (1, .int p0), (2, .int v2_2)]) rfl ?_
    obtain ⟨S_13, h3, hf⟩ := ob1 hf
    refine lp_walk (un2 (fun v2_4 S_5 => ww X D A 4 Q 0 0 17 [(0, .ref oL), (1, .int p0), (2, .int v2_4)] [] [gX9 cy oL aL L, gX0 cy (aL 1) aS S_5, gX4 cy (aL 2) aP P, gX1 cy oC aC C])) (un1 (fun S_13 => ww X D A 4 Q 0 0 45 [(0, .ref oL), (1, .int p0)] [] [gX9 cy oL aL L, gX0 cy (aL 1) aS S_13, gX4 cy (aL 2) aP P, gX1 cy oC aC C])) ?_ _ _ _ h3 ?_
    · clear h3 hf
      intro s3 o3 hf hI3 hE3
      obtain ⟨v2_4, S_5⟩ := s3
      unfold s_X9_spellTable_17_3 at hf
      replace hf := un2_e hf
      show ww X D A 4 Q 0 0 17 [(0, .ref oL), (1, .int p0), (2, .int v2_4)] [] [gX9 cy oL aL L, gX0 cy (aL 1) aS S_5, gX4 cy (aL 2) aP P, gX1 cy oC aC C]
      refine ww_iload_n h dX9_spellTable_17 rfl 2 rfl 18 rfl ?_
      refine ww_bipush (v := 26) h dX9_spellTable_18 (by decide) 20 rfl ?_
      refine ww_icmp_ge h dX9_spellTable_20 45 (by decide) 23 rfl (fun c => ?_) (fun c => ?_)
      · replace hf := ite_t c hf
        refine ww_lo [0, 1] (lo' := [(0, .ref oL), (1, .int p0)]) rfl ?_
        exact hE3 S_5 (Option.some.inj hf).symm
      · replace hf := ite_f c hf
        refine ww_aload_n h dX9_spellTable_23 rfl 0 rfl 24 rfl ?_
        refine ww_get h inG9 rfl 0 rfl rfl 10 (by decide) w_423 rfl dX9_spellTable_24 27 rfl ?_
        have hi := (gd_some hf).1
        replace hf := (gd_some hf).2
        refine ww_ref hi ?_
        clear hi
        refine ww_iload_n h dX9_spellTable_27 rfl 2 rfl 28 rfl ?_
        obtain ⟨r_6, hu7, hf⟩ := ob1 hf
        refine ww_cVi h (c_X1_has l D ev cy oC aC C v2_4 _ hu7) ⟨w_591, w_661, w_589, w_590, w_104, ok_X1_has⟩ ⟨by decide, by decide⟩ ⟨by decide, by decide⟩ ⟨rfl, rfl⟩ [3] rfl 0 rfl rfl rfl rfl (Nat.le_of_ble_eq_true rfl) dX9_spellTable_28 31 rfl (Gs' := [gX1 cy oC aC C, gX9 cy oL aL L, gX0 cy (aL 1) aS S_5, gX4 cy (aL 2) aP P]) rfl ?_
        clear hu7
        have hJ39_9 : ∀ (S_8 : OV), j_X9_spellTable_39_9 v2_4 S_8 = some o3 → ww X D A 4 Q 0 0 39 [(0, .ref oL), (1, .int p0), (2, .int v2_4)] [] [gX9 cy oL aL L, gX0 cy (aL 1) aS S_8, gX4 cy (aL 2) aP P, gX1 cy oC aC C] := by
          intro S_8 hf
          unfold j_X9_spellTable_39_9 at hf
          refine ww_inc (c := 1) h dX9_spellTable_39 2 rfl (by decide) (by decide) (fun v2_10 => [(2, .int v2_10), (0, .ref oL), (1, .int p0)]) (fun _ => rfl) 42 rfl (fun v2_10 e => ?_)
          replace hf := bnd_at e hf
          clear e
          refine ww_goto h dX9_spellTable_42 17 (by decide) ?_
          refine ww_lo [1, 2, 0] (lo' := [(0, .ref oL), (1, .int p0), (2, .int v2_10)]) rfl ?_
          exact hI3 (v2_10, S_8) (Option.some.inj hf).symm
        refine ww_if_eq h dX9_spellTable_31 39 (by decide) 34 rfl (fun c => ?_) (fun c => ?_)
        · replace hf := ite_t c hf
          refine ww_perm [1, 1, 1, 0] (Gs' := [gX9 cy oL aL L, gX0 cy (aL 1) aS S_5, gX4 cy (aL 2) aP P, gX1 cy oC aC C]) rfl ?_
          exact hJ39_9 S_5 hf
        · replace hf := ite_f c hf
          refine ww_aload_n h dX9_spellTable_34 rfl 0 rfl 35 rfl ?_
          refine ww_iload_n h dX9_spellTable_35 rfl 2 rfl 36 rfl ?_
          obtain ⟨S_11, hu12, hf⟩ := ob1 hf
          refine ww_cVv h (c_X9_spellClass l D ev cy oL aL L aS S_5 aP P oC aC C v2_4 _ hu12) ⟨w_1040, w_1037, w_1039, w_33, w_101, ok_X9_spellClass⟩ ⟨by decide, by decide⟩ ⟨by decide, by decide⟩ ⟨rfl, rfl⟩ [1, 1, 1, 0] rfl 0 rfl rfl rfl rfl (Nat.le_of_ble_eq_true rfl) dX9_spellTable_36 39 rfl (Gs' := [gX9 cy oL aL L, gX0 cy (aL 1) aS S_11, gX4 cy (aL 2) aP P, gX1 cy oC aC C]) rfl ?_
          clear hu12
          exact hJ39_9 S_11 hf
    · clear h3
      show ww X D A 4 Q 0 0 45 [(0, .ref oL), (1, .int p0)] [] [gX9 cy oL aL L, gX0 cy (aL 1) aS S_13, gX4 cy (aL 2) aP P, gX1 cy oC aC C]
      refine ww_iconst (v := 0) h dX9_spellTable_45 (by decide) 46 rfl ?_
      refine ww_ist_n h dX9_spellTable_46 rfl (by decide) (fun v2_14 => [(2, .int v2_14), (0, .ref oL), (1, .int p0)]) (fun _ => rfl) 47 rfl (fun v2_14 e => ?_)
      replace hf := bnd_at e hf
      clear e
      refine ww_lo [1, 2, 0] (lo' := [(0, .ref oL), (1, .int p0), (2, .int v2_14)]) rfl ?_
      obtain ⟨S_31, h15, hf⟩ := ob1 hf
      refine lp_walk (un2 (fun v2_16 S_17 => ww X D A 4 Q 0 0 47 [(0, .ref oL), (1, .int p0), (2, .int v2_16)] [] [gX9 cy oL aL L, gX0 cy (aL 1) aS S_17, gX4 cy (aL 2) aP P, gX1 cy oC aC C])) (un1 (fun S_31 => ww X D A 4 Q 0 0 91 [(0, .ref oL), (1, .int p0)] [] [gX9 cy oL aL L, gX0 cy (aL 1) aS S_31, gX4 cy (aL 2) aP P, gX1 cy oC aC C])) ?_ _ _ _ h15 ?_
      · clear h15 hf
        intro s15 o15 hf hI15 hE15
        obtain ⟨v2_16, S_17⟩ := s15
        unfold s_X9_spellTable_47_15 at hf
        replace hf := un2_e hf
        show ww X D A 4 Q 0 0 47 [(0, .ref oL), (1, .int p0), (2, .int v2_16)] [] [gX9 cy oL aL L, gX0 cy (aL 1) aS S_17, gX4 cy (aL 2) aP P, gX1 cy oC aC C]
        refine ww_iload_n h dX9_spellTable_47 rfl 2 rfl 48 rfl ?_
        refine ww_bipush (v := 26) h dX9_spellTable_48 (by decide) 50 rfl ?_
        refine ww_icmp_ge h dX9_spellTable_50 91 (by decide) 53 rfl (fun c => ?_) (fun c => ?_)
        · replace hf := ite_t c hf
          refine ww_lo [0, 1] (lo' := [(0, .ref oL), (1, .int p0)]) rfl ?_
          exact hE15 S_17 (Option.some.inj hf).symm
        · replace hf := ite_f c hf
          refine ww_iconst (v := 0) h dX9_spellTable_53 (by decide) 54 rfl ?_
          refine ww_ist_n h dX9_spellTable_54 rfl (by decide) (fun v3_18 => [(3, .int v3_18), (0, .ref oL), (1, .int p0), (2, .int v2_16)]) (fun _ => rfl) 55 rfl (fun v3_18 e => ?_)
          replace hf := bnd_at e hf
          clear e
          refine ww_lo [1, 2, 3, 0] (lo' := [(0, .ref oL), (1, .int p0), (2, .int v2_16), (3, .int v3_18)]) rfl ?_
          obtain ⟨S_29, h19, hf⟩ := ob1 hf
          refine lp_walk (un2 (fun v3_20 S_21 => ww X D A 4 Q 0 0 55 [(0, .ref oL), (1, .int p0), (2, .int v2_16), (3, .int v3_20)] [] [gX9 cy oL aL L, gX0 cy (aL 1) aS S_21, gX4 cy (aL 2) aP P, gX1 cy oC aC C])) (un1 (fun S_29 => ww X D A 4 Q 0 0 85 [(0, .ref oL), (1, .int p0), (2, .int v2_16)] [] [gX9 cy oL aL L, gX0 cy (aL 1) aS S_29, gX4 cy (aL 2) aP P, gX1 cy oC aC C])) ?_ _ _ _ h19 ?_
          · clear h19 hf
            intro s19 o19 hf hI19 hE19
            obtain ⟨v3_20, S_21⟩ := s19
            unfold s_X9_spellTable_55_19 at hf
            replace hf := un2_e hf
            show ww X D A 4 Q 0 0 55 [(0, .ref oL), (1, .int p0), (2, .int v2_16), (3, .int v3_20)] [] [gX9 cy oL aL L, gX0 cy (aL 1) aS S_21, gX4 cy (aL 2) aP P, gX1 cy oC aC C]
            refine ww_iload_n h dX9_spellTable_55 rfl 3 rfl 56 rfl ?_
            refine ww_bipush (v := 26) h dX9_spellTable_56 (by decide) 58 rfl ?_
            refine ww_icmp_ge h dX9_spellTable_58 85 (by decide) 61 rfl (fun c => ?_) (fun c => ?_)
            · replace hf := ite_t c hf
              refine ww_lo [0, 1, 2] (lo' := [(0, .ref oL), (1, .int p0), (2, .int v2_16)]) rfl ?_
              exact hE19 S_21 (Option.some.inj hf).symm
            · replace hf := ite_f c hf
              refine ww_aload_n h dX9_spellTable_61 rfl 0 rfl 62 rfl ?_
              refine ww_get h inG9 rfl 0 rfl rfl 2 (by decide) w_415 rfl dX9_spellTable_62 65 rfl ?_
              refine ww_iload_n h dX9_spellTable_65 rfl 2 rfl 66 rfl ?_
              refine ww_iload_n h dX9_spellTable_66 rfl 3 rfl 67 rfl ?_
              obtain ⟨r_22, hu23, hf⟩ := ob1 hf
              refine ww_cVi h (c_X4_isKept l D ev cy (aL 2) aP P v2_16 v3_20 _ hu23) ⟨w_743, w_740, w_741, w_742, w_105, ok_X4_isKept⟩ ⟨by decide, by decide⟩ ⟨by decide, by decide⟩ ⟨rfl, rfl⟩ [2] rfl 0 rfl rfl rfl rfl (Nat.le_of_ble_eq_true rfl) dX9_spellTable_67 70 rfl (Gs' := [gX4 cy (aL 2) aP P, gX9 cy oL aL L, gX0 cy (aL 1) aS S_21, gX1 cy oC aC C]) rfl ?_
              clear hu23
              have hJ79_25 : ∀ (S_24 : OV), j_X9_spellTable_79_25 v3_20 S_24 = some o19 → ww X D A 4 Q 0 0 79 [(0, .ref oL), (1, .int p0), (2, .int v2_16), (3, .int v3_20)] [] [gX9 cy oL aL L, gX0 cy (aL 1) aS S_24, gX4 cy (aL 2) aP P, gX1 cy oC aC C] := by
                intro S_24 hf
                unfold j_X9_spellTable_79_25 at hf
                refine ww_inc (c := 1) h dX9_spellTable_79 3 rfl (by decide) (by decide) (fun v3_26 => [(3, .int v3_26), (0, .ref oL), (1, .int p0), (2, .int v2_16)]) (fun _ => rfl) 82 rfl (fun v3_26 e => ?_)
                replace hf := bnd_at e hf
                clear e
                refine ww_goto h dX9_spellTable_82 55 (by decide) ?_
                refine ww_lo [1, 2, 3, 0] (lo' := [(0, .ref oL), (1, .int p0), (2, .int v2_16), (3, .int v3_26)]) rfl ?_
                exact hI19 (v3_26, S_24) (Option.some.inj hf).symm
              refine ww_if_eq h dX9_spellTable_70 79 (by decide) 73 rfl (fun c => ?_) (fun c => ?_)
              · replace hf := ite_t c hf
                refine ww_perm [1, 1, 0, 0] (Gs' := [gX9 cy oL aL L, gX0 cy (aL 1) aS S_21, gX4 cy (aL 2) aP P, gX1 cy oC aC C]) rfl ?_
                exact hJ79_25 S_21 hf
              · replace hf := ite_f c hf
                refine ww_aload_n h dX9_spellTable_73 rfl 0 rfl 74 rfl ?_
                refine ww_iload_n h dX9_spellTable_74 rfl 2 rfl 75 rfl ?_
                refine ww_iload_n h dX9_spellTable_75 rfl 3 rfl 76 rfl ?_
                obtain ⟨S_27, hu28, hf⟩ := ob1 hf
                refine ww_cVv h (c_X9_spellPair l D ev cy oL aL L aS S_21 v2_16 v3_20 _ hu28) ⟨w_1064, w_1061, w_1063, w_34, w_101, ok_X9_spellPair⟩ ⟨by decide, by decide⟩ ⟨by decide, by decide⟩ ⟨rfl, rfl⟩ [1, 1] rfl 0 rfl rfl rfl rfl (Nat.le_of_ble_eq_true rfl) dX9_spellTable_76 79 rfl (Gs' := [gX9 cy oL aL L, gX0 cy (aL 1) aS S_27, gX4 cy (aL 2) aP P, gX1 cy oC aC C]) rfl ?_
                clear hu28
                exact hJ79_25 S_27 hf
          · clear h19
            show ww X D A 4 Q 0 0 85 [(0, .ref oL), (1, .int p0), (2, .int v2_16)] [] [gX9 cy oL aL L, gX0 cy (aL 1) aS S_29, gX4 cy (aL 2) aP P, gX1 cy oC aC C]
            refine ww_inc (c := 1) h dX9_spellTable_85 2 rfl (by decide) (by decide) (fun v2_30 => [(2, .int v2_30), (0, .ref oL), (1, .int p0)]) (fun _ => rfl) 88 rfl (fun v2_30 e => ?_)
            replace hf := bnd_at e hf
            clear e
            refine ww_goto h dX9_spellTable_88 47 (by decide) ?_
            refine ww_lo [1, 2, 0] (lo' := [(0, .ref oL), (1, .int p0), (2, .int v2_30)]) rfl ?_
            exact hI15 (v2_30, S_29) (Option.some.inj hf).symm
      · clear h15
        show ww X D A 4 Q 0 0 91 [(0, .ref oL), (1, .int p0)] [] [gX9 cy oL aL L, gX0 cy (aL 1) aS S_31, gX4 cy (aL 2) aP P, gX1 cy oC aC C]
        refine ww_aload_n h dX9_spellTable_91 rfl 0 rfl 92 rfl ?_
        refine ww_get h inG9 rfl 0 rfl rfl 1 (by decide) w_414 rfl dX9_spellTable_92 95 rfl ?_
        refine ww_iload_n h dX9_spellTable_95 rfl 1 rfl 96 rfl ?_
        obtain ⟨r_32, hu33, hf⟩ := ob1 hf
        refine ww_cVi h (c_X0_told l D ev cy (aL 1) aS S_31 p0 _ hu33) ⟨w_1032, w_1029, w_1030, w_1031, w_102, ok_X0_told⟩ ⟨by decide, by decide⟩ ⟨by decide, by decide⟩ ⟨rfl, rfl⟩ [1] rfl 0 rfl rfl rfl rfl (Nat.le_of_ble_eq_true rfl) dX9_spellTable_96 99 rfl (Gs' := [gX0 cy (aL 1) aS S_31, gX9 cy oL aL L, gX4 cy (aL 2) aP P, gX1 cy oC aC C]) rfl ?_
        clear hu33
        refine ww_perm [1, 0, 0, 0] (Gs' := [gX9 cy oL aL L, gX0 cy (aL 1) aS S_31, gX4 cy (aL 2) aP P, gX1 cy oC aC C]) rfl ?_
        obtain rfl := Option.some.inj hf
        exact ww_iret h dX9_spellTable_99 hQ ⟨rfl, rfl⟩
  · replace hf := ite_f c hf
    refine ww_iconst (v := (-1)) h dX9_spellTable_5 (by decide) 6 rfl ?_
    obtain rfl := Option.some.inj hf
    exact ww_iret h dX9_spellTable_6 hQ ⟨rfl, rfl⟩
