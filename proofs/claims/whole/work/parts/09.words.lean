theorem tbp_1 {w : Cond} (i : Nat) (hi : tables_1_1[i]? = some w) (hg : goodWord w = true) : w ∈ tbG := by
  have h := List.mem_of_getElem? hi
  exact List.mem_filter.mpr ⟨List.mem_append_right _ (List.mem_append_left _ h), hg⟩
theorem tbp_2 {w : Cond} (i : Nat) (hi : tables_1_2[i]? = some w) (hg : goodWord w = true) : w ∈ tbG := by
  have h := List.mem_of_getElem? hi
  exact List.mem_filter.mpr ⟨List.mem_append_right _ (List.mem_append_right _ (List.mem_append_left _ h)), hg⟩
theorem tbp_3 {w : Cond} (i : Nat) (hi : tables_1_3[i]? = some w) (hg : goodWord w = true) : w ∈ tbG := by
  have h := List.mem_of_getElem? hi
  exact List.mem_filter.mpr ⟨List.mem_append_right _ (List.mem_append_right _ (List.mem_append_right _ (List.mem_append_left _ h))), hg⟩
theorem tbp_4 {w : Cond} (i : Nat) (hi : tables_1_4[i]? = some w) (hg : goodWord w = true) : w ∈ tbG := by
  have h := List.mem_of_getElem? hi
  exact List.mem_filter.mpr ⟨List.mem_append_right _ (List.mem_append_right _ (List.mem_append_right _ (List.mem_append_right _ (List.mem_append_left _ h)))), hg⟩
theorem tbp_5 {w : Cond} (i : Nat) (hi : tables_1_5[i]? = some w) (hg : goodWord w = true) : w ∈ tbG := by
  have h := List.mem_of_getElem? hi
  exact List.mem_filter.mpr ⟨List.mem_append_right _ (List.mem_append_right _ (List.mem_append_right _ (List.mem_append_right _ (List.mem_append_right _ (List.mem_append_left _ h))))), hg⟩
theorem tbp_6 {w : Cond} (i : Nat) (hi : tables_1_6[i]? = some w) (hg : goodWord w = true) : w ∈ tbG := by
  have h := List.mem_of_getElem? hi
  exact List.mem_filter.mpr ⟨List.mem_append_right _ (List.mem_append_right _ (List.mem_append_right _ (List.mem_append_right _ (List.mem_append_right _ (List.mem_append_right _ (List.mem_append_left _ h)))))), hg⟩
theorem tbp_7 {w : Cond} (i : Nat) (hi : tables_1_7[i]? = some w) (hg : goodWord w = true) : w ∈ tbG := by
  have h := List.mem_of_getElem? hi
  exact List.mem_filter.mpr ⟨List.mem_append_right _ (List.mem_append_right _ (List.mem_append_right _ (List.mem_append_right _ (List.mem_append_right _ (List.mem_append_right _ (List.mem_append_right _ (h))))))), hg⟩
theorem tbp_0 {q : MethodName × Nat} (h : q ∈ lw_privs) : Cond.selects q.1.cls q.1 q.1 ∈ tbG := List.mem_filter.mpr ⟨List.mem_append_left _ (List.mem_map.mpr ⟨q, h, rfl⟩), rfl⟩
theorem w_0 : (Cond.selects "LineEnds$Reader" ⟨"LineEnds$Reader", "next", "()V"⟩ ⟨"LineEnds$Reader", "next", "()V"⟩) ∈ tbG := tb_in 0 rfl rfl
theorem w_1 : (Cond.selects "LineEnds$Reader" ⟨"LineEnds$Reader", "isWordOrNumber", "()Z"⟩ ⟨"LineEnds$Reader", "isWordOrNumber", "()Z"⟩) ∈ tbG := tb_in 1 rfl rfl
theorem w_2 : (Cond.selects "LineEnds$Reader" ⟨"LineEnds$Reader", "isText", "(Ljava/lang/String;)Z"⟩ ⟨"LineEnds$Reader", "isText", "(Ljava/lang/String;)Z"⟩) ∈ tbG := tb_in 2 rfl rfl
theorem w_3 : (Cond.selects "LineEnds$Reader" ⟨"LineEnds$Reader", "readClass", "()V"⟩ ⟨"LineEnds$Reader", "readClass", "()V"⟩) ∈ tbG := tb_in 3 rfl rfl
theorem w_4 : (Cond.selects "LineEnds$Reader" ⟨"LineEnds$Reader", "readNewLetter", "()I"⟩ ⟨"LineEnds$Reader", "readNewLetter", "()I"⟩) ∈ tbG := tb_in 4 rfl rfl
theorem w_5 : (Cond.selects "LineEnds$Reader" ⟨"LineEnds$Reader", "letterHere", "()I"⟩ ⟨"LineEnds$Reader", "letterHere", "()I"⟩) ∈ tbG := tb_in 5 rfl rfl
theorem w_6 : (Cond.selects "LineEnds$Reader" ⟨"LineEnds$Reader", "fail", "()V"⟩ ⟨"LineEnds$Reader", "fail", "()V"⟩) ∈ tbG := tb_in 6 rfl rfl
theorem w_7 : (Cond.selects "LineEnds$Reader" ⟨"LineEnds$Reader", "expect", "(Ljava/lang/String;)V"⟩ ⟨"LineEnds$Reader", "expect", "(Ljava/lang/String;)V"⟩) ∈ tbG := tb_in 7 rfl rfl
theorem w_8 : (Cond.selects "LineEnds$Reader" ⟨"LineEnds$Reader", "readNumber", "(II)I"⟩ ⟨"LineEnds$Reader", "readNumber", "(II)I"⟩) ∈ tbG := tb_in 8 rfl rfl
theorem w_9 : (Cond.selects "LineEnds$Reader" ⟨"LineEnds$Reader", "readShy", "(I)V"⟩ ⟨"LineEnds$Reader", "readShy", "(I)V"⟩) ∈ tbG := tb_in 9 rfl rfl
theorem w_10 : (Cond.selects "LineEnds$Reader" ⟨"LineEnds$Reader", "takes", "(Ljava/lang/String;)Z"⟩ ⟨"LineEnds$Reader", "takes", "(Ljava/lang/String;)Z"⟩) ∈ tbG := tb_in 10 rfl rfl
theorem w_11 : (Cond.selects "LineEnds$Reader" ⟨"LineEnds$Reader", "expectStop", "()V"⟩ ⟨"LineEnds$Reader", "expectStop", "()V"⟩) ∈ tbG := tb_in 11 rfl rfl
theorem w_12 : (Cond.selects "LineEnds$Reader" ⟨"LineEnds$Reader", "readPair", "()V"⟩ ⟨"LineEnds$Reader", "readPair", "()V"⟩) ∈ tbG := tb_in 12 rfl rfl
theorem w_13 : (Cond.selects "LineEnds$Reader" ⟨"LineEnds$Reader", "readToldLetter", "()I"⟩ ⟨"LineEnds$Reader", "readToldLetter", "()I"⟩) ∈ tbG := tb_in 13 rfl rfl
theorem w_14 : (Cond.selects "LineEnds" ⟨"LineEnds", "forget", "()V"⟩ ⟨"LineEnds", "forget", "()V"⟩) ∈ tbG := tb_in 14 rfl rfl
theorem w_15 : (Cond.selects "LineEnds" ⟨"LineEnds", "paragraphFault", "()I"⟩ ⟨"LineEnds", "paragraphFault", "()I"⟩) ∈ tbG := tb_in 15 rfl rfl
theorem w_16 : (Cond.selects "LineEnds" ⟨"LineEnds", "beginAct", "()V"⟩ ⟨"LineEnds", "beginAct", "()V"⟩) ∈ tbG := tb_in 16 rfl rfl
theorem w_17 : (Cond.selects "LineEnds" ⟨"LineEnds", "currentRuler", "()LLineEnds$Ruler;"⟩ ⟨"LineEnds", "currentRuler", "()LLineEnds$Ruler;"⟩) ∈ tbG := tb_in 17 rfl rfl
theorem w_18 : (Cond.selects "LineEnds$Ruler" ⟨"LineEnds$Ruler", "addToSums", "(I)V"⟩ ⟨"LineEnds$Ruler", "addToSums", "(I)V"⟩) ∈ tbG := tb_in 18 rfl rfl
theorem w_19 : (Cond.selects "LineEnds$Ruler" ⟨"LineEnds$Ruler", "takeAway", "(III)V"⟩ ⟨"LineEnds$Ruler", "takeAway", "(III)V"⟩) ∈ tbG := tb_in 19 rfl rfl
theorem w_20 : (Cond.selects "LineEnds$Ruler" ⟨"LineEnds$Ruler", "openGaps", "(III)V"⟩ ⟨"LineEnds$Ruler", "openGaps", "(III)V"⟩) ∈ tbG := tb_in 20 rfl rfl
theorem w_21 : (Cond.selects "LineEnds" ⟨"LineEnds", "layoutOf", "(I)LLineEnds$Layout;"⟩ ⟨"LineEnds", "layoutOf", "(I)LLineEnds$Layout;"⟩) ∈ tbG := tb_in 21 rfl rfl
theorem w_22 : (Cond.selects "LineEnds$Planner" ⟨"LineEnds$Planner", "offer", "(III)V"⟩ ⟨"LineEnds$Planner", "offer", "(III)V"⟩) ∈ tbG := tb_in 22 rfl rfl
theorem w_23 : (Cond.selects "LineEnds$Planner" ⟨"LineEnds$Planner", "fullEnd", "(LLineEnds$Ruler;IZ)I"⟩ ⟨"LineEnds$Planner", "fullEnd", "(LLineEnds$Ruler;IZ)I"⟩) ∈ tbG := tb_in 23 rfl rfl
theorem w_24 : (Cond.selects "LineEnds$Layout" ⟨"LineEnds$Layout", "note", "(LLineEnds$Ruler;II)V"⟩ ⟨"LineEnds$Layout", "note", "(LLineEnds$Ruler;II)V"⟩) ∈ tbG := tb_in 24 rfl rfl
theorem w_25 : (Cond.selects "LineEnds$Layout" ⟨"LineEnds$Layout", "dealTaken", "(LLineEnds$Ruler;II)V"⟩ ⟨"LineEnds$Layout", "dealTaken", "(LLineEnds$Ruler;II)V"⟩) ∈ tbG := tb_in 25 rfl rfl
theorem w_26 : (Cond.selects "LineEnds$Layout" ⟨"LineEnds$Layout", "deal", "(I[III)V"⟩ ⟨"LineEnds$Layout", "deal", "(I[III)V"⟩) ∈ tbG := tb_in 26 rfl rfl
theorem w_27 : (Cond.selects "LineEnds$Layout" ⟨"LineEnds$Layout", "leastOf", "(I[III)I"⟩ ⟨"LineEnds$Layout", "leastOf", "(I[III)I"⟩) ∈ tbG := tb_in 27 rfl rfl
theorem w_28 : (Cond.selects "LineEnds$Layout" ⟨"LineEnds$Layout", "dealPutIn", "(LLineEnds$Ruler;II)V"⟩ ⟨"LineEnds$Layout", "dealPutIn", "(LLineEnds$Ruler;II)V"⟩) ∈ tbG := tb_in 28 rfl rfl
theorem w_29 : (Cond.selects "LineEnds" ⟨"LineEnds", "hasLine", "(II)Z"⟩ ⟨"LineEnds", "hasLine", "(II)Z"⟩) ∈ tbG := tb_in 29 rfl rfl
theorem w_30 : (Cond.selects "LineEnds$Layout" ⟨"LineEnds$Layout", "dryUp", "(II)V"⟩ ⟨"LineEnds$Layout", "dryUp", "(II)V"⟩) ∈ tbG := tb_in 30 rfl rfl
theorem w_31 : (Cond.selects "LineEnds$Layout" ⟨"LineEnds$Layout", "flowOn", "(II)I"⟩ ⟨"LineEnds$Layout", "flowOn", "(II)I"⟩) ∈ tbG := tb_in 31 rfl rfl
theorem w_32 : (Cond.selects "LineEnds" ⟨"LineEnds", "spellLine", "(LLineEnds$Layout;I)V"⟩ ⟨"LineEnds", "spellLine", "(LLineEnds$Layout;I)V"⟩) ∈ tbG := tb_in 32 rfl rfl
theorem w_33 : (Cond.selects "LineEnds" ⟨"LineEnds", "spellClass", "(I)V"⟩ ⟨"LineEnds", "spellClass", "(I)V"⟩) ∈ tbG := tb_in 33 rfl rfl
theorem w_34 : (Cond.selects "LineEnds" ⟨"LineEnds", "spellPair", "(II)V"⟩ ⟨"LineEnds", "spellPair", "(II)V"⟩) ∈ tbG := tb_in 34 rfl rfl
theorem w_35 : (Cond.selects "LineEnds" ⟨"LineEnds", "currentWays", "()LLineEnds$Ways;"⟩ ⟨"LineEnds", "currentWays", "()LLineEnds$Ways;"⟩) ∈ tbG := tb_in 35 rfl rfl
theorem w_36 : (Cond.selects "LineEnds" ⟨"LineEnds", "trialCost", "()I"⟩ ⟨"LineEnds", "trialCost", "()I"⟩) ∈ tbG := tb_in 36 rfl rfl
theorem w_37 : (Cond.selects "LineEndsModel" ⟨"LineEndsModel", "many", "()I"⟩ ⟨"LineEndsModel", "many", "()I"⟩) ∈ tbG := tb_in 37 rfl rfl
theorem w_38 : (Cond.selects "LineEndsModel" ⟨"LineEndsModel", "isTold", "(I)Z"⟩ ⟨"LineEndsModel", "isTold", "(I)Z"⟩) ∈ tbG := tb_in 38 rfl rfl
theorem w_39 : (Cond.selects "LineEndsModel" ⟨"LineEndsModel", "keeps", "()V"⟩ ⟨"LineEndsModel", "keeps", "()V"⟩) ∈ tbG := tb_in 39 rfl rfl
theorem w_40 : (Cond.selects "LineEndsModel" ⟨"LineEndsModel", "moves", "(II)V"⟩ ⟨"LineEndsModel", "moves", "(II)V"⟩) ∈ tbG := tb_in 40 rfl rfl
theorem w_41 : (Cond.selects "LineEndsModel" ⟨"LineEndsModel", "copies", "(II)V"⟩ ⟨"LineEndsModel", "copies", "(II)V"⟩) ∈ tbG := tb_in 41 rfl rfl
theorem w_42 : (Cond.selects "LineEndsModel" ⟨"LineEndsModel", "isSign", "(I)Z"⟩ ⟨"LineEndsModel", "isSign", "(I)Z"⟩) ∈ tbG := tb_in 42 rfl rfl
theorem w_43 : (Cond.selects "LineEndsModel" ⟨"LineEndsModel", "drops", "(II)V"⟩ ⟨"LineEndsModel", "drops", "(II)V"⟩) ∈ tbG := tb_in 43 rfl rfl
theorem w_44 : (Cond.selects "LineEndsModel" ⟨"LineEndsModel", "classOf", "(I)I"⟩ ⟨"LineEndsModel", "classOf", "(I)I"⟩) ∈ tbG := tb_in 44 rfl rfl
theorem w_45 : (Cond.selects "LineEndsModel" ⟨"LineEndsModel", "putsAside", "()V"⟩ ⟨"LineEndsModel", "putsAside", "()V"⟩) ∈ tbG := tb_in 45 rfl rfl
theorem w_46 : (Cond.selects "LineEndsModel" ⟨"LineEndsModel", "signsLike", "(I)I"⟩ ⟨"LineEndsModel", "signsLike", "(I)I"⟩) ∈ tbG := tb_in 46 rfl rfl
theorem w_47 : (Cond.selects "LineEndsModel" ⟨"LineEndsModel", "markOf", "(I)I"⟩ ⟨"LineEndsModel", "markOf", "(I)I"⟩) ∈ tbG := tb_in 47 rfl rfl
theorem w_48 : (Cond.selects "LineEndsModel" ⟨"LineEndsModel", "becomes", "(II)I"⟩ ⟨"LineEndsModel", "becomes", "(II)I"⟩) ∈ tbG := tb_in 48 rfl rfl
theorem w_49 : (Cond.selects "LineEndsModel" ⟨"LineEndsModel", "arePair", "(II)Z"⟩ ⟨"LineEndsModel", "arePair", "(II)Z"⟩) ∈ tbG := tb_in 49 rfl rfl
theorem w_50 : (Cond.selects "LineEndsModel" ⟨"LineEndsModel", "pairs", "()I"⟩ ⟨"LineEndsModel", "pairs", "()I"⟩) ∈ tbG := tb_in 50 rfl rfl
theorem w_51 : (Cond.selects "LineEndsModel" ⟨"LineEndsModel", "isLegal", "(I)Z"⟩ ⟨"LineEndsModel", "isLegal", "(I)Z"⟩) ∈ tbG := tb_in 51 rfl rfl
theorem w_52 : (Cond.selects "LineEndsModel" ⟨"LineEndsModel", "looks", "(II)V"⟩ ⟨"LineEndsModel", "looks", "(II)V"⟩) ∈ tbG := tb_in 52 rfl rfl
theorem w_53 : (Cond.selects "LineEndsModel" ⟨"LineEndsModel", "takes", "(III)V"⟩ ⟨"LineEndsModel", "takes", "(III)V"⟩) ∈ tbG := tb_in 53 rfl rfl
theorem w_54 : (Cond.selects "LineEndsModel" ⟨"LineEndsModel", "squeezeOf", "(IIZ)I"⟩ ⟨"LineEndsModel", "squeezeOf", "(IIZ)I"⟩) ∈ tbG := tb_in 54 rfl rfl
theorem w_55 : (Cond.selects "LineEndsModel" ⟨"LineEndsModel", "gives", "(III)V"⟩ ⟨"LineEndsModel", "gives", "(III)V"⟩) ∈ tbG := tb_in 55 rfl rfl
theorem w_56 : (Cond.selects "LineEndsModel" ⟨"LineEndsModel", "laysLines", "(I)V"⟩ ⟨"LineEndsModel", "laysLines", "(I)V"⟩) ∈ tbG := tb_in 56 rfl rfl
theorem w_57 : (Cond.selects "LineEndsModel" ⟨"LineEndsModel", "laysCosts", "()V"⟩ ⟨"LineEndsModel", "laysCosts", "()V"⟩) ∈ tbG := tb_in 57 rfl rfl
theorem w_58 : (Cond.selects "LineEndsModel" ⟨"LineEndsModel", "limitOf", "(I)I"⟩ ⟨"LineEndsModel", "limitOf", "(I)I"⟩) ∈ tbG := tb_in 58 rfl rfl
theorem w_59 : (Cond.selects "LineEndsModel" ⟨"LineEndsModel", "leastGreatest", "()I"⟩ ⟨"LineEndsModel", "leastGreatest", "()I"⟩) ∈ tbG := tb_in 59 rfl rfl
theorem w_60 : (Cond.selects "LineEndsModel" ⟨"LineEndsModel", "laysBest", "(I)V"⟩ ⟨"LineEndsModel", "laysBest", "(I)V"⟩) ∈ tbG := tb_in 60 rfl rfl
theorem w_61 : (Cond.selects "LineEndsModel" ⟨"LineEndsModel", "oneEnd", "(II)I"⟩ ⟨"LineEndsModel", "oneEnd", "(II)I"⟩) ∈ tbG := tb_in 61 rfl rfl
theorem w_62 : (Cond.selects "LineEndsModel" ⟨"LineEndsModel", "lastEnd", "(IZZ)I"⟩ ⟨"LineEndsModel", "lastEnd", "(IZZ)I"⟩) ∈ tbG := tb_in 62 rfl rfl
theorem w_63 : (Cond.selects "LineEndsModel" ⟨"LineEndsModel", "firstOf", "(I)I"⟩ ⟨"LineEndsModel", "firstOf", "(I)I"⟩) ∈ tbG := tb_in 63 rfl rfl
theorem w_64 : (Cond.selects "LineEndsModel" ⟨"LineEndsModel", "ofLooked", "(II)I"⟩ ⟨"LineEndsModel", "ofLooked", "(II)I"⟩) ∈ tbG := tb_in 64 rfl rfl
theorem w_65 : (Cond.selects "LineEndsModel" ⟨"LineEndsModel", "looksAt", "(II)Z"⟩ ⟨"LineEndsModel", "looksAt", "(II)Z"⟩) ∈ tbG := tb_in 65 rfl rfl
theorem w_66 : (Cond.selects "LineEndsModel" ⟨"LineEndsModel", "lineWith", "(I)I"⟩ ⟨"LineEndsModel", "lineWith", "(I)I"⟩) ∈ tbG := tb_in 66 rfl rfl
theorem w_67 : (Cond.selects "LineEndsModel" ⟨"LineEndsModel", "deals", "(II)V"⟩ ⟨"LineEndsModel", "deals", "(II)V"⟩) ∈ tbG := tb_in 67 rfl rfl
theorem w_68 : (Cond.selects "LineEndsModel" ⟨"LineEndsModel", "leastTaken", "(III)I"⟩ ⟨"LineEndsModel", "leastTaken", "(III)I"⟩) ∈ tbG := tb_in 68 rfl rfl
theorem w_69 : (Cond.selects "LineEndsModel" ⟨"LineEndsModel", "leastPut", "(III)I"⟩ ⟨"LineEndsModel", "leastPut", "(III)I"⟩) ∈ tbG := tb_in 69 rfl rfl
theorem w_70 : (Cond.selects "LineEndsModel" ⟨"LineEndsModel", "edgeOf", "(II)I"⟩ ⟨"LineEndsModel", "edgeOf", "(II)I"⟩) ∈ tbG := tb_in 70 rfl rfl
theorem w_71 : (Cond.selects "LineEndsModel" ⟨"LineEndsModel", "writes", "(I)V"⟩ ⟨"LineEndsModel", "writes", "(I)V"⟩) ∈ tbG := tb_in 71 rfl rfl
theorem w_72 : (Cond.selects "LineEndsModel" ⟨"LineEndsModel", "told", "(I)I"⟩ ⟨"LineEndsModel", "told", "(I)I"⟩) ∈ tbG := tb_in 72 rfl rfl
theorem w_73 : (Cond.selects "LineEndsModel" ⟨"LineEndsModel", "writesClass", "(I)V"⟩ ⟨"LineEndsModel", "writesClass", "(I)V"⟩) ∈ tbG := tb_in 73 rfl rfl
theorem w_74 : (Cond.selects "LineEndsModel" ⟨"LineEndsModel", "writesWord", "(I)V"⟩ ⟨"LineEndsModel", "writesWord", "(I)V"⟩) ∈ tbG := tb_in 74 rfl rfl
theorem w_75 : (Cond.selects "LineEndsModel" ⟨"LineEndsModel", "wordFrom", "(I)I"⟩ ⟨"LineEndsModel", "wordFrom", "(I)I"⟩) ∈ tbG := tb_in 75 rfl rfl
theorem w_76 : (Cond.selects "LineEndsModel" ⟨"LineEndsModel", "writesNumber", "(II)V"⟩ ⟨"LineEndsModel", "writesNumber", "(II)V"⟩) ∈ tbG := tb_in 76 rfl rfl
theorem w_77 : (Cond.selects "LineEndsModel" ⟨"LineEndsModel", "writesMore", "(I)V"⟩ ⟨"LineEndsModel", "writesMore", "(I)V"⟩) ∈ tbG := tb_in 77 rfl rfl
theorem w_78 : (Cond.selects "LineEndsModel" ⟨"LineEndsModel", "laysWays", "()V"⟩ ⟨"LineEndsModel", "laysWays", "()V"⟩) ∈ tbG := tb_in 78 rfl rfl
theorem w_79 : (Cond.selects "LineEndsModel" ⟨"LineEndsModel", "mayBe", "(II)Z"⟩ ⟨"LineEndsModel", "mayBe", "(II)Z"⟩) ∈ tbG := tb_in 79 rfl rfl
theorem w_80 : (Cond.selects "LineEndsModel" ⟨"LineEndsModel", "bestAsIs", "()I"⟩ ⟨"LineEndsModel", "bestAsIs", "()I"⟩) ∈ tbG := tb_in 80 rfl rfl
theorem w_81 : (Cond.selects "LineEndsModel" ⟨"LineEndsModel", "takesBack", "()V"⟩ ⟨"LineEndsModel", "takesBack", "()V"⟩) ∈ tbG := tb_in 81 rfl rfl
theorem w_82 : (Cond.selects "LineEndsModel" ⟨"LineEndsModel", "costAt", "(I)I"⟩ ⟨"LineEndsModel", "costAt", "(I)I"⟩) ∈ tbG := tb_in 82 rfl rfl
theorem w_83 : (Cond.selects "LineEndsModel" ⟨"LineEndsModel", "classes", "()I"⟩ ⟨"LineEndsModel", "classes", "()I"⟩) ∈ tbG := tb_in 83 rfl rfl
theorem w_84 : (Cond.selects "LineEndsModel" ⟨"LineEndsModel", "legalEnds", "()I"⟩ ⟨"LineEndsModel", "legalEnds", "()I"⟩) ∈ tbG := tb_in 84 rfl rfl
theorem w_85 : (Cond.selects "LineEndsModel" ⟨"LineEndsModel", "longest", "()I"⟩ ⟨"LineEndsModel", "longest", "()I"⟩) ∈ tbG := tb_in 85 rfl rfl
theorem w_86 : (Cond.selects "LineEndsModel" ⟨"LineEndsModel", "signsMarked", "(I)I"⟩ ⟨"LineEndsModel", "signsMarked", "(I)I"⟩) ∈ tbG := tb_in 86 rfl rfl
theorem w_87 : (Cond.selects "LineEndsModel" ⟨"LineEndsModel", "goesOn", "()V"⟩ ⟨"LineEndsModel", "goesOn", "()V"⟩) ∈ tbG := tb_in 87 rfl rfl
theorem w_88 : (Cond.selects "LineEndsModel" ⟨"LineEndsModel", "here", "()I"⟩ ⟨"LineEndsModel", "here", "()I"⟩) ∈ tbG := tb_in 88 rfl rfl
theorem w_89 : (Cond.selects "LineEndsModel" ⟨"LineEndsModel", "takesWord", "(I)Z"⟩ ⟨"LineEndsModel", "takesWord", "(I)Z"⟩) ∈ tbG := tb_in 89 rfl rfl
theorem w_90 : (Cond.selects "LineEndsModel" ⟨"LineEndsModel", "isWord", "(I)Z"⟩ ⟨"LineEndsModel", "isWord", "(I)Z"⟩) ∈ tbG := tb_in 90 rfl rfl
theorem w_91 : (Cond.selects "LineEndsModel" ⟨"LineEndsModel", "readsClass", "()V"⟩ ⟨"LineEndsModel", "readsClass", "()V"⟩) ∈ tbG := tb_in 91 rfl rfl
theorem w_92 : (Cond.selects "LineEndsModel" ⟨"LineEndsModel", "letterHere", "()I"⟩ ⟨"LineEndsModel", "letterHere", "()I"⟩) ∈ tbG := tb_in 92 rfl rfl
theorem w_93 : (Cond.selects "LineEndsModel" ⟨"LineEndsModel", "needs", "(I)V"⟩ ⟨"LineEndsModel", "needs", "(I)V"⟩) ∈ tbG := tb_in 93 rfl rfl
theorem w_94 : (Cond.selects "LineEndsModel" ⟨"LineEndsModel", "needsNumber", "(II)I"⟩ ⟨"LineEndsModel", "needsNumber", "(II)I"⟩) ∈ tbG := tb_in 94 rfl rfl
theorem w_95 : (Cond.selects "LineEndsModel" ⟨"LineEndsModel", "readsShyEnd", "(I)V"⟩ ⟨"LineEndsModel", "readsShyEnd", "(I)V"⟩) ∈ tbG := tb_in 95 rfl rfl
theorem w_96 : (Cond.selects "LineEndsModel" ⟨"LineEndsModel", "readsRank", "()I"⟩ ⟨"LineEndsModel", "readsRank", "()I"⟩) ∈ tbG := tb_in 96 rfl rfl
theorem w_97 : (Cond.selects "LineEndsModel" ⟨"LineEndsModel", "needsClose", "()V"⟩ ⟨"LineEndsModel", "needsClose", "()V"⟩) ∈ tbG := tb_in 97 rfl rfl
theorem w_98 : (Cond.selects "LineEndsModel" ⟨"LineEndsModel", "readsKeep", "()V"⟩ ⟨"LineEndsModel", "readsKeep", "()V"⟩) ∈ tbG := tb_in 98 rfl rfl
theorem w_99 : (Cond.selects "LineEndsModel" ⟨"LineEndsModel", "readsLetter", "()I"⟩ ⟨"LineEndsModel", "readsLetter", "()I"⟩) ∈ tbG := tb_in 99 rfl rfl
theorem w_100 : (Jvm.Cond.initialized "LineEndsLaw") ∈ tbG := tbp_1 0 rfl rfl
theorem w_101 : (Jvm.Cond.initialized "LineEnds") ∈ tbG := tbp_1 1 rfl rfl
theorem w_102 : (Jvm.Cond.initialized "LineEnds$Bytes") ∈ tbG := tbp_1 2 rfl rfl
theorem w_103 : (Jvm.Cond.initialized "java/lang/Math") ∈ tbG := tbp_1 3 rfl rfl
theorem w_104 : (Jvm.Cond.initialized "LineEnds$Classes") ∈ tbG := tbp_1 4 rfl rfl
theorem w_105 : (Jvm.Cond.initialized "LineEnds$Page") ∈ tbG := tbp_1 5 rfl rfl
theorem w_106 : (Jvm.Cond.initialized "LineEnds$History") ∈ tbG := tbp_1 6 rfl rfl
theorem w_107 : (Jvm.Cond.initialized "LineEnds$Ruler") ∈ tbG := tbp_1 7 rfl rfl
theorem w_108 : (Jvm.Cond.initialized "LineEnds$Planner") ∈ tbG := tbp_1 8 rfl rfl
theorem w_109 : (Jvm.Cond.initialized "LineEnds$Layout") ∈ tbG := tbp_1 9 rfl rfl
theorem w_110 : (Jvm.Cond.initialized "LineEnds$Ways") ∈ tbG := tbp_1 10 rfl rfl
theorem w_111 : (Jvm.Cond.initialized "LineEndsModel") ∈ tbG := tbp_1 11 rfl rfl
theorem w_112 : (Jvm.Cond.initialized "LineEnds$Reader") ∈ tbG := tbp_1 12 rfl rfl
theorem w_113 : (Jvm.Cond.initialized "java/util/Arrays") ∈ tbG := tbp_1 13 rfl rfl
theorem w_114 : (Jvm.Cond.initialized "java/lang/String") ∈ tbG := tbp_1 14 rfl rfl
theorem w_115 : (Jvm.Cond.initialized "java/lang/StringLatin1") ∈ tbG := tbp_1 15 rfl rfl
theorem w_116 : (Jvm.Cond.initialized "jdk/internal/util/Preconditions") ∈ tbG := tbp_1 16 rfl rfl
theorem w_117 : (Jvm.Cond.initialized "java/lang/StringUTF16") ∈ tbG := tbp_1 17 rfl rfl
theorem w_118 : (Jvm.Cond.initialized "java/lang/System") ∈ tbG := tbp_1 18 rfl rfl
theorem w_119 : (Jvm.Cond.classLink "LineEndsLaw" (7 : Nat) "LineEnds") ∈ tbG := tbp_1 19 rfl rfl
theorem w_120 : (Jvm.Cond.instantiable "LineEnds" (13 : Nat)) ∈ tbG := tbp_1 20 rfl rfl
theorem w_121 : (Jvm.Cond.methodLink "LineEndsLaw" (9 : Nat) ({ cls := "LineEnds", name := "<init>", desc := "()V" } : Jvm.MethodName)) ∈ tbG := tbp_1 21 rfl rfl
theorem w_122 : (Jvm.Cond.instanceMethod ({ cls := "LineEnds", name := "<init>", desc := "()V" } : Jvm.MethodName)) ∈ tbG := tbp_1 22 rfl rfl
theorem w_123 : (Jvm.Cond.code ({ cls := "LineEnds", name := "<init>", desc := "()V" } : Jvm.MethodName) prog_1_method_1_code (2 : Nat) (Option.none : Option Jvm.ClassFile.FieldType)) ∈ tbG := tbp_1 23 rfl rfl
theorem w_124 : (Jvm.Cond.methodLink "LineEnds" (1 : Nat) ({ cls := "java/lang/Object", name := "<init>", desc := "()V" } : Jvm.MethodName)) ∈ tbG := tbp_1 24 rfl rfl
theorem w_125 : (Jvm.Cond.instanceMethod ({ cls := "java/lang/Object", name := "<init>", desc := "()V" } : Jvm.MethodName)) ∈ tbG := tbp_1 25 rfl rfl
theorem w_126 : (Jvm.Cond.code ({ cls := "java/lang/Object", name := "<init>", desc := "()V" } : Jvm.MethodName) object_method_1_code (1 : Nat) (Option.none : Option Jvm.ClassFile.FieldType)) ∈ tbG := tbp_1 26 rfl rfl
theorem w_127 : (Jvm.Cond.classLink "LineEnds" (7 : Nat) "LineEnds$Bytes") ∈ tbG := tbp_1 27 rfl rfl
theorem w_128 : (Jvm.Cond.instantiable "LineEnds$Bytes" (2 : Nat)) ∈ tbG := tbp_1 28 rfl rfl
theorem w_129 : (Jvm.Cond.methodLink "LineEnds" (11 : Nat) ({ cls := "LineEnds$Bytes", name := "<init>", desc := "(I)V" } : Jvm.MethodName)) ∈ tbG := tbp_1 29 rfl rfl
theorem w_130 : (Jvm.Cond.instanceMethod ({ cls := "LineEnds$Bytes", name := "<init>", desc := "(I)V" } : Jvm.MethodName)) ∈ tbG := tbp_1 30 rfl rfl
theorem w_131 : (Jvm.Cond.code ({ cls := "LineEnds$Bytes", name := "<init>", desc := "(I)V" } : Jvm.MethodName) prog_2_method_1_code (2 : Nat) (Option.none : Option Jvm.ClassFile.FieldType)) ∈ tbG := tbp_1 31 rfl rfl
theorem w_132 : (Jvm.Cond.methodLink "LineEnds$Bytes" (3 : Nat) ({ cls := "java/lang/Object", name := "<init>", desc := "()V" } : Jvm.MethodName)) ∈ tbG := tbp_1 32 rfl rfl
theorem w_133 : (Jvm.Cond.methodLink "LineEnds$Bytes" (9 : Nat) ({ cls := "java/lang/Math", name := "max", desc := "(II)I" } : Jvm.MethodName)) ∈ tbG := tbp_1 33 rfl rfl
theorem w_134 : (Jvm.Cond.static ({ cls := "java/lang/Math", name := "max", desc := "(II)I" } : Jvm.MethodName)) ∈ tbG := tbp_1 34 rfl rfl
theorem w_135 : (Jvm.Cond.code ({ cls := "java/lang/Math", name := "max", desc := "(II)I" } : Jvm.MethodName) prog_13_method_65_code (2 : Nat) (Option.some Jvm.ClassFile.FieldType.int)) ∈ tbG := tbp_1 35 rfl rfl
theorem w_136 : (Jvm.Cond.fieldLink "LineEnds$Bytes" (15 : Nat) "LineEnds$Bytes" "row" "[I") ∈ tbG := tbp_1 36 rfl rfl
theorem w_137 : (Jvm.Cond.fieldLink "LineEnds" (118 : Nat) "LineEnds$Bytes" "row" "[I") ∈ tbG := tbp_1 37 rfl rfl
theorem w_138 : (Jvm.Cond.fieldLink "LineEnds$Reader" (135 : Nat) "LineEnds$Bytes" "row" "[I") ∈ tbG := tbp_1 38 rfl rfl
theorem w_139 : (Jvm.Cond.fieldLink "LineEnds$Page" (72 : Nat) "LineEnds$Bytes" "row" "[I") ∈ tbG := tbp_1 39 rfl rfl
theorem w_140 : (Jvm.Cond.fieldLink "LineEnds$Bytes" (21 : Nat) "LineEnds$Bytes" "length" "I") ∈ tbG := tbp_1 40 rfl rfl
theorem w_141 : (Jvm.Cond.fieldLink "LineEnds" (85 : Nat) "LineEnds$Bytes" "length" "I") ∈ tbG := tbp_1 41 rfl rfl
theorem w_142 : (Jvm.Cond.fieldLink "LineEnds$Reader" (40 : Nat) "LineEnds$Bytes" "length" "I") ∈ tbG := tbp_1 42 rfl rfl
theorem w_148 : (Jvm.Cond.arrayClass Jvm.ClassFile.FieldType.int) ∈ tbG := tbp_1 48 rfl rfl
theorem w_149 : (Jvm.Cond.classLink "LineEnds" (21 : Nat) "LineEnds$Classes") ∈ tbG := tbp_1 49 rfl rfl
theorem w_150 : (Jvm.Cond.instantiable "LineEnds$Classes" (6 : Nat)) ∈ tbG := tbp_1 50 rfl rfl
theorem w_152 : (Jvm.Cond.instanceMethod ({ cls := "LineEnds$Classes", name := "<init>", desc := "()V" } : Jvm.MethodName)) ∈ tbG := tbp_1 52 rfl rfl
theorem w_153 : (Jvm.Cond.code ({ cls := "LineEnds$Classes", name := "<init>", desc := "()V" } : Jvm.MethodName) prog_3_method_1_code (1 : Nat) (Option.none : Option Jvm.ClassFile.FieldType)) ∈ tbG := tbp_1 53 rfl rfl
theorem w_154 : (Jvm.Cond.methodLink "LineEnds$Classes" (3 : Nat) ({ cls := "java/lang/Object", name := "<init>", desc := "()V" } : Jvm.MethodName)) ∈ tbG := tbp_1 54 rfl rfl
theorem w_155 : (Jvm.Cond.classLink "LineEnds$Classes" (9 : Nat) "[[I") ∈ tbG := tbp_1 55 rfl rfl
theorem w_157 : (Jvm.Cond.fieldLink "LineEnds$Classes" (11 : Nat) "LineEnds$Classes" "facts" "[[I") ∈ tbG := tbp_1 57 rfl rfl
theorem w_158 : (Jvm.Cond.fieldLink "LineEnds$Reader" (71 : Nat) "LineEnds$Classes" "facts" "[[I") ∈ tbG := tbp_1 58 rfl rfl
theorem w_159 : (Jvm.Cond.fieldLink "LineEnds$Ruler" (73 : Nat) "LineEnds$Classes" "facts" "[[I") ∈ tbG := tbp_1 59 rfl rfl
theorem w_160 : (Jvm.Cond.fieldLink "LineEnds" (200 : Nat) "LineEnds$Classes" "facts" "[[I") ∈ tbG := tbp_1 60 rfl rfl
theorem w_161 : (Jvm.Cond.fieldLink "LineEnds$Classes" (16 : Nat) "LineEnds$Classes" "mates" "[I") ∈ tbG := tbp_1 61 rfl rfl
theorem w_162 : (Jvm.Cond.fieldLink "LineEnds$Page" (46 : Nat) "LineEnds$Classes" "mates" "[I") ∈ tbG := tbp_1 62 rfl rfl
theorem w_163 : (Jvm.Cond.fieldLink "LineEnds$Reader" (115 : Nat) "LineEnds$Classes" "mates" "[I") ∈ tbG := tbp_1 63 rfl rfl
theorem w_164 : (Jvm.Cond.fieldLink "LineEnds$Page" (49 : Nat) "LineEnds$Classes" "shyBegins" "I") ∈ tbG := tbp_1 64 rfl rfl
theorem w_165 : (Jvm.Cond.fieldLink "LineEnds$Classes" (26 : Nat) "LineEnds$Classes" "shyBegins" "I") ∈ tbG := tbp_1 65 rfl rfl
theorem w_166 : (Jvm.Cond.fieldLink "LineEnds$Reader" (102 : Nat) "LineEnds$Classes" "shyBegins" "I") ∈ tbG := tbp_1 66 rfl rfl
theorem w_167 : (Jvm.Cond.fieldLink "LineEnds$Page" (50 : Nat) "LineEnds$Classes" "shyEnds" "I") ∈ tbG := tbp_1 67 rfl rfl
theorem w_168 : (Jvm.Cond.fieldLink "LineEnds$Classes" (30 : Nat) "LineEnds$Classes" "shyEnds" "I") ∈ tbG := tbp_1 68 rfl rfl
theorem w_169 : (Jvm.Cond.fieldLink "LineEnds$Reader" (107 : Nat) "LineEnds$Classes" "shyEnds" "I") ∈ tbG := tbp_1 69 rfl rfl
theorem w_170 : (Jvm.Cond.fieldLink "LineEnds$Page" (51 : Nat) "LineEnds$Classes" "pairs" "I") ∈ tbG := tbp_1 70 rfl rfl
theorem w_171 : (Jvm.Cond.fieldLink "LineEnds$Classes" (33 : Nat) "LineEnds$Classes" "pairs" "I") ∈ tbG := tbp_1 71 rfl rfl
theorem w_172 : (Jvm.Cond.fieldLink "LineEnds$Reader" (122 : Nat) "LineEnds$Classes" "pairs" "I") ∈ tbG := tbp_1 72 rfl rfl
theorem w_173 : (Jvm.Cond.fieldLink "LineEnds$Reader" (75 : Nat) "LineEnds$Classes" "count" "I") ∈ tbG := tbp_1 73 rfl rfl
theorem w_174 : (Jvm.Cond.fieldLink "LineEnds$Classes" (36 : Nat) "LineEnds$Classes" "count" "I") ∈ tbG := tbp_1 74 rfl rfl
theorem w_175 : (Jvm.Cond.fieldLink "LineEnds" (111 : Nat) "LineEnds$Classes" "count" "I") ∈ tbG := tbp_1 75 rfl rfl
theorem w_189 : (Jvm.Cond.classLink "LineEnds" (31 : Nat) "LineEnds$Page") ∈ tbG := tbp_1 89 rfl rfl
theorem w_190 : (Jvm.Cond.instantiable "LineEnds$Page" (9 : Nat)) ∈ tbG := tbp_1 90 rfl rfl
theorem w_192 : (Jvm.Cond.instanceMethod ({ cls := "LineEnds$Page", name := "<init>", desc := "()V" } : Jvm.MethodName)) ∈ tbG := tbp_1 92 rfl rfl
theorem w_193 : (Jvm.Cond.code ({ cls := "LineEnds$Page", name := "<init>", desc := "()V" } : Jvm.MethodName) prog_6_method_1_code (1 : Nat) (Option.none : Option Jvm.ClassFile.FieldType)) ∈ tbG := tbp_1 93 rfl rfl
theorem w_194 : (Jvm.Cond.methodLink "LineEnds$Page" (3 : Nat) ({ cls := "java/lang/Object", name := "<init>", desc := "()V" } : Jvm.MethodName)) ∈ tbG := tbp_1 94 rfl rfl
theorem w_195 : (Jvm.Cond.fieldLink "LineEnds$Page" (9 : Nat) "LineEnds$Page" "signs" "[I") ∈ tbG := tbp_1 95 rfl rfl
theorem w_196 : (Jvm.Cond.fieldLink "LineEnds$Ruler" (78 : Nat) "LineEnds$Page" "signs" "[I") ∈ tbG := tbp_1 96 rfl rfl
theorem w_197 : (Jvm.Cond.fieldLink "LineEnds" (141 : Nat) "LineEnds$Page" "signs" "[I") ∈ tbG := tbp_1 97 rfl rfl
theorem w_198 : (Jvm.Cond.fieldLink "LineEnds$Page" (15 : Nat) "LineEnds$Page" "marks" "[I") ∈ tbG := tbp_1 98 rfl rfl
theorem w_199 : (Jvm.Cond.fieldLink "LineEnds$Layout" (109 : Nat) "LineEnds$Page" "marks" "[I") ∈ tbG := tbp_1 99 rfl rfl
theorem w_200 : (Jvm.Cond.fieldLink "LineEnds$Ruler" (87 : Nat) "LineEnds$Page" "marks" "[I") ∈ tbG := tbp_1 100 rfl rfl
theorem w_201 : (Jvm.Cond.fieldLink "LineEnds" (159 : Nat) "LineEnds$Page" "marks" "[I") ∈ tbG := tbp_1 101 rfl rfl
theorem w_202 : (Jvm.Cond.fieldLink "LineEnds$Page" (18 : Nat) "LineEnds$Page" "mates" "[I") ∈ tbG := tbp_1 102 rfl rfl
theorem w_203 : (Jvm.Cond.fieldLink "LineEnds" (174 : Nat) "LineEnds$Page" "mates" "[I") ∈ tbG := tbp_1 103 rfl rfl
theorem w_204 : (Jvm.Cond.fieldLink "LineEnds$Page" (21 : Nat) "LineEnds$Page" "weights" "[I") ∈ tbG := tbp_1 104 rfl rfl
theorem w_205 : (Jvm.Cond.fieldLink "LineEnds$Ruler" (109 : Nat) "LineEnds$Page" "weights" "[I") ∈ tbG := tbp_1 105 rfl rfl
theorem w_206 : (Jvm.Cond.fieldLink "LineEnds" (193 : Nat) "LineEnds$Page" "weights" "[I") ∈ tbG := tbp_1 106 rfl rfl
theorem w_207 : (Jvm.Cond.fieldLink "LineEnds$Ruler" (50 : Nat) "LineEnds$Page" "count" "I") ∈ tbG := tbp_1 107 rfl rfl
theorem w_208 : (Jvm.Cond.fieldLink "LineEnds$Page" (34 : Nat) "LineEnds$Page" "count" "I") ∈ tbG := tbp_1 108 rfl rfl
theorem w_209 : (Jvm.Cond.fieldLink "LineEnds" (117 : Nat) "LineEnds$Page" "count" "I") ∈ tbG := tbp_1 109 rfl rfl
theorem w_210 : (Jvm.Cond.fieldLink "LineEnds$Page" (24 : Nat) "LineEnds$Page" "width" "I") ∈ tbG := tbp_1 110 rfl rfl
theorem w_211 : (Jvm.Cond.fieldLink "LineEnds$Ruler" (84 : Nat) "LineEnds$Page" "width" "I") ∈ tbG := tbp_1 111 rfl rfl
theorem w_212 : (Jvm.Cond.fieldLink "LineEnds" (165 : Nat) "LineEnds$Page" "width" "I") ∈ tbG := tbp_1 112 rfl rfl
theorem w_213 : (Jvm.Cond.fieldLink "LineEnds$Page" (37 : Nat) "LineEnds$Page" "shyBegins" "I") ∈ tbG := tbp_1 113 rfl rfl
theorem w_214 : (Jvm.Cond.fieldLink "LineEnds" (184 : Nat) "LineEnds$Page" "shyBegins" "I") ∈ tbG := tbp_1 114 rfl rfl
theorem w_215 : (Jvm.Cond.fieldLink "LineEnds$Page" (40 : Nat) "LineEnds$Page" "shyEnds" "I") ∈ tbG := tbp_1 115 rfl rfl
theorem w_216 : (Jvm.Cond.fieldLink "LineEnds" (177 : Nat) "LineEnds$Page" "shyEnds" "I") ∈ tbG := tbp_1 116 rfl rfl
theorem w_217 : (Jvm.Cond.fieldLink "LineEnds$Page" (43 : Nat) "LineEnds$Page" "pairs" "I") ∈ tbG := tbp_1 117 rfl rfl
theorem w_218 : (Jvm.Cond.fieldLink "LineEnds" (171 : Nat) "LineEnds$Page" "pairs" "I") ∈ tbG := tbp_1 118 rfl rfl
theorem w_238 : (Jvm.Cond.classLink "LineEnds" (41 : Nat) "LineEnds$History") ∈ tbG := tbp_1 138 rfl rfl
theorem w_239 : (Jvm.Cond.instantiable "LineEnds$History" (3 : Nat)) ∈ tbG := tbp_1 139 rfl rfl
theorem w_240 : (Jvm.Cond.methodLink "LineEnds" (43 : Nat) ({ cls := "LineEnds$History", name := "<init>", desc := "()V" } : Jvm.MethodName)) ∈ tbG := tbp_1 140 rfl rfl
theorem w_241 : (Jvm.Cond.instanceMethod ({ cls := "LineEnds$History", name := "<init>", desc := "()V" } : Jvm.MethodName)) ∈ tbG := tbp_1 141 rfl rfl
theorem w_242 : (Jvm.Cond.code ({ cls := "LineEnds$History", name := "<init>", desc := "()V" } : Jvm.MethodName) prog_4_method_1_code (2 : Nat) (Option.none : Option Jvm.ClassFile.FieldType)) ∈ tbG := tbp_1 142 rfl rfl
theorem w_243 : (Jvm.Cond.methodLink "LineEnds$History" (3 : Nat) ({ cls := "java/lang/Object", name := "<init>", desc := "()V" } : Jvm.MethodName)) ∈ tbG := tbp_1 143 rfl rfl
theorem w_244 : (Jvm.Cond.classLink "LineEnds$History" (9 : Nat) "LineEnds$Page") ∈ tbG := tbp_1 144 rfl rfl
theorem w_247 : (Jvm.Cond.fieldLink "LineEnds$History" (11 : Nat) "LineEnds$History" "pages" "[LLineEnds$Page;") ∈ tbG := tbp_1 147 rfl rfl
theorem w_248 : (Jvm.Cond.fieldLink "LineEnds$History" (18 : Nat) "LineEnds$History" "next" "I") ∈ tbG := tbp_1 148 rfl rfl
theorem w_249 : (Jvm.Cond.fieldLink "LineEnds$History" (22 : Nat) "LineEnds$History" "count" "I") ∈ tbG := tbp_1 149 rfl rfl
theorem w_250 : (Jvm.Cond.fieldLink "LineEnds" (196 : Nat) "LineEnds$History" "count" "I") ∈ tbG := tbp_1 150 rfl rfl
theorem w_258 : (Jvm.Cond.classLink "LineEnds" (48 : Nat) "LineEnds$Ruler") ∈ tbG := tbp_1 158 rfl rfl
theorem w_259 : (Jvm.Cond.instantiable "LineEnds$Ruler" (18 : Nat)) ∈ tbG := tbp_1 159 rfl rfl
theorem w_260 : (Jvm.Cond.methodLink "LineEnds" (50 : Nat) ({ cls := "LineEnds$Ruler", name := "<init>", desc := "(LLineEnds$Classes;LLineEnds$Page;)V" } : Jvm.MethodName)) ∈ tbG := tbp_1 160 rfl rfl
theorem w_261 : (Jvm.Cond.instanceMethod ({ cls := "LineEnds$Ruler", name := "<init>", desc := "(LLineEnds$Classes;LLineEnds$Page;)V" } : Jvm.MethodName)) ∈ tbG := tbp_1 161 rfl rfl
theorem w_262 : (Jvm.Cond.code ({ cls := "LineEnds$Ruler", name := "<init>", desc := "(LLineEnds$Classes;LLineEnds$Page;)V" } : Jvm.MethodName) prog_9_method_1_code (3 : Nat) (Option.none : Option Jvm.ClassFile.FieldType)) ∈ tbG := tbp_1 162 rfl rfl
theorem w_263 : (Jvm.Cond.methodLink "LineEnds$Ruler" (3 : Nat) ({ cls := "java/lang/Object", name := "<init>", desc := "()V" } : Jvm.MethodName)) ∈ tbG := tbp_1 163 rfl rfl
theorem w_264 : (Jvm.Cond.classLink "LineEnds$Ruler" (18 : Nat) "[[I") ∈ tbG := tbp_1 164 rfl rfl
theorem w_265 : (Jvm.Cond.fieldLink "LineEnds$Ruler" (42 : Nat) "LineEnds$Ruler" "classes" "LLineEnds$Classes;") ∈ tbG := tbp_1 165 rfl rfl
theorem w_266 : (Jvm.Cond.fieldLink "LineEnds$Ruler" (46 : Nat) "LineEnds$Ruler" "page" "LLineEnds$Page;") ∈ tbG := tbp_1 166 rfl rfl
theorem w_267 : (Jvm.Cond.fieldLink "LineEnds$Ruler" (9 : Nat) "LineEnds$Ruler" "wides" "[I") ∈ tbG := tbp_1 167 rfl rfl
theorem w_268 : (Jvm.Cond.fieldLink "LineEnds$Ruler" (15 : Nat) "LineEnds$Ruler" "tights" "[I") ∈ tbG := tbp_1 168 rfl rfl
theorem w_269 : (Jvm.Cond.fieldLink "LineEnds$Ruler" (20 : Nat) "LineEnds$Ruler" "squeezes" "[[I") ∈ tbG := tbp_1 169 rfl rfl
theorem w_270 : (Jvm.Cond.fieldLink "LineEnds$Ruler" (23 : Nat) "LineEnds$Ruler" "opens" "[[I") ∈ tbG := tbp_1 170 rfl rfl
theorem w_271 : (Jvm.Cond.fieldLink "LineEnds$Ruler" (26 : Nat) "LineEnds$Ruler" "trims" "[I") ∈ tbG := tbp_1 171 rfl rfl
theorem w_272 : (Jvm.Cond.fieldLink "LineEnds$Ruler" (29 : Nat) "LineEnds$Ruler" "endRooms" "[I") ∈ tbG := tbp_1 172 rfl rfl
theorem w_273 : (Jvm.Cond.fieldLink "LineEnds$Ruler" (32 : Nat) "LineEnds$Ruler" "endRanks" "[I") ∈ tbG := tbp_1 173 rfl rfl
theorem w_274 : (Jvm.Cond.fieldLink "LineEnds$Ruler" (35 : Nat) "LineEnds$Ruler" "hangs" "[Z") ∈ tbG := tbp_1 174 rfl rfl
theorem w_275 : (Jvm.Cond.fieldLink "LineEnds$Ruler" (39 : Nat) "LineEnds$Ruler" "legals" "[Z") ∈ tbG := tbp_1 175 rfl rfl
theorem w_276 : (Jvm.Cond.fieldLink "LineEnds$Layout" (75 : Nat) "LineEnds$Ruler" "hung" "Z") ∈ tbG := tbp_1 176 rfl rfl
theorem w_277 : (Jvm.Cond.fieldLink "LineEnds$Ruler" (90 : Nat) "LineEnds$Ruler" "hung" "Z") ∈ tbG := tbp_1 177 rfl rfl
theorem w_278 : (Jvm.Cond.fieldLink "LineEnds$Ways" (54 : Nat) "LineEnds$Ruler" "tooLong" "Z") ∈ tbG := tbp_1 178 rfl rfl
theorem w_279 : (Jvm.Cond.fieldLink "LineEnds$Planner" (39 : Nat) "LineEnds$Ruler" "tooLong" "Z") ∈ tbG := tbp_1 179 rfl rfl
theorem w_280 : (Jvm.Cond.fieldLink "LineEnds$Layout" (91 : Nat) "LineEnds$Ruler" "tooLong" "Z") ∈ tbG := tbp_1 180 rfl rfl
theorem w_281 : (Jvm.Cond.fieldLink "LineEnds$Ruler" (94 : Nat) "LineEnds$Ruler" "tooLong" "Z") ∈ tbG := tbp_1 181 rfl rfl
theorem w_282 : (Jvm.Cond.fieldLink "LineEnds" (225 : Nat) "LineEnds$Ruler" "tooLong" "Z") ∈ tbG := tbp_1 182 rfl rfl
theorem w_283 : (Jvm.Cond.fieldLink "LineEnds$Planner" (52 : Nat) "LineEnds$Ruler" "mayBeBest" "Z") ∈ tbG := tbp_1 183 rfl rfl
theorem w_284 : (Jvm.Cond.fieldLink "LineEnds$Ruler" (119 : Nat) "LineEnds$Ruler" "mayBeBest" "Z") ∈ tbG := tbp_1 184 rfl rfl
theorem w_285 : (Jvm.Cond.fieldLink "LineEnds$Planner" (47 : Nat) "LineEnds$Ruler" "taken" "I") ∈ tbG := tbp_1 185 rfl rfl
theorem w_286 : (Jvm.Cond.fieldLink "LineEnds$Layout" (78 : Nat) "LineEnds$Ruler" "taken" "I") ∈ tbG := tbp_1 186 rfl rfl
theorem w_287 : (Jvm.Cond.fieldLink "LineEnds$Ruler" (97 : Nat) "LineEnds$Ruler" "taken" "I") ∈ tbG := tbp_1 187 rfl rfl
theorem w_288 : (Jvm.Cond.fieldLink "LineEnds$Layout" (81 : Nat) "LineEnds$Ruler" "putIn" "I") ∈ tbG := tbp_1 188 rfl rfl
theorem w_289 : (Jvm.Cond.fieldLink "LineEnds$Ruler" (100 : Nat) "LineEnds$Ruler" "putIn" "I") ∈ tbG := tbp_1 189 rfl rfl
theorem w_290 : (Jvm.Cond.fieldLink "LineEnds$Layout" (84 : Nat) "LineEnds$Ruler" "left" "I") ∈ tbG := tbp_1 190 rfl rfl
theorem w_291 : (Jvm.Cond.fieldLink "LineEnds$Ruler" (103 : Nat) "LineEnds$Ruler" "left" "I") ∈ tbG := tbp_1 191 rfl rfl
theorem w_292 : (Jvm.Cond.fieldLink "LineEnds$Layout" (66 : Nat) "LineEnds$Ruler" "price" "I") ∈ tbG := tbp_1 192 rfl rfl
theorem w_293 : (Jvm.Cond.fieldLink "LineEnds$Planner" (55 : Nat) "LineEnds$Ruler" "price" "I") ∈ tbG := tbp_1 193 rfl rfl
theorem w_294 : (Jvm.Cond.fieldLink "LineEnds$Ruler" (106 : Nat) "LineEnds$Ruler" "price" "I") ∈ tbG := tbp_1 194 rfl rfl
theorem w_295 : (Jvm.Cond.fieldLink "LineEnds" (228 : Nat) "LineEnds$Ruler" "price" "I") ∈ tbG := tbp_1 195 rfl rfl
theorem w_333 : (Jvm.Cond.arrayClass Jvm.ClassFile.FieldType.boolean) ∈ tbG := tbp_1 233 rfl rfl
theorem w_334 : (Jvm.Cond.classLink "LineEnds" (60 : Nat) "LineEnds$Planner") ∈ tbG := tbp_1 234 rfl rfl
theorem w_335 : (Jvm.Cond.instantiable "LineEnds$Planner" (3 : Nat)) ∈ tbG := tbp_1 235 rfl rfl
theorem w_337 : (Jvm.Cond.instanceMethod ({ cls := "LineEnds$Planner", name := "<init>", desc := "()V" } : Jvm.MethodName)) ∈ tbG := tbp_1 237 rfl rfl
theorem w_338 : (Jvm.Cond.code ({ cls := "LineEnds$Planner", name := "<init>", desc := "()V" } : Jvm.MethodName) prog_7_method_1_code (1 : Nat) (Option.none : Option Jvm.ClassFile.FieldType)) ∈ tbG := tbp_1 238 rfl rfl
theorem w_339 : (Jvm.Cond.methodLink "LineEnds$Planner" (3 : Nat) ({ cls := "java/lang/Object", name := "<init>", desc := "()V" } : Jvm.MethodName)) ∈ tbG := tbp_1 239 rfl rfl
theorem w_340 : (Jvm.Cond.fieldLink "LineEnds$Planner" (9 : Nat) "LineEnds$Planner" "costs" "[I") ∈ tbG := tbp_2 0 rfl rfl
theorem w_341 : (Jvm.Cond.fieldLink "LineEnds" (359 : Nat) "LineEnds$Planner" "costs" "[I") ∈ tbG := tbp_2 1 rfl rfl
theorem w_342 : (Jvm.Cond.fieldLink "LineEnds$Planner" (15 : Nat) "LineEnds$Planner" "lines" "[I") ∈ tbG := tbp_2 2 rfl rfl
theorem w_343 : (Jvm.Cond.fieldLink "LineEnds" (356 : Nat) "LineEnds$Planner" "lines" "[I") ∈ tbG := tbp_2 3 rfl rfl
theorem w_344 : (Jvm.Cond.fieldLink "LineEnds$Planner" (18 : Nat) "LineEnds$Planner" "ends" "[I") ∈ tbG := tbp_2 4 rfl rfl
theorem w_345 : (Jvm.Cond.fieldLink "LineEnds" (385 : Nat) "LineEnds$Planner" "ends" "[I") ∈ tbG := tbp_2 5 rfl rfl
theorem w_353 : (Jvm.Cond.classLink "LineEnds" (67 : Nat) "LineEnds$Layout") ∈ tbG := tbp_2 13 rfl rfl
theorem w_355 : (Jvm.Cond.instantiable "LineEnds$Layout" (8 : Nat)) ∈ tbG := tbp_2 15 rfl rfl
theorem w_357 : (Jvm.Cond.instanceMethod ({ cls := "LineEnds$Layout", name := "<init>", desc := "()V" } : Jvm.MethodName)) ∈ tbG := tbp_2 17 rfl rfl
theorem w_358 : (Jvm.Cond.code ({ cls := "LineEnds$Layout", name := "<init>", desc := "()V" } : Jvm.MethodName) prog_5_method_1_code (1 : Nat) (Option.none : Option Jvm.ClassFile.FieldType)) ∈ tbG := tbp_2 18 rfl rfl
theorem w_359 : (Jvm.Cond.methodLink "LineEnds$Layout" (3 : Nat) ({ cls := "java/lang/Object", name := "<init>", desc := "()V" } : Jvm.MethodName)) ∈ tbG := tbp_2 19 rfl rfl
theorem w_360 : (Jvm.Cond.classLink "LineEnds$Layout" (9 : Nat) "[[I") ∈ tbG := tbp_2 20 rfl rfl
theorem w_361 : (Jvm.Cond.fieldLink "LineEnds$Layout" (11 : Nat) "LineEnds$Layout" "facts" "[[I") ∈ tbG := tbp_2 21 rfl rfl
theorem w_362 : (Jvm.Cond.fieldLink "LineEnds" (249 : Nat) "LineEnds$Layout" "facts" "[[I") ∈ tbG := tbp_2 22 rfl rfl
theorem w_363 : (Jvm.Cond.fieldLink "LineEnds$Layout" (16 : Nat) "LineEnds$Layout" "given" "[I") ∈ tbG := tbp_2 23 rfl rfl
theorem w_364 : (Jvm.Cond.fieldLink "LineEnds" (257 : Nat) "LineEnds$Layout" "given" "[I") ∈ tbG := tbp_2 24 rfl rfl
theorem w_365 : (Jvm.Cond.fieldLink "LineEnds$Layout" (20 : Nat) "LineEnds$Layout" "gaps" "[I") ∈ tbG := tbp_2 25 rfl rfl
theorem w_366 : (Jvm.Cond.fieldLink "LineEnds" (260 : Nat) "LineEnds$Layout" "gaps" "[I") ∈ tbG := tbp_2 26 rfl rfl
theorem w_367 : (Jvm.Cond.fieldLink "LineEnds$Layout" (23 : Nat) "LineEnds$Layout" "rooms" "[I") ∈ tbG := tbp_2 27 rfl rfl
theorem w_368 : (Jvm.Cond.fieldLink "LineEnds$Layout" (26 : Nat) "LineEnds$Layout" "ranks" "[I") ∈ tbG := tbp_2 28 rfl rfl
theorem w_369 : (Jvm.Cond.fieldLink "LineEnds$Layout" (29 : Nat) "LineEnds$Layout" "runs" "[I") ∈ tbG := tbp_2 29 rfl rfl
theorem w_370 : (Jvm.Cond.fieldLink "LineEnds$Layout" (32 : Nat) "LineEnds$Layout" "count" "I") ∈ tbG := tbp_2 30 rfl rfl
theorem w_371 : (Jvm.Cond.fieldLink "LineEnds" (238 : Nat) "LineEnds$Layout" "count" "I") ∈ tbG := tbp_2 31 rfl rfl
theorem w_372 : (Jvm.Cond.fieldLink "LineEnds$Layout" (62 : Nat) "LineEnds$Layout" "ready" "Z") ∈ tbG := tbp_2 32 rfl rfl
theorem w_373 : (Jvm.Cond.fieldLink "LineEnds" (377 : Nat) "LineEnds$Layout" "ready" "Z") ∈ tbG := tbp_2 33 rfl rfl
theorem w_391 : (Jvm.Cond.classLink "LineEnds" (74 : Nat) "LineEnds$Ways") ∈ tbG := tbp_2 51 rfl rfl
theorem w_392 : (Jvm.Cond.instantiable "LineEnds$Ways" (4 : Nat)) ∈ tbG := tbp_2 52 rfl rfl
theorem w_394 : (Jvm.Cond.instanceMethod ({ cls := "LineEnds$Ways", name := "<init>", desc := "()V" } : Jvm.MethodName)) ∈ tbG := tbp_2 54 rfl rfl
theorem w_395 : (Jvm.Cond.code ({ cls := "LineEnds$Ways", name := "<init>", desc := "()V" } : Jvm.MethodName) prog_10_method_1_code (1 : Nat) (Option.none : Option Jvm.ClassFile.FieldType)) ∈ tbG := tbp_2 55 rfl rfl
theorem w_396 : (Jvm.Cond.methodLink "LineEnds$Ways" (3 : Nat) ({ cls := "java/lang/Object", name := "<init>", desc := "()V" } : Jvm.MethodName)) ∈ tbG := tbp_2 56 rfl rfl
theorem w_397 : (Jvm.Cond.fieldLink "LineEnds$Ways" (9 : Nat) "LineEnds$Ways" "numbers" "[J") ∈ tbG := tbp_2 57 rfl rfl
theorem w_398 : (Jvm.Cond.fieldLink "LineEnds$Ways" (15 : Nat) "LineEnds$Ways" "shortest" "[I") ∈ tbG := tbp_2 58 rfl rfl
theorem w_399 : (Jvm.Cond.fieldLink "LineEnds" (338 : Nat) "LineEnds$Ways" "shortest" "[I") ∈ tbG := tbp_2 59 rfl rfl
theorem w_400 : (Jvm.Cond.fieldLink "LineEnds$Ways" (25 : Nat) "LineEnds$Ways" "empty" "Z") ∈ tbG := tbp_2 60 rfl rfl
theorem w_401 : (Jvm.Cond.fieldLink "LineEnds$Ways" (43 : Nat) "LineEnds$Ways" "ready" "Z") ∈ tbG := tbp_2 61 rfl rfl
theorem w_402 : (Jvm.Cond.fieldLink "LineEnds" (374 : Nat) "LineEnds$Ways" "ready" "Z") ∈ tbG := tbp_2 62 rfl rfl
theorem w_412 : (Jvm.Cond.arrayClass Jvm.ClassFile.FieldType.long) ∈ tbG := tbp_2 72 rfl rfl
theorem w_413 : (Jvm.Cond.fieldLink "LineEnds" (14 : Nat) "LineEnds" "tape" "LLineEnds$Bytes;") ∈ tbG := tbp_2 73 rfl rfl
theorem w_414 : (Jvm.Cond.fieldLink "LineEnds" (18 : Nat) "LineEnds" "spelt" "LLineEnds$Bytes;") ∈ tbG := tbp_2 74 rfl rfl
theorem w_415 : (Jvm.Cond.fieldLink "LineEnds" (34 : Nat) "LineEnds" "page" "LLineEnds$Page;") ∈ tbG := tbp_2 75 rfl rfl
theorem w_416 : (Jvm.Cond.fieldLink "LineEnds" (38 : Nat) "LineEnds" "trial" "LLineEnds$Page;") ∈ tbG := tbp_2 76 rfl rfl
theorem w_417 : (Jvm.Cond.fieldLink "LineEnds" (44 : Nat) "LineEnds" "history" "LLineEnds$History;") ∈ tbG := tbp_2 77 rfl rfl
theorem w_418 : (Jvm.Cond.fieldLink "LineEnds" (53 : Nat) "LineEnds" "ruler" "LLineEnds$Ruler;") ∈ tbG := tbp_2 78 rfl rfl
theorem w_419 : (Jvm.Cond.fieldLink "LineEnds" (57 : Nat) "LineEnds" "trialRuler" "LLineEnds$Ruler;") ∈ tbG := tbp_2 79 rfl rfl
theorem w_420 : (Jvm.Cond.fieldLink "LineEnds" (63 : Nat) "LineEnds" "planner" "LLineEnds$Planner;") ∈ tbG := tbp_2 80 rfl rfl
theorem w_421 : (Jvm.Cond.fieldLink "LineEnds" (69 : Nat) "LineEnds" "layouts" "[LLineEnds$Layout;") ∈ tbG := tbp_2 81 rfl rfl
theorem w_422 : (Jvm.Cond.fieldLink "LineEnds" (77 : Nat) "LineEnds" "allWays" "LLineEnds$Ways;") ∈ tbG := tbp_2 82 rfl rfl
theorem w_423 : (Jvm.Cond.fieldLink "LineEnds" (24 : Nat) "LineEnds" "told" "LLineEnds$Classes;") ∈ tbG := tbp_2 83 rfl rfl
theorem w_424 : (Jvm.Cond.fieldLink "LineEnds" (28 : Nat) "LineEnds" "draft" "LLineEnds$Classes;") ∈ tbG := tbp_2 84 rfl rfl
theorem w_425 : (Jvm.Cond.fieldLink "LineEnds" (81 : Nat) "LineEnds" "rulerReady" "Z") ∈ tbG := tbp_2 85 rfl rfl
theorem w_453 : (Jvm.Cond.methodLink "LineEndsLaw" (13 : Nat) ({ cls := "LineEnds", name := "feed", desc := "(IIIII)I" } : Jvm.MethodName)) ∈ tbG := tbp_2 113 rfl rfl
theorem w_454 : (Jvm.Cond.instanceMethod ({ cls := "LineEnds", name := "feed", desc := "(IIIII)I" } : Jvm.MethodName)) ∈ tbG := tbp_2 114 rfl rfl
theorem w_455 : (Jvm.Cond.selects "LineEnds" ({ cls := "LineEnds", name := "feed", desc := "(IIIII)I" } : Jvm.MethodName) ({ cls := "LineEnds", name := "feed", desc := "(IIIII)I" } : Jvm.MethodName)) ∈ tbG := tbp_2 115 rfl rfl
theorem w_456 : (Jvm.Cond.code ({ cls := "LineEnds", name := "feed", desc := "(IIIII)I" } : Jvm.MethodName) prog_1_method_2_code (6 : Nat) (Option.some Jvm.ClassFile.FieldType.int)) ∈ tbG := tbp_2 116 rfl rfl
theorem w_457 : (Jvm.Cond.methodLink "LineEnds" (89 : Nat) ({ cls := "LineEnds$Bytes", name := "addFour", desc := "(I)V" } : Jvm.MethodName)) ∈ tbG := tbp_2 117 rfl rfl
theorem w_458 : (Jvm.Cond.instanceMethod ({ cls := "LineEnds$Bytes", name := "addFour", desc := "(I)V" } : Jvm.MethodName)) ∈ tbG := tbp_2 118 rfl rfl
theorem w_459 : (Jvm.Cond.selects "LineEnds$Bytes" ({ cls := "LineEnds$Bytes", name := "addFour", desc := "(I)V" } : Jvm.MethodName) ({ cls := "LineEnds$Bytes", name := "addFour", desc := "(I)V" } : Jvm.MethodName)) ∈ tbG := tbp_2 119 rfl rfl
theorem w_460 : (Jvm.Cond.code ({ cls := "LineEnds$Bytes", name := "addFour", desc := "(I)V" } : Jvm.MethodName) prog_2_method_3_code (2 : Nat) (Option.none : Option Jvm.ClassFile.FieldType)) ∈ tbG := tbp_2 120 rfl rfl
theorem w_461 : (Jvm.Cond.methodLink "LineEnds$Bytes" (25 : Nat) ({ cls := "LineEnds$Bytes", name := "add", desc := "(I)V" } : Jvm.MethodName)) ∈ tbG := tbp_2 121 rfl rfl
theorem w_462 : (Jvm.Cond.instanceMethod ({ cls := "LineEnds$Bytes", name := "add", desc := "(I)V" } : Jvm.MethodName)) ∈ tbG := tbp_2 122 rfl rfl
theorem w_463 : (Jvm.Cond.selects "LineEnds$Bytes" ({ cls := "LineEnds$Bytes", name := "add", desc := "(I)V" } : Jvm.MethodName) ({ cls := "LineEnds$Bytes", name := "add", desc := "(I)V" } : Jvm.MethodName)) ∈ tbG := tbp_2 123 rfl rfl
theorem w_464 : (Jvm.Cond.code ({ cls := "LineEnds$Bytes", name := "add", desc := "(I)V" } : Jvm.MethodName) prog_2_method_2_code (2 : Nat) (Option.none : Option Jvm.ClassFile.FieldType)) ∈ tbG := tbp_2 124 rfl rfl
theorem w_465 : (Jvm.Cond.methodLink "LineEndsLaw" (18 : Nat) ({ cls := "LineEnds", name := "back", desc := "(I)I" } : Jvm.MethodName)) ∈ tbG := tbp_2 125 rfl rfl
theorem w_466 : (Jvm.Cond.instanceMethod ({ cls := "LineEnds", name := "back", desc := "(I)I" } : Jvm.MethodName)) ∈ tbG := tbp_2 126 rfl rfl
theorem w_467 : (Jvm.Cond.selects "LineEnds" ({ cls := "LineEnds", name := "back", desc := "(I)I" } : Jvm.MethodName) ({ cls := "LineEnds", name := "back", desc := "(I)I" } : Jvm.MethodName)) ∈ tbG := tbp_2 127 rfl rfl
theorem w_468 : (Jvm.Cond.code ({ cls := "LineEnds", name := "back", desc := "(I)I" } : Jvm.MethodName) prog_1_method_3_code (2 : Nat) (Option.some Jvm.ClassFile.FieldType.int)) ∈ tbG := tbp_2 128 rfl rfl
theorem w_469 : (Jvm.Cond.methodLink "LineEndsLaw" (23 : Nat) ({ cls := "LineEnds", name := "table", desc := "()I" } : Jvm.MethodName)) ∈ tbG := tbp_2 129 rfl rfl
theorem w_470 : (Jvm.Cond.instanceMethod ({ cls := "LineEnds", name := "table", desc := "()I" } : Jvm.MethodName)) ∈ tbG := tbp_2 130 rfl rfl
theorem w_471 : (Jvm.Cond.selects "LineEnds" ({ cls := "LineEnds", name := "table", desc := "()I" } : Jvm.MethodName) ({ cls := "LineEnds", name := "table", desc := "()I" } : Jvm.MethodName)) ∈ tbG := tbp_2 131 rfl rfl
theorem w_472 : (Jvm.Cond.code ({ cls := "LineEnds", name := "table", desc := "()I" } : Jvm.MethodName) prog_1_method_4_code (4 : Nat) (Option.some Jvm.ClassFile.FieldType.int)) ∈ tbG := tbp_2 132 rfl rfl
theorem w_473 : (Jvm.Cond.classLink "LineEnds" (92 : Nat) "LineEnds$Reader") ∈ tbG := tbp_2 133 rfl rfl
theorem w_474 : (Jvm.Cond.instantiable "LineEnds$Reader" (6 : Nat)) ∈ tbG := tbp_2 134 rfl rfl
theorem w_475 : (Jvm.Cond.methodLink "LineEnds" (94 : Nat) ({ cls := "LineEnds$Reader", name := "<init>", desc := "(LLineEnds$Bytes;LLineEnds$Classes;)V" } : Jvm.MethodName)) ∈ tbG := tbp_2 135 rfl rfl
theorem w_476 : (Jvm.Cond.instanceMethod ({ cls := "LineEnds$Reader", name := "<init>", desc := "(LLineEnds$Bytes;LLineEnds$Classes;)V" } : Jvm.MethodName)) ∈ tbG := tbp_2 136 rfl rfl
theorem w_477 : (Jvm.Cond.code ({ cls := "LineEnds$Reader", name := "<init>", desc := "(LLineEnds$Bytes;LLineEnds$Classes;)V" } : Jvm.MethodName) prog_8_method_1_code (3 : Nat) (Option.none : Option Jvm.ClassFile.FieldType)) ∈ tbG := tbp_2 137 rfl rfl
theorem w_478 : (Jvm.Cond.methodLink "LineEnds$Reader" (3 : Nat) ({ cls := "java/lang/Object", name := "<init>", desc := "()V" } : Jvm.MethodName)) ∈ tbG := tbp_2 138 rfl rfl
theorem w_479 : (Jvm.Cond.fieldLink "LineEnds$Reader" (9 : Nat) "LineEnds$Reader" "text" "LLineEnds$Bytes;") ∈ tbG := tbp_2 139 rfl rfl
theorem w_480 : (Jvm.Cond.fieldLink "LineEnds$Reader" (15 : Nat) "LineEnds$Reader" "classes" "LLineEnds$Classes;") ∈ tbG := tbp_2 140 rfl rfl
theorem w_481 : (Jvm.Cond.fieldLink "LineEnds$Reader" (19 : Nat) "LineEnds$Reader" "kind" "I") ∈ tbG := tbp_2 141 rfl rfl
theorem w_482 : (Jvm.Cond.fieldLink "LineEnds$Reader" (23 : Nat) "LineEnds$Reader" "from" "I") ∈ tbG := tbp_2 142 rfl rfl
theorem w_483 : (Jvm.Cond.fieldLink "LineEnds$Reader" (26 : Nat) "LineEnds$Reader" "behind" "I") ∈ tbG := tbp_2 143 rfl rfl
theorem w_484 : (Jvm.Cond.fieldLink "LineEnds$Reader" (29 : Nat) "LineEnds$Reader" "fault" "I") ∈ tbG := tbp_2 144 rfl rfl
theorem w_498 : (Jvm.Cond.methodLink "LineEnds" (97 : Nat) ({ cls := "LineEnds$Reader", name := "readTable", desc := "()I" } : Jvm.MethodName)) ∈ tbG := tbp_2 158 rfl rfl
theorem w_499 : (Jvm.Cond.instanceMethod ({ cls := "LineEnds$Reader", name := "readTable", desc := "()I" } : Jvm.MethodName)) ∈ tbG := tbp_2 159 rfl rfl
theorem w_500 : (Jvm.Cond.selects "LineEnds$Reader" ({ cls := "LineEnds$Reader", name := "readTable", desc := "()I" } : Jvm.MethodName) ({ cls := "LineEnds$Reader", name := "readTable", desc := "()I" } : Jvm.MethodName)) ∈ tbG := tbp_2 160 rfl rfl
theorem w_501 : (Jvm.Cond.code ({ cls := "LineEnds$Reader", name := "readTable", desc := "()I" } : Jvm.MethodName) prog_8_method_2_code (2 : Nat) (Option.some Jvm.ClassFile.FieldType.int)) ∈ tbG := tbp_2 161 rfl rfl
theorem w_502 : (Jvm.Cond.methodLink "LineEnds$Reader" (32 : Nat) ({ cls := "LineEnds$Classes", name := "clear", desc := "()V" } : Jvm.MethodName)) ∈ tbG := tbp_2 162 rfl rfl
theorem w_503 : (Jvm.Cond.instanceMethod ({ cls := "LineEnds$Classes", name := "clear", desc := "()V" } : Jvm.MethodName)) ∈ tbG := tbp_2 163 rfl rfl
theorem w_504 : (Jvm.Cond.selects "LineEnds$Classes" ({ cls := "LineEnds$Classes", name := "clear", desc := "()V" } : Jvm.MethodName) ({ cls := "LineEnds$Classes", name := "clear", desc := "()V" } : Jvm.MethodName)) ∈ tbG := tbp_2 164 rfl rfl
theorem w_505 : (Jvm.Cond.code ({ cls := "LineEnds$Classes", name := "clear", desc := "()V" } : Jvm.MethodName) prog_3_method_3_code (2 : Nat) (Option.none : Option Jvm.ClassFile.FieldType)) ∈ tbG := tbp_2 165 rfl rfl
theorem w_506 : (Jvm.Cond.methodLink "LineEnds$Classes" (20 : Nat) ({ cls := "java/util/Arrays", name := "fill", desc := "([II)V" } : Jvm.MethodName)) ∈ tbG := tbp_2 166 rfl rfl
theorem w_507 : (Jvm.Cond.static ({ cls := "java/util/Arrays", name := "fill", desc := "([II)V" } : Jvm.MethodName)) ∈ tbG := tbp_2 167 rfl rfl
theorem w_508 : (Jvm.Cond.code ({ cls := "java/util/Arrays", name := "fill", desc := "([II)V" } : Jvm.MethodName) prog_18_method_103_code (4 : Nat) (Option.none : Option Jvm.ClassFile.FieldType)) ∈ tbG := tbp_2 168 rfl rfl
theorem w_509 : (Jvm.Cond.methodLink "LineEnds$Reader" (37 : Nat) ({ cls := "LineEnds$Reader", name := "next", desc := "()V" } : Jvm.MethodName)) ∈ tbG := tbp_2 169 rfl rfl
theorem w_511 : (Jvm.Cond.instanceMethod ({ cls := "LineEnds$Reader", name := "next", desc := "()V" } : Jvm.MethodName)) ∈ tbG := tbp_2 171 rfl rfl
theorem w_512 : (Jvm.Cond.code ({ cls := "LineEnds$Reader", name := "next", desc := "()V" } : Jvm.MethodName) prog_8_method_15_code (3 : Nat) (Option.none : Option Jvm.ClassFile.FieldType)) ∈ tbG := tbp_2 172 rfl rfl
theorem w_513 : (Jvm.Cond.methodLink "LineEnds$Reader" (146 : Nat) ({ cls := "LineEnds$Reader", name := "isWordOrNumber", desc := "()Z" } : Jvm.MethodName)) ∈ tbG := tbp_2 173 rfl rfl
theorem w_515 : (Jvm.Cond.instanceMethod ({ cls := "LineEnds$Reader", name := "isWordOrNumber", desc := "()Z" } : Jvm.MethodName)) ∈ tbG := tbp_2 175 rfl rfl
theorem w_516 : (Jvm.Cond.code ({ cls := "LineEnds$Reader", name := "isWordOrNumber", desc := "()Z" } : Jvm.MethodName) prog_8_method_16_code (1 : Nat) (Option.some Jvm.ClassFile.FieldType.boolean)) ∈ tbG := tbp_2 176 rfl rfl
theorem w_517 : (Jvm.Cond.methodLink "LineEnds$Reader" (150 : Nat) ({ cls := "java/lang/Math", name := "min", desc := "(II)I" } : Jvm.MethodName)) ∈ tbG := tbp_2 177 rfl rfl
theorem w_518 : (Jvm.Cond.static ({ cls := "java/lang/Math", name := "min", desc := "(II)I" } : Jvm.MethodName)) ∈ tbG := tbp_2 178 rfl rfl
theorem w_519 : (Jvm.Cond.code ({ cls := "java/lang/Math", name := "min", desc := "(II)I" } : Jvm.MethodName) prog_13_method_69_code (2 : Nat) (Option.some Jvm.ClassFile.FieldType.int)) ∈ tbG := tbp_2 179 rfl rfl
theorem w_520 : (Jvm.Cond.methodLink "LineEnds$Reader" (155 : Nat) ({ cls := "LineEnds$Reader", name := "kindOf", desc := "(I)I" } : Jvm.MethodName)) ∈ tbG := tbp_2 180 rfl rfl
theorem w_521 : (Jvm.Cond.static ({ cls := "LineEnds$Reader", name := "kindOf", desc := "(I)I" } : Jvm.MethodName)) ∈ tbG := tbp_2 181 rfl rfl
theorem w_522 : (Jvm.Cond.code ({ cls := "LineEnds$Reader", name := "kindOf", desc := "(I)I" } : Jvm.MethodName) prog_8_method_17_code (1 : Nat) (Option.some Jvm.ClassFile.FieldType.int)) ∈ tbG := tbp_2 182 rfl rfl
theorem w_524 : (Jvm.Cond.methodLink "LineEnds$Reader" (47 : Nat) ({ cls := "LineEnds$Reader", name := "isText", desc := "(Ljava/lang/String;)Z" } : Jvm.MethodName)) ∈ tbG := tbp_2 184 rfl rfl
theorem w_526 : (Jvm.Cond.instanceMethod ({ cls := "LineEnds$Reader", name := "isText", desc := "(Ljava/lang/String;)Z" } : Jvm.MethodName)) ∈ tbG := tbp_2 186 rfl rfl
theorem w_527 : (Jvm.Cond.code ({ cls := "LineEnds$Reader", name := "isText", desc := "(Ljava/lang/String;)Z" } : Jvm.MethodName) prog_8_method_14_code (3 : Nat) (Option.some Jvm.ClassFile.FieldType.boolean)) ∈ tbG := tbp_2 187 rfl rfl
theorem w_528 : (Jvm.Cond.methodLink "LineEnds$Reader" (138 : Nat) ({ cls := "java/lang/String", name := "length", desc := "()I" } : Jvm.MethodName)) ∈ tbG := tbp_2 188 rfl rfl
theorem w_529 : (Jvm.Cond.instanceMethod ({ cls := "java/lang/String", name := "length", desc := "()I" } : Jvm.MethodName)) ∈ tbG := tbp_2 189 rfl rfl
theorem w_530 : (Jvm.Cond.selects "java/lang/String" ({ cls := "java/lang/String", name := "length", desc := "()I" } : Jvm.MethodName) ({ cls := "java/lang/String", name := "length", desc := "()I" } : Jvm.MethodName)) ∈ tbG := tbp_2 190 rfl rfl
theorem w_531 : (Jvm.Cond.code ({ cls := "java/lang/String", name := "length", desc := "()I" } : Jvm.MethodName) prog_14_method_54_code (1 : Nat) (Option.some Jvm.ClassFile.FieldType.int)) ∈ tbG := tbp_2 191 rfl rfl
theorem w_532 : (Jvm.Cond.methodLink "java/lang/String" (335 : Nat) ({ cls := "java/lang/String", name := "coder", desc := "()B" } : Jvm.MethodName)) ∈ tbG := tbp_2 192 rfl rfl
theorem w_533 : (Jvm.Cond.instanceMethod ({ cls := "java/lang/String", name := "coder", desc := "()B" } : Jvm.MethodName)) ∈ tbG := tbp_2 193 rfl rfl
theorem w_534 : (Jvm.Cond.selects "java/lang/String" ({ cls := "java/lang/String", name := "coder", desc := "()B" } : Jvm.MethodName) ({ cls := "java/lang/String", name := "coder", desc := "()B" } : Jvm.MethodName)) ∈ tbG := tbp_2 194 rfl rfl
theorem w_535 : (Jvm.Cond.code ({ cls := "java/lang/String", name := "coder", desc := "()B" } : Jvm.MethodName) prog_14_method_152_code (1 : Nat) (Option.some Jvm.ClassFile.FieldType.byte)) ∈ tbG := tbp_2 195 rfl rfl
theorem w_536 : (Jvm.Cond.fieldLink "java/lang/String" (38 : Nat) "java/lang/String" "COMPACT_STRINGS" "Z") ∈ tbG := tbp_2 196 rfl rfl
theorem w_538 : (Jvm.Cond.methodLink "LineEnds$Reader" (142 : Nat) ({ cls := "java/lang/String", name := "charAt", desc := "(I)C" } : Jvm.MethodName)) ∈ tbG := tbp_2 198 rfl rfl
theorem w_539 : (Jvm.Cond.instanceMethod ({ cls := "java/lang/String", name := "charAt", desc := "(I)C" } : Jvm.MethodName)) ∈ tbG := tbp_2 199 rfl rfl
theorem w_540 : (Jvm.Cond.selects "java/lang/String" ({ cls := "java/lang/String", name := "charAt", desc := "(I)C" } : Jvm.MethodName) ({ cls := "java/lang/String", name := "charAt", desc := "(I)C" } : Jvm.MethodName)) ∈ tbG := tbp_2 200 rfl rfl
theorem w_541 : (Jvm.Cond.code ({ cls := "java/lang/String", name := "charAt", desc := "(I)C" } : Jvm.MethodName) prog_14_method_56_code (2 : Nat) (Option.some Jvm.ClassFile.FieldType.char)) ∈ tbG := tbp_2 201 rfl rfl
theorem w_542 : (Jvm.Cond.methodLink "java/lang/String" (492 : Nat) ({ cls := "java/lang/String", name := "isLatin1", desc := "()Z" } : Jvm.MethodName)) ∈ tbG := tbp_2 202 rfl rfl
theorem w_543 : (Jvm.Cond.instanceMethod ({ cls := "java/lang/String", name := "isLatin1", desc := "()Z" } : Jvm.MethodName)) ∈ tbG := tbp_2 203 rfl rfl
theorem w_544 : (Jvm.Cond.selects "java/lang/String" ({ cls := "java/lang/String", name := "isLatin1", desc := "()Z" } : Jvm.MethodName) ({ cls := "java/lang/String", name := "isLatin1", desc := "()Z" } : Jvm.MethodName)) ∈ tbG := tbp_2 204 rfl rfl
theorem w_545 : (Jvm.Cond.code ({ cls := "java/lang/String", name := "isLatin1", desc := "()Z" } : Jvm.MethodName) prog_14_method_154_code (1 : Nat) (Option.some Jvm.ClassFile.FieldType.boolean)) ∈ tbG := tbp_2 205 rfl rfl
theorem w_546 : (Jvm.Cond.methodLink "java/lang/String" (495 : Nat) ({ cls := "java/lang/StringLatin1", name := "charAt", desc := "([BI)C" } : Jvm.MethodName)) ∈ tbG := tbp_2 206 rfl rfl
theorem w_547 : (Jvm.Cond.static ({ cls := "java/lang/StringLatin1", name := "charAt", desc := "([BI)C" } : Jvm.MethodName)) ∈ tbG := tbp_2 207 rfl rfl
theorem w_548 : (Jvm.Cond.code ({ cls := "java/lang/StringLatin1", name := "charAt", desc := "([BI)C" } : Jvm.MethodName) prog_15_method_2_code (2 : Nat) (Option.some Jvm.ClassFile.FieldType.char)) ∈ tbG := tbp_2 208 rfl rfl
theorem w_549 : (Jvm.Cond.methodLink "java/lang/StringLatin1" (9 : Nat) ({ cls := "java/lang/String", name := "checkIndex", desc := "(II)V" } : Jvm.MethodName)) ∈ tbG := tbp_2 209 rfl rfl
theorem w_550 : (Jvm.Cond.static ({ cls := "java/lang/String", name := "checkIndex", desc := "(II)V" } : Jvm.MethodName)) ∈ tbG := tbp_2 210 rfl rfl
theorem w_551 : (Jvm.Cond.code ({ cls := "java/lang/String", name := "checkIndex", desc := "(II)V" } : Jvm.MethodName) prog_14_method_155_code (2 : Nat) (Option.none : Option Jvm.ClassFile.FieldType)) ∈ tbG := tbp_2 211 rfl rfl
theorem w_552 : (Jvm.Cond.fieldLink "java/lang/String" (1053 : Nat) "jdk/internal/util/Preconditions" "SIOOBE_FORMATTER" "Ljava/util/function/BiFunction;") ∈ tbG := tbp_2 212 rfl rfl
theorem w_554 : (Jvm.Cond.methodLink "java/lang/String" (1059 : Nat) ({ cls := "jdk/internal/util/Preconditions", name := "checkIndex", desc := "(IILjava/util/function/BiFunction;)I" } : Jvm.MethodName)) ∈ tbG := tbp_2 214 rfl rfl
theorem w_555 : (Jvm.Cond.static ({ cls := "jdk/internal/util/Preconditions", name := "checkIndex", desc := "(IILjava/util/function/BiFunction;)I" } : Jvm.MethodName)) ∈ tbG := tbp_2 215 rfl rfl
theorem w_556 : (Jvm.Cond.code ({ cls := "jdk/internal/util/Preconditions", name := "checkIndex", desc := "(IILjava/util/function/BiFunction;)I" } : Jvm.MethodName) prog_19_method_11_code (3 : Nat) (Option.some Jvm.ClassFile.FieldType.int)) ∈ tbG := tbp_2 216 rfl rfl
theorem w_557 : (Jvm.Cond.methodLink "java/lang/String" (498 : Nat) ({ cls := "java/lang/StringUTF16", name := "charAt", desc := "([BI)C" } : Jvm.MethodName)) ∈ tbG := tbp_2 217 rfl rfl
theorem w_558 : (Jvm.Cond.static ({ cls := "java/lang/StringUTF16", name := "charAt", desc := "([BI)C" } : Jvm.MethodName)) ∈ tbG := tbp_2 218 rfl rfl
theorem w_559 : (Jvm.Cond.code ({ cls := "java/lang/StringUTF16", name := "charAt", desc := "([BI)C" } : Jvm.MethodName) prog_16_method_83_code (2 : Nat) (Option.some Jvm.ClassFile.FieldType.char)) ∈ tbG := tbp_2 219 rfl rfl
theorem w_560 : (Jvm.Cond.methodLink "java/lang/StringUTF16" (67 : Nat) ({ cls := "java/lang/StringUTF16", name := "checkIndex", desc := "(I[B)V" } : Jvm.MethodName)) ∈ tbG := tbp_2 220 rfl rfl
theorem w_561 : (Jvm.Cond.static ({ cls := "java/lang/StringUTF16", name := "checkIndex", desc := "(I[B)V" } : Jvm.MethodName)) ∈ tbG := tbp_2 221 rfl rfl
theorem w_562 : (Jvm.Cond.code ({ cls := "java/lang/StringUTF16", name := "checkIndex", desc := "(I[B)V" } : Jvm.MethodName) prog_16_method_91_code (2 : Nat) (Option.none : Option Jvm.ClassFile.FieldType)) ∈ tbG := tbp_2 222 rfl rfl
theorem w_563 : (Jvm.Cond.methodLink "java/lang/StringUTF16" (48 : Nat) ({ cls := "java/lang/StringUTF16", name := "length", desc := "([B)I" } : Jvm.MethodName)) ∈ tbG := tbp_2 223 rfl rfl
theorem w_564 : (Jvm.Cond.static ({ cls := "java/lang/StringUTF16", name := "length", desc := "([B)I" } : Jvm.MethodName)) ∈ tbG := tbp_2 224 rfl rfl
theorem w_565 : (Jvm.Cond.code ({ cls := "java/lang/StringUTF16", name := "length", desc := "([B)I" } : Jvm.MethodName) prog_16_method_6_code (1 : Nat) (Option.some Jvm.ClassFile.FieldType.int)) ∈ tbG := tbp_2 225 rfl rfl
theorem w_566 : (Jvm.Cond.methodLink "java/lang/StringUTF16" (414 : Nat) ({ cls := "java/lang/String", name := "checkIndex", desc := "(II)V" } : Jvm.MethodName)) ∈ tbG := tbp_2 226 rfl rfl
theorem w_567 : (Jvm.Cond.methodLink "java/lang/StringUTF16" (71 : Nat) ({ cls := "java/lang/StringUTF16", name := "getChar", desc := "([BI)C" } : Jvm.MethodName)) ∈ tbG := tbp_2 227 rfl rfl
theorem w_568 : (Jvm.Cond.static ({ cls := "java/lang/StringUTF16", name := "getChar", desc := "([BI)C" } : Jvm.MethodName)) ∈ tbG := tbp_2 228 rfl rfl
theorem w_569 : (Jvm.Cond.code ({ cls := "java/lang/StringUTF16", name := "getChar", desc := "([BI)C" } : Jvm.MethodName) prog_16_method_5_code (2 : Nat) (Option.some Jvm.ClassFile.FieldType.char)) ∈ tbG := tbp_2 229 rfl rfl
theorem w_570 : (Jvm.Cond.fieldLink "java/lang/StringUTF16" (44 : Nat) "java/lang/StringUTF16" "$assertionsDisabled" "Z") ∈ tbG := tbp_2 230 rfl rfl
theorem w_572 : (Jvm.Cond.fieldLink "java/lang/StringUTF16" (59 : Nat) "java/lang/StringUTF16" "HI_BYTE_SHIFT" "I") ∈ tbG := tbp_2 232 rfl rfl
theorem w_574 : (Jvm.Cond.fieldLink "java/lang/StringUTF16" (63 : Nat) "java/lang/StringUTF16" "LO_BYTE_SHIFT" "I") ∈ tbG := tbp_2 234 rfl rfl
theorem w_576 : (Jvm.Cond.methodLink "LineEnds$Reader" (51 : Nat) ({ cls := "LineEnds$Reader", name := "readClass", desc := "()V" } : Jvm.MethodName)) ∈ tbG := tbp_2 236 rfl rfl
theorem w_578 : (Jvm.Cond.instanceMethod ({ cls := "LineEnds$Reader", name := "readClass", desc := "()V" } : Jvm.MethodName)) ∈ tbG := tbp_2 238 rfl rfl
theorem w_579 : (Jvm.Cond.code ({ cls := "LineEnds$Reader", name := "readClass", desc := "()V" } : Jvm.MethodName) prog_8_method_3_code (3 : Nat) (Option.none : Option Jvm.ClassFile.FieldType)) ∈ tbG := tbp_2 239 rfl rfl
theorem w_580 : (Jvm.Cond.methodLink "LineEnds$Reader" (57 : Nat) ({ cls := "LineEnds$Reader", name := "readNewLetter", desc := "()I" } : Jvm.MethodName)) ∈ tbG := tbp_3 0 rfl rfl
theorem w_582 : (Jvm.Cond.instanceMethod ({ cls := "LineEnds$Reader", name := "readNewLetter", desc := "()I" } : Jvm.MethodName)) ∈ tbG := tbp_3 2 rfl rfl
theorem w_583 : (Jvm.Cond.code ({ cls := "LineEnds$Reader", name := "readNewLetter", desc := "()I" } : Jvm.MethodName) prog_8_method_6_code (2 : Nat) (Option.some Jvm.ClassFile.FieldType.int)) ∈ tbG := tbp_3 3 rfl rfl
theorem w_584 : (Jvm.Cond.methodLink "LineEnds$Reader" (125 : Nat) ({ cls := "LineEnds$Reader", name := "letterHere", desc := "()I" } : Jvm.MethodName)) ∈ tbG := tbp_3 4 rfl rfl
theorem w_586 : (Jvm.Cond.instanceMethod ({ cls := "LineEnds$Reader", name := "letterHere", desc := "()I" } : Jvm.MethodName)) ∈ tbG := tbp_3 6 rfl rfl
theorem w_587 : (Jvm.Cond.code ({ cls := "LineEnds$Reader", name := "letterHere", desc := "()I" } : Jvm.MethodName) prog_8_method_8_code (2 : Nat) (Option.some Jvm.ClassFile.FieldType.int)) ∈ tbG := tbp_3 7 rfl rfl
theorem w_588 : (Jvm.Cond.methodLink "LineEnds$Reader" (128 : Nat) ({ cls := "LineEnds$Classes", name := "has", desc := "(I)Z" } : Jvm.MethodName)) ∈ tbG := tbp_3 8 rfl rfl
theorem w_589 : (Jvm.Cond.instanceMethod ({ cls := "LineEnds$Classes", name := "has", desc := "(I)Z" } : Jvm.MethodName)) ∈ tbG := tbp_3 9 rfl rfl
theorem w_590 : (Jvm.Cond.selects "LineEnds$Classes" ({ cls := "LineEnds$Classes", name := "has", desc := "(I)Z" } : Jvm.MethodName) ({ cls := "LineEnds$Classes", name := "has", desc := "(I)Z" } : Jvm.MethodName)) ∈ tbG := tbp_3 10 rfl rfl
theorem w_591 : (Jvm.Cond.code ({ cls := "LineEnds$Classes", name := "has", desc := "(I)Z" } : Jvm.MethodName) prog_3_method_2_code (2 : Nat) (Option.some Jvm.ClassFile.FieldType.boolean)) ∈ tbG := tbp_3 11 rfl rfl
theorem w_592 : (Jvm.Cond.methodLink "LineEnds$Reader" (132 : Nat) ({ cls := "LineEnds$Reader", name := "fail", desc := "()V" } : Jvm.MethodName)) ∈ tbG := tbp_3 12 rfl rfl
theorem w_594 : (Jvm.Cond.instanceMethod ({ cls := "LineEnds$Reader", name := "fail", desc := "()V" } : Jvm.MethodName)) ∈ tbG := tbp_3 14 rfl rfl
theorem w_595 : (Jvm.Cond.code ({ cls := "LineEnds$Reader", name := "fail", desc := "()V" } : Jvm.MethodName) prog_8_method_13_code (1 : Nat) (Option.none : Option Jvm.ClassFile.FieldType)) ∈ tbG := tbp_3 15 rfl rfl
theorem w_597 : (Jvm.Cond.methodLink "LineEnds$Reader" (63 : Nat) ({ cls := "LineEnds$Reader", name := "expect", desc := "(Ljava/lang/String;)V" } : Jvm.MethodName)) ∈ tbG := tbp_3 17 rfl rfl
theorem w_599 : (Jvm.Cond.instanceMethod ({ cls := "LineEnds$Reader", name := "expect", desc := "(Ljava/lang/String;)V" } : Jvm.MethodName)) ∈ tbG := tbp_3 19 rfl rfl
theorem w_600 : (Jvm.Cond.code ({ cls := "LineEnds$Reader", name := "expect", desc := "(Ljava/lang/String;)V" } : Jvm.MethodName) prog_8_method_10_code (2 : Nat) (Option.none : Option Jvm.ClassFile.FieldType)) ∈ tbG := tbp_3 20 rfl rfl
theorem w_601 : (Jvm.Cond.methodLink "LineEnds$Reader" (67 : Nat) ({ cls := "LineEnds$Reader", name := "readNumber", desc := "(II)I" } : Jvm.MethodName)) ∈ tbG := tbp_3 21 rfl rfl
theorem w_603 : (Jvm.Cond.instanceMethod ({ cls := "LineEnds$Reader", name := "readNumber", desc := "(II)I" } : Jvm.MethodName)) ∈ tbG := tbp_3 23 rfl rfl
theorem w_604 : (Jvm.Cond.code ({ cls := "LineEnds$Reader", name := "readNumber", desc := "(II)I" } : Jvm.MethodName) prog_8_method_9_code (4 : Nat) (Option.some Jvm.ClassFile.FieldType.int)) ∈ tbG := tbp_3 24 rfl rfl
theorem w_605 : (Jvm.Cond.methodLink "LineEnds$Reader" (78 : Nat) ({ cls := "LineEnds$Reader", name := "readShy", desc := "(I)V" } : Jvm.MethodName)) ∈ tbG := tbp_3 25 rfl rfl
theorem w_607 : (Jvm.Cond.instanceMethod ({ cls := "LineEnds$Reader", name := "readShy", desc := "(I)V" } : Jvm.MethodName)) ∈ tbG := tbp_3 27 rfl rfl
theorem w_608 : (Jvm.Cond.code ({ cls := "LineEnds$Reader", name := "readShy", desc := "(I)V" } : Jvm.MethodName) prog_8_method_4_code (3 : Nat) (Option.none : Option Jvm.ClassFile.FieldType)) ∈ tbG := tbp_3 28 rfl rfl
theorem w_610 : (Jvm.Cond.methodLink "LineEnds$Reader" (84 : Nat) ({ cls := "LineEnds$Reader", name := "takes", desc := "(Ljava/lang/String;)Z" } : Jvm.MethodName)) ∈ tbG := tbp_3 30 rfl rfl
theorem w_612 : (Jvm.Cond.instanceMethod ({ cls := "LineEnds$Reader", name := "takes", desc := "(Ljava/lang/String;)Z" } : Jvm.MethodName)) ∈ tbG := tbp_3 32 rfl rfl
theorem w_613 : (Jvm.Cond.code ({ cls := "LineEnds$Reader", name := "takes", desc := "(Ljava/lang/String;)Z" } : Jvm.MethodName) prog_8_method_12_code (2 : Nat) (Option.some Jvm.ClassFile.FieldType.boolean)) ∈ tbG := tbp_3 33 rfl rfl
theorem w_621 : (Jvm.Cond.methodLink "LineEnds$Reader" (95 : Nat) ({ cls := "LineEnds$Reader", name := "expectStop", desc := "()V" } : Jvm.MethodName)) ∈ tbG := tbp_3 41 rfl rfl
theorem w_623 : (Jvm.Cond.instanceMethod ({ cls := "LineEnds$Reader", name := "expectStop", desc := "()V" } : Jvm.MethodName)) ∈ tbG := tbp_3 43 rfl rfl
theorem w_624 : (Jvm.Cond.code ({ cls := "LineEnds$Reader", name := "expectStop", desc := "()V" } : Jvm.MethodName) prog_8_method_11_code (1 : Nat) (Option.none : Option Jvm.ClassFile.FieldType)) ∈ tbG := tbp_3 44 rfl rfl
theorem w_625 : (Jvm.Cond.methodLink "LineEnds$Reader" (54 : Nat) ({ cls := "LineEnds$Reader", name := "readPair", desc := "()V" } : Jvm.MethodName)) ∈ tbG := tbp_3 45 rfl rfl
theorem w_627 : (Jvm.Cond.instanceMethod ({ cls := "LineEnds$Reader", name := "readPair", desc := "()V" } : Jvm.MethodName)) ∈ tbG := tbp_3 47 rfl rfl
theorem w_628 : (Jvm.Cond.code ({ cls := "LineEnds$Reader", name := "readPair", desc := "()V" } : Jvm.MethodName) prog_8_method_5_code (4 : Nat) (Option.none : Option Jvm.ClassFile.FieldType)) ∈ tbG := tbp_3 48 rfl rfl
theorem w_630 : (Jvm.Cond.methodLink "LineEnds$Reader" (112 : Nat) ({ cls := "LineEnds$Reader", name := "readToldLetter", desc := "()I" } : Jvm.MethodName)) ∈ tbG := tbp_3 50 rfl rfl
theorem w_632 : (Jvm.Cond.instanceMethod ({ cls := "LineEnds$Reader", name := "readToldLetter", desc := "()I" } : Jvm.MethodName)) ∈ tbG := tbp_3 52 rfl rfl
theorem w_633 : (Jvm.Cond.code ({ cls := "LineEnds$Reader", name := "readToldLetter", desc := "()I" } : Jvm.MethodName) prog_8_method_7_code (2 : Nat) (Option.some Jvm.ClassFile.FieldType.int)) ∈ tbG := tbp_3 53 rfl rfl
theorem w_635 : (Jvm.Cond.static ({ cls := "LineEnds", name := "bitOf", desc := "(II)I" } : Jvm.MethodName)) ∈ tbG := tbp_3 55 rfl rfl
theorem w_636 : (Jvm.Cond.code ({ cls := "LineEnds", name := "bitOf", desc := "(II)I" } : Jvm.MethodName) prog_1_method_54_code (2 : Nat) (Option.some Jvm.ClassFile.FieldType.int)) ∈ tbG := tbp_3 56 rfl rfl
theorem w_637 : (Jvm.Cond.methodLink "LineEnds" (101 : Nat) ({ cls := "LineEnds$Page", name := "beginTable", desc := "(LLineEnds$Classes;)V" } : Jvm.MethodName)) ∈ tbG := tbp_3 57 rfl rfl
theorem w_638 : (Jvm.Cond.instanceMethod ({ cls := "LineEnds$Page", name := "beginTable", desc := "(LLineEnds$Classes;)V" } : Jvm.MethodName)) ∈ tbG := tbp_3 58 rfl rfl
theorem w_639 : (Jvm.Cond.selects "LineEnds$Page" ({ cls := "LineEnds$Page", name := "beginTable", desc := "(LLineEnds$Classes;)V" } : Jvm.MethodName) ({ cls := "LineEnds$Page", name := "beginTable", desc := "(LLineEnds$Classes;)V" } : Jvm.MethodName)) ∈ tbG := tbp_3 59 rfl rfl
theorem w_640 : (Jvm.Cond.code ({ cls := "LineEnds$Page", name := "beginTable", desc := "(LLineEnds$Classes;)V" } : Jvm.MethodName) prog_6_method_3_code (2 : Nat) (Option.none : Option Jvm.ClassFile.FieldType)) ∈ tbG := tbp_3 60 rfl rfl
theorem w_641 : (Jvm.Cond.methodLink "LineEnds$Page" (28 : Nat) ({ cls := "java/lang/System", name := "arraycopy", desc := "(Ljava/lang/Object;ILjava/lang/Object;II)V" } : Jvm.MethodName)) ∈ tbG := tbp_3 61 rfl rfl
theorem w_642 : (Jvm.Cond.static ({ cls := "java/lang/System", name := "arraycopy", desc := "(Ljava/lang/Object;ILjava/lang/Object;II)V" } : Jvm.MethodName)) ∈ tbG := tbp_3 62 rfl rfl
theorem w_643 : (Jvm.Cond.native ({ cls := "java/lang/System", name := "arraycopy", desc := "(Ljava/lang/Object;ILjava/lang/Object;II)V" } : Jvm.MethodName)) ∈ tbG := tbp_3 63 rfl rfl
theorem w_644 : (Jvm.Cond.methodLink "LineEnds" (105 : Nat) ({ cls := "LineEnds$History", name := "clear", desc := "()V" } : Jvm.MethodName)) ∈ tbG := tbp_3 64 rfl rfl
theorem w_645 : (Jvm.Cond.instanceMethod ({ cls := "LineEnds$History", name := "clear", desc := "()V" } : Jvm.MethodName)) ∈ tbG := tbp_3 65 rfl rfl
theorem w_646 : (Jvm.Cond.selects "LineEnds$History" ({ cls := "LineEnds$History", name := "clear", desc := "()V" } : Jvm.MethodName) ({ cls := "LineEnds$History", name := "clear", desc := "()V" } : Jvm.MethodName)) ∈ tbG := tbp_3 66 rfl rfl
theorem w_647 : (Jvm.Cond.code ({ cls := "LineEnds$History", name := "clear", desc := "()V" } : Jvm.MethodName) prog_4_method_2_code (1 : Nat) (Option.none : Option Jvm.ClassFile.FieldType)) ∈ tbG := tbp_3 67 rfl rfl
theorem w_648 : (Jvm.Cond.methodLink "LineEnds" (108 : Nat) ({ cls := "LineEnds", name := "forget", desc := "()V" } : Jvm.MethodName)) ∈ tbG := tbp_3 68 rfl rfl
theorem w_650 : (Jvm.Cond.instanceMethod ({ cls := "LineEnds", name := "forget", desc := "()V" } : Jvm.MethodName)) ∈ tbG := tbp_3 70 rfl rfl
theorem w_651 : (Jvm.Cond.code ({ cls := "LineEnds", name := "forget", desc := "()V" } : Jvm.MethodName) prog_1_method_56_code (2 : Nat) (Option.none : Option Jvm.ClassFile.FieldType)) ∈ tbG := tbp_3 71 rfl rfl
theorem w_652 : (Jvm.Cond.arrayClass Jvm.ClassFile.FieldType.byte) ∈ tbG := tbp_3 72 rfl rfl
theorem w_653 : (Jvm.Cond.methodLink "LineEndsLaw" (28 : Nat) ({ cls := "LineEnds", name := "paragraph", desc := "()I" } : Jvm.MethodName)) ∈ tbG := tbp_3 73 rfl rfl
theorem w_654 : (Jvm.Cond.instanceMethod ({ cls := "LineEnds", name := "paragraph", desc := "()I" } : Jvm.MethodName)) ∈ tbG := tbp_3 74 rfl rfl
theorem w_655 : (Jvm.Cond.selects "LineEnds" ({ cls := "LineEnds", name := "paragraph", desc := "()I" } : Jvm.MethodName) ({ cls := "LineEnds", name := "paragraph", desc := "()I" } : Jvm.MethodName)) ∈ tbG := tbp_3 75 rfl rfl
theorem w_656 : (Jvm.Cond.code ({ cls := "LineEnds", name := "paragraph", desc := "()I" } : Jvm.MethodName) prog_1_method_5_code (3 : Nat) (Option.some Jvm.ClassFile.FieldType.int)) ∈ tbG := tbp_3 76 rfl rfl
theorem w_657 : (Jvm.Cond.methodLink "LineEnds" (114 : Nat) ({ cls := "LineEnds", name := "paragraphFault", desc := "()I" } : Jvm.MethodName)) ∈ tbG := tbp_3 77 rfl rfl
theorem w_659 : (Jvm.Cond.instanceMethod ({ cls := "LineEnds", name := "paragraphFault", desc := "()I" } : Jvm.MethodName)) ∈ tbG := tbp_3 79 rfl rfl
theorem w_660 : (Jvm.Cond.code ({ cls := "LineEnds", name := "paragraphFault", desc := "()I" } : Jvm.MethodName) prog_1_method_6_code (3 : Nat) (Option.some Jvm.ClassFile.FieldType.int)) ∈ tbG := tbp_3 80 rfl rfl
theorem w_661 : (Jvm.Cond.methodLink "LineEnds" (126 : Nat) ({ cls := "LineEnds$Classes", name := "has", desc := "(I)Z" } : Jvm.MethodName)) ∈ tbG := tbp_3 81 rfl rfl
theorem w_662 : (Jvm.Cond.methodLink "LineEnds" (122 : Nat) ({ cls := "LineEnds$Page", name := "putIn", desc := "(II)V" } : Jvm.MethodName)) ∈ tbG := tbp_3 82 rfl rfl
theorem w_663 : (Jvm.Cond.instanceMethod ({ cls := "LineEnds$Page", name := "putIn", desc := "(II)V" } : Jvm.MethodName)) ∈ tbG := tbp_3 83 rfl rfl
theorem w_664 : (Jvm.Cond.selects "LineEnds$Page" ({ cls := "LineEnds$Page", name := "putIn", desc := "(II)V" } : Jvm.MethodName) ({ cls := "LineEnds$Page", name := "putIn", desc := "(II)V" } : Jvm.MethodName)) ∈ tbG := tbp_3 84 rfl rfl
theorem w_665 : (Jvm.Cond.code ({ cls := "LineEnds$Page", name := "putIn", desc := "(II)V" } : Jvm.MethodName) prog_6_method_6_code (4 : Nat) (Option.none : Option Jvm.ClassFile.FieldType)) ∈ tbG := tbp_3 85 rfl rfl
theorem w_666 : (Jvm.Cond.methodLink "LineEndsLaw" (32 : Nat) ({ cls := "LineEnds", name := "insert", desc := "(II)Z" } : Jvm.MethodName)) ∈ tbG := tbp_3 86 rfl rfl
theorem w_667 : (Jvm.Cond.instanceMethod ({ cls := "LineEnds", name := "insert", desc := "(II)Z" } : Jvm.MethodName)) ∈ tbG := tbp_3 87 rfl rfl
theorem w_668 : (Jvm.Cond.selects "LineEnds" ({ cls := "LineEnds", name := "insert", desc := "(II)Z" } : Jvm.MethodName) ({ cls := "LineEnds", name := "insert", desc := "(II)Z" } : Jvm.MethodName)) ∈ tbG := tbp_3 88 rfl rfl
theorem w_669 : (Jvm.Cond.code ({ cls := "LineEnds", name := "insert", desc := "(II)Z" } : Jvm.MethodName) prog_1_method_7_code (3 : Nat) (Option.some Jvm.ClassFile.FieldType.boolean)) ∈ tbG := tbp_3 89 rfl rfl
theorem w_670 : (Jvm.Cond.methodLink "LineEnds" (130 : Nat) ({ cls := "LineEnds", name := "beginAct", desc := "()V" } : Jvm.MethodName)) ∈ tbG := tbp_3 90 rfl rfl
theorem w_672 : (Jvm.Cond.instanceMethod ({ cls := "LineEnds", name := "beginAct", desc := "()V" } : Jvm.MethodName)) ∈ tbG := tbp_3 92 rfl rfl
theorem w_673 : (Jvm.Cond.code ({ cls := "LineEnds", name := "beginAct", desc := "()V" } : Jvm.MethodName) prog_1_method_55_code (1 : Nat) (Option.none : Option Jvm.ClassFile.FieldType)) ∈ tbG := tbp_3 93 rfl rfl
theorem w_674 : (Jvm.Cond.methodLink "LineEnds" (371 : Nat) ({ cls := "LineEnds$History", name := "keep", desc := "(LLineEnds$Page;)V" } : Jvm.MethodName)) ∈ tbG := tbp_3 94 rfl rfl
theorem w_675 : (Jvm.Cond.instanceMethod ({ cls := "LineEnds$History", name := "keep", desc := "(LLineEnds$Page;)V" } : Jvm.MethodName)) ∈ tbG := tbp_3 95 rfl rfl
theorem w_676 : (Jvm.Cond.selects "LineEnds$History" ({ cls := "LineEnds$History", name := "keep", desc := "(LLineEnds$Page;)V" } : Jvm.MethodName) ({ cls := "LineEnds$History", name := "keep", desc := "(LLineEnds$Page;)V" } : Jvm.MethodName)) ∈ tbG := tbp_3 96 rfl rfl
theorem w_677 : (Jvm.Cond.code ({ cls := "LineEnds$History", name := "keep", desc := "(LLineEnds$Page;)V" } : Jvm.MethodName) prog_4_method_3_code (2 : Nat) (Option.none : Option Jvm.ClassFile.FieldType)) ∈ tbG := tbp_3 97 rfl rfl
theorem w_678 : (Jvm.Cond.methodLink "LineEnds$History" (25 : Nat) ({ cls := "LineEnds$Page", name := "copyFrom", desc := "(LLineEnds$Page;)V" } : Jvm.MethodName)) ∈ tbG := tbp_3 98 rfl rfl
theorem w_679 : (Jvm.Cond.instanceMethod ({ cls := "LineEnds$Page", name := "copyFrom", desc := "(LLineEnds$Page;)V" } : Jvm.MethodName)) ∈ tbG := tbp_3 99 rfl rfl
theorem w_680 : (Jvm.Cond.selects "LineEnds$Page" ({ cls := "LineEnds$Page", name := "copyFrom", desc := "(LLineEnds$Page;)V" } : Jvm.MethodName) ({ cls := "LineEnds$Page", name := "copyFrom", desc := "(LLineEnds$Page;)V" } : Jvm.MethodName)) ∈ tbG := tbp_3 100 rfl rfl
theorem w_681 : (Jvm.Cond.code ({ cls := "LineEnds$Page", name := "copyFrom", desc := "(LLineEnds$Page;)V" } : Jvm.MethodName) prog_6_method_2_code (2 : Nat) (Option.none : Option Jvm.ClassFile.FieldType)) ∈ tbG := tbp_3 101 rfl rfl
theorem w_682 : (Jvm.Cond.methodLink "LineEnds$History" (29 : Nat) ({ cls := "java/lang/Math", name := "min", desc := "(II)I" } : Jvm.MethodName)) ∈ tbG := tbp_3 102 rfl rfl
theorem w_683 : (Jvm.Cond.methodLink "LineEndsLaw" (37 : Nat) ({ cls := "LineEnds", name := "delete", desc := "(II)Z" } : Jvm.MethodName)) ∈ tbG := tbp_3 103 rfl rfl
theorem w_684 : (Jvm.Cond.instanceMethod ({ cls := "LineEnds", name := "delete", desc := "(II)Z" } : Jvm.MethodName)) ∈ tbG := tbp_3 104 rfl rfl
theorem w_685 : (Jvm.Cond.selects "LineEnds" ({ cls := "LineEnds", name := "delete", desc := "(II)Z" } : Jvm.MethodName) ({ cls := "LineEnds", name := "delete", desc := "(II)Z" } : Jvm.MethodName)) ∈ tbG := tbp_3 105 rfl rfl
theorem w_686 : (Jvm.Cond.code ({ cls := "LineEnds", name := "delete", desc := "(II)Z" } : Jvm.MethodName) prog_1_method_8_code (3 : Nat) (Option.some Jvm.ClassFile.FieldType.boolean)) ∈ tbG := tbp_3 106 rfl rfl
theorem w_687 : (Jvm.Cond.methodLink "LineEnds" (133 : Nat) ({ cls := "LineEnds$Page", name := "hasRun", desc := "(II)Z" } : Jvm.MethodName)) ∈ tbG := tbp_3 107 rfl rfl
theorem w_688 : (Jvm.Cond.instanceMethod ({ cls := "LineEnds$Page", name := "hasRun", desc := "(II)Z" } : Jvm.MethodName)) ∈ tbG := tbp_3 108 rfl rfl
theorem w_689 : (Jvm.Cond.selects "LineEnds$Page" ({ cls := "LineEnds$Page", name := "hasRun", desc := "(II)Z" } : Jvm.MethodName) ({ cls := "LineEnds$Page", name := "hasRun", desc := "(II)Z" } : Jvm.MethodName)) ∈ tbG := tbp_3 109 rfl rfl
theorem w_690 : (Jvm.Cond.code ({ cls := "LineEnds$Page", name := "hasRun", desc := "(II)Z" } : Jvm.MethodName) prog_6_method_5_code (3 : Nat) (Option.some Jvm.ClassFile.FieldType.boolean)) ∈ tbG := tbp_3 110 rfl rfl
theorem w_691 : (Jvm.Cond.methodLink "LineEnds$Page" (52 : Nat) ({ cls := "LineEnds$Page", name := "has", desc := "(I)Z" } : Jvm.MethodName)) ∈ tbG := tbp_3 111 rfl rfl
theorem w_692 : (Jvm.Cond.instanceMethod ({ cls := "LineEnds$Page", name := "has", desc := "(I)Z" } : Jvm.MethodName)) ∈ tbG := tbp_3 112 rfl rfl
theorem w_693 : (Jvm.Cond.selects "LineEnds$Page" ({ cls := "LineEnds$Page", name := "has", desc := "(I)Z" } : Jvm.MethodName) ({ cls := "LineEnds$Page", name := "has", desc := "(I)Z" } : Jvm.MethodName)) ∈ tbG := tbp_3 113 rfl rfl
theorem w_694 : (Jvm.Cond.code ({ cls := "LineEnds$Page", name := "has", desc := "(I)Z" } : Jvm.MethodName) prog_6_method_4_code (2 : Nat) (Option.some Jvm.ClassFile.FieldType.boolean)) ∈ tbG := tbp_3 114 rfl rfl
theorem w_695 : (Jvm.Cond.methodLink "LineEnds" (137 : Nat) ({ cls := "LineEnds$Page", name := "takeOut", desc := "(II)V" } : Jvm.MethodName)) ∈ tbG := tbp_3 115 rfl rfl
theorem w_696 : (Jvm.Cond.instanceMethod ({ cls := "LineEnds$Page", name := "takeOut", desc := "(II)V" } : Jvm.MethodName)) ∈ tbG := tbp_3 116 rfl rfl
theorem w_697 : (Jvm.Cond.selects "LineEnds$Page" ({ cls := "LineEnds$Page", name := "takeOut", desc := "(II)V" } : Jvm.MethodName) ({ cls := "LineEnds$Page", name := "takeOut", desc := "(II)V" } : Jvm.MethodName)) ∈ tbG := tbp_3 117 rfl rfl
theorem w_698 : (Jvm.Cond.code ({ cls := "LineEnds$Page", name := "takeOut", desc := "(II)V" } : Jvm.MethodName) prog_6_method_7_code (4 : Nat) (Option.none : Option Jvm.ClassFile.FieldType)) ∈ tbG := tbp_3 118 rfl rfl
theorem w_699 : (Jvm.Cond.methodLink "LineEnds$Page" (56 : Nat) ({ cls := "LineEnds$Page", name := "hasRun", desc := "(II)Z" } : Jvm.MethodName)) ∈ tbG := tbp_3 119 rfl rfl
theorem w_700 : (Jvm.Cond.methodLink "LineEndsLaw" (41 : Nat) ({ cls := "LineEnds", name := "change", desc := "(II)I" } : Jvm.MethodName)) ∈ tbG := tbp_3 120 rfl rfl
theorem w_701 : (Jvm.Cond.instanceMethod ({ cls := "LineEnds", name := "change", desc := "(II)I" } : Jvm.MethodName)) ∈ tbG := tbp_3 121 rfl rfl
theorem w_702 : (Jvm.Cond.selects "LineEnds" ({ cls := "LineEnds", name := "change", desc := "(II)I" } : Jvm.MethodName) ({ cls := "LineEnds", name := "change", desc := "(II)I" } : Jvm.MethodName)) ∈ tbG := tbp_3 122 rfl rfl
theorem w_703 : (Jvm.Cond.code ({ cls := "LineEnds", name := "change", desc := "(II)I" } : Jvm.MethodName) prog_1_method_9_code (4 : Nat) (Option.some Jvm.ClassFile.FieldType.int)) ∈ tbG := tbp_3 123 rfl rfl
theorem w_704 : (Jvm.Cond.methodLink "LineEnds" (140 : Nat) ({ cls := "LineEnds$Page", name := "has", desc := "(I)Z" } : Jvm.MethodName)) ∈ tbG := tbp_3 124 rfl rfl
theorem w_705 : (Jvm.Cond.methodLink "LineEndsLaw" (46 : Nat) ({ cls := "LineEnds", name := "shift", desc := "(III)Z" } : Jvm.MethodName)) ∈ tbG := tbp_3 125 rfl rfl
theorem w_706 : (Jvm.Cond.instanceMethod ({ cls := "LineEnds", name := "shift", desc := "(III)Z" } : Jvm.MethodName)) ∈ tbG := tbp_3 126 rfl rfl
theorem w_707 : (Jvm.Cond.selects "LineEnds" ({ cls := "LineEnds", name := "shift", desc := "(III)Z" } : Jvm.MethodName) ({ cls := "LineEnds", name := "shift", desc := "(III)Z" } : Jvm.MethodName)) ∈ tbG := tbp_3 127 rfl rfl
theorem w_708 : (Jvm.Cond.code ({ cls := "LineEnds", name := "shift", desc := "(III)Z" } : Jvm.MethodName) prog_1_method_10_code (4 : Nat) (Option.some Jvm.ClassFile.FieldType.boolean)) ∈ tbG := tbp_3 128 rfl rfl
theorem w_709 : (Jvm.Cond.methodLink "LineEnds" (144 : Nat) ({ cls := "LineEnds$Page", name := "copyFrom", desc := "(LLineEnds$Page;)V" } : Jvm.MethodName)) ∈ tbG := tbp_3 129 rfl rfl
theorem w_710 : (Jvm.Cond.methodLink "LineEnds" (148 : Nat) ({ cls := "LineEnds$Page", name := "moveFrom", desc := "(LLineEnds$Page;III)V" } : Jvm.MethodName)) ∈ tbG := tbp_3 130 rfl rfl
theorem w_711 : (Jvm.Cond.instanceMethod ({ cls := "LineEnds$Page", name := "moveFrom", desc := "(LLineEnds$Page;III)V" } : Jvm.MethodName)) ∈ tbG := tbp_3 131 rfl rfl
theorem w_712 : (Jvm.Cond.selects "LineEnds$Page" ({ cls := "LineEnds$Page", name := "moveFrom", desc := "(LLineEnds$Page;III)V" } : Jvm.MethodName) ({ cls := "LineEnds$Page", name := "moveFrom", desc := "(LLineEnds$Page;III)V" } : Jvm.MethodName)) ∈ tbG := tbp_3 132 rfl rfl
theorem w_713 : (Jvm.Cond.code ({ cls := "LineEnds$Page", name := "moveFrom", desc := "(LLineEnds$Page;III)V" } : Jvm.MethodName) prog_6_method_8_code (8 : Nat) (Option.none : Option Jvm.ClassFile.FieldType)) ∈ tbG := tbp_3 133 rfl rfl
theorem w_714 : (Jvm.Cond.methodLink "LineEndsLaw" (51 : Nat) ({ cls := "LineEnds", name := "replace", desc := "(II)I" } : Jvm.MethodName)) ∈ tbG := tbp_3 134 rfl rfl
theorem w_715 : (Jvm.Cond.instanceMethod ({ cls := "LineEnds", name := "replace", desc := "(II)I" } : Jvm.MethodName)) ∈ tbG := tbp_3 135 rfl rfl
theorem w_716 : (Jvm.Cond.selects "LineEnds" ({ cls := "LineEnds", name := "replace", desc := "(II)I" } : Jvm.MethodName) ({ cls := "LineEnds", name := "replace", desc := "(II)I" } : Jvm.MethodName)) ∈ tbG := tbp_3 136 rfl rfl
theorem w_717 : (Jvm.Cond.code ({ cls := "LineEnds", name := "replace", desc := "(II)I" } : Jvm.MethodName) prog_1_method_11_code (5 : Nat) (Option.some Jvm.ClassFile.FieldType.int)) ∈ tbG := tbp_3 137 rfl rfl
theorem w_718 : (Jvm.Cond.methodLink "LineEnds" (152 : Nat) ({ cls := "LineEnds$Page", name := "signsOf", desc := "(I)I" } : Jvm.MethodName)) ∈ tbG := tbp_3 138 rfl rfl
theorem w_719 : (Jvm.Cond.instanceMethod ({ cls := "LineEnds$Page", name := "signsOf", desc := "(I)I" } : Jvm.MethodName)) ∈ tbG := tbp_3 139 rfl rfl
theorem w_720 : (Jvm.Cond.selects "LineEnds$Page" ({ cls := "LineEnds$Page", name := "signsOf", desc := "(I)I" } : Jvm.MethodName) ({ cls := "LineEnds$Page", name := "signsOf", desc := "(I)I" } : Jvm.MethodName)) ∈ tbG := tbp_3 140 rfl rfl
theorem w_721 : (Jvm.Cond.code ({ cls := "LineEnds$Page", name := "signsOf", desc := "(I)I" } : Jvm.MethodName) prog_6_method_13_code (4 : Nat) (Option.some Jvm.ClassFile.FieldType.int)) ∈ tbG := tbp_3 141 rfl rfl
theorem w_722 : (Jvm.Cond.methodLink "LineEndsLaw" (55 : Nat) ({ cls := "LineEnds", name := "mark", desc := "(II)I" } : Jvm.MethodName)) ∈ tbG := tbp_3 142 rfl rfl
theorem w_723 : (Jvm.Cond.instanceMethod ({ cls := "LineEnds", name := "mark", desc := "(II)I" } : Jvm.MethodName)) ∈ tbG := tbp_3 143 rfl rfl
theorem w_724 : (Jvm.Cond.selects "LineEnds" ({ cls := "LineEnds", name := "mark", desc := "(II)I" } : Jvm.MethodName) ({ cls := "LineEnds", name := "mark", desc := "(II)I" } : Jvm.MethodName)) ∈ tbG := tbp_3 144 rfl rfl
theorem w_725 : (Jvm.Cond.code ({ cls := "LineEnds", name := "mark", desc := "(II)I" } : Jvm.MethodName) prog_1_method_12_code (4 : Nat) (Option.some Jvm.ClassFile.FieldType.int)) ∈ tbG := tbp_3 145 rfl rfl
theorem w_726 : (Jvm.Cond.methodLink "LineEnds" (156 : Nat) ({ cls := "LineEnds", name := "isMark", desc := "(I)Z" } : Jvm.MethodName)) ∈ tbG := tbp_3 146 rfl rfl
theorem w_727 : (Jvm.Cond.static ({ cls := "LineEnds", name := "isMark", desc := "(I)Z" } : Jvm.MethodName)) ∈ tbG := tbp_3 147 rfl rfl
theorem w_728 : (Jvm.Cond.code ({ cls := "LineEnds", name := "isMark", desc := "(I)Z" } : Jvm.MethodName) prog_1_method_52_code (1 : Nat) (Option.some Jvm.ClassFile.FieldType.boolean)) ∈ tbG := tbp_3 148 rfl rfl
theorem w_729 : (Jvm.Cond.methodLink "LineEndsLaw" (59 : Nat) ({ cls := "LineEnds", name := "width", desc := "(I)I" } : Jvm.MethodName)) ∈ tbG := tbp_3 149 rfl rfl
theorem w_730 : (Jvm.Cond.instanceMethod ({ cls := "LineEnds", name := "width", desc := "(I)I" } : Jvm.MethodName)) ∈ tbG := tbp_3 150 rfl rfl
theorem w_731 : (Jvm.Cond.selects "LineEnds" ({ cls := "LineEnds", name := "width", desc := "(I)I" } : Jvm.MethodName) ({ cls := "LineEnds", name := "width", desc := "(I)I" } : Jvm.MethodName)) ∈ tbG := tbp_3 151 rfl rfl
theorem w_732 : (Jvm.Cond.code ({ cls := "LineEnds", name := "width", desc := "(I)I" } : Jvm.MethodName) prog_1_method_13_code (3 : Nat) (Option.some Jvm.ClassFile.FieldType.int)) ∈ tbG := tbp_3 152 rfl rfl
theorem w_733 : (Jvm.Cond.methodLink "LineEnds" (162 : Nat) ({ cls := "LineEnds", name := "isWidth", desc := "(I)Z" } : Jvm.MethodName)) ∈ tbG := tbp_3 153 rfl rfl
theorem w_734 : (Jvm.Cond.static ({ cls := "LineEnds", name := "isWidth", desc := "(I)Z" } : Jvm.MethodName)) ∈ tbG := tbp_3 154 rfl rfl
theorem w_735 : (Jvm.Cond.code ({ cls := "LineEnds", name := "isWidth", desc := "(I)Z" } : Jvm.MethodName) prog_1_method_53_code (1 : Nat) (Option.some Jvm.ClassFile.FieldType.boolean)) ∈ tbG := tbp_3 155 rfl rfl
theorem w_736 : (Jvm.Cond.methodLink "LineEndsLaw" (63 : Nat) ({ cls := "LineEnds", name := "pair", desc := "(II)I" } : Jvm.MethodName)) ∈ tbG := tbp_3 156 rfl rfl
theorem w_737 : (Jvm.Cond.instanceMethod ({ cls := "LineEnds", name := "pair", desc := "(II)I" } : Jvm.MethodName)) ∈ tbG := tbp_3 157 rfl rfl
theorem w_738 : (Jvm.Cond.selects "LineEnds" ({ cls := "LineEnds", name := "pair", desc := "(II)I" } : Jvm.MethodName) ({ cls := "LineEnds", name := "pair", desc := "(II)I" } : Jvm.MethodName)) ∈ tbG := tbp_3 158 rfl rfl
theorem w_739 : (Jvm.Cond.code ({ cls := "LineEnds", name := "pair", desc := "(II)I" } : Jvm.MethodName) prog_1_method_14_code (4 : Nat) (Option.some Jvm.ClassFile.FieldType.int)) ∈ tbG := tbp_3 159 rfl rfl
theorem w_740 : (Jvm.Cond.methodLink "LineEnds" (168 : Nat) ({ cls := "LineEnds$Page", name := "isKept", desc := "(II)Z" } : Jvm.MethodName)) ∈ tbG := tbp_3 160 rfl rfl
theorem w_741 : (Jvm.Cond.instanceMethod ({ cls := "LineEnds$Page", name := "isKept", desc := "(II)Z" } : Jvm.MethodName)) ∈ tbG := tbp_3 161 rfl rfl
theorem w_742 : (Jvm.Cond.selects "LineEnds$Page" ({ cls := "LineEnds$Page", name := "isKept", desc := "(II)Z" } : Jvm.MethodName) ({ cls := "LineEnds$Page", name := "isKept", desc := "(II)Z" } : Jvm.MethodName)) ∈ tbG := tbp_3 162 rfl rfl
theorem w_743 : (Jvm.Cond.code ({ cls := "LineEnds$Page", name := "isKept", desc := "(II)Z" } : Jvm.MethodName) prog_6_method_9_code (3 : Nat) (Option.some Jvm.ClassFile.FieldType.boolean)) ∈ tbG := tbp_3 163 rfl rfl
theorem w_745 : (Jvm.Cond.methodLink "LineEndsLaw" (67 : Nat) ({ cls := "LineEnds", name := "shy", desc := "(IZ)I" } : Jvm.MethodName)) ∈ tbG := tbp_3 165 rfl rfl
theorem w_746 : (Jvm.Cond.instanceMethod ({ cls := "LineEnds", name := "shy", desc := "(IZ)I" } : Jvm.MethodName)) ∈ tbG := tbp_3 166 rfl rfl
theorem w_747 : (Jvm.Cond.selects "LineEnds" ({ cls := "LineEnds", name := "shy", desc := "(IZ)I" } : Jvm.MethodName) ({ cls := "LineEnds", name := "shy", desc := "(IZ)I" } : Jvm.MethodName)) ∈ tbG := tbp_3 167 rfl rfl
theorem w_748 : (Jvm.Cond.code ({ cls := "LineEnds", name := "shy", desc := "(IZ)I" } : Jvm.MethodName) prog_1_method_15_code (4 : Nat) (Option.some Jvm.ClassFile.FieldType.int)) ∈ tbG := tbp_3 168 rfl rfl
theorem w_749 : (Jvm.Cond.methodLink "LineEnds" (180 : Nat) ({ cls := "LineEnds", name := "bitOf", desc := "(II)I" } : Jvm.MethodName)) ∈ tbG := tbp_3 169 rfl rfl
theorem w_750 : (Jvm.Cond.methodLink "LineEndsLaw" (72 : Nat) ({ cls := "LineEnds", name := "weigh", desc := "(II)I" } : Jvm.MethodName)) ∈ tbG := tbp_3 170 rfl rfl
theorem w_751 : (Jvm.Cond.instanceMethod ({ cls := "LineEnds", name := "weigh", desc := "(II)I" } : Jvm.MethodName)) ∈ tbG := tbp_3 171 rfl rfl
theorem w_752 : (Jvm.Cond.selects "LineEnds" ({ cls := "LineEnds", name := "weigh", desc := "(II)I" } : Jvm.MethodName) ({ cls := "LineEnds", name := "weigh", desc := "(II)I" } : Jvm.MethodName)) ∈ tbG := tbp_3 172 rfl rfl
theorem w_753 : (Jvm.Cond.code ({ cls := "LineEnds", name := "weigh", desc := "(II)I" } : Jvm.MethodName) prog_1_method_16_code (4 : Nat) (Option.some Jvm.ClassFile.FieldType.int)) ∈ tbG := tbp_3 173 rfl rfl
theorem w_754 : (Jvm.Cond.fieldLink "LineEnds" (187 : Nat) "LineEnds" "LEAST_WEIGHTS" "[I") ∈ tbG := tbp_3 174 rfl rfl
theorem w_756 : (Jvm.Cond.fieldLink "LineEnds" (190 : Nat) "LineEnds" "MOST_WEIGHTS" "[I") ∈ tbG := tbp_3 176 rfl rfl
theorem w_758 : (Jvm.Cond.methodLink "LineEndsLaw" (76 : Nat) ({ cls := "LineEnds", name := "undo", desc := "()I" } : Jvm.MethodName)) ∈ tbG := tbp_3 178 rfl rfl
theorem w_759 : (Jvm.Cond.instanceMethod ({ cls := "LineEnds", name := "undo", desc := "()I" } : Jvm.MethodName)) ∈ tbG := tbp_3 179 rfl rfl
theorem w_760 : (Jvm.Cond.selects "LineEnds" ({ cls := "LineEnds", name := "undo", desc := "()I" } : Jvm.MethodName) ({ cls := "LineEnds", name := "undo", desc := "()I" } : Jvm.MethodName)) ∈ tbG := tbp_3 180 rfl rfl
theorem w_761 : (Jvm.Cond.code ({ cls := "LineEnds", name := "undo", desc := "()I" } : Jvm.MethodName) prog_1_method_17_code (1 : Nat) (Option.some Jvm.ClassFile.FieldType.int)) ∈ tbG := tbp_3 181 rfl rfl
theorem w_762 : (Jvm.Cond.methodLink "LineEnds" (197 : Nat) ({ cls := "LineEnds$History", name := "bringBack", desc := "(LLineEnds$Page;)V" } : Jvm.MethodName)) ∈ tbG := tbp_3 182 rfl rfl
theorem w_763 : (Jvm.Cond.instanceMethod ({ cls := "LineEnds$History", name := "bringBack", desc := "(LLineEnds$Page;)V" } : Jvm.MethodName)) ∈ tbG := tbp_3 183 rfl rfl
theorem w_764 : (Jvm.Cond.selects "LineEnds$History" ({ cls := "LineEnds$History", name := "bringBack", desc := "(LLineEnds$Page;)V" } : Jvm.MethodName) ({ cls := "LineEnds$History", name := "bringBack", desc := "(LLineEnds$Page;)V" } : Jvm.MethodName)) ∈ tbG := tbp_3 184 rfl rfl
theorem w_765 : (Jvm.Cond.code ({ cls := "LineEnds$History", name := "bringBack", desc := "(LLineEnds$Page;)V" } : Jvm.MethodName) prog_4_method_4_code (2 : Nat) (Option.none : Option Jvm.ClassFile.FieldType)) ∈ tbG := tbp_3 185 rfl rfl
theorem w_766 : (Jvm.Cond.methodLink "LineEndsLaw" (80 : Nat) ({ cls := "LineEnds", name := "of", desc := "(II)I" } : Jvm.MethodName)) ∈ tbG := tbp_3 186 rfl rfl
theorem w_767 : (Jvm.Cond.instanceMethod ({ cls := "LineEnds", name := "of", desc := "(II)I" } : Jvm.MethodName)) ∈ tbG := tbp_3 187 rfl rfl
theorem w_768 : (Jvm.Cond.selects "LineEnds" ({ cls := "LineEnds", name := "of", desc := "(II)I" } : Jvm.MethodName) ({ cls := "LineEnds", name := "of", desc := "(II)I" } : Jvm.MethodName)) ∈ tbG := tbp_3 188 rfl rfl
theorem w_769 : (Jvm.Cond.code ({ cls := "LineEnds", name := "of", desc := "(II)I" } : Jvm.MethodName) prog_1_method_18_code (3 : Nat) (Option.some Jvm.ClassFile.FieldType.int)) ∈ tbG := tbp_3 189 rfl rfl
theorem w_770 : (Jvm.Cond.methodLink "LineEndsLaw" (84 : Nat) ({ cls := "LineEnds", name := "isPair", desc := "(II)I" } : Jvm.MethodName)) ∈ tbG := tbp_3 190 rfl rfl
theorem w_771 : (Jvm.Cond.instanceMethod ({ cls := "LineEnds", name := "isPair", desc := "(II)I" } : Jvm.MethodName)) ∈ tbG := tbp_3 191 rfl rfl
theorem w_772 : (Jvm.Cond.selects "LineEnds" ({ cls := "LineEnds", name := "isPair", desc := "(II)I" } : Jvm.MethodName) ({ cls := "LineEnds", name := "isPair", desc := "(II)I" } : Jvm.MethodName)) ∈ tbG := tbp_3 192 rfl rfl
theorem w_773 : (Jvm.Cond.code ({ cls := "LineEnds", name := "isPair", desc := "(II)I" } : Jvm.MethodName) prog_1_method_19_code (3 : Nat) (Option.some Jvm.ClassFile.FieldType.int)) ∈ tbG := tbp_3 193 rfl rfl
theorem w_774 : (Jvm.Cond.methodLink "LineEndsLaw" (88 : Nat) ({ cls := "LineEnds", name := "find", desc := "(I)I" } : Jvm.MethodName)) ∈ tbG := tbp_3 194 rfl rfl
theorem w_775 : (Jvm.Cond.instanceMethod ({ cls := "LineEnds", name := "find", desc := "(I)I" } : Jvm.MethodName)) ∈ tbG := tbp_3 195 rfl rfl
theorem w_776 : (Jvm.Cond.selects "LineEnds" ({ cls := "LineEnds", name := "find", desc := "(I)I" } : Jvm.MethodName) ({ cls := "LineEnds", name := "find", desc := "(I)I" } : Jvm.MethodName)) ∈ tbG := tbp_3 196 rfl rfl
theorem w_777 : (Jvm.Cond.code ({ cls := "LineEnds", name := "find", desc := "(I)I" } : Jvm.MethodName) prog_1_method_20_code (5 : Nat) (Option.some Jvm.ClassFile.FieldType.int)) ∈ tbG := tbp_3 197 rfl rfl
theorem w_778 : (Jvm.Cond.methodLink "LineEnds" (204 : Nat) ({ cls := "LineEnds$Bytes", name := "dropBlanks", desc := "()Z" } : Jvm.MethodName)) ∈ tbG := tbp_3 198 rfl rfl
theorem w_779 : (Jvm.Cond.instanceMethod ({ cls := "LineEnds$Bytes", name := "dropBlanks", desc := "()Z" } : Jvm.MethodName)) ∈ tbG := tbp_3 199 rfl rfl
theorem w_780 : (Jvm.Cond.selects "LineEnds$Bytes" ({ cls := "LineEnds$Bytes", name := "dropBlanks", desc := "()Z" } : Jvm.MethodName) ({ cls := "LineEnds$Bytes", name := "dropBlanks", desc := "()Z" } : Jvm.MethodName)) ∈ tbG := tbp_3 200 rfl rfl
theorem w_781 : (Jvm.Cond.code ({ cls := "LineEnds$Bytes", name := "dropBlanks", desc := "()Z" } : Jvm.MethodName) prog_2_method_8_code (4 : Nat) (Option.some Jvm.ClassFile.FieldType.boolean)) ∈ tbG := tbp_3 201 rfl rfl
theorem w_782 : (Jvm.Cond.methodLink "LineEnds" (208 : Nat) ({ cls := "LineEnds$Page", name := "bears", desc := "(LLineEnds$Bytes;II)Z" } : Jvm.MethodName)) ∈ tbG := tbp_3 202 rfl rfl
theorem w_783 : (Jvm.Cond.instanceMethod ({ cls := "LineEnds$Page", name := "bears", desc := "(LLineEnds$Bytes;II)Z" } : Jvm.MethodName)) ∈ tbG := tbp_3 203 rfl rfl
theorem w_784 : (Jvm.Cond.selects "LineEnds$Page" ({ cls := "LineEnds$Page", name := "bears", desc := "(LLineEnds$Bytes;II)Z" } : Jvm.MethodName) ({ cls := "LineEnds$Page", name := "bears", desc := "(LLineEnds$Bytes;II)Z" } : Jvm.MethodName)) ∈ tbG := tbp_3 204 rfl rfl
theorem w_785 : (Jvm.Cond.code ({ cls := "LineEnds$Page", name := "bears", desc := "(LLineEnds$Bytes;II)Z" } : Jvm.MethodName) prog_6_method_15_code (5 : Nat) (Option.some Jvm.ClassFile.FieldType.boolean)) ∈ tbG := tbp_3 205 rfl rfl
theorem w_786 : (Jvm.Cond.methodLink "LineEndsLaw" (92 : Nat) ({ cls := "LineEnds", name := "marked", desc := "(I)I" } : Jvm.MethodName)) ∈ tbG := tbp_3 206 rfl rfl
theorem w_787 : (Jvm.Cond.instanceMethod ({ cls := "LineEnds", name := "marked", desc := "(I)I" } : Jvm.MethodName)) ∈ tbG := tbp_3 207 rfl rfl
theorem w_788 : (Jvm.Cond.selects "LineEnds" ({ cls := "LineEnds", name := "marked", desc := "(I)I" } : Jvm.MethodName) ({ cls := "LineEnds", name := "marked", desc := "(I)I" } : Jvm.MethodName)) ∈ tbG := tbp_3 208 rfl rfl
theorem w_789 : (Jvm.Cond.code ({ cls := "LineEnds", name := "marked", desc := "(I)I" } : Jvm.MethodName) prog_1_method_21_code (2 : Nat) (Option.some Jvm.ClassFile.FieldType.int)) ∈ tbG := tbp_3 209 rfl rfl
theorem w_790 : (Jvm.Cond.methodLink "LineEndsLaw" (96 : Nat) ({ cls := "LineEnds", name := "sign", desc := "(I)I" } : Jvm.MethodName)) ∈ tbG := tbp_3 210 rfl rfl
theorem w_791 : (Jvm.Cond.instanceMethod ({ cls := "LineEnds", name := "sign", desc := "(I)I" } : Jvm.MethodName)) ∈ tbG := tbp_3 211 rfl rfl
theorem w_792 : (Jvm.Cond.selects "LineEnds" ({ cls := "LineEnds", name := "sign", desc := "(I)I" } : Jvm.MethodName) ({ cls := "LineEnds", name := "sign", desc := "(I)I" } : Jvm.MethodName)) ∈ tbG := tbp_3 212 rfl rfl
theorem w_793 : (Jvm.Cond.code ({ cls := "LineEnds", name := "sign", desc := "(I)I" } : Jvm.MethodName) prog_1_method_22_code (2 : Nat) (Option.some Jvm.ClassFile.FieldType.int)) ∈ tbG := tbp_3 213 rfl rfl
theorem w_794 : (Jvm.Cond.methodLink "LineEndsLaw" (100 : Nat) ({ cls := "LineEnds", name := "legal", desc := "(I)I" } : Jvm.MethodName)) ∈ tbG := tbp_3 214 rfl rfl
theorem w_795 : (Jvm.Cond.instanceMethod ({ cls := "LineEnds", name := "legal", desc := "(I)I" } : Jvm.MethodName)) ∈ tbG := tbp_3 215 rfl rfl
theorem w_796 : (Jvm.Cond.selects "LineEnds" ({ cls := "LineEnds", name := "legal", desc := "(I)I" } : Jvm.MethodName) ({ cls := "LineEnds", name := "legal", desc := "(I)I" } : Jvm.MethodName)) ∈ tbG := tbp_3 216 rfl rfl
theorem w_797 : (Jvm.Cond.code ({ cls := "LineEnds", name := "legal", desc := "(I)I" } : Jvm.MethodName) prog_1_method_23_code (2 : Nat) (Option.some Jvm.ClassFile.FieldType.int)) ∈ tbG := tbp_3 217 rfl rfl
theorem w_798 : (Jvm.Cond.methodLink "LineEnds" (212 : Nat) ({ cls := "LineEnds$Page", name := "isLegalEnd", desc := "(I)Z" } : Jvm.MethodName)) ∈ tbG := tbp_3 218 rfl rfl
theorem w_799 : (Jvm.Cond.instanceMethod ({ cls := "LineEnds$Page", name := "isLegalEnd", desc := "(I)Z" } : Jvm.MethodName)) ∈ tbG := tbp_3 219 rfl rfl
theorem w_800 : (Jvm.Cond.selects "LineEnds$Page" ({ cls := "LineEnds$Page", name := "isLegalEnd", desc := "(I)Z" } : Jvm.MethodName) ({ cls := "LineEnds$Page", name := "isLegalEnd", desc := "(I)Z" } : Jvm.MethodName)) ∈ tbG := tbp_3 220 rfl rfl
theorem w_801 : (Jvm.Cond.code ({ cls := "LineEnds$Page", name := "isLegalEnd", desc := "(I)Z" } : Jvm.MethodName) prog_6_method_10_code (4 : Nat) (Option.some Jvm.ClassFile.FieldType.boolean)) ∈ tbG := tbp_3 221 rfl rfl
theorem w_802 : (Jvm.Cond.methodLink "LineEndsLaw" (104 : Nat) ({ cls := "LineEnds", name := "natural", desc := "(II)I" } : Jvm.MethodName)) ∈ tbG := tbp_3 222 rfl rfl
theorem w_803 : (Jvm.Cond.instanceMethod ({ cls := "LineEnds", name := "natural", desc := "(II)I" } : Jvm.MethodName)) ∈ tbG := tbp_3 223 rfl rfl
theorem w_804 : (Jvm.Cond.selects "LineEnds" ({ cls := "LineEnds", name := "natural", desc := "(II)I" } : Jvm.MethodName) ({ cls := "LineEnds", name := "natural", desc := "(II)I" } : Jvm.MethodName)) ∈ tbG := tbp_3 224 rfl rfl
theorem w_805 : (Jvm.Cond.code ({ cls := "LineEnds", name := "natural", desc := "(II)I" } : Jvm.MethodName) prog_1_method_24_code (3 : Nat) (Option.some Jvm.ClassFile.FieldType.int)) ∈ tbG := tbp_3 225 rfl rfl
theorem w_806 : (Jvm.Cond.methodLink "LineEnds" (215 : Nat) ({ cls := "LineEnds", name := "currentRuler", desc := "()LLineEnds$Ruler;" } : Jvm.MethodName)) ∈ tbG := tbp_3 226 rfl rfl
theorem w_808 : (Jvm.Cond.instanceMethod ({ cls := "LineEnds", name := "currentRuler", desc := "()LLineEnds$Ruler;" } : Jvm.MethodName)) ∈ tbG := tbp_3 228 rfl rfl
theorem w_809 : (Jvm.Cond.code ({ cls := "LineEnds", name := "currentRuler", desc := "()LLineEnds$Ruler;" } : Jvm.MethodName) prog_1_method_57_code (1 : Nat) (Option.some (Jvm.ClassFile.FieldType.object "LineEnds$Ruler"))) ∈ tbG := tbp_3 229 rfl rfl
theorem w_810 : (Jvm.Cond.methodLink "LineEnds" (349 : Nat) ({ cls := "LineEnds$Ruler", name := "read", desc := "(LLineEnds$Classes;LLineEnds$Page;)V" } : Jvm.MethodName)) ∈ tbG := tbp_3 230 rfl rfl
theorem w_811 : (Jvm.Cond.instanceMethod ({ cls := "LineEnds$Ruler", name := "read", desc := "(LLineEnds$Classes;LLineEnds$Page;)V" } : Jvm.MethodName)) ∈ tbG := tbp_3 231 rfl rfl
theorem w_812 : (Jvm.Cond.selects "LineEnds$Ruler" ({ cls := "LineEnds$Ruler", name := "read", desc := "(LLineEnds$Classes;LLineEnds$Page;)V" } : Jvm.MethodName) ({ cls := "LineEnds$Ruler", name := "read", desc := "(LLineEnds$Classes;LLineEnds$Page;)V" } : Jvm.MethodName)) ∈ tbG := tbp_3 232 rfl rfl
theorem w_813 : (Jvm.Cond.code ({ cls := "LineEnds$Ruler", name := "read", desc := "(LLineEnds$Classes;LLineEnds$Page;)V" } : Jvm.MethodName) prog_9_method_2_code (4 : Nat) (Option.none : Option Jvm.ClassFile.FieldType)) ∈ tbG := tbp_3 233 rfl rfl
theorem w_814 : (Jvm.Cond.methodLink "LineEnds$Ruler" (56 : Nat) ({ cls := "LineEnds$Ruler", name := "factOf", desc := "(II)I" } : Jvm.MethodName)) ∈ tbG := tbp_3 234 rfl rfl
theorem w_815 : (Jvm.Cond.instanceMethod ({ cls := "LineEnds$Ruler", name := "factOf", desc := "(II)I" } : Jvm.MethodName)) ∈ tbG := tbp_3 235 rfl rfl
theorem w_816 : (Jvm.Cond.selects "LineEnds$Ruler" ({ cls := "LineEnds$Ruler", name := "factOf", desc := "(II)I" } : Jvm.MethodName) ({ cls := "LineEnds$Ruler", name := "factOf", desc := "(II)I" } : Jvm.MethodName)) ∈ tbG := tbp_3 236 rfl rfl
theorem w_817 : (Jvm.Cond.code ({ cls := "LineEnds$Ruler", name := "factOf", desc := "(II)I" } : Jvm.MethodName) prog_9_method_5_code (3 : Nat) (Option.some Jvm.ClassFile.FieldType.int)) ∈ tbG := tbp_3 237 rfl rfl
theorem w_818 : (Jvm.Cond.methodLink "LineEnds$Ruler" (60 : Nat) ({ cls := "java/lang/Math", name := "max", desc := "(II)I" } : Jvm.MethodName)) ∈ tbG := tbp_3 238 rfl rfl
theorem w_819 : (Jvm.Cond.methodLink "LineEnds$Ruler" (65 : Nat) ({ cls := "LineEnds$Page", name := "isLegalEnd", desc := "(I)Z" } : Jvm.MethodName)) ∈ tbG := tbp_3 239 rfl rfl
theorem w_820 : (Jvm.Cond.methodLink "LineEnds$Ruler" (69 : Nat) ({ cls := "LineEnds$Ruler", name := "addToSums", desc := "(I)V" } : Jvm.MethodName)) ∈ tbG := tbp_4 0 rfl rfl
theorem w_822 : (Jvm.Cond.instanceMethod ({ cls := "LineEnds$Ruler", name := "addToSums", desc := "(I)V" } : Jvm.MethodName)) ∈ tbG := tbp_4 2 rfl rfl
theorem w_823 : (Jvm.Cond.code ({ cls := "LineEnds$Ruler", name := "addToSums", desc := "(I)V" } : Jvm.MethodName) prog_9_method_3_code (7 : Nat) (Option.none : Option Jvm.ClassFile.FieldType)) ∈ tbG := tbp_4 3 rfl rfl
theorem w_824 : (Jvm.Cond.methodLink "LineEnds" (219 : Nat) ({ cls := "LineEnds$Ruler", name := "naturalWidth", desc := "(II)I" } : Jvm.MethodName)) ∈ tbG := tbp_4 4 rfl rfl
theorem w_825 : (Jvm.Cond.instanceMethod ({ cls := "LineEnds$Ruler", name := "naturalWidth", desc := "(II)I" } : Jvm.MethodName)) ∈ tbG := tbp_4 5 rfl rfl
theorem w_826 : (Jvm.Cond.selects "LineEnds$Ruler" ({ cls := "LineEnds$Ruler", name := "naturalWidth", desc := "(II)I" } : Jvm.MethodName) ({ cls := "LineEnds$Ruler", name := "naturalWidth", desc := "(II)I" } : Jvm.MethodName)) ∈ tbG := tbp_4 6 rfl rfl
theorem w_827 : (Jvm.Cond.code ({ cls := "LineEnds$Ruler", name := "naturalWidth", desc := "(II)I" } : Jvm.MethodName) prog_9_method_7_code (3 : Nat) (Option.some Jvm.ClassFile.FieldType.int)) ∈ tbG := tbp_4 7 rfl rfl
theorem w_828 : (Jvm.Cond.methodLink "LineEndsLaw" (108 : Nat) ({ cls := "LineEnds", name := "cost", desc := "(II)I" } : Jvm.MethodName)) ∈ tbG := tbp_4 8 rfl rfl
theorem w_829 : (Jvm.Cond.instanceMethod ({ cls := "LineEnds", name := "cost", desc := "(II)I" } : Jvm.MethodName)) ∈ tbG := tbp_4 9 rfl rfl
theorem w_830 : (Jvm.Cond.selects "LineEnds" ({ cls := "LineEnds", name := "cost", desc := "(II)I" } : Jvm.MethodName) ({ cls := "LineEnds", name := "cost", desc := "(II)I" } : Jvm.MethodName)) ∈ tbG := tbp_4 10 rfl rfl
theorem w_831 : (Jvm.Cond.code ({ cls := "LineEnds", name := "cost", desc := "(II)I" } : Jvm.MethodName) prog_1_method_25_code (4 : Nat) (Option.some Jvm.ClassFile.FieldType.int)) ∈ tbG := tbp_4 11 rfl rfl
theorem w_832 : (Jvm.Cond.methodLink "LineEnds" (222 : Nat) ({ cls := "LineEnds$Ruler", name := "measure", desc := "(II)V" } : Jvm.MethodName)) ∈ tbG := tbp_4 12 rfl rfl
theorem w_833 : (Jvm.Cond.instanceMethod ({ cls := "LineEnds$Ruler", name := "measure", desc := "(II)V" } : Jvm.MethodName)) ∈ tbG := tbp_4 13 rfl rfl
theorem w_834 : (Jvm.Cond.selects "LineEnds$Ruler" ({ cls := "LineEnds$Ruler", name := "measure", desc := "(II)V" } : Jvm.MethodName) ({ cls := "LineEnds$Ruler", name := "measure", desc := "(II)V" } : Jvm.MethodName)) ∈ tbG := tbp_4 14 rfl rfl
theorem w_835 : (Jvm.Cond.code ({ cls := "LineEnds$Ruler", name := "measure", desc := "(II)V" } : Jvm.MethodName) prog_9_method_10_code (4 : Nat) (Option.none : Option Jvm.ClassFile.FieldType)) ∈ tbG := tbp_4 15 rfl rfl
theorem w_836 : (Jvm.Cond.methodLink "LineEnds$Ruler" (112 : Nat) ({ cls := "LineEnds$Ruler", name := "takeAway", desc := "(III)V" } : Jvm.MethodName)) ∈ tbG := tbp_4 16 rfl rfl
theorem w_838 : (Jvm.Cond.instanceMethod ({ cls := "LineEnds$Ruler", name := "takeAway", desc := "(III)V" } : Jvm.MethodName)) ∈ tbG := tbp_4 18 rfl rfl
theorem w_839 : (Jvm.Cond.code ({ cls := "LineEnds$Ruler", name := "takeAway", desc := "(III)V" } : Jvm.MethodName) prog_9_method_11_code (8 : Nat) (Option.none : Option Jvm.ClassFile.FieldType)) ∈ tbG := tbp_4 19 rfl rfl
theorem w_840 : (Jvm.Cond.methodLink "LineEnds$Ruler" (122 : Nat) ({ cls := "java/lang/Math", name := "min", desc := "(II)I" } : Jvm.MethodName)) ∈ tbG := tbp_4 20 rfl rfl
theorem w_841 : (Jvm.Cond.methodLink "LineEnds$Ruler" (116 : Nat) ({ cls := "LineEnds$Ruler", name := "openGaps", desc := "(III)V" } : Jvm.MethodName)) ∈ tbG := tbp_4 21 rfl rfl
theorem w_843 : (Jvm.Cond.instanceMethod ({ cls := "LineEnds$Ruler", name := "openGaps", desc := "(III)V" } : Jvm.MethodName)) ∈ tbG := tbp_4 23 rfl rfl
theorem w_844 : (Jvm.Cond.code ({ cls := "LineEnds$Ruler", name := "openGaps", desc := "(III)V" } : Jvm.MethodName) prog_9_method_12_code (7 : Nat) (Option.none : Option Jvm.ClassFile.FieldType)) ∈ tbG := tbp_4 24 rfl rfl
theorem w_845 : (Jvm.Cond.methodLink "LineEndsLaw" (112 : Nat) ({ cls := "LineEnds", name := "lines", desc := "(II)I" } : Jvm.MethodName)) ∈ tbG := tbp_4 25 rfl rfl
theorem w_846 : (Jvm.Cond.instanceMethod ({ cls := "LineEnds", name := "lines", desc := "(II)I" } : Jvm.MethodName)) ∈ tbG := tbp_4 26 rfl rfl
theorem w_847 : (Jvm.Cond.selects "LineEnds" ({ cls := "LineEnds", name := "lines", desc := "(II)I" } : Jvm.MethodName) ({ cls := "LineEnds", name := "lines", desc := "(II)I" } : Jvm.MethodName)) ∈ tbG := tbp_4 27 rfl rfl
theorem w_848 : (Jvm.Cond.code ({ cls := "LineEnds", name := "lines", desc := "(II)I" } : Jvm.MethodName) prog_1_method_26_code (4 : Nat) (Option.some Jvm.ClassFile.FieldType.int)) ∈ tbG := tbp_4 28 rfl rfl
theorem w_849 : (Jvm.Cond.methodLink "LineEnds" (231 : Nat) ({ cls := "LineEnds", name := "isKind", desc := "(I)Z" } : Jvm.MethodName)) ∈ tbG := tbp_4 29 rfl rfl
theorem w_850 : (Jvm.Cond.static ({ cls := "LineEnds", name := "isKind", desc := "(I)Z" } : Jvm.MethodName)) ∈ tbG := tbp_4 30 rfl rfl
theorem w_851 : (Jvm.Cond.code ({ cls := "LineEnds", name := "isKind", desc := "(I)Z" } : Jvm.MethodName) prog_1_method_51_code (1 : Nat) (Option.some Jvm.ClassFile.FieldType.boolean)) ∈ tbG := tbp_4 31 rfl rfl
theorem w_852 : (Jvm.Cond.methodLink "LineEnds" (234 : Nat) ({ cls := "LineEnds", name := "layoutOf", desc := "(I)LLineEnds$Layout;" } : Jvm.MethodName)) ∈ tbG := tbp_4 32 rfl rfl
theorem w_854 : (Jvm.Cond.instanceMethod ({ cls := "LineEnds", name := "layoutOf", desc := "(I)LLineEnds$Layout;" } : Jvm.MethodName)) ∈ tbG := tbp_4 34 rfl rfl
theorem w_855 : (Jvm.Cond.code ({ cls := "LineEnds", name := "layoutOf", desc := "(I)LLineEnds$Layout;" } : Jvm.MethodName) prog_1_method_58_code (4 : Nat) (Option.some (Jvm.ClassFile.FieldType.object "LineEnds$Layout"))) ∈ tbG := tbp_4 35 rfl rfl
theorem w_856 : (Jvm.Cond.constant "LineEnds" (345 : Nat) (1000000000 : Int32)) ∈ tbG := tbp_4 36 rfl rfl
theorem w_857 : (Jvm.Cond.methodLink "LineEnds" (352 : Nat) ({ cls := "LineEnds$Planner", name := "planBest", desc := "(LLineEnds$Ruler;I)V" } : Jvm.MethodName)) ∈ tbG := tbp_4 37 rfl rfl
theorem w_858 : (Jvm.Cond.instanceMethod ({ cls := "LineEnds$Planner", name := "planBest", desc := "(LLineEnds$Ruler;I)V" } : Jvm.MethodName)) ∈ tbG := tbp_4 38 rfl rfl
theorem w_859 : (Jvm.Cond.selects "LineEnds$Planner" ({ cls := "LineEnds$Planner", name := "planBest", desc := "(LLineEnds$Ruler;I)V" } : Jvm.MethodName) ({ cls := "LineEnds$Planner", name := "planBest", desc := "(LLineEnds$Ruler;I)V" } : Jvm.MethodName)) ∈ tbG := tbp_4 39 rfl rfl
theorem w_860 : (Jvm.Cond.code ({ cls := "LineEnds$Planner", name := "planBest", desc := "(LLineEnds$Ruler;I)V" } : Jvm.MethodName) prog_7_method_4_code (7 : Nat) (Option.none : Option Jvm.ClassFile.FieldType)) ∈ tbG := tbp_4 40 rfl rfl
theorem w_861 : (Jvm.Cond.methodLink "LineEnds$Planner" (21 : Nat) ({ cls := "LineEnds$Ruler", name := "signs", desc := "()I" } : Jvm.MethodName)) ∈ tbG := tbp_4 41 rfl rfl
theorem w_862 : (Jvm.Cond.instanceMethod ({ cls := "LineEnds$Ruler", name := "signs", desc := "()I" } : Jvm.MethodName)) ∈ tbG := tbp_4 42 rfl rfl
theorem w_863 : (Jvm.Cond.selects "LineEnds$Ruler" ({ cls := "LineEnds$Ruler", name := "signs", desc := "()I" } : Jvm.MethodName) ({ cls := "LineEnds$Ruler", name := "signs", desc := "()I" } : Jvm.MethodName)) ∈ tbG := tbp_4 43 rfl rfl
theorem w_864 : (Jvm.Cond.code ({ cls := "LineEnds$Ruler", name := "signs", desc := "()I" } : Jvm.MethodName) prog_9_method_4_code (1 : Nat) (Option.some Jvm.ClassFile.FieldType.int)) ∈ tbG := tbp_4 44 rfl rfl
theorem w_865 : (Jvm.Cond.constant "LineEnds$Planner" (51 : Nat) (1000000000 : Int32)) ∈ tbG := tbp_4 45 rfl rfl
theorem w_866 : (Jvm.Cond.methodLink "LineEnds$Planner" (31 : Nat) ({ cls := "LineEnds$Ruler", name := "reach", desc := "(I)I" } : Jvm.MethodName)) ∈ tbG := tbp_4 46 rfl rfl
theorem w_867 : (Jvm.Cond.instanceMethod ({ cls := "LineEnds$Ruler", name := "reach", desc := "(I)I" } : Jvm.MethodName)) ∈ tbG := tbp_4 47 rfl rfl
theorem w_868 : (Jvm.Cond.selects "LineEnds$Ruler" ({ cls := "LineEnds$Ruler", name := "reach", desc := "(I)I" } : Jvm.MethodName) ({ cls := "LineEnds$Ruler", name := "reach", desc := "(I)I" } : Jvm.MethodName)) ∈ tbG := tbp_4 48 rfl rfl
theorem w_869 : (Jvm.Cond.code ({ cls := "LineEnds$Ruler", name := "reach", desc := "(I)I" } : Jvm.MethodName) prog_9_method_9_code (3 : Nat) (Option.some Jvm.ClassFile.FieldType.int)) ∈ tbG := tbp_4 49 rfl rfl
theorem w_870 : (Jvm.Cond.methodLink "LineEnds$Planner" (35 : Nat) ({ cls := "LineEnds$Ruler", name := "measure", desc := "(II)V" } : Jvm.MethodName)) ∈ tbG := tbp_4 50 rfl rfl
theorem w_871 : (Jvm.Cond.methodLink "LineEnds$Planner" (58 : Nat) ({ cls := "LineEnds$Planner", name := "offer", desc := "(III)V" } : Jvm.MethodName)) ∈ tbG := tbp_4 51 rfl rfl
theorem w_873 : (Jvm.Cond.instanceMethod ({ cls := "LineEnds$Planner", name := "offer", desc := "(III)V" } : Jvm.MethodName)) ∈ tbG := tbp_4 53 rfl rfl
theorem w_874 : (Jvm.Cond.code ({ cls := "LineEnds$Planner", name := "offer", desc := "(III)V" } : Jvm.MethodName) prog_7_method_5_code (6 : Nat) (Option.none : Option Jvm.ClassFile.FieldType)) ∈ tbG := tbp_4 54 rfl rfl
theorem w_875 : (Jvm.Cond.methodLink "LineEnds" (378 : Nat) ({ cls := "LineEnds$Planner", name := "leastPeak", desc := "(LLineEnds$Ruler;)I" } : Jvm.MethodName)) ∈ tbG := tbp_4 55 rfl rfl
theorem w_876 : (Jvm.Cond.instanceMethod ({ cls := "LineEnds$Planner", name := "leastPeak", desc := "(LLineEnds$Ruler;)I" } : Jvm.MethodName)) ∈ tbG := tbp_4 56 rfl rfl
theorem w_877 : (Jvm.Cond.selects "LineEnds$Planner" ({ cls := "LineEnds$Planner", name := "leastPeak", desc := "(LLineEnds$Ruler;)I" } : Jvm.MethodName) ({ cls := "LineEnds$Planner", name := "leastPeak", desc := "(LLineEnds$Ruler;)I" } : Jvm.MethodName)) ∈ tbG := tbp_4 57 rfl rfl
theorem w_878 : (Jvm.Cond.code ({ cls := "LineEnds$Planner", name := "leastPeak", desc := "(LLineEnds$Ruler;)I" } : Jvm.MethodName) prog_7_method_6_code (7 : Nat) (Option.some Jvm.ClassFile.FieldType.int)) ∈ tbG := tbp_4 58 rfl rfl
theorem w_879 : (Jvm.Cond.methodLink "LineEnds$Planner" (62 : Nat) ({ cls := "java/lang/Math", name := "max", desc := "(II)I" } : Jvm.MethodName)) ∈ tbG := tbp_4 59 rfl rfl
theorem w_880 : (Jvm.Cond.methodLink "LineEnds$Planner" (68 : Nat) ({ cls := "java/lang/Math", name := "min", desc := "(II)I" } : Jvm.MethodName)) ∈ tbG := tbp_4 60 rfl rfl
theorem w_881 : (Jvm.Cond.methodLink "LineEnds" (381 : Nat) ({ cls := "LineEnds$Planner", name := "planFull", desc := "(LLineEnds$Ruler;Z)V" } : Jvm.MethodName)) ∈ tbG := tbp_4 61 rfl rfl
theorem w_882 : (Jvm.Cond.instanceMethod ({ cls := "LineEnds$Planner", name := "planFull", desc := "(LLineEnds$Ruler;Z)V" } : Jvm.MethodName)) ∈ tbG := tbp_4 62 rfl rfl
theorem w_883 : (Jvm.Cond.selects "LineEnds$Planner" ({ cls := "LineEnds$Planner", name := "planFull", desc := "(LLineEnds$Ruler;Z)V" } : Jvm.MethodName) ({ cls := "LineEnds$Planner", name := "planFull", desc := "(LLineEnds$Ruler;Z)V" } : Jvm.MethodName)) ∈ tbG := tbp_4 63 rfl rfl
theorem w_884 : (Jvm.Cond.code ({ cls := "LineEnds$Planner", name := "planFull", desc := "(LLineEnds$Ruler;Z)V" } : Jvm.MethodName) prog_7_method_2_code (6 : Nat) (Option.none : Option Jvm.ClassFile.FieldType)) ∈ tbG := tbp_4 64 rfl rfl
theorem w_885 : (Jvm.Cond.methodLink "LineEnds$Planner" (27 : Nat) ({ cls := "LineEnds$Planner", name := "fullEnd", desc := "(LLineEnds$Ruler;IZ)I" } : Jvm.MethodName)) ∈ tbG := tbp_4 65 rfl rfl
theorem w_887 : (Jvm.Cond.instanceMethod ({ cls := "LineEnds$Planner", name := "fullEnd", desc := "(LLineEnds$Ruler;IZ)I" } : Jvm.MethodName)) ∈ tbG := tbp_4 67 rfl rfl
theorem w_888 : (Jvm.Cond.code ({ cls := "LineEnds$Planner", name := "fullEnd", desc := "(LLineEnds$Ruler;IZ)I" } : Jvm.MethodName) prog_7_method_3_code (9 : Nat) (Option.some Jvm.ClassFile.FieldType.int)) ∈ tbG := tbp_4 68 rfl rfl
theorem w_889 : (Jvm.Cond.methodLink "LineEnds$Planner" (43 : Nat) ({ cls := "LineEnds$Ruler", name := "isLegal", desc := "(I)Z" } : Jvm.MethodName)) ∈ tbG := tbp_4 69 rfl rfl
theorem w_890 : (Jvm.Cond.instanceMethod ({ cls := "LineEnds$Ruler", name := "isLegal", desc := "(I)Z" } : Jvm.MethodName)) ∈ tbG := tbp_4 70 rfl rfl
theorem w_891 : (Jvm.Cond.selects "LineEnds$Ruler" ({ cls := "LineEnds$Ruler", name := "isLegal", desc := "(I)Z" } : Jvm.MethodName) ({ cls := "LineEnds$Ruler", name := "isLegal", desc := "(I)Z" } : Jvm.MethodName)) ∈ tbG := tbp_4 71 rfl rfl
theorem w_892 : (Jvm.Cond.code ({ cls := "LineEnds$Ruler", name := "isLegal", desc := "(I)Z" } : Jvm.MethodName) prog_9_method_6_code (2 : Nat) (Option.some Jvm.ClassFile.FieldType.boolean)) ∈ tbG := tbp_4 72 rfl rfl
theorem w_893 : (Jvm.Cond.methodLink "LineEnds" (388 : Nat) ({ cls := "LineEnds$Layout", name := "fill", desc := "(LLineEnds$Ruler;[I)V" } : Jvm.MethodName)) ∈ tbG := tbp_4 73 rfl rfl
theorem w_894 : (Jvm.Cond.instanceMethod ({ cls := "LineEnds$Layout", name := "fill", desc := "(LLineEnds$Ruler;[I)V" } : Jvm.MethodName)) ∈ tbG := tbp_4 74 rfl rfl
theorem w_895 : (Jvm.Cond.selects "LineEnds$Layout" ({ cls := "LineEnds$Layout", name := "fill", desc := "(LLineEnds$Ruler;[I)V" } : Jvm.MethodName) ({ cls := "LineEnds$Layout", name := "fill", desc := "(LLineEnds$Ruler;[I)V" } : Jvm.MethodName)) ∈ tbG := tbp_4 75 rfl rfl
theorem w_896 : (Jvm.Cond.code ({ cls := "LineEnds$Layout", name := "fill", desc := "(LLineEnds$Ruler;[I)V" } : Jvm.MethodName) prog_5_method_2_code (5 : Nat) (Option.none : Option Jvm.ClassFile.FieldType)) ∈ tbG := tbp_4 76 rfl rfl
theorem w_897 : (Jvm.Cond.methodLink "LineEnds$Layout" (36 : Nat) ({ cls := "LineEnds$Ruler", name := "signs", desc := "()I" } : Jvm.MethodName)) ∈ tbG := tbp_4 77 rfl rfl
theorem w_898 : (Jvm.Cond.methodLink "LineEnds$Layout" (42 : Nat) ({ cls := "java/lang/Math", name := "max", desc := "(II)I" } : Jvm.MethodName)) ∈ tbG := tbp_4 78 rfl rfl
theorem w_899 : (Jvm.Cond.methodLink "LineEnds$Layout" (48 : Nat) ({ cls := "LineEnds$Ruler", name := "measure", desc := "(II)V" } : Jvm.MethodName)) ∈ tbG := tbp_4 79 rfl rfl
theorem w_900 : (Jvm.Cond.methodLink "LineEnds$Layout" (52 : Nat) ({ cls := "LineEnds$Layout", name := "note", desc := "(LLineEnds$Ruler;II)V" } : Jvm.MethodName)) ∈ tbG := tbp_4 80 rfl rfl
theorem w_902 : (Jvm.Cond.instanceMethod ({ cls := "LineEnds$Layout", name := "note", desc := "(LLineEnds$Ruler;II)V" } : Jvm.MethodName)) ∈ tbG := tbp_4 82 rfl rfl
theorem w_903 : (Jvm.Cond.code ({ cls := "LineEnds$Layout", name := "note", desc := "(LLineEnds$Ruler;II)V" } : Jvm.MethodName) prog_5_method_3_code (4 : Nat) (Option.none : Option Jvm.ClassFile.FieldType)) ∈ tbG := tbp_4 83 rfl rfl
theorem w_904 : (Jvm.Cond.methodLink "LineEnds$Layout" (69 : Nat) ({ cls := "LineEnds$Ruler", name := "naturalWidth", desc := "(II)I" } : Jvm.MethodName)) ∈ tbG := tbp_4 84 rfl rfl
theorem w_905 : (Jvm.Cond.methodLink "LineEnds$Layout" (72 : Nat) ({ cls := "LineEnds$Ruler", name := "excess", desc := "(II)I" } : Jvm.MethodName)) ∈ tbG := tbp_4 85 rfl rfl
theorem w_906 : (Jvm.Cond.instanceMethod ({ cls := "LineEnds$Ruler", name := "excess", desc := "(II)I" } : Jvm.MethodName)) ∈ tbG := tbp_4 86 rfl rfl
theorem w_907 : (Jvm.Cond.selects "LineEnds$Ruler" ({ cls := "LineEnds$Ruler", name := "excess", desc := "(II)I" } : Jvm.MethodName) ({ cls := "LineEnds$Ruler", name := "excess", desc := "(II)I" } : Jvm.MethodName)) ∈ tbG := tbp_4 87 rfl rfl
theorem w_908 : (Jvm.Cond.code ({ cls := "LineEnds$Ruler", name := "excess", desc := "(II)I" } : Jvm.MethodName) prog_9_method_8_code (3 : Nat) (Option.some Jvm.ClassFile.FieldType.int)) ∈ tbG := tbp_4 88 rfl rfl
theorem w_909 : (Jvm.Cond.methodLink "LineEnds$Ruler" (81 : Nat) ({ cls := "LineEnds$Ruler", name := "naturalWidth", desc := "(II)I" } : Jvm.MethodName)) ∈ tbG := tbp_4 89 rfl rfl
theorem w_910 : (Jvm.Cond.methodLink "LineEnds$Layout" (87 : Nat) ({ cls := "LineEnds$Ruler", name := "isLegal", desc := "(I)Z" } : Jvm.MethodName)) ∈ tbG := tbp_4 90 rfl rfl
theorem w_911 : (Jvm.Cond.methodLink "LineEnds$Layout" (56 : Nat) ({ cls := "LineEnds$Layout", name := "dealTaken", desc := "(LLineEnds$Ruler;II)V" } : Jvm.MethodName)) ∈ tbG := tbp_4 91 rfl rfl
theorem w_913 : (Jvm.Cond.instanceMethod ({ cls := "LineEnds$Layout", name := "dealTaken", desc := "(LLineEnds$Ruler;II)V" } : Jvm.MethodName)) ∈ tbG := tbp_4 93 rfl rfl
theorem w_914 : (Jvm.Cond.code ({ cls := "LineEnds$Layout", name := "dealTaken", desc := "(LLineEnds$Ruler;II)V" } : Jvm.MethodName) prog_5_method_4_code (5 : Nat) (Option.none : Option Jvm.ClassFile.FieldType)) ∈ tbG := tbp_4 94 rfl rfl
theorem w_915 : (Jvm.Cond.methodLink "LineEnds$Layout" (94 : Nat) ({ cls := "LineEnds$Ruler", name := "factOf", desc := "(II)I" } : Jvm.MethodName)) ∈ tbG := tbp_4 95 rfl rfl
theorem w_916 : (Jvm.Cond.methodLink "LineEnds$Layout" (97 : Nat) ({ cls := "LineEnds$Ruler", name := "endGives", desc := "(I)I" } : Jvm.MethodName)) ∈ tbG := tbp_4 96 rfl rfl
theorem w_917 : (Jvm.Cond.instanceMethod ({ cls := "LineEnds$Ruler", name := "endGives", desc := "(I)I" } : Jvm.MethodName)) ∈ tbG := tbp_4 97 rfl rfl
theorem w_918 : (Jvm.Cond.selects "LineEnds$Ruler" ({ cls := "LineEnds$Ruler", name := "endGives", desc := "(I)I" } : Jvm.MethodName) ({ cls := "LineEnds$Ruler", name := "endGives", desc := "(I)I" } : Jvm.MethodName)) ∈ tbG := tbp_4 98 rfl rfl
theorem w_919 : (Jvm.Cond.code ({ cls := "LineEnds$Ruler", name := "endGives", desc := "(I)I" } : Jvm.MethodName) prog_9_method_13_code (2 : Nat) (Option.some Jvm.ClassFile.FieldType.int)) ∈ tbG := tbp_4 99 rfl rfl
theorem w_920 : (Jvm.Cond.methodLink "LineEnds$Layout" (101 : Nat) ({ cls := "LineEnds$Layout", name := "deal", desc := "(I[III)V" } : Jvm.MethodName)) ∈ tbG := tbp_4 100 rfl rfl
theorem w_922 : (Jvm.Cond.instanceMethod ({ cls := "LineEnds$Layout", name := "deal", desc := "(I[III)V" } : Jvm.MethodName)) ∈ tbG := tbp_4 102 rfl rfl
theorem w_923 : (Jvm.Cond.code ({ cls := "LineEnds$Layout", name := "deal", desc := "(I[III)V" } : Jvm.MethodName) prog_5_method_6_code (8 : Nat) (Option.none : Option Jvm.ClassFile.FieldType)) ∈ tbG := tbp_4 103 rfl rfl
theorem w_924 : (Jvm.Cond.methodLink "LineEnds$Layout" (105 : Nat) ({ cls := "LineEnds$Layout", name := "leastOf", desc := "(I[III)I" } : Jvm.MethodName)) ∈ tbG := tbp_4 104 rfl rfl
theorem w_926 : (Jvm.Cond.instanceMethod ({ cls := "LineEnds$Layout", name := "leastOf", desc := "(I[III)I" } : Jvm.MethodName)) ∈ tbG := tbp_4 106 rfl rfl
theorem w_927 : (Jvm.Cond.code ({ cls := "LineEnds$Layout", name := "leastOf", desc := "(I[III)I" } : Jvm.MethodName) prog_5_method_7_code (7 : Nat) (Option.some Jvm.ClassFile.FieldType.int)) ∈ tbG := tbp_4 107 rfl rfl
theorem w_928 : (Jvm.Cond.methodLink "LineEnds$Layout" (59 : Nat) ({ cls := "LineEnds$Layout", name := "dealPutIn", desc := "(LLineEnds$Ruler;II)V" } : Jvm.MethodName)) ∈ tbG := tbp_4 108 rfl rfl
theorem w_930 : (Jvm.Cond.instanceMethod ({ cls := "LineEnds$Layout", name := "dealPutIn", desc := "(LLineEnds$Ruler;II)V" } : Jvm.MethodName)) ∈ tbG := tbp_4 110 rfl rfl
theorem w_931 : (Jvm.Cond.code ({ cls := "LineEnds$Layout", name := "dealPutIn", desc := "(LLineEnds$Ruler;II)V" } : Jvm.MethodName) prog_5_method_5_code (5 : Nat) (Option.none : Option Jvm.ClassFile.FieldType)) ∈ tbG := tbp_4 111 rfl rfl
theorem w_932 : (Jvm.Cond.methodLink "LineEnds" (239 : Nat) ({ cls := "LineEnds$Layout", name := "sumOf", desc := "(I)I" } : Jvm.MethodName)) ∈ tbG := tbp_4 112 rfl rfl
theorem w_933 : (Jvm.Cond.instanceMethod ({ cls := "LineEnds$Layout", name := "sumOf", desc := "(I)I" } : Jvm.MethodName)) ∈ tbG := tbp_4 113 rfl rfl
theorem w_934 : (Jvm.Cond.selects "LineEnds$Layout" ({ cls := "LineEnds$Layout", name := "sumOf", desc := "(I)I" } : Jvm.MethodName) ({ cls := "LineEnds$Layout", name := "sumOf", desc := "(I)I" } : Jvm.MethodName)) ∈ tbG := tbp_4 114 rfl rfl
theorem w_935 : (Jvm.Cond.code ({ cls := "LineEnds$Layout", name := "sumOf", desc := "(I)I" } : Jvm.MethodName) prog_5_method_8_code (4 : Nat) (Option.some Jvm.ClassFile.FieldType.int)) ∈ tbG := tbp_4 115 rfl rfl
theorem w_936 : (Jvm.Cond.methodLink "LineEnds" (242 : Nat) ({ cls := "LineEnds$Layout", name := "breaksOf", desc := "(LLineEnds$Page;)I" } : Jvm.MethodName)) ∈ tbG := tbp_4 116 rfl rfl
theorem w_937 : (Jvm.Cond.instanceMethod ({ cls := "LineEnds$Layout", name := "breaksOf", desc := "(LLineEnds$Page;)I" } : Jvm.MethodName)) ∈ tbG := tbp_4 117 rfl rfl
theorem w_938 : (Jvm.Cond.selects "LineEnds$Layout" ({ cls := "LineEnds$Layout", name := "breaksOf", desc := "(LLineEnds$Page;)I" } : Jvm.MethodName) ({ cls := "LineEnds$Layout", name := "breaksOf", desc := "(LLineEnds$Page;)I" } : Jvm.MethodName)) ∈ tbG := tbp_4 118 rfl rfl
theorem w_939 : (Jvm.Cond.code ({ cls := "LineEnds$Layout", name := "breaksOf", desc := "(LLineEnds$Page;)I" } : Jvm.MethodName) prog_5_method_9_code (4 : Nat) (Option.some Jvm.ClassFile.FieldType.int)) ∈ tbG := tbp_4 119 rfl rfl
theorem w_940 : (Jvm.Cond.methodLink "LineEndsLaw" (116 : Nat) ({ cls := "LineEnds", name := "line", desc := "(III)I" } : Jvm.MethodName)) ∈ tbG := tbp_4 120 rfl rfl
theorem w_941 : (Jvm.Cond.instanceMethod ({ cls := "LineEnds", name := "line", desc := "(III)I" } : Jvm.MethodName)) ∈ tbG := tbp_4 121 rfl rfl
theorem w_942 : (Jvm.Cond.selects "LineEnds" ({ cls := "LineEnds", name := "line", desc := "(III)I" } : Jvm.MethodName) ({ cls := "LineEnds", name := "line", desc := "(III)I" } : Jvm.MethodName)) ∈ tbG := tbp_4 122 rfl rfl
theorem w_943 : (Jvm.Cond.code ({ cls := "LineEnds", name := "line", desc := "(III)I" } : Jvm.MethodName) prog_1_method_27_code (4 : Nat) (Option.some Jvm.ClassFile.FieldType.int)) ∈ tbG := tbp_4 123 rfl rfl
theorem w_944 : (Jvm.Cond.methodLink "LineEnds" (246 : Nat) ({ cls := "LineEnds", name := "hasLine", desc := "(II)Z" } : Jvm.MethodName)) ∈ tbG := tbp_4 124 rfl rfl
theorem w_946 : (Jvm.Cond.instanceMethod ({ cls := "LineEnds", name := "hasLine", desc := "(II)Z" } : Jvm.MethodName)) ∈ tbG := tbp_4 126 rfl rfl
theorem w_947 : (Jvm.Cond.code ({ cls := "LineEnds", name := "hasLine", desc := "(II)Z" } : Jvm.MethodName) prog_1_method_59_code (3 : Nat) (Option.some Jvm.ClassFile.FieldType.boolean)) ∈ tbG := tbp_4 127 rfl rfl
theorem w_948 : (Jvm.Cond.methodLink "LineEndsLaw" (121 : Nat) ({ cls := "LineEnds", name := "lineOf", desc := "(II)I" } : Jvm.MethodName)) ∈ tbG := tbp_4 128 rfl rfl
theorem w_949 : (Jvm.Cond.instanceMethod ({ cls := "LineEnds", name := "lineOf", desc := "(II)I" } : Jvm.MethodName)) ∈ tbG := tbp_4 129 rfl rfl
theorem w_950 : (Jvm.Cond.selects "LineEnds" ({ cls := "LineEnds", name := "lineOf", desc := "(II)I" } : Jvm.MethodName) ({ cls := "LineEnds", name := "lineOf", desc := "(II)I" } : Jvm.MethodName)) ∈ tbG := tbp_4 130 rfl rfl
theorem w_951 : (Jvm.Cond.code ({ cls := "LineEnds", name := "lineOf", desc := "(II)I" } : Jvm.MethodName) prog_1_method_28_code (3 : Nat) (Option.some Jvm.ClassFile.FieldType.int)) ∈ tbG := tbp_4 131 rfl rfl
theorem w_952 : (Jvm.Cond.methodLink "LineEnds" (250 : Nat) ({ cls := "LineEnds$Layout", name := "lineWith", desc := "(I)I" } : Jvm.MethodName)) ∈ tbG := tbp_4 132 rfl rfl
theorem w_953 : (Jvm.Cond.instanceMethod ({ cls := "LineEnds$Layout", name := "lineWith", desc := "(I)I" } : Jvm.MethodName)) ∈ tbG := tbp_4 133 rfl rfl
theorem w_954 : (Jvm.Cond.selects "LineEnds$Layout" ({ cls := "LineEnds$Layout", name := "lineWith", desc := "(I)I" } : Jvm.MethodName) ({ cls := "LineEnds$Layout", name := "lineWith", desc := "(I)I" } : Jvm.MethodName)) ∈ tbG := tbp_4 134 rfl rfl
theorem w_955 : (Jvm.Cond.code ({ cls := "LineEnds$Layout", name := "lineWith", desc := "(I)I" } : Jvm.MethodName) prog_5_method_10_code (3 : Nat) (Option.some Jvm.ClassFile.FieldType.int)) ∈ tbG := tbp_4 135 rfl rfl
theorem w_956 : (Jvm.Cond.methodLink "LineEndsLaw" (125 : Nat) ({ cls := "LineEnds", name := "place", desc := "(III)I" } : Jvm.MethodName)) ∈ tbG := tbp_4 136 rfl rfl
theorem w_957 : (Jvm.Cond.instanceMethod ({ cls := "LineEnds", name := "place", desc := "(III)I" } : Jvm.MethodName)) ∈ tbG := tbp_4 137 rfl rfl
theorem w_958 : (Jvm.Cond.selects "LineEnds" ({ cls := "LineEnds", name := "place", desc := "(III)I" } : Jvm.MethodName) ({ cls := "LineEnds", name := "place", desc := "(III)I" } : Jvm.MethodName)) ∈ tbG := tbp_4 138 rfl rfl
theorem w_959 : (Jvm.Cond.code ({ cls := "LineEnds", name := "place", desc := "(III)I" } : Jvm.MethodName) prog_1_method_29_code (5 : Nat) (Option.some Jvm.ClassFile.FieldType.int)) ∈ tbG := tbp_4 139 rfl rfl
theorem w_960 : (Jvm.Cond.methodLink "LineEnds" (253 : Nat) ({ cls := "LineEnds$Layout", name := "leftEdge", desc := "(LLineEnds$Ruler;I)I" } : Jvm.MethodName)) ∈ tbG := tbp_4 140 rfl rfl
theorem w_961 : (Jvm.Cond.instanceMethod ({ cls := "LineEnds$Layout", name := "leftEdge", desc := "(LLineEnds$Ruler;I)I" } : Jvm.MethodName)) ∈ tbG := tbp_4 141 rfl rfl
theorem w_962 : (Jvm.Cond.selects "LineEnds$Layout" ({ cls := "LineEnds$Layout", name := "leftEdge", desc := "(LLineEnds$Ruler;I)I" } : Jvm.MethodName) ({ cls := "LineEnds$Layout", name := "leftEdge", desc := "(LLineEnds$Ruler;I)I" } : Jvm.MethodName)) ∈ tbG := tbp_4 142 rfl rfl
theorem w_963 : (Jvm.Cond.code ({ cls := "LineEnds$Layout", name := "leftEdge", desc := "(LLineEnds$Ruler;I)I" } : Jvm.MethodName) prog_5_method_14_code (6 : Nat) (Option.some Jvm.ClassFile.FieldType.int)) ∈ tbG := tbp_4 143 rfl rfl
theorem w_964 : (Jvm.Cond.methodLink "LineEnds$Layout" (114 : Nat) ({ cls := "LineEnds$Layout", name := "lineWith", desc := "(I)I" } : Jvm.MethodName)) ∈ tbG := tbp_4 144 rfl rfl
theorem w_965 : (Jvm.Cond.methodLink "LineEnds$Layout" (117 : Nat) ({ cls := "LineEnds$Layout", name := "advanceOf", desc := "(LLineEnds$Ruler;I)I" } : Jvm.MethodName)) ∈ tbG := tbp_4 145 rfl rfl
theorem w_966 : (Jvm.Cond.instanceMethod ({ cls := "LineEnds$Layout", name := "advanceOf", desc := "(LLineEnds$Ruler;I)I" } : Jvm.MethodName)) ∈ tbG := tbp_4 146 rfl rfl
theorem w_967 : (Jvm.Cond.selects "LineEnds$Layout" ({ cls := "LineEnds$Layout", name := "advanceOf", desc := "(LLineEnds$Ruler;I)I" } : Jvm.MethodName) ({ cls := "LineEnds$Layout", name := "advanceOf", desc := "(LLineEnds$Ruler;I)I" } : Jvm.MethodName)) ∈ tbG := tbp_4 147 rfl rfl
theorem w_968 : (Jvm.Cond.code ({ cls := "LineEnds$Layout", name := "advanceOf", desc := "(LLineEnds$Ruler;I)I" } : Jvm.MethodName) prog_5_method_13_code (3 : Nat) (Option.some Jvm.ClassFile.FieldType.int)) ∈ tbG := tbp_4 148 rfl rfl
theorem w_969 : (Jvm.Cond.methodLink "LineEndsLaw" (129 : Nat) ({ cls := "LineEnds", name := "at", desc := "(III)I" } : Jvm.MethodName)) ∈ tbG := tbp_4 149 rfl rfl
theorem w_970 : (Jvm.Cond.instanceMethod ({ cls := "LineEnds", name := "at", desc := "(III)I" } : Jvm.MethodName)) ∈ tbG := tbp_4 150 rfl rfl
theorem w_971 : (Jvm.Cond.selects "LineEnds" ({ cls := "LineEnds", name := "at", desc := "(III)I" } : Jvm.MethodName) ({ cls := "LineEnds", name := "at", desc := "(III)I" } : Jvm.MethodName)) ∈ tbG := tbp_4 151 rfl rfl
theorem w_972 : (Jvm.Cond.code ({ cls := "LineEnds", name := "at", desc := "(III)I" } : Jvm.MethodName) prog_1_method_30_code (8 : Nat) (Option.some Jvm.ClassFile.FieldType.int)) ∈ tbG := tbp_4 152 rfl rfl
theorem w_973 : (Jvm.Cond.methodLink "LineEnds" (263 : Nat) ({ cls := "LineEnds$Layout", name := "advanceOf", desc := "(LLineEnds$Ruler;I)I" } : Jvm.MethodName)) ∈ tbG := tbp_4 153 rfl rfl
theorem w_974 : (Jvm.Cond.methodLink "LineEndsLaw" (133 : Nat) ({ cls := "LineEnds", name := "common", desc := "(I)I" } : Jvm.MethodName)) ∈ tbG := tbp_4 154 rfl rfl
theorem w_975 : (Jvm.Cond.instanceMethod ({ cls := "LineEnds", name := "common", desc := "(I)I" } : Jvm.MethodName)) ∈ tbG := tbp_4 155 rfl rfl
theorem w_976 : (Jvm.Cond.selects "LineEnds" ({ cls := "LineEnds", name := "common", desc := "(I)I" } : Jvm.MethodName) ({ cls := "LineEnds", name := "common", desc := "(I)I" } : Jvm.MethodName)) ∈ tbG := tbp_4 156 rfl rfl
theorem w_977 : (Jvm.Cond.code ({ cls := "LineEnds", name := "common", desc := "(I)I" } : Jvm.MethodName) prog_1_method_31_code (7 : Nat) (Option.some Jvm.ClassFile.FieldType.int)) ∈ tbG := tbp_4 157 rfl rfl
theorem w_978 : (Jvm.Cond.methodLink "LineEnds" (266 : Nat) ({ cls := "LineEnds$Layout", name := "endsAt", desc := "(I)Z" } : Jvm.MethodName)) ∈ tbG := tbp_4 158 rfl rfl
theorem w_979 : (Jvm.Cond.instanceMethod ({ cls := "LineEnds$Layout", name := "endsAt", desc := "(I)Z" } : Jvm.MethodName)) ∈ tbG := tbp_4 159 rfl rfl
theorem w_980 : (Jvm.Cond.selects "LineEnds$Layout" ({ cls := "LineEnds$Layout", name := "endsAt", desc := "(I)Z" } : Jvm.MethodName) ({ cls := "LineEnds$Layout", name := "endsAt", desc := "(I)Z" } : Jvm.MethodName)) ∈ tbG := tbp_4 160 rfl rfl
theorem w_981 : (Jvm.Cond.code ({ cls := "LineEnds$Layout", name := "endsAt", desc := "(I)Z" } : Jvm.MethodName) prog_5_method_11_code (3 : Nat) (Option.some Jvm.ClassFile.FieldType.boolean)) ∈ tbG := tbp_4 161 rfl rfl
theorem w_982 : (Jvm.Cond.methodLink "LineEndsLaw" (137 : Nat) ({ cls := "LineEnds", name := "same", desc := "(II)I" } : Jvm.MethodName)) ∈ tbG := tbp_4 162 rfl rfl
theorem w_983 : (Jvm.Cond.instanceMethod ({ cls := "LineEnds", name := "same", desc := "(II)I" } : Jvm.MethodName)) ∈ tbG := tbp_4 163 rfl rfl
theorem w_984 : (Jvm.Cond.selects "LineEnds" ({ cls := "LineEnds", name := "same", desc := "(II)I" } : Jvm.MethodName) ({ cls := "LineEnds", name := "same", desc := "(II)I" } : Jvm.MethodName)) ∈ tbG := tbp_4 164 rfl rfl
theorem w_985 : (Jvm.Cond.code ({ cls := "LineEnds", name := "same", desc := "(II)I" } : Jvm.MethodName) prog_1_method_32_code (7 : Nat) (Option.some Jvm.ClassFile.FieldType.int)) ∈ tbG := tbp_4 165 rfl rfl
theorem w_986 : (Jvm.Cond.methodLink "LineEnds" (269 : Nat) ({ cls := "LineEnds$Layout", name := "hasLineOf", desc := "(II)Z" } : Jvm.MethodName)) ∈ tbG := tbp_4 166 rfl rfl
theorem w_987 : (Jvm.Cond.instanceMethod ({ cls := "LineEnds$Layout", name := "hasLineOf", desc := "(II)Z" } : Jvm.MethodName)) ∈ tbG := tbp_4 167 rfl rfl
theorem w_988 : (Jvm.Cond.selects "LineEnds$Layout" ({ cls := "LineEnds$Layout", name := "hasLineOf", desc := "(II)Z" } : Jvm.MethodName) ({ cls := "LineEnds$Layout", name := "hasLineOf", desc := "(II)Z" } : Jvm.MethodName)) ∈ tbG := tbp_4 168 rfl rfl
theorem w_989 : (Jvm.Cond.code ({ cls := "LineEnds$Layout", name := "hasLineOf", desc := "(II)Z" } : Jvm.MethodName) prog_5_method_12_code (4 : Nat) (Option.some Jvm.ClassFile.FieldType.boolean)) ∈ tbG := tbp_4 169 rfl rfl
theorem w_990 : (Jvm.Cond.methodLink "LineEndsLaw" (141 : Nat) ({ cls := "LineEnds", name := "dearest", desc := "(I)I" } : Jvm.MethodName)) ∈ tbG := tbp_4 170 rfl rfl
theorem w_991 : (Jvm.Cond.instanceMethod ({ cls := "LineEnds", name := "dearest", desc := "(I)I" } : Jvm.MethodName)) ∈ tbG := tbp_4 171 rfl rfl
theorem w_992 : (Jvm.Cond.selects "LineEnds" ({ cls := "LineEnds", name := "dearest", desc := "(I)I" } : Jvm.MethodName) ({ cls := "LineEnds", name := "dearest", desc := "(I)I" } : Jvm.MethodName)) ∈ tbG := tbp_4 172 rfl rfl
theorem w_993 : (Jvm.Cond.code ({ cls := "LineEnds", name := "dearest", desc := "(I)I" } : Jvm.MethodName) prog_1_method_33_code (6 : Nat) (Option.some Jvm.ClassFile.FieldType.int)) ∈ tbG := tbp_4 173 rfl rfl
theorem w_994 : (Jvm.Cond.methodLink "LineEndsLaw" (145 : Nat) ({ cls := "LineEnds", name := "units", desc := "(IIZ)I" } : Jvm.MethodName)) ∈ tbG := tbp_4 174 rfl rfl
theorem w_995 : (Jvm.Cond.instanceMethod ({ cls := "LineEnds", name := "units", desc := "(IIZ)I" } : Jvm.MethodName)) ∈ tbG := tbp_4 175 rfl rfl
theorem w_996 : (Jvm.Cond.selects "LineEnds" ({ cls := "LineEnds", name := "units", desc := "(IIZ)I" } : Jvm.MethodName) ({ cls := "LineEnds", name := "units", desc := "(IIZ)I" } : Jvm.MethodName)) ∈ tbG := tbp_4 176 rfl rfl
theorem w_997 : (Jvm.Cond.code ({ cls := "LineEnds", name := "units", desc := "(IIZ)I" } : Jvm.MethodName) prog_1_method_34_code (9 : Nat) (Option.some Jvm.ClassFile.FieldType.int)) ∈ tbG := tbp_4 177 rfl rfl
theorem w_998 : (Jvm.Cond.methodLink "LineEndsLaw" (150 : Nat) ({ cls := "LineEnds", name := "river", desc := "(I)I" } : Jvm.MethodName)) ∈ tbG := tbp_4 178 rfl rfl
theorem w_999 : (Jvm.Cond.instanceMethod ({ cls := "LineEnds", name := "river", desc := "(I)I" } : Jvm.MethodName)) ∈ tbG := tbp_4 179 rfl rfl
theorem w_1000 : (Jvm.Cond.selects "LineEnds" ({ cls := "LineEnds", name := "river", desc := "(I)I" } : Jvm.MethodName) ({ cls := "LineEnds", name := "river", desc := "(I)I" } : Jvm.MethodName)) ∈ tbG := tbp_4 180 rfl rfl
theorem w_1001 : (Jvm.Cond.code ({ cls := "LineEnds", name := "river", desc := "(I)I" } : Jvm.MethodName) prog_1_method_35_code (2 : Nat) (Option.some Jvm.ClassFile.FieldType.int)) ∈ tbG := tbp_4 181 rfl rfl
theorem w_1002 : (Jvm.Cond.methodLink "LineEnds" (272 : Nat) ({ cls := "LineEnds$Layout", name := "longestRiver", desc := "(LLineEnds$Ruler;)I" } : Jvm.MethodName)) ∈ tbG := tbp_4 182 rfl rfl
theorem w_1003 : (Jvm.Cond.instanceMethod ({ cls := "LineEnds$Layout", name := "longestRiver", desc := "(LLineEnds$Ruler;)I" } : Jvm.MethodName)) ∈ tbG := tbp_4 183 rfl rfl
theorem w_1004 : (Jvm.Cond.selects "LineEnds$Layout" ({ cls := "LineEnds$Layout", name := "longestRiver", desc := "(LLineEnds$Ruler;)I" } : Jvm.MethodName) ({ cls := "LineEnds$Layout", name := "longestRiver", desc := "(LLineEnds$Ruler;)I" } : Jvm.MethodName)) ∈ tbG := tbp_4 184 rfl rfl
theorem w_1005 : (Jvm.Cond.code ({ cls := "LineEnds$Layout", name := "longestRiver", desc := "(LLineEnds$Ruler;)I" } : Jvm.MethodName) prog_5_method_15_code (7 : Nat) (Option.some Jvm.ClassFile.FieldType.int)) ∈ tbG := tbp_4 185 rfl rfl
theorem w_1006 : (Jvm.Cond.methodLink "LineEnds$Layout" (121 : Nat) ({ cls := "java/util/Arrays", name := "fill", desc := "([II)V" } : Jvm.MethodName)) ∈ tbG := tbp_4 186 rfl rfl
theorem w_1007 : (Jvm.Cond.methodLink "LineEnds$Layout" (127 : Nat) ({ cls := "LineEnds$Layout", name := "dryUp", desc := "(II)V" } : Jvm.MethodName)) ∈ tbG := tbp_4 187 rfl rfl
theorem w_1009 : (Jvm.Cond.instanceMethod ({ cls := "LineEnds$Layout", name := "dryUp", desc := "(II)V" } : Jvm.MethodName)) ∈ tbG := tbp_4 189 rfl rfl
theorem w_1010 : (Jvm.Cond.code ({ cls := "LineEnds$Layout", name := "dryUp", desc := "(II)V" } : Jvm.MethodName) prog_5_method_16_code (4 : Nat) (Option.none : Option Jvm.ClassFile.FieldType)) ∈ tbG := tbp_4 190 rfl rfl
theorem w_1011 : (Jvm.Cond.methodLink "LineEnds$Layout" (133 : Nat) ({ cls := "java/lang/Math", name := "min", desc := "(II)I" } : Jvm.MethodName)) ∈ tbG := tbp_4 191 rfl rfl
theorem w_1012 : (Jvm.Cond.methodLink "LineEnds$Layout" (130 : Nat) ({ cls := "LineEnds$Layout", name := "flowOn", desc := "(II)I" } : Jvm.MethodName)) ∈ tbG := tbp_4 192 rfl rfl
theorem w_1014 : (Jvm.Cond.instanceMethod ({ cls := "LineEnds$Layout", name := "flowOn", desc := "(II)I" } : Jvm.MethodName)) ∈ tbG := tbp_4 194 rfl rfl
theorem w_1015 : (Jvm.Cond.code ({ cls := "LineEnds$Layout", name := "flowOn", desc := "(II)I" } : Jvm.MethodName) prog_5_method_17_code (5 : Nat) (Option.some Jvm.ClassFile.FieldType.int)) ∈ tbG := tbp_4 195 rfl rfl
theorem w_1016 : (Jvm.Cond.methodLink "LineEndsLaw" (154 : Nat) ({ cls := "LineEnds", name := "spell", desc := "(III)I" } : Jvm.MethodName)) ∈ tbG := tbp_4 196 rfl rfl
theorem w_1017 : (Jvm.Cond.instanceMethod ({ cls := "LineEnds", name := "spell", desc := "(III)I" } : Jvm.MethodName)) ∈ tbG := tbp_4 197 rfl rfl
theorem w_1018 : (Jvm.Cond.selects "LineEnds" ({ cls := "LineEnds", name := "spell", desc := "(III)I" } : Jvm.MethodName) ({ cls := "LineEnds", name := "spell", desc := "(III)I" } : Jvm.MethodName)) ∈ tbG := tbp_4 198 rfl rfl
theorem w_1019 : (Jvm.Cond.code ({ cls := "LineEnds", name := "spell", desc := "(III)I" } : Jvm.MethodName) prog_1_method_36_code (4 : Nat) (Option.some Jvm.ClassFile.FieldType.int)) ∈ tbG := tbp_4 199 rfl rfl
theorem w_1020 : (Jvm.Cond.methodLink "LineEnds" (276 : Nat) ({ cls := "LineEnds", name := "spellLine", desc := "(LLineEnds$Layout;I)V" } : Jvm.MethodName)) ∈ tbG := tbp_4 200 rfl rfl
theorem w_1022 : (Jvm.Cond.instanceMethod ({ cls := "LineEnds", name := "spellLine", desc := "(LLineEnds$Layout;I)V" } : Jvm.MethodName)) ∈ tbG := tbp_4 202 rfl rfl
theorem w_1023 : (Jvm.Cond.code ({ cls := "LineEnds", name := "spellLine", desc := "(LLineEnds$Layout;I)V" } : Jvm.MethodName) prog_1_method_37_code (6 : Nat) (Option.none : Option Jvm.ClassFile.FieldType)) ∈ tbG := tbp_4 203 rfl rfl
theorem w_1024 : (Jvm.Cond.methodLink "LineEnds" (282 : Nat) ({ cls := "LineEnds$Bytes", name := "add", desc := "(I)V" } : Jvm.MethodName)) ∈ tbG := tbp_4 204 rfl rfl
theorem w_1025 : (Jvm.Cond.methodLink "LineEnds" (285 : Nat) ({ cls := "LineEnds$Bytes", name := "addTimes", desc := "(II)V" } : Jvm.MethodName)) ∈ tbG := tbp_4 205 rfl rfl
theorem w_1026 : (Jvm.Cond.instanceMethod ({ cls := "LineEnds$Bytes", name := "addTimes", desc := "(II)V" } : Jvm.MethodName)) ∈ tbG := tbp_4 206 rfl rfl
theorem w_1027 : (Jvm.Cond.selects "LineEnds$Bytes" ({ cls := "LineEnds$Bytes", name := "addTimes", desc := "(II)V" } : Jvm.MethodName) ({ cls := "LineEnds$Bytes", name := "addTimes", desc := "(II)V" } : Jvm.MethodName)) ∈ tbG := tbp_4 207 rfl rfl
theorem w_1028 : (Jvm.Cond.code ({ cls := "LineEnds$Bytes", name := "addTimes", desc := "(II)V" } : Jvm.MethodName) prog_2_method_4_code (4 : Nat) (Option.none : Option Jvm.ClassFile.FieldType)) ∈ tbG := tbp_4 208 rfl rfl
theorem w_1029 : (Jvm.Cond.methodLink "LineEnds" (280 : Nat) ({ cls := "LineEnds$Bytes", name := "told", desc := "(I)I" } : Jvm.MethodName)) ∈ tbG := tbp_4 209 rfl rfl
theorem w_1030 : (Jvm.Cond.instanceMethod ({ cls := "LineEnds$Bytes", name := "told", desc := "(I)I" } : Jvm.MethodName)) ∈ tbG := tbp_4 210 rfl rfl
theorem w_1031 : (Jvm.Cond.selects "LineEnds$Bytes" ({ cls := "LineEnds$Bytes", name := "told", desc := "(I)I" } : Jvm.MethodName) ({ cls := "LineEnds$Bytes", name := "told", desc := "(I)I" } : Jvm.MethodName)) ∈ tbG := tbp_4 211 rfl rfl
theorem w_1032 : (Jvm.Cond.code ({ cls := "LineEnds$Bytes", name := "told", desc := "(I)I" } : Jvm.MethodName) prog_2_method_7_code (2 : Nat) (Option.some Jvm.ClassFile.FieldType.int)) ∈ tbG := tbp_4 212 rfl rfl
theorem w_1033 : (Jvm.Cond.methodLink "LineEndsLaw" (158 : Nat) ({ cls := "LineEnds", name := "spellTable", desc := "(I)I" } : Jvm.MethodName)) ∈ tbG := tbp_4 213 rfl rfl
theorem w_1034 : (Jvm.Cond.instanceMethod ({ cls := "LineEnds", name := "spellTable", desc := "(I)I" } : Jvm.MethodName)) ∈ tbG := tbp_4 214 rfl rfl
theorem w_1035 : (Jvm.Cond.selects "LineEnds" ({ cls := "LineEnds", name := "spellTable", desc := "(I)I" } : Jvm.MethodName) ({ cls := "LineEnds", name := "spellTable", desc := "(I)I" } : Jvm.MethodName)) ∈ tbG := tbp_4 215 rfl rfl
theorem w_1036 : (Jvm.Cond.code ({ cls := "LineEnds", name := "spellTable", desc := "(I)I" } : Jvm.MethodName) prog_1_method_38_code (4 : Nat) (Option.some Jvm.ClassFile.FieldType.int)) ∈ tbG := tbp_4 216 rfl rfl
theorem w_1037 : (Jvm.Cond.methodLink "LineEnds" (288 : Nat) ({ cls := "LineEnds", name := "spellClass", desc := "(I)V" } : Jvm.MethodName)) ∈ tbG := tbp_4 217 rfl rfl
theorem w_1039 : (Jvm.Cond.instanceMethod ({ cls := "LineEnds", name := "spellClass", desc := "(I)V" } : Jvm.MethodName)) ∈ tbG := tbp_4 219 rfl rfl
theorem w_1040 : (Jvm.Cond.code ({ cls := "LineEnds", name := "spellClass", desc := "(I)V" } : Jvm.MethodName) prog_1_method_39_code (2 : Nat) (Option.none : Option Jvm.ClassFile.FieldType)) ∈ tbG := tbp_4 220 rfl rfl
theorem w_1042 : (Jvm.Cond.methodLink "LineEnds" (296 : Nat) ({ cls := "LineEnds$Bytes", name := "addText", desc := "(Ljava/lang/String;)V" } : Jvm.MethodName)) ∈ tbG := tbp_4 222 rfl rfl
theorem w_1043 : (Jvm.Cond.instanceMethod ({ cls := "LineEnds$Bytes", name := "addText", desc := "(Ljava/lang/String;)V" } : Jvm.MethodName)) ∈ tbG := tbp_4 223 rfl rfl
theorem w_1044 : (Jvm.Cond.selects "LineEnds$Bytes" ({ cls := "LineEnds$Bytes", name := "addText", desc := "(Ljava/lang/String;)V" } : Jvm.MethodName) ({ cls := "LineEnds$Bytes", name := "addText", desc := "(Ljava/lang/String;)V" } : Jvm.MethodName)) ∈ tbG := tbp_4 224 rfl rfl
theorem w_1045 : (Jvm.Cond.code ({ cls := "LineEnds$Bytes", name := "addText", desc := "(Ljava/lang/String;)V" } : Jvm.MethodName) prog_2_method_5_code (3 : Nat) (Option.none : Option Jvm.ClassFile.FieldType)) ∈ tbG := tbp_4 225 rfl rfl
theorem w_1046 : (Jvm.Cond.methodLink "LineEnds$Bytes" (29 : Nat) ({ cls := "java/lang/String", name := "length", desc := "()I" } : Jvm.MethodName)) ∈ tbG := tbp_4 226 rfl rfl
theorem w_1047 : (Jvm.Cond.methodLink "LineEnds$Bytes" (34 : Nat) ({ cls := "java/lang/String", name := "charAt", desc := "(I)C" } : Jvm.MethodName)) ∈ tbG := tbp_4 227 rfl rfl
theorem w_1049 : (Jvm.Cond.methodLink "LineEnds" (302 : Nat) ({ cls := "LineEnds$Bytes", name := "addNumber", desc := "(Ljava/lang/String;I)V" } : Jvm.MethodName)) ∈ tbG := tbp_4 229 rfl rfl
theorem w_1050 : (Jvm.Cond.instanceMethod ({ cls := "LineEnds$Bytes", name := "addNumber", desc := "(Ljava/lang/String;I)V" } : Jvm.MethodName)) ∈ tbG := tbp_4 230 rfl rfl
theorem w_1051 : (Jvm.Cond.selects "LineEnds$Bytes" ({ cls := "LineEnds$Bytes", name := "addNumber", desc := "(Ljava/lang/String;I)V" } : Jvm.MethodName) ({ cls := "LineEnds$Bytes", name := "addNumber", desc := "(Ljava/lang/String;I)V" } : Jvm.MethodName)) ∈ tbG := tbp_4 231 rfl rfl
theorem w_1052 : (Jvm.Cond.code ({ cls := "LineEnds$Bytes", name := "addNumber", desc := "(Ljava/lang/String;I)V" } : Jvm.MethodName) prog_2_method_6_code (3 : Nat) (Option.none : Option Jvm.ClassFile.FieldType)) ∈ tbG := tbp_4 232 rfl rfl
theorem w_1053 : (Jvm.Cond.methodLink "LineEnds$Bytes" (38 : Nat) ({ cls := "LineEnds$Bytes", name := "addText", desc := "(Ljava/lang/String;)V" } : Jvm.MethodName)) ∈ tbG := tbp_4 233 rfl rfl
theorem w_1061 : (Jvm.Cond.methodLink "LineEnds" (291 : Nat) ({ cls := "LineEnds", name := "spellPair", desc := "(II)V" } : Jvm.MethodName)) ∈ tbG := tbp_5 1 rfl rfl
theorem w_1063 : (Jvm.Cond.instanceMethod ({ cls := "LineEnds", name := "spellPair", desc := "(II)V" } : Jvm.MethodName)) ∈ tbG := tbp_5 3 rfl rfl
theorem w_1064 : (Jvm.Cond.code ({ cls := "LineEnds", name := "spellPair", desc := "(II)V" } : Jvm.MethodName) prog_1_method_40_code (3 : Nat) (Option.none : Option Jvm.ClassFile.FieldType)) ∈ tbG := tbp_5 4 rfl rfl
theorem w_1066 : (Jvm.Cond.methodLink "LineEndsLaw" (162 : Nat) ({ cls := "LineEnds", name := "ways", desc := "()I" } : Jvm.MethodName)) ∈ tbG := tbp_5 6 rfl rfl
theorem w_1067 : (Jvm.Cond.instanceMethod ({ cls := "LineEnds", name := "ways", desc := "()I" } : Jvm.MethodName)) ∈ tbG := tbp_5 7 rfl rfl
theorem w_1068 : (Jvm.Cond.selects "LineEnds" ({ cls := "LineEnds", name := "ways", desc := "()I" } : Jvm.MethodName) ({ cls := "LineEnds", name := "ways", desc := "()I" } : Jvm.MethodName)) ∈ tbG := tbp_5 8 rfl rfl
theorem w_1069 : (Jvm.Cond.code ({ cls := "LineEnds", name := "ways", desc := "()I" } : Jvm.MethodName) prog_1_method_41_code (1 : Nat) (Option.some Jvm.ClassFile.FieldType.int)) ∈ tbG := tbp_5 9 rfl rfl
theorem w_1070 : (Jvm.Cond.methodLink "LineEnds" (322 : Nat) ({ cls := "LineEnds", name := "currentWays", desc := "()LLineEnds$Ways;" } : Jvm.MethodName)) ∈ tbG := tbp_5 10 rfl rfl
theorem w_1072 : (Jvm.Cond.instanceMethod ({ cls := "LineEnds", name := "currentWays", desc := "()LLineEnds$Ways;" } : Jvm.MethodName)) ∈ tbG := tbp_5 12 rfl rfl
theorem w_1073 : (Jvm.Cond.code ({ cls := "LineEnds", name := "currentWays", desc := "()LLineEnds$Ways;" } : Jvm.MethodName) prog_1_method_60_code (1 : Nat) (Option.some (Jvm.ClassFile.FieldType.object "LineEnds$Ways"))) ∈ tbG := tbp_5 13 rfl rfl
theorem w_1074 : (Jvm.Cond.methodLink "LineEnds" (392 : Nat) ({ cls := "LineEnds$Ways", name := "reckon", desc := "(LLineEnds$Ruler;)V" } : Jvm.MethodName)) ∈ tbG := tbp_5 14 rfl rfl
theorem w_1075 : (Jvm.Cond.instanceMethod ({ cls := "LineEnds$Ways", name := "reckon", desc := "(LLineEnds$Ruler;)V" } : Jvm.MethodName)) ∈ tbG := tbp_5 15 rfl rfl
theorem w_1076 : (Jvm.Cond.selects "LineEnds$Ways" ({ cls := "LineEnds$Ways", name := "reckon", desc := "(LLineEnds$Ruler;)V" } : Jvm.MethodName) ({ cls := "LineEnds$Ways", name := "reckon", desc := "(LLineEnds$Ruler;)V" } : Jvm.MethodName)) ∈ tbG := tbp_5 16 rfl rfl
theorem w_1077 : (Jvm.Cond.code ({ cls := "LineEnds$Ways", name := "reckon", desc := "(LLineEnds$Ruler;)V" } : Jvm.MethodName) prog_10_method_2_code (6 : Nat) (Option.none : Option Jvm.ClassFile.FieldType)) ∈ tbG := tbp_5 17 rfl rfl
theorem w_1078 : (Jvm.Cond.methodLink "LineEnds$Ways" (19 : Nat) ({ cls := "LineEnds$Ruler", name := "signs", desc := "()I" } : Jvm.MethodName)) ∈ tbG := tbp_5 18 rfl rfl
theorem w_1079 : (Jvm.Cond.methodLink "LineEnds$Ways" (29 : Nat) ({ cls := "LineEnds$Ruler", name := "reach", desc := "(I)I" } : Jvm.MethodName)) ∈ tbG := tbp_5 19 rfl rfl
theorem w_1080 : (Jvm.Cond.methodLink "LineEnds$Ways" (33 : Nat) ({ cls := "LineEnds$Ways", name := "isStep", desc := "(LLineEnds$Ruler;II)Z" } : Jvm.MethodName)) ∈ tbG := tbp_5 20 rfl rfl
theorem w_1081 : (Jvm.Cond.static ({ cls := "LineEnds$Ways", name := "isStep", desc := "(LLineEnds$Ruler;II)Z" } : Jvm.MethodName)) ∈ tbG := tbp_5 21 rfl rfl
theorem w_1082 : (Jvm.Cond.code ({ cls := "LineEnds$Ways", name := "isStep", desc := "(LLineEnds$Ruler;II)Z" } : Jvm.MethodName) prog_10_method_3_code (3 : Nat) (Option.some Jvm.ClassFile.FieldType.boolean)) ∈ tbG := tbp_5 22 rfl rfl
theorem w_1083 : (Jvm.Cond.methodLink "LineEnds$Ways" (46 : Nat) ({ cls := "LineEnds$Ruler", name := "isLegal", desc := "(I)Z" } : Jvm.MethodName)) ∈ tbG := tbp_5 23 rfl rfl
theorem w_1084 : (Jvm.Cond.methodLink "LineEnds$Ways" (50 : Nat) ({ cls := "LineEnds$Ruler", name := "measure", desc := "(II)V" } : Jvm.MethodName)) ∈ tbG := tbp_5 24 rfl rfl
theorem w_1085 : (Jvm.Cond.methodLink "LineEnds$Ways" (37 : Nat) ({ cls := "java/lang/Math", name := "min", desc := "(II)I" } : Jvm.MethodName)) ∈ tbG := tbp_5 25 rfl rfl
theorem w_1086 : (Jvm.Cond.methodLink "LineEnds" (326 : Nat) ({ cls := "LineEnds$Ways", name := "total", desc := "()J" } : Jvm.MethodName)) ∈ tbG := tbp_5 26 rfl rfl
theorem w_1087 : (Jvm.Cond.instanceMethod ({ cls := "LineEnds$Ways", name := "total", desc := "()J" } : Jvm.MethodName)) ∈ tbG := tbp_5 27 rfl rfl
theorem w_1088 : (Jvm.Cond.selects "LineEnds$Ways" ({ cls := "LineEnds$Ways", name := "total", desc := "()J" } : Jvm.MethodName) ({ cls := "LineEnds$Ways", name := "total", desc := "()J" } : Jvm.MethodName)) ∈ tbG := tbp_5 28 rfl rfl
theorem w_1089 : (Jvm.Cond.code ({ cls := "LineEnds$Ways", name := "total", desc := "()J" } : Jvm.MethodName) prog_10_method_4_code (1 : Nat) (Option.some Jvm.ClassFile.FieldType.long)) ∈ tbG := tbp_5 29 rfl rfl
theorem w_1090 : (Jvm.Cond.constantLong "LineEnds" (330 : Nat) (1000000000 : Int64)) ∈ tbG := tbp_5 30 rfl rfl
theorem w_1091 : (Jvm.Cond.methodLink "LineEnds" (332 : Nat) ({ cls := "java/lang/Math", name := "min", desc := "(JJ)J" } : Jvm.MethodName)) ∈ tbG := tbp_5 31 rfl rfl
theorem w_1092 : (Jvm.Cond.static ({ cls := "java/lang/Math", name := "min", desc := "(JJ)J" } : Jvm.MethodName)) ∈ tbG := tbp_5 32 rfl rfl
theorem w_1093 : (Jvm.Cond.code ({ cls := "java/lang/Math", name := "min", desc := "(JJ)J" } : Jvm.MethodName) prog_13_method_70_code (4 : Nat) (Option.some Jvm.ClassFile.FieldType.long)) ∈ tbG := tbp_5 33 rfl rfl
theorem w_1094 : (Jvm.Cond.methodLink "LineEndsLaw" (166 : Nat) ({ cls := "LineEnds", name := "fewest", desc := "()I" } : Jvm.MethodName)) ∈ tbG := tbp_5 34 rfl rfl
theorem w_1095 : (Jvm.Cond.instanceMethod ({ cls := "LineEnds", name := "fewest", desc := "()I" } : Jvm.MethodName)) ∈ tbG := tbp_5 35 rfl rfl
theorem w_1096 : (Jvm.Cond.selects "LineEnds" ({ cls := "LineEnds", name := "fewest", desc := "()I" } : Jvm.MethodName) ({ cls := "LineEnds", name := "fewest", desc := "()I" } : Jvm.MethodName)) ∈ tbG := tbp_5 36 rfl rfl
theorem w_1097 : (Jvm.Cond.code ({ cls := "LineEnds", name := "fewest", desc := "()I" } : Jvm.MethodName) prog_1_method_42_code (2 : Nat) (Option.some Jvm.ClassFile.FieldType.int)) ∈ tbG := tbp_5 37 rfl rfl
theorem w_1098 : (Jvm.Cond.methodLink "LineEndsLaw" (170 : Nat) ({ cls := "LineEnds", name := "way", desc := "(II)I" } : Jvm.MethodName)) ∈ tbG := tbp_5 38 rfl rfl
theorem w_1099 : (Jvm.Cond.instanceMethod ({ cls := "LineEnds", name := "way", desc := "(II)I" } : Jvm.MethodName)) ∈ tbG := tbp_5 39 rfl rfl
theorem w_1100 : (Jvm.Cond.selects "LineEnds" ({ cls := "LineEnds", name := "way", desc := "(II)I" } : Jvm.MethodName) ({ cls := "LineEnds", name := "way", desc := "(II)I" } : Jvm.MethodName)) ∈ tbG := tbp_5 40 rfl rfl
theorem w_1101 : (Jvm.Cond.code ({ cls := "LineEnds", name := "way", desc := "(II)I" } : Jvm.MethodName) prog_1_method_43_code (4 : Nat) (Option.some Jvm.ClassFile.FieldType.int)) ∈ tbG := tbp_5 41 rfl rfl
theorem w_1102 : (Jvm.Cond.methodLink "LineEnds" (341 : Nat) ({ cls := "LineEnds$Ways", name := "endOf", desc := "(LLineEnds$Ruler;II)I" } : Jvm.MethodName)) ∈ tbG := tbp_5 42 rfl rfl
theorem w_1103 : (Jvm.Cond.instanceMethod ({ cls := "LineEnds$Ways", name := "endOf", desc := "(LLineEnds$Ruler;II)I" } : Jvm.MethodName)) ∈ tbG := tbp_5 43 rfl rfl
theorem w_1104 : (Jvm.Cond.selects "LineEnds$Ways" ({ cls := "LineEnds$Ways", name := "endOf", desc := "(LLineEnds$Ruler;II)I" } : Jvm.MethodName) ({ cls := "LineEnds$Ways", name := "endOf", desc := "(LLineEnds$Ruler;II)I" } : Jvm.MethodName)) ∈ tbG := tbp_5 44 rfl rfl
theorem w_1105 : (Jvm.Cond.code ({ cls := "LineEnds$Ways", name := "endOf", desc := "(LLineEnds$Ruler;II)I" } : Jvm.MethodName) prog_10_method_5_code (11 : Nat) (Option.some Jvm.ClassFile.FieldType.int)) ∈ tbG := tbp_5 45 rfl rfl
theorem w_1106 : (Jvm.Cond.methodLink "LineEndsLaw" (174 : Nat) ({ cls := "LineEnds", name := "worst", desc := "()I" } : Jvm.MethodName)) ∈ tbG := tbp_5 46 rfl rfl
theorem w_1107 : (Jvm.Cond.instanceMethod ({ cls := "LineEnds", name := "worst", desc := "()I" } : Jvm.MethodName)) ∈ tbG := tbp_5 47 rfl rfl
theorem w_1108 : (Jvm.Cond.selects "LineEnds" ({ cls := "LineEnds", name := "worst", desc := "()I" } : Jvm.MethodName) ({ cls := "LineEnds", name := "worst", desc := "()I" } : Jvm.MethodName)) ∈ tbG := tbp_5 48 rfl rfl
theorem w_1109 : (Jvm.Cond.code ({ cls := "LineEnds", name := "worst", desc := "()I" } : Jvm.MethodName) prog_1_method_44_code (5 : Nat) (Option.some Jvm.ClassFile.FieldType.int)) ∈ tbG := tbp_5 49 rfl rfl
theorem w_1110 : (Jvm.Cond.methodLink "LineEnds" (346 : Nat) ({ cls := "LineEnds", name := "trialCost", desc := "()I" } : Jvm.MethodName)) ∈ tbG := tbp_5 50 rfl rfl
theorem w_1112 : (Jvm.Cond.instanceMethod ({ cls := "LineEnds", name := "trialCost", desc := "()I" } : Jvm.MethodName)) ∈ tbG := tbp_5 52 rfl rfl
theorem w_1113 : (Jvm.Cond.code ({ cls := "LineEnds", name := "trialCost", desc := "()I" } : Jvm.MethodName) prog_1_method_61_code (1 : Nat) (Option.some Jvm.ClassFile.FieldType.int)) ∈ tbG := tbp_5 53 rfl rfl
theorem w_1114 : (Jvm.Cond.methodLink "LineEndsLaw" (178 : Nat) ({ cls := "LineEnds", name := "costMarked", desc := "(II)I" } : Jvm.MethodName)) ∈ tbG := tbp_5 54 rfl rfl
theorem w_1115 : (Jvm.Cond.instanceMethod ({ cls := "LineEnds", name := "costMarked", desc := "(II)I" } : Jvm.MethodName)) ∈ tbG := tbp_5 55 rfl rfl
theorem w_1116 : (Jvm.Cond.selects "LineEnds" ({ cls := "LineEnds", name := "costMarked", desc := "(II)I" } : Jvm.MethodName) ({ cls := "LineEnds", name := "costMarked", desc := "(II)I" } : Jvm.MethodName)) ∈ tbG := tbp_5 56 rfl rfl
theorem w_1117 : (Jvm.Cond.code ({ cls := "LineEnds", name := "costMarked", desc := "(II)I" } : Jvm.MethodName) prog_1_method_45_code (3 : Nat) (Option.some Jvm.ClassFile.FieldType.int)) ∈ tbG := tbp_5 57 rfl rfl
theorem w_1118 : (Jvm.Cond.methodLink "LineEndsLaw" (182 : Nat) ({ cls := "LineEnds", name := "costBy", desc := "(I)I" } : Jvm.MethodName)) ∈ tbG := tbp_5 58 rfl rfl
theorem w_1119 : (Jvm.Cond.instanceMethod ({ cls := "LineEnds", name := "costBy", desc := "(I)I" } : Jvm.MethodName)) ∈ tbG := tbp_5 59 rfl rfl
theorem w_1120 : (Jvm.Cond.selects "LineEnds" ({ cls := "LineEnds", name := "costBy", desc := "(I)I" } : Jvm.MethodName) ({ cls := "LineEnds", name := "costBy", desc := "(I)I" } : Jvm.MethodName)) ∈ tbG := tbp_5 60 rfl rfl
theorem w_1121 : (Jvm.Cond.code ({ cls := "LineEnds", name := "costBy", desc := "(I)I" } : Jvm.MethodName) prog_1_method_46_code (2 : Nat) (Option.some Jvm.ClassFile.FieldType.int)) ∈ tbG := tbp_5 61 rfl rfl
theorem w_1122 : (Jvm.Cond.methodLink "LineEndsLaw" (186 : Nat) ({ cls := "LineEnds", name := "widthFor", desc := "(I)I" } : Jvm.MethodName)) ∈ tbG := tbp_5 62 rfl rfl
theorem w_1123 : (Jvm.Cond.instanceMethod ({ cls := "LineEnds", name := "widthFor", desc := "(I)I" } : Jvm.MethodName)) ∈ tbG := tbp_5 63 rfl rfl
theorem w_1124 : (Jvm.Cond.selects "LineEnds" ({ cls := "LineEnds", name := "widthFor", desc := "(I)I" } : Jvm.MethodName) ({ cls := "LineEnds", name := "widthFor", desc := "(I)I" } : Jvm.MethodName)) ∈ tbG := tbp_5 64 rfl rfl
theorem w_1125 : (Jvm.Cond.code ({ cls := "LineEnds", name := "widthFor", desc := "(I)I" } : Jvm.MethodName) prog_1_method_47_code (3 : Nat) (Option.some Jvm.ClassFile.FieldType.int)) ∈ tbG := tbp_5 65 rfl rfl
theorem w_1126 : (Jvm.Cond.methodLink "LineEndsLaw" (190 : Nat) ({ cls := "LineEnds", name := "bestWidth", desc := "()I" } : Jvm.MethodName)) ∈ tbG := tbp_5 66 rfl rfl
theorem w_1127 : (Jvm.Cond.instanceMethod ({ cls := "LineEnds", name := "bestWidth", desc := "()I" } : Jvm.MethodName)) ∈ tbG := tbp_5 67 rfl rfl
theorem w_1128 : (Jvm.Cond.selects "LineEnds" ({ cls := "LineEnds", name := "bestWidth", desc := "()I" } : Jvm.MethodName) ({ cls := "LineEnds", name := "bestWidth", desc := "()I" } : Jvm.MethodName)) ∈ tbG := tbp_5 68 rfl rfl
theorem w_1129 : (Jvm.Cond.code ({ cls := "LineEnds", name := "bestWidth", desc := "()I" } : Jvm.MethodName) prog_1_method_48_code (4 : Nat) (Option.some Jvm.ClassFile.FieldType.int)) ∈ tbG := tbp_5 69 rfl rfl
theorem w_1130 : (Jvm.Cond.methodLink "LineEndsLaw" (194 : Nat) ({ cls := "LineEnds", name := "atEnds", desc := "(IIZ)I" } : Jvm.MethodName)) ∈ tbG := tbp_5 70 rfl rfl
theorem w_1131 : (Jvm.Cond.instanceMethod ({ cls := "LineEnds", name := "atEnds", desc := "(IIZ)I" } : Jvm.MethodName)) ∈ tbG := tbp_5 71 rfl rfl
theorem w_1132 : (Jvm.Cond.selects "LineEnds" ({ cls := "LineEnds", name := "atEnds", desc := "(IIZ)I" } : Jvm.MethodName) ({ cls := "LineEnds", name := "atEnds", desc := "(IIZ)I" } : Jvm.MethodName)) ∈ tbG := tbp_5 72 rfl rfl
theorem w_1133 : (Jvm.Cond.code ({ cls := "LineEnds", name := "atEnds", desc := "(IIZ)I" } : Jvm.MethodName) prog_1_method_49_code (8 : Nat) (Option.some Jvm.ClassFile.FieldType.int)) ∈ tbG := tbp_5 73 rfl rfl
theorem w_1134 : (Jvm.Cond.methodLink "LineEndsLaw" (198 : Nat) ({ cls := "LineEnds", name := "count", desc := "(I)I" } : Jvm.MethodName)) ∈ tbG := tbp_5 74 rfl rfl
theorem w_1135 : (Jvm.Cond.instanceMethod ({ cls := "LineEnds", name := "count", desc := "(I)I" } : Jvm.MethodName)) ∈ tbG := tbp_5 75 rfl rfl
theorem w_1136 : (Jvm.Cond.selects "LineEnds" ({ cls := "LineEnds", name := "count", desc := "(I)I" } : Jvm.MethodName) ({ cls := "LineEnds", name := "count", desc := "(I)I" } : Jvm.MethodName)) ∈ tbG := tbp_5 76 rfl rfl
theorem w_1137 : (Jvm.Cond.code ({ cls := "LineEnds", name := "count", desc := "(I)I" } : Jvm.MethodName) prog_1_method_50_code (2 : Nat) (Option.some Jvm.ClassFile.FieldType.int)) ∈ tbG := tbp_5 77 rfl rfl
theorem w_1138 : (Jvm.Cond.methodLink "LineEnds" (362 : Nat) ({ cls := "LineEnds$Page", name := "legalEnds", desc := "()I" } : Jvm.MethodName)) ∈ tbG := tbp_5 78 rfl rfl
theorem w_1139 : (Jvm.Cond.instanceMethod ({ cls := "LineEnds$Page", name := "legalEnds", desc := "()I" } : Jvm.MethodName)) ∈ tbG := tbp_5 79 rfl rfl
theorem w_1140 : (Jvm.Cond.selects "LineEnds$Page" ({ cls := "LineEnds$Page", name := "legalEnds", desc := "()I" } : Jvm.MethodName) ({ cls := "LineEnds$Page", name := "legalEnds", desc := "()I" } : Jvm.MethodName)) ∈ tbG := tbp_5 80 rfl rfl
theorem w_1141 : (Jvm.Cond.code ({ cls := "LineEnds$Page", name := "legalEnds", desc := "()I" } : Jvm.MethodName) prog_6_method_11_code (3 : Nat) (Option.some Jvm.ClassFile.FieldType.int)) ∈ tbG := tbp_5 81 rfl rfl
theorem w_1142 : (Jvm.Cond.methodLink "LineEnds$Page" (64 : Nat) ({ cls := "LineEnds$Page", name := "isLegalEnd", desc := "(I)Z" } : Jvm.MethodName)) ∈ tbG := tbp_5 82 rfl rfl
theorem w_1143 : (Jvm.Cond.methodLink "LineEnds" (365 : Nat) ({ cls := "LineEnds$Page", name := "longestStretch", desc := "()I" } : Jvm.MethodName)) ∈ tbG := tbp_5 83 rfl rfl
theorem w_1144 : (Jvm.Cond.instanceMethod ({ cls := "LineEnds$Page", name := "longestStretch", desc := "()I" } : Jvm.MethodName)) ∈ tbG := tbp_5 84 rfl rfl
theorem w_1145 : (Jvm.Cond.selects "LineEnds$Page" ({ cls := "LineEnds$Page", name := "longestStretch", desc := "()I" } : Jvm.MethodName) ({ cls := "LineEnds$Page", name := "longestStretch", desc := "()I" } : Jvm.MethodName)) ∈ tbG := tbp_5 85 rfl rfl
theorem w_1146 : (Jvm.Cond.code ({ cls := "LineEnds$Page", name := "longestStretch", desc := "()I" } : Jvm.MethodName) prog_6_method_12_code (4 : Nat) (Option.some Jvm.ClassFile.FieldType.int)) ∈ tbG := tbp_5 86 rfl rfl
theorem w_1147 : (Jvm.Cond.methodLink "LineEnds$Page" (67 : Nat) ({ cls := "java/lang/Math", name := "max", desc := "(II)I" } : Jvm.MethodName)) ∈ tbG := tbp_5 87 rfl rfl
theorem w_1148 : (Jvm.Cond.methodLink "LineEnds" (368 : Nat) ({ cls := "LineEnds$Page", name := "marksOf", desc := "(I)I" } : Jvm.MethodName)) ∈ tbG := tbp_5 88 rfl rfl
theorem w_1149 : (Jvm.Cond.instanceMethod ({ cls := "LineEnds$Page", name := "marksOf", desc := "(I)I" } : Jvm.MethodName)) ∈ tbG := tbp_5 89 rfl rfl
theorem w_1150 : (Jvm.Cond.selects "LineEnds$Page" ({ cls := "LineEnds$Page", name := "marksOf", desc := "(I)I" } : Jvm.MethodName) ({ cls := "LineEnds$Page", name := "marksOf", desc := "(I)I" } : Jvm.MethodName)) ∈ tbG := tbp_5 90 rfl rfl
theorem w_1151 : (Jvm.Cond.code ({ cls := "LineEnds$Page", name := "marksOf", desc := "(I)I" } : Jvm.MethodName) prog_6_method_14_code (4 : Nat) (Option.some Jvm.ClassFile.FieldType.int)) ∈ tbG := tbp_5 91 rfl rfl
theorem w_1152 : (Jvm.Cond.classLink "LineEndsLaw" (10 : Nat) "LineEndsModel") ∈ tbG := tbp_5 92 rfl rfl
theorem w_1153 : (Jvm.Cond.instantiable "LineEndsModel" (55 : Nat)) ∈ tbG := tbp_5 93 rfl rfl
theorem w_1154 : (Jvm.Cond.methodLink "LineEndsLaw" (12 : Nat) ({ cls := "LineEndsModel", name := "<init>", desc := "()V" } : Jvm.MethodName)) ∈ tbG := tbp_5 94 rfl rfl
theorem w_1155 : (Jvm.Cond.instanceMethod ({ cls := "LineEndsModel", name := "<init>", desc := "()V" } : Jvm.MethodName)) ∈ tbG := tbp_5 95 rfl rfl
theorem w_1156 : (Jvm.Cond.code ({ cls := "LineEndsModel", name := "<init>", desc := "()V" } : Jvm.MethodName) prog_12_method_2_code (1 : Nat) (Option.none : Option Jvm.ClassFile.FieldType)) ∈ tbG := tbp_5 96 rfl rfl
theorem w_1157 : (Jvm.Cond.methodLink "LineEndsModel" (7 : Nat) ({ cls := "java/lang/Object", name := "<init>", desc := "()V" } : Jvm.MethodName)) ∈ tbG := tbp_5 97 rfl rfl
theorem w_1158 : (Jvm.Cond.fieldLink "LineEndsModel" (13 : Nat) "LineEndsModel" "wide" "[I") ∈ tbG := tbp_5 98 rfl rfl
theorem w_1159 : (Jvm.Cond.fieldLink "LineEndsModel" (17 : Nat) "LineEndsModel" "hangs" "[Z") ∈ tbG := tbp_5 99 rfl rfl
theorem w_1160 : (Jvm.Cond.fieldLink "LineEndsModel" (21 : Nat) "LineEndsModel" "trim" "[I") ∈ tbG := tbp_5 100 rfl rfl
theorem w_1161 : (Jvm.Cond.fieldLink "LineEndsModel" (24 : Nat) "LineEndsModel" "squeeze" "[I") ∈ tbG := tbp_5 101 rfl rfl
theorem w_1162 : (Jvm.Cond.fieldLink "LineEndsModel" (27 : Nat) "LineEndsModel" "squeezeRank" "[I") ∈ tbG := tbp_5 102 rfl rfl
theorem w_1163 : (Jvm.Cond.fieldLink "LineEndsModel" (30 : Nat) "LineEndsModel" "opens" "[I") ∈ tbG := tbp_5 103 rfl rfl
theorem w_1164 : (Jvm.Cond.fieldLink "LineEndsModel" (33 : Nat) "LineEndsModel" "opensRank" "[I") ∈ tbG := tbp_5 104 rfl rfl
theorem w_1165 : (Jvm.Cond.fieldLink "LineEndsModel" (36 : Nat) "LineEndsModel" "now" "[I") ∈ tbG := tbp_5 105 rfl rfl
theorem w_1166 : (Jvm.Cond.fieldLink "LineEndsModel" (39 : Nat) "LineEndsModel" "aside" "[I") ∈ tbG := tbp_5 106 rfl rfl
theorem w_1167 : (Jvm.Cond.fieldLink "LineEndsModel" (42 : Nat) "LineEndsModel" "before" "[I") ∈ tbG := tbp_5 107 rfl rfl
theorem w_1168 : (Jvm.Cond.fieldLink "LineEndsModel" (129 : Nat) "LineEndsModel" "acts" "I") ∈ tbG := tbp_5 108 rfl rfl
theorem w_1169 : (Jvm.Cond.fieldLink "LineEndsModel" (192 : Nat) "LineEndsModel" "natural" "I") ∈ tbG := tbp_5 109 rfl rfl
theorem w_1170 : (Jvm.Cond.fieldLink "LineEndsModel" (195 : Nat) "LineEndsModel" "isHung" "Z") ∈ tbG := tbp_5 110 rfl rfl
theorem w_1171 : (Jvm.Cond.fieldLink "LineEndsModel" (211 : Nat) "LineEndsModel" "isLong" "Z") ∈ tbG := tbp_5 111 rfl rfl
theorem w_1172 : (Jvm.Cond.fieldLink "LineEndsModel" (199 : Nat) "LineEndsModel" "taken" "I") ∈ tbG := tbp_5 112 rfl rfl
theorem w_1173 : (Jvm.Cond.fieldLink "LineEndsModel" (202 : Nat) "LineEndsModel" "given" "I") ∈ tbG := tbp_5 113 rfl rfl
theorem w_1174 : (Jvm.Cond.fieldLink "LineEndsModel" (205 : Nat) "LineEndsModel" "left" "I") ∈ tbG := tbp_5 114 rfl rfl
theorem w_1175 : (Jvm.Cond.fieldLink "LineEndsModel" (208 : Nat) "LineEndsModel" "costs" "I") ∈ tbG := tbp_5 115 rfl rfl
theorem w_1176 : (Jvm.Cond.fieldLink "LineEndsModel" (45 : Nat) "LineEndsModel" "lineCost" "[I") ∈ tbG := tbp_5 116 rfl rfl
theorem w_1177 : (Jvm.Cond.fieldLink "LineEndsModel" (48 : Nat) "LineEndsModel" "bestCost" "[I") ∈ tbG := tbp_5 117 rfl rfl
theorem w_1178 : (Jvm.Cond.fieldLink "LineEndsModel" (51 : Nat) "LineEndsModel" "bestLines" "[I") ∈ tbG := tbp_5 118 rfl rfl
theorem w_1179 : (Jvm.Cond.fieldLink "LineEndsModel" (54 : Nat) "LineEndsModel" "bestTo" "[I") ∈ tbG := tbp_5 119 rfl rfl
theorem w_1180 : (Jvm.Cond.fieldLink "LineEndsModel" (57 : Nat) "LineEndsModel" "greatest" "[I") ∈ tbG := tbp_5 120 rfl rfl
theorem w_1181 : (Jvm.Cond.fieldLink "LineEndsModel" (60 : Nat) "LineEndsModel" "ends" "[I") ∈ tbG := tbp_5 121 rfl rfl
theorem w_1182 : (Jvm.Cond.fieldLink "LineEndsModel" (246 : Nat) "LineEndsModel" "lines" "I") ∈ tbG := tbp_5 122 rfl rfl
theorem w_1183 : (Jvm.Cond.fieldLink "LineEndsModel" (63 : Nat) "LineEndsModel" "took" "[I") ∈ tbG := tbp_5 123 rfl rfl
theorem w_1184 : (Jvm.Cond.fieldLink "LineEndsModel" (66 : Nat) "LineEndsModel" "put" "[I") ∈ tbG := tbp_5 124 rfl rfl
theorem w_1185 : (Jvm.Cond.fieldLink "LineEndsModel" (69 : Nat) "LineEndsModel" "put0" "[I") ∈ tbG := tbp_5 125 rfl rfl
theorem w_1186 : (Jvm.Cond.fieldLink "LineEndsModel" (72 : Nat) "LineEndsModel" "flows" "[I") ∈ tbG := tbp_5 126 rfl rfl
theorem w_1187 : (Jvm.Cond.fieldLink "LineEndsModel" (75 : Nat) "LineEndsModel" "isGap" "[Z") ∈ tbG := tbp_5 127 rfl rfl
theorem w_1188 : (Jvm.Cond.fieldLink "LineEndsModel" (78 : Nat) "LineEndsModel" "text" "[I") ∈ tbG := tbp_5 128 rfl rfl
theorem w_1189 : (Jvm.Cond.fieldLink "LineEndsModel" (286 : Nat) "LineEndsModel" "textMany" "I") ∈ tbG := tbp_5 129 rfl rfl
theorem w_1190 : (Jvm.Cond.fieldLink "LineEndsModel" (81 : Nat) "LineEndsModel" "waysFrom" "[J") ∈ tbG := tbp_5 130 rfl rfl
theorem w_1191 : (Jvm.Cond.fieldLink "LineEndsModel" (85 : Nat) "LineEndsModel" "fewestFrom" "[I") ∈ tbG := tbp_5 131 rfl rfl
theorem w_1192 : (Jvm.Cond.fieldLink "LineEndsModel" (88 : Nat) "LineEndsModel" "tape" "[I") ∈ tbG := tbp_5 132 rfl rfl
theorem w_1193 : (Jvm.Cond.fieldLink "LineEndsModel" (330 : Nat) "LineEndsModel" "taped" "I") ∈ tbG := tbp_5 133 rfl rfl
theorem w_1194 : (Jvm.Cond.fieldLink "LineEndsModel" (91 : Nat) "LineEndsModel" "words" "[B") ∈ tbG := tbp_5 134 rfl rfl
theorem w_1195 : (Jvm.Cond.fieldLink "LineEndsModel" (342 : Nat) "LineEndsModel" "spot" "I") ∈ tbG := tbp_5 135 rfl rfl
theorem w_1196 : (Jvm.Cond.fieldLink "LineEndsModel" (345 : Nat) "LineEndsModel" "token" "I") ∈ tbG := tbp_5 136 rfl rfl
theorem w_1197 : (Jvm.Cond.fieldLink "LineEndsModel" (351 : Nat) "LineEndsModel" "begun" "I") ∈ tbG := tbp_5 137 rfl rfl
theorem w_1198 : (Jvm.Cond.fieldLink "LineEndsModel" (354 : Nat) "LineEndsModel" "number" "I") ∈ tbG := tbp_5 138 rfl rfl
theorem w_1199 : (Jvm.Cond.fieldLink "LineEndsModel" (357 : Nat) "LineEndsModel" "wrong" "Z") ∈ tbG := tbp_5 139 rfl rfl
theorem w_1200 : (Jvm.Cond.fieldLink "LineEndsModel" (95 : Nat) "LineEndsModel" "readWide" "[I") ∈ tbG := tbp_5 140 rfl rfl
theorem w_1201 : (Jvm.Cond.fieldLink "LineEndsModel" (98 : Nat) "LineEndsModel" "readHangs" "[Z") ∈ tbG := tbp_5 141 rfl rfl
theorem w_1202 : (Jvm.Cond.fieldLink "LineEndsModel" (101 : Nat) "LineEndsModel" "readTrim" "[I") ∈ tbG := tbp_5 142 rfl rfl
theorem w_1203 : (Jvm.Cond.fieldLink "LineEndsModel" (104 : Nat) "LineEndsModel" "readSqueeze" "[I") ∈ tbG := tbp_5 143 rfl rfl
theorem w_1204 : (Jvm.Cond.fieldLink "LineEndsModel" (107 : Nat) "LineEndsModel" "readSqueezeRank" "[I") ∈ tbG := tbp_5 144 rfl rfl
theorem w_1205 : (Jvm.Cond.fieldLink "LineEndsModel" (110 : Nat) "LineEndsModel" "readOpens" "[I") ∈ tbG := tbp_5 145 rfl rfl
theorem w_1206 : (Jvm.Cond.fieldLink "LineEndsModel" (113 : Nat) "LineEndsModel" "readOpensRank" "[I") ∈ tbG := tbp_5 146 rfl rfl
theorem w_1207 : (Jvm.Cond.fieldLink "LineEndsModel" (116 : Nat) "LineEndsModel" "readPair" "[I") ∈ tbG := tbp_5 147 rfl rfl
theorem w_1208 : (Jvm.Cond.fieldLink "LineEndsModel" (119 : Nat) "LineEndsModel" "readShy" "[I") ∈ tbG := tbp_5 148 rfl rfl
theorem w_1209 : (Jvm.Cond.fieldLink "LineEndsModel" (372 : Nat) "LineEndsModel" "readClasses" "I") ∈ tbG := tbp_5 149 rfl rfl
theorem w_1210 : (Jvm.Cond.fieldLink "LineEndsModel" (393 : Nat) "LineEndsModel" "readPairs" "I") ∈ tbG := tbp_5 150 rfl rfl
theorem w_1211 : (Jvm.Cond.fieldLink "LineEndsModel" (122 : Nat) "LineEndsModel" "row" "[I") ∈ tbG := tbp_5 151 rfl rfl
theorem w_1323 : (Jvm.Cond.methodLink "LineEndsLaw" (36 : Nat) ({ cls := "LineEndsModel", name := "insert", desc := "(II)Z" } : Jvm.MethodName)) ∈ tbG := tbp_6 23 rfl rfl
theorem w_1324 : (Jvm.Cond.instanceMethod ({ cls := "LineEndsModel", name := "insert", desc := "(II)Z" } : Jvm.MethodName)) ∈ tbG := tbp_6 24 rfl rfl
theorem w_1325 : (Jvm.Cond.selects "LineEndsModel" ({ cls := "LineEndsModel", name := "insert", desc := "(II)Z" } : Jvm.MethodName) ({ cls := "LineEndsModel", name := "insert", desc := "(II)Z" } : Jvm.MethodName)) ∈ tbG := tbp_6 25 rfl rfl
theorem w_1326 : (Jvm.Cond.code ({ cls := "LineEndsModel", name := "insert", desc := "(II)Z" } : Jvm.MethodName) prog_12_method_19_code (3 : Nat) (Option.some Jvm.ClassFile.FieldType.boolean)) ∈ tbG := tbp_6 26 rfl rfl
theorem w_1327 : (Jvm.Cond.methodLink "LineEndsModel" (132 : Nat) ({ cls := "LineEndsModel", name := "many", desc := "()I" } : Jvm.MethodName)) ∈ tbG := tbp_6 27 rfl rfl
theorem w_1329 : (Jvm.Cond.instanceMethod ({ cls := "LineEndsModel", name := "many", desc := "()I" } : Jvm.MethodName)) ∈ tbG := tbp_6 29 rfl rfl
theorem w_1330 : (Jvm.Cond.code ({ cls := "LineEndsModel", name := "many", desc := "()I" } : Jvm.MethodName) prog_12_method_10_code (1 : Nat) (Option.some Jvm.ClassFile.FieldType.int)) ∈ tbG := tbp_6 30 rfl rfl
theorem w_1331 : (Jvm.Cond.methodLink "LineEndsModel" (125 : Nat) ({ cls := "LineEndsModel", name := "in", desc := "(III)Z" } : Jvm.MethodName)) ∈ tbG := tbp_6 31 rfl rfl
theorem w_1332 : (Jvm.Cond.static ({ cls := "LineEndsModel", name := "in", desc := "(III)Z" } : Jvm.MethodName)) ∈ tbG := tbp_6 32 rfl rfl
theorem w_1333 : (Jvm.Cond.code ({ cls := "LineEndsModel", name := "in", desc := "(III)Z" } : Jvm.MethodName) prog_12_method_3_code (3 : Nat) (Option.some Jvm.ClassFile.FieldType.boolean)) ∈ tbG := tbp_6 33 rfl rfl
theorem w_1334 : (Jvm.Cond.methodLink "LineEndsModel" (151 : Nat) ({ cls := "LineEndsModel", name := "isTold", desc := "(I)Z" } : Jvm.MethodName)) ∈ tbG := tbp_6 34 rfl rfl
theorem w_1336 : (Jvm.Cond.instanceMethod ({ cls := "LineEndsModel", name := "isTold", desc := "(I)Z" } : Jvm.MethodName)) ∈ tbG := tbp_6 36 rfl rfl
theorem w_1337 : (Jvm.Cond.code ({ cls := "LineEndsModel", name := "isTold", desc := "(I)Z" } : Jvm.MethodName) prog_12_method_6_code (2 : Nat) (Option.some Jvm.ClassFile.FieldType.boolean)) ∈ tbG := tbp_6 37 rfl rfl
theorem w_1338 : (Jvm.Cond.methodLink "LineEndsModel" (155 : Nat) ({ cls := "LineEndsModel", name := "keeps", desc := "()V" } : Jvm.MethodName)) ∈ tbG := tbp_6 38 rfl rfl
theorem w_1340 : (Jvm.Cond.instanceMethod ({ cls := "LineEndsModel", name := "keeps", desc := "()V" } : Jvm.MethodName)) ∈ tbG := tbp_6 40 rfl rfl
theorem w_1341 : (Jvm.Cond.code ({ cls := "LineEndsModel", name := "keeps", desc := "()V" } : Jvm.MethodName) prog_12_method_7_code (2 : Nat) (Option.none : Option Jvm.ClassFile.FieldType)) ∈ tbG := tbp_6 41 rfl rfl
theorem w_1342 : (Jvm.Cond.methodLink "LineEndsModel" (158 : Nat) ({ cls := "LineEndsModel", name := "moves", desc := "(II)V" } : Jvm.MethodName)) ∈ tbG := tbp_6 42 rfl rfl
theorem w_1344 : (Jvm.Cond.instanceMethod ({ cls := "LineEndsModel", name := "moves", desc := "(II)V" } : Jvm.MethodName)) ∈ tbG := tbp_6 44 rfl rfl
theorem w_1345 : (Jvm.Cond.code ({ cls := "LineEndsModel", name := "moves", desc := "(II)V" } : Jvm.MethodName) prog_12_method_17_code (4 : Nat) (Option.none : Option Jvm.ClassFile.FieldType)) ∈ tbG := tbp_6 45 rfl rfl
theorem w_1346 : (Jvm.Cond.methodLink "LineEndsModel" (147 : Nat) ({ cls := "LineEndsModel", name := "copies", desc := "(II)V" } : Jvm.MethodName)) ∈ tbG := tbp_6 46 rfl rfl
theorem w_1348 : (Jvm.Cond.instanceMethod ({ cls := "LineEndsModel", name := "copies", desc := "(II)V" } : Jvm.MethodName)) ∈ tbG := tbp_6 48 rfl rfl
theorem w_1349 : (Jvm.Cond.code ({ cls := "LineEndsModel", name := "copies", desc := "(II)V" } : Jvm.MethodName) prog_12_method_18_code (3 : Nat) (Option.none : Option Jvm.ClassFile.FieldType)) ∈ tbG := tbp_6 49 rfl rfl
theorem w_1350 : (Jvm.Cond.methodLink "LineEndsLaw" (40 : Nat) ({ cls := "LineEndsModel", name := "delete", desc := "(II)Z" } : Jvm.MethodName)) ∈ tbG := tbp_6 50 rfl rfl
theorem w_1351 : (Jvm.Cond.instanceMethod ({ cls := "LineEndsModel", name := "delete", desc := "(II)Z" } : Jvm.MethodName)) ∈ tbG := tbp_6 51 rfl rfl
theorem w_1352 : (Jvm.Cond.selects "LineEndsModel" ({ cls := "LineEndsModel", name := "delete", desc := "(II)Z" } : Jvm.MethodName) ({ cls := "LineEndsModel", name := "delete", desc := "(II)Z" } : Jvm.MethodName)) ∈ tbG := tbp_6 52 rfl rfl
theorem w_1353 : (Jvm.Cond.code ({ cls := "LineEndsModel", name := "delete", desc := "(II)Z" } : Jvm.MethodName) prog_12_method_21_code (3 : Nat) (Option.some Jvm.ClassFile.FieldType.boolean)) ∈ tbG := tbp_6 53 rfl rfl
theorem w_1354 : (Jvm.Cond.methodLink "LineEndsModel" (161 : Nat) ({ cls := "LineEndsModel", name := "isSign", desc := "(I)Z" } : Jvm.MethodName)) ∈ tbG := tbp_6 54 rfl rfl
theorem w_1356 : (Jvm.Cond.instanceMethod ({ cls := "LineEndsModel", name := "isSign", desc := "(I)Z" } : Jvm.MethodName)) ∈ tbG := tbp_6 56 rfl rfl
theorem w_1357 : (Jvm.Cond.code ({ cls := "LineEndsModel", name := "isSign", desc := "(I)Z" } : Jvm.MethodName) prog_12_method_11_code (2 : Nat) (Option.some Jvm.ClassFile.FieldType.boolean)) ∈ tbG := tbp_6 57 rfl rfl
theorem w_1358 : (Jvm.Cond.methodLink "LineEndsModel" (164 : Nat) ({ cls := "LineEndsModel", name := "drops", desc := "(II)V" } : Jvm.MethodName)) ∈ tbG := tbp_6 58 rfl rfl
theorem w_1360 : (Jvm.Cond.instanceMethod ({ cls := "LineEndsModel", name := "drops", desc := "(II)V" } : Jvm.MethodName)) ∈ tbG := tbp_6 60 rfl rfl
theorem w_1361 : (Jvm.Cond.code ({ cls := "LineEndsModel", name := "drops", desc := "(II)V" } : Jvm.MethodName) prog_12_method_20_code (3 : Nat) (Option.none : Option Jvm.ClassFile.FieldType)) ∈ tbG := tbp_6 61 rfl rfl
theorem w_1362 : (Jvm.Cond.methodLink "LineEndsLaw" (45 : Nat) ({ cls := "LineEndsModel", name := "change", desc := "(II)I" } : Jvm.MethodName)) ∈ tbG := tbp_6 62 rfl rfl
theorem w_1363 : (Jvm.Cond.instanceMethod ({ cls := "LineEndsModel", name := "change", desc := "(II)I" } : Jvm.MethodName)) ∈ tbG := tbp_6 63 rfl rfl
theorem w_1364 : (Jvm.Cond.selects "LineEndsModel" ({ cls := "LineEndsModel", name := "change", desc := "(II)I" } : Jvm.MethodName) ({ cls := "LineEndsModel", name := "change", desc := "(II)I" } : Jvm.MethodName)) ∈ tbG := tbp_6 64 rfl rfl
theorem w_1365 : (Jvm.Cond.code ({ cls := "LineEndsModel", name := "change", desc := "(II)I" } : Jvm.MethodName) prog_12_method_22_code (4 : Nat) (Option.some Jvm.ClassFile.FieldType.int)) ∈ tbG := tbp_6 65 rfl rfl
theorem w_1366 : (Jvm.Cond.methodLink "LineEndsModel" (144 : Nat) ({ cls := "LineEndsModel", name := "classOf", desc := "(I)I" } : Jvm.MethodName)) ∈ tbG := tbp_6 66 rfl rfl
theorem w_1368 : (Jvm.Cond.instanceMethod ({ cls := "LineEndsModel", name := "classOf", desc := "(I)I" } : Jvm.MethodName)) ∈ tbG := tbp_6 68 rfl rfl
theorem w_1369 : (Jvm.Cond.code ({ cls := "LineEndsModel", name := "classOf", desc := "(I)I" } : Jvm.MethodName) prog_12_method_12_code (2 : Nat) (Option.some Jvm.ClassFile.FieldType.int)) ∈ tbG := tbp_6 69 rfl rfl
theorem w_1370 : (Jvm.Cond.methodLink "LineEndsLaw" (50 : Nat) ({ cls := "LineEndsModel", name := "shift", desc := "(III)Z" } : Jvm.MethodName)) ∈ tbG := tbp_6 70 rfl rfl
theorem w_1371 : (Jvm.Cond.instanceMethod ({ cls := "LineEndsModel", name := "shift", desc := "(III)Z" } : Jvm.MethodName)) ∈ tbG := tbp_6 71 rfl rfl
theorem w_1372 : (Jvm.Cond.selects "LineEndsModel" ({ cls := "LineEndsModel", name := "shift", desc := "(III)Z" } : Jvm.MethodName) ({ cls := "LineEndsModel", name := "shift", desc := "(III)Z" } : Jvm.MethodName)) ∈ tbG := tbp_6 72 rfl rfl
theorem w_1373 : (Jvm.Cond.code ({ cls := "LineEndsModel", name := "shift", desc := "(III)Z" } : Jvm.MethodName) prog_12_method_23_code (5 : Nat) (Option.some Jvm.ClassFile.FieldType.boolean)) ∈ tbG := tbp_6 73 rfl rfl
theorem w_1374 : (Jvm.Cond.methodLink "LineEndsModel" (167 : Nat) ({ cls := "LineEndsModel", name := "putsAside", desc := "()V" } : Jvm.MethodName)) ∈ tbG := tbp_6 74 rfl rfl
theorem w_1376 : (Jvm.Cond.instanceMethod ({ cls := "LineEndsModel", name := "putsAside", desc := "()V" } : Jvm.MethodName)) ∈ tbG := tbp_6 76 rfl rfl
theorem w_1377 : (Jvm.Cond.code ({ cls := "LineEndsModel", name := "putsAside", desc := "()V" } : Jvm.MethodName) prog_12_method_8_code (2 : Nat) (Option.none : Option Jvm.ClassFile.FieldType)) ∈ tbG := tbp_6 77 rfl rfl
theorem w_1378 : (Jvm.Cond.methodLink "LineEndsLaw" (54 : Nat) ({ cls := "LineEndsModel", name := "replace", desc := "(II)I" } : Jvm.MethodName)) ∈ tbG := tbp_6 78 rfl rfl
theorem w_1379 : (Jvm.Cond.instanceMethod ({ cls := "LineEndsModel", name := "replace", desc := "(II)I" } : Jvm.MethodName)) ∈ tbG := tbp_6 79 rfl rfl
theorem w_1380 : (Jvm.Cond.selects "LineEndsModel" ({ cls := "LineEndsModel", name := "replace", desc := "(II)I" } : Jvm.MethodName) ({ cls := "LineEndsModel", name := "replace", desc := "(II)I" } : Jvm.MethodName)) ∈ tbG := tbp_6 80 rfl rfl
theorem w_1381 : (Jvm.Cond.code ({ cls := "LineEndsModel", name := "replace", desc := "(II)I" } : Jvm.MethodName) prog_12_method_24_code (5 : Nat) (Option.some Jvm.ClassFile.FieldType.int)) ∈ tbG := tbp_6 81 rfl rfl
theorem w_1382 : (Jvm.Cond.methodLink "LineEndsModel" (170 : Nat) ({ cls := "LineEndsModel", name := "signsLike", desc := "(I)I" } : Jvm.MethodName)) ∈ tbG := tbp_6 82 rfl rfl
theorem w_1384 : (Jvm.Cond.instanceMethod ({ cls := "LineEndsModel", name := "signsLike", desc := "(I)I" } : Jvm.MethodName)) ∈ tbG := tbp_6 84 rfl rfl
theorem w_1385 : (Jvm.Cond.code ({ cls := "LineEndsModel", name := "signsLike", desc := "(I)I" } : Jvm.MethodName) prog_12_method_16_code (4 : Nat) (Option.some Jvm.ClassFile.FieldType.int)) ∈ tbG := tbp_6 85 rfl rfl
theorem w_1386 : (Jvm.Cond.methodLink "LineEndsLaw" (58 : Nat) ({ cls := "LineEndsModel", name := "mark", desc := "(II)I" } : Jvm.MethodName)) ∈ tbG := tbp_6 86 rfl rfl
theorem w_1387 : (Jvm.Cond.instanceMethod ({ cls := "LineEndsModel", name := "mark", desc := "(II)I" } : Jvm.MethodName)) ∈ tbG := tbp_6 87 rfl rfl
theorem w_1388 : (Jvm.Cond.selects "LineEndsModel" ({ cls := "LineEndsModel", name := "mark", desc := "(II)I" } : Jvm.MethodName) ({ cls := "LineEndsModel", name := "mark", desc := "(II)I" } : Jvm.MethodName)) ∈ tbG := tbp_6 88 rfl rfl
theorem w_1389 : (Jvm.Cond.code ({ cls := "LineEndsModel", name := "mark", desc := "(II)I" } : Jvm.MethodName) prog_12_method_26_code (3 : Nat) (Option.some Jvm.ClassFile.FieldType.int)) ∈ tbG := tbp_6 89 rfl rfl
theorem w_1390 : (Jvm.Cond.methodLink "LineEndsModel" (173 : Nat) ({ cls := "LineEndsModel", name := "markOf", desc := "(I)I" } : Jvm.MethodName)) ∈ tbG := tbp_6 90 rfl rfl
theorem w_1392 : (Jvm.Cond.instanceMethod ({ cls := "LineEndsModel", name := "markOf", desc := "(I)I" } : Jvm.MethodName)) ∈ tbG := tbp_6 92 rfl rfl
theorem w_1393 : (Jvm.Cond.code ({ cls := "LineEndsModel", name := "markOf", desc := "(I)I" } : Jvm.MethodName) prog_12_method_13_code (2 : Nat) (Option.some Jvm.ClassFile.FieldType.int)) ∈ tbG := tbp_6 93 rfl rfl
theorem w_1394 : (Jvm.Cond.methodLink "LineEndsModel" (176 : Nat) ({ cls := "LineEndsModel", name := "becomes", desc := "(II)I" } : Jvm.MethodName)) ∈ tbG := tbp_6 94 rfl rfl
theorem w_1396 : (Jvm.Cond.instanceMethod ({ cls := "LineEndsModel", name := "becomes", desc := "(II)I" } : Jvm.MethodName)) ∈ tbG := tbp_6 96 rfl rfl
theorem w_1397 : (Jvm.Cond.code ({ cls := "LineEndsModel", name := "becomes", desc := "(II)I" } : Jvm.MethodName) prog_12_method_25_code (4 : Nat) (Option.some Jvm.ClassFile.FieldType.int)) ∈ tbG := tbp_6 97 rfl rfl
theorem w_1398 : (Jvm.Cond.methodLink "LineEndsLaw" (62 : Nat) ({ cls := "LineEndsModel", name := "width", desc := "(I)I" } : Jvm.MethodName)) ∈ tbG := tbp_6 98 rfl rfl
theorem w_1399 : (Jvm.Cond.instanceMethod ({ cls := "LineEndsModel", name := "width", desc := "(I)I" } : Jvm.MethodName)) ∈ tbG := tbp_6 99 rfl rfl
theorem w_1400 : (Jvm.Cond.selects "LineEndsModel" ({ cls := "LineEndsModel", name := "width", desc := "(I)I" } : Jvm.MethodName) ({ cls := "LineEndsModel", name := "width", desc := "(I)I" } : Jvm.MethodName)) ∈ tbG := tbp_6 100 rfl rfl
theorem w_1401 : (Jvm.Cond.code ({ cls := "LineEndsModel", name := "width", desc := "(I)I" } : Jvm.MethodName) prog_12_method_27_code (2 : Nat) (Option.some Jvm.ClassFile.FieldType.int)) ∈ tbG := tbp_6 101 rfl rfl
theorem w_1402 : (Jvm.Cond.methodLink "LineEndsLaw" (66 : Nat) ({ cls := "LineEndsModel", name := "pair", desc := "(II)I" } : Jvm.MethodName)) ∈ tbG := tbp_6 102 rfl rfl
theorem w_1403 : (Jvm.Cond.instanceMethod ({ cls := "LineEndsModel", name := "pair", desc := "(II)I" } : Jvm.MethodName)) ∈ tbG := tbp_6 103 rfl rfl
theorem w_1404 : (Jvm.Cond.selects "LineEndsModel" ({ cls := "LineEndsModel", name := "pair", desc := "(II)I" } : Jvm.MethodName) ({ cls := "LineEndsModel", name := "pair", desc := "(II)I" } : Jvm.MethodName)) ∈ tbG := tbp_6 104 rfl rfl
theorem w_1405 : (Jvm.Cond.code ({ cls := "LineEndsModel", name := "pair", desc := "(II)I" } : Jvm.MethodName) prog_12_method_28_code (3 : Nat) (Option.some Jvm.ClassFile.FieldType.int)) ∈ tbG := tbp_6 105 rfl rfl
theorem w_1406 : (Jvm.Cond.methodLink "LineEndsModel" (180 : Nat) ({ cls := "LineEndsModel", name := "arePair", desc := "(II)Z" } : Jvm.MethodName)) ∈ tbG := tbp_6 106 rfl rfl
theorem w_1408 : (Jvm.Cond.instanceMethod ({ cls := "LineEndsModel", name := "arePair", desc := "(II)Z" } : Jvm.MethodName)) ∈ tbG := tbp_6 108 rfl rfl
theorem w_1409 : (Jvm.Cond.code ({ cls := "LineEndsModel", name := "arePair", desc := "(II)Z" } : Jvm.MethodName) prog_12_method_14_code (3 : Nat) (Option.some Jvm.ClassFile.FieldType.boolean)) ∈ tbG := tbp_6 109 rfl rfl
theorem w_1410 : (Jvm.Cond.methodLink "LineEndsModel" (136 : Nat) ({ cls := "LineEndsModel", name := "isIn", desc := "(II)Z" } : Jvm.MethodName)) ∈ tbG := tbp_6 110 rfl rfl
theorem w_1411 : (Jvm.Cond.static ({ cls := "LineEndsModel", name := "isIn", desc := "(II)Z" } : Jvm.MethodName)) ∈ tbG := tbp_6 111 rfl rfl
theorem w_1412 : (Jvm.Cond.code ({ cls := "LineEndsModel", name := "isIn", desc := "(II)Z" } : Jvm.MethodName) prog_12_method_4_code (2 : Nat) (Option.some Jvm.ClassFile.FieldType.boolean)) ∈ tbG := tbp_6 112 rfl rfl
theorem w_1413 : (Jvm.Cond.methodLink "LineEndsModel" (183 : Nat) ({ cls := "LineEndsModel", name := "pairs", desc := "()I" } : Jvm.MethodName)) ∈ tbG := tbp_6 113 rfl rfl
theorem w_1415 : (Jvm.Cond.instanceMethod ({ cls := "LineEndsModel", name := "pairs", desc := "()I" } : Jvm.MethodName)) ∈ tbG := tbp_6 115 rfl rfl
theorem w_1416 : (Jvm.Cond.code ({ cls := "LineEndsModel", name := "pairs", desc := "()I" } : Jvm.MethodName) prog_12_method_15_code (3 : Nat) (Option.some Jvm.ClassFile.FieldType.int)) ∈ tbG := tbp_6 116 rfl rfl
theorem w_1417 : (Jvm.Cond.methodLink "LineEndsModel" (140 : Nat) ({ cls := "LineEndsModel", name := "bitsOf", desc := "(I)I" } : Jvm.MethodName)) ∈ tbG := tbp_6 117 rfl rfl
theorem w_1418 : (Jvm.Cond.static ({ cls := "LineEndsModel", name := "bitsOf", desc := "(I)I" } : Jvm.MethodName)) ∈ tbG := tbp_6 118 rfl rfl
theorem w_1419 : (Jvm.Cond.code ({ cls := "LineEndsModel", name := "bitsOf", desc := "(I)I" } : Jvm.MethodName) prog_12_method_5_code (3 : Nat) (Option.some Jvm.ClassFile.FieldType.int)) ∈ tbG := tbp_6 119 rfl rfl
theorem w_1420 : (Jvm.Cond.methodLink "LineEndsLaw" (71 : Nat) ({ cls := "LineEndsModel", name := "shy", desc := "(IZ)I" } : Jvm.MethodName)) ∈ tbG := tbp_6 120 rfl rfl
theorem w_1421 : (Jvm.Cond.instanceMethod ({ cls := "LineEndsModel", name := "shy", desc := "(IZ)I" } : Jvm.MethodName)) ∈ tbG := tbp_6 121 rfl rfl
theorem w_1422 : (Jvm.Cond.selects "LineEndsModel" ({ cls := "LineEndsModel", name := "shy", desc := "(IZ)I" } : Jvm.MethodName) ({ cls := "LineEndsModel", name := "shy", desc := "(IZ)I" } : Jvm.MethodName)) ∈ tbG := tbp_6 122 rfl rfl
theorem w_1423 : (Jvm.Cond.code ({ cls := "LineEndsModel", name := "shy", desc := "(IZ)I" } : Jvm.MethodName) prog_12_method_29_code (4 : Nat) (Option.some Jvm.ClassFile.FieldType.int)) ∈ tbG := tbp_6 123 rfl rfl
theorem w_1424 : (Jvm.Cond.methodLink "LineEndsLaw" (75 : Nat) ({ cls := "LineEndsModel", name := "weigh", desc := "(II)I" } : Jvm.MethodName)) ∈ tbG := tbp_6 124 rfl rfl
theorem w_1425 : (Jvm.Cond.instanceMethod ({ cls := "LineEndsModel", name := "weigh", desc := "(II)I" } : Jvm.MethodName)) ∈ tbG := tbp_6 125 rfl rfl
theorem w_1426 : (Jvm.Cond.selects "LineEndsModel" ({ cls := "LineEndsModel", name := "weigh", desc := "(II)I" } : Jvm.MethodName) ({ cls := "LineEndsModel", name := "weigh", desc := "(II)I" } : Jvm.MethodName)) ∈ tbG := tbp_6 126 rfl rfl
theorem w_1427 : (Jvm.Cond.code ({ cls := "LineEndsModel", name := "weigh", desc := "(II)I" } : Jvm.MethodName) prog_12_method_32_code (3 : Nat) (Option.some Jvm.ClassFile.FieldType.int)) ∈ tbG := tbp_6 127 rfl rfl
theorem w_1428 : (Jvm.Cond.methodLink "LineEndsModel" (186 : Nat) ({ cls := "LineEndsModel", name := "leastWeight", desc := "(I)I" } : Jvm.MethodName)) ∈ tbG := tbp_6 128 rfl rfl
theorem w_1429 : (Jvm.Cond.static ({ cls := "LineEndsModel", name := "leastWeight", desc := "(I)I" } : Jvm.MethodName)) ∈ tbG := tbp_6 129 rfl rfl
theorem w_1430 : (Jvm.Cond.code ({ cls := "LineEndsModel", name := "leastWeight", desc := "(I)I" } : Jvm.MethodName) prog_12_method_30_code (1 : Nat) (Option.some Jvm.ClassFile.FieldType.int)) ∈ tbG := tbp_6 130 rfl rfl
theorem w_1431 : (Jvm.Cond.methodLink "LineEndsModel" (189 : Nat) ({ cls := "LineEndsModel", name := "mostWeight", desc := "(I)I" } : Jvm.MethodName)) ∈ tbG := tbp_6 131 rfl rfl
theorem w_1432 : (Jvm.Cond.static ({ cls := "LineEndsModel", name := "mostWeight", desc := "(I)I" } : Jvm.MethodName)) ∈ tbG := tbp_6 132 rfl rfl
theorem w_1433 : (Jvm.Cond.code ({ cls := "LineEndsModel", name := "mostWeight", desc := "(I)I" } : Jvm.MethodName) prog_12_method_31_code (1 : Nat) (Option.some Jvm.ClassFile.FieldType.int)) ∈ tbG := tbp_6 133 rfl rfl
theorem w_1434 : (Jvm.Cond.methodLink "LineEndsLaw" (79 : Nat) ({ cls := "LineEndsModel", name := "undo", desc := "()I" } : Jvm.MethodName)) ∈ tbG := tbp_6 134 rfl rfl
theorem w_1435 : (Jvm.Cond.instanceMethod ({ cls := "LineEndsModel", name := "undo", desc := "()I" } : Jvm.MethodName)) ∈ tbG := tbp_6 135 rfl rfl
theorem w_1436 : (Jvm.Cond.selects "LineEndsModel" ({ cls := "LineEndsModel", name := "undo", desc := "()I" } : Jvm.MethodName) ({ cls := "LineEndsModel", name := "undo", desc := "()I" } : Jvm.MethodName)) ∈ tbG := tbp_6 136 rfl rfl
theorem w_1437 : (Jvm.Cond.code ({ cls := "LineEndsModel", name := "undo", desc := "()I" } : Jvm.MethodName) prog_12_method_33_code (2 : Nat) (Option.some Jvm.ClassFile.FieldType.int)) ∈ tbG := tbp_6 137 rfl rfl
theorem w_1438 : (Jvm.Cond.methodLink "LineEndsLaw" (83 : Nat) ({ cls := "LineEndsModel", name := "of", desc := "(II)I" } : Jvm.MethodName)) ∈ tbG := tbp_6 138 rfl rfl
theorem w_1439 : (Jvm.Cond.instanceMethod ({ cls := "LineEndsModel", name := "of", desc := "(II)I" } : Jvm.MethodName)) ∈ tbG := tbp_6 139 rfl rfl
theorem w_1440 : (Jvm.Cond.selects "LineEndsModel" ({ cls := "LineEndsModel", name := "of", desc := "(II)I" } : Jvm.MethodName) ({ cls := "LineEndsModel", name := "of", desc := "(II)I" } : Jvm.MethodName)) ∈ tbG := tbp_6 140 rfl rfl
theorem w_1441 : (Jvm.Cond.code ({ cls := "LineEndsModel", name := "of", desc := "(II)I" } : Jvm.MethodName) prog_12_method_54_code (3 : Nat) (Option.some Jvm.ClassFile.FieldType.int)) ∈ tbG := tbp_6 141 rfl rfl
theorem w_1442 : (Jvm.Cond.methodLink "LineEndsLaw" (87 : Nat) ({ cls := "LineEndsModel", name := "isPair", desc := "(II)I" } : Jvm.MethodName)) ∈ tbG := tbp_6 142 rfl rfl
theorem w_1443 : (Jvm.Cond.instanceMethod ({ cls := "LineEndsModel", name := "isPair", desc := "(II)I" } : Jvm.MethodName)) ∈ tbG := tbp_6 143 rfl rfl
theorem w_1444 : (Jvm.Cond.selects "LineEndsModel" ({ cls := "LineEndsModel", name := "isPair", desc := "(II)I" } : Jvm.MethodName) ({ cls := "LineEndsModel", name := "isPair", desc := "(II)I" } : Jvm.MethodName)) ∈ tbG := tbp_6 144 rfl rfl
theorem w_1445 : (Jvm.Cond.code ({ cls := "LineEndsModel", name := "isPair", desc := "(II)I" } : Jvm.MethodName) prog_12_method_55_code (3 : Nat) (Option.some Jvm.ClassFile.FieldType.int)) ∈ tbG := tbp_6 145 rfl rfl
theorem w_1446 : (Jvm.Cond.methodLink "LineEndsLaw" (95 : Nat) ({ cls := "LineEndsModel", name := "marked", desc := "(I)I" } : Jvm.MethodName)) ∈ tbG := tbp_6 146 rfl rfl
theorem w_1447 : (Jvm.Cond.instanceMethod ({ cls := "LineEndsModel", name := "marked", desc := "(I)I" } : Jvm.MethodName)) ∈ tbG := tbp_6 147 rfl rfl
theorem w_1448 : (Jvm.Cond.selects "LineEndsModel" ({ cls := "LineEndsModel", name := "marked", desc := "(I)I" } : Jvm.MethodName) ({ cls := "LineEndsModel", name := "marked", desc := "(I)I" } : Jvm.MethodName)) ∈ tbG := tbp_6 148 rfl rfl
theorem w_1449 : (Jvm.Cond.code ({ cls := "LineEndsModel", name := "marked", desc := "(I)I" } : Jvm.MethodName) prog_12_method_56_code (2 : Nat) (Option.some Jvm.ClassFile.FieldType.int)) ∈ tbG := tbp_6 149 rfl rfl
theorem w_1450 : (Jvm.Cond.methodLink "LineEndsLaw" (99 : Nat) ({ cls := "LineEndsModel", name := "sign", desc := "(I)I" } : Jvm.MethodName)) ∈ tbG := tbp_6 150 rfl rfl
theorem w_1451 : (Jvm.Cond.instanceMethod ({ cls := "LineEndsModel", name := "sign", desc := "(I)I" } : Jvm.MethodName)) ∈ tbG := tbp_6 151 rfl rfl
theorem w_1452 : (Jvm.Cond.selects "LineEndsModel" ({ cls := "LineEndsModel", name := "sign", desc := "(I)I" } : Jvm.MethodName) ({ cls := "LineEndsModel", name := "sign", desc := "(I)I" } : Jvm.MethodName)) ∈ tbG := tbp_6 152 rfl rfl
theorem w_1453 : (Jvm.Cond.code ({ cls := "LineEndsModel", name := "sign", desc := "(I)I" } : Jvm.MethodName) prog_12_method_57_code (2 : Nat) (Option.some Jvm.ClassFile.FieldType.int)) ∈ tbG := tbp_6 153 rfl rfl
theorem w_1454 : (Jvm.Cond.methodLink "LineEndsLaw" (103 : Nat) ({ cls := "LineEndsModel", name := "legal", desc := "(I)I" } : Jvm.MethodName)) ∈ tbG := tbp_6 154 rfl rfl
theorem w_1455 : (Jvm.Cond.instanceMethod ({ cls := "LineEndsModel", name := "legal", desc := "(I)I" } : Jvm.MethodName)) ∈ tbG := tbp_6 155 rfl rfl
theorem w_1456 : (Jvm.Cond.selects "LineEndsModel" ({ cls := "LineEndsModel", name := "legal", desc := "(I)I" } : Jvm.MethodName) ({ cls := "LineEndsModel", name := "legal", desc := "(I)I" } : Jvm.MethodName)) ∈ tbG := tbp_6 156 rfl rfl
theorem w_1457 : (Jvm.Cond.code ({ cls := "LineEndsModel", name := "legal", desc := "(I)I" } : Jvm.MethodName) prog_12_method_58_code (2 : Nat) (Option.some Jvm.ClassFile.FieldType.int)) ∈ tbG := tbp_6 157 rfl rfl
theorem w_1458 : (Jvm.Cond.methodLink "LineEndsModel" (221 : Nat) ({ cls := "LineEndsModel", name := "isLegal", desc := "(I)Z" } : Jvm.MethodName)) ∈ tbG := tbp_6 158 rfl rfl
theorem w_1460 : (Jvm.Cond.instanceMethod ({ cls := "LineEndsModel", name := "isLegal", desc := "(I)Z" } : Jvm.MethodName)) ∈ tbG := tbp_6 160 rfl rfl
theorem w_1461 : (Jvm.Cond.code ({ cls := "LineEndsModel", name := "isLegal", desc := "(I)Z" } : Jvm.MethodName) prog_12_method_34_code (4 : Nat) (Option.some Jvm.ClassFile.FieldType.boolean)) ∈ tbG := tbp_6 161 rfl rfl
theorem w_1462 : (Jvm.Cond.methodLink "LineEndsLaw" (107 : Nat) ({ cls := "LineEndsModel", name := "natural", desc := "(II)I" } : Jvm.MethodName)) ∈ tbG := tbp_6 162 rfl rfl
theorem w_1463 : (Jvm.Cond.instanceMethod ({ cls := "LineEndsModel", name := "natural", desc := "(II)I" } : Jvm.MethodName)) ∈ tbG := tbp_6 163 rfl rfl
theorem w_1464 : (Jvm.Cond.selects "LineEndsModel" ({ cls := "LineEndsModel", name := "natural", desc := "(II)I" } : Jvm.MethodName) ({ cls := "LineEndsModel", name := "natural", desc := "(II)I" } : Jvm.MethodName)) ∈ tbG := tbp_6 164 rfl rfl
theorem w_1465 : (Jvm.Cond.code ({ cls := "LineEndsModel", name := "natural", desc := "(II)I" } : Jvm.MethodName) prog_12_method_59_code (3 : Nat) (Option.some Jvm.ClassFile.FieldType.int)) ∈ tbG := tbp_6 165 rfl rfl
theorem w_1466 : (Jvm.Cond.methodLink "LineEndsModel" (231 : Nat) ({ cls := "LineEndsModel", name := "looks", desc := "(II)V" } : Jvm.MethodName)) ∈ tbG := tbp_6 166 rfl rfl
theorem w_1468 : (Jvm.Cond.instanceMethod ({ cls := "LineEndsModel", name := "looks", desc := "(II)V" } : Jvm.MethodName)) ∈ tbG := tbp_6 168 rfl rfl
theorem w_1469 : (Jvm.Cond.code ({ cls := "LineEndsModel", name := "looks", desc := "(II)V" } : Jvm.MethodName) prog_12_method_36_code (6 : Nat) (Option.none : Option Jvm.ClassFile.FieldType)) ∈ tbG := tbp_6 169 rfl rfl
theorem w_1470 : (Jvm.Cond.methodLink "LineEndsModel" (214 : Nat) ({ cls := "LineEndsModel", name := "takes", desc := "(III)V" } : Jvm.MethodName)) ∈ tbG := tbp_6 170 rfl rfl
theorem w_1472 : (Jvm.Cond.instanceMethod ({ cls := "LineEndsModel", name := "takes", desc := "(III)V" } : Jvm.MethodName)) ∈ tbG := tbp_6 172 rfl rfl
theorem w_1473 : (Jvm.Cond.code ({ cls := "LineEndsModel", name := "takes", desc := "(III)V" } : Jvm.MethodName) prog_12_method_37_code (8 : Nat) (Option.none : Option Jvm.ClassFile.FieldType)) ∈ tbG := tbp_6 173 rfl rfl
theorem w_1474 : (Jvm.Cond.methodLink "LineEndsModel" (224 : Nat) ({ cls := "LineEndsModel", name := "squeezeOf", desc := "(IIZ)I" } : Jvm.MethodName)) ∈ tbG := tbp_6 174 rfl rfl
theorem w_1476 : (Jvm.Cond.instanceMethod ({ cls := "LineEndsModel", name := "squeezeOf", desc := "(IIZ)I" } : Jvm.MethodName)) ∈ tbG := tbp_6 176 rfl rfl
theorem w_1477 : (Jvm.Cond.code ({ cls := "LineEndsModel", name := "squeezeOf", desc := "(IIZ)I" } : Jvm.MethodName) prog_12_method_35_code (5 : Nat) (Option.some Jvm.ClassFile.FieldType.int)) ∈ tbG := tbp_6 177 rfl rfl
theorem w_1478 : (Jvm.Cond.methodLink "LineEndsModel" (218 : Nat) ({ cls := "LineEndsModel", name := "gives", desc := "(III)V" } : Jvm.MethodName)) ∈ tbG := tbp_6 178 rfl rfl
theorem w_1480 : (Jvm.Cond.instanceMethod ({ cls := "LineEndsModel", name := "gives", desc := "(III)V" } : Jvm.MethodName)) ∈ tbG := tbp_6 180 rfl rfl
theorem w_1481 : (Jvm.Cond.code ({ cls := "LineEndsModel", name := "gives", desc := "(III)V" } : Jvm.MethodName) prog_12_method_38_code (7 : Nat) (Option.none : Option Jvm.ClassFile.FieldType)) ∈ tbG := tbp_6 181 rfl rfl
theorem w_1482 : (Jvm.Cond.methodLink "LineEndsLaw" (111 : Nat) ({ cls := "LineEndsModel", name := "cost", desc := "(II)I" } : Jvm.MethodName)) ∈ tbG := tbp_6 182 rfl rfl
theorem w_1483 : (Jvm.Cond.instanceMethod ({ cls := "LineEndsModel", name := "cost", desc := "(II)I" } : Jvm.MethodName)) ∈ tbG := tbp_6 183 rfl rfl
theorem w_1484 : (Jvm.Cond.selects "LineEndsModel" ({ cls := "LineEndsModel", name := "cost", desc := "(II)I" } : Jvm.MethodName) ({ cls := "LineEndsModel", name := "cost", desc := "(II)I" } : Jvm.MethodName)) ∈ tbG := tbp_6 184 rfl rfl
theorem w_1485 : (Jvm.Cond.code ({ cls := "LineEndsModel", name := "cost", desc := "(II)I" } : Jvm.MethodName) prog_12_method_60_code (3 : Nat) (Option.some Jvm.ClassFile.FieldType.int)) ∈ tbG := tbp_6 185 rfl rfl
theorem w_1486 : (Jvm.Cond.methodLink "LineEndsLaw" (115 : Nat) ({ cls := "LineEndsModel", name := "lines", desc := "(II)I" } : Jvm.MethodName)) ∈ tbG := tbp_6 186 rfl rfl
theorem w_1487 : (Jvm.Cond.instanceMethod ({ cls := "LineEndsModel", name := "lines", desc := "(II)I" } : Jvm.MethodName)) ∈ tbG := tbp_6 187 rfl rfl
theorem w_1488 : (Jvm.Cond.selects "LineEndsModel" ({ cls := "LineEndsModel", name := "lines", desc := "(II)I" } : Jvm.MethodName) ({ cls := "LineEndsModel", name := "lines", desc := "(II)I" } : Jvm.MethodName)) ∈ tbG := tbp_6 188 rfl rfl
theorem w_1489 : (Jvm.Cond.code ({ cls := "LineEndsModel", name := "lines", desc := "(II)I" } : Jvm.MethodName) prog_12_method_62_code (5 : Nat) (Option.some Jvm.ClassFile.FieldType.int)) ∈ tbG := tbp_6 189 rfl rfl
theorem w_1490 : (Jvm.Cond.methodLink "LineEndsModel" (255 : Nat) ({ cls := "LineEndsModel", name := "isKind", desc := "(I)Z" } : Jvm.MethodName)) ∈ tbG := tbp_6 190 rfl rfl
theorem w_1491 : (Jvm.Cond.static ({ cls := "LineEndsModel", name := "isKind", desc := "(I)Z" } : Jvm.MethodName)) ∈ tbG := tbp_6 191 rfl rfl
theorem w_1492 : (Jvm.Cond.code ({ cls := "LineEndsModel", name := "isKind", desc := "(I)Z" } : Jvm.MethodName) prog_12_method_44_code (1 : Nat) (Option.some Jvm.ClassFile.FieldType.boolean)) ∈ tbG := tbp_6 192 rfl rfl
theorem w_1493 : (Jvm.Cond.methodLink "LineEndsModel" (258 : Nat) ({ cls := "LineEndsModel", name := "laysLines", desc := "(I)V" } : Jvm.MethodName)) ∈ tbG := tbp_6 193 rfl rfl
theorem w_1495 : (Jvm.Cond.instanceMethod ({ cls := "LineEndsModel", name := "laysLines", desc := "(I)V" } : Jvm.MethodName)) ∈ tbG := tbp_6 195 rfl rfl
theorem w_1496 : (Jvm.Cond.code ({ cls := "LineEndsModel", name := "laysLines", desc := "(I)V" } : Jvm.MethodName) prog_12_method_47_code (4 : Nat) (Option.none : Option Jvm.ClassFile.FieldType)) ∈ tbG := tbp_6 196 rfl rfl
theorem w_1497 : (Jvm.Cond.methodLink "LineEndsModel" (234 : Nat) ({ cls := "LineEndsModel", name := "laysCosts", desc := "()V" } : Jvm.MethodName)) ∈ tbG := tbp_6 197 rfl rfl
theorem w_1499 : (Jvm.Cond.instanceMethod ({ cls := "LineEndsModel", name := "laysCosts", desc := "()V" } : Jvm.MethodName)) ∈ tbG := tbp_6 199 rfl rfl
theorem w_1500 : (Jvm.Cond.code ({ cls := "LineEndsModel", name := "laysCosts", desc := "()V" } : Jvm.MethodName) prog_12_method_40_code (4 : Nat) (Option.none : Option Jvm.ClassFile.FieldType)) ∈ tbG := tbp_6 200 rfl rfl
theorem w_1501 : (Jvm.Cond.methodLink "LineEndsModel" (228 : Nat) ({ cls := "LineEndsModel", name := "limitOf", desc := "(I)I" } : Jvm.MethodName)) ∈ tbG := tbp_6 201 rfl rfl
theorem w_1503 : (Jvm.Cond.instanceMethod ({ cls := "LineEndsModel", name := "limitOf", desc := "(I)I" } : Jvm.MethodName)) ∈ tbG := tbp_6 203 rfl rfl
theorem w_1504 : (Jvm.Cond.code ({ cls := "LineEndsModel", name := "limitOf", desc := "(I)I" } : Jvm.MethodName) prog_12_method_39_code (3 : Nat) (Option.some Jvm.ClassFile.FieldType.int)) ∈ tbG := tbp_6 204 rfl rfl
theorem w_1505 : (Jvm.Cond.constant "LineEndsModel" (237 : Nat) (1000000000 : Int32)) ∈ tbG := tbp_6 205 rfl rfl
theorem w_1506 : (Jvm.Cond.methodLink "LineEndsModel" (249 : Nat) ({ cls := "LineEndsModel", name := "leastGreatest", desc := "()I" } : Jvm.MethodName)) ∈ tbG := tbp_6 206 rfl rfl
theorem w_1508 : (Jvm.Cond.instanceMethod ({ cls := "LineEndsModel", name := "leastGreatest", desc := "()I" } : Jvm.MethodName)) ∈ tbG := tbp_6 208 rfl rfl
theorem w_1509 : (Jvm.Cond.code ({ cls := "LineEndsModel", name := "leastGreatest", desc := "()I" } : Jvm.MethodName) prog_12_method_43_code (6 : Nat) (Option.some Jvm.ClassFile.FieldType.int)) ∈ tbG := tbp_6 209 rfl rfl
theorem w_1510 : (Jvm.Cond.methodLink "LineEndsModel" (238 : Nat) ({ cls := "LineEndsModel", name := "laysBest", desc := "(I)V" } : Jvm.MethodName)) ∈ tbG := tbp_6 210 rfl rfl
theorem w_1512 : (Jvm.Cond.instanceMethod ({ cls := "LineEndsModel", name := "laysBest", desc := "(I)V" } : Jvm.MethodName)) ∈ tbG := tbp_6 212 rfl rfl
theorem w_1513 : (Jvm.Cond.code ({ cls := "LineEndsModel", name := "laysBest", desc := "(I)V" } : Jvm.MethodName) prog_12_method_41_code (9 : Nat) (Option.none : Option Jvm.ClassFile.FieldType)) ∈ tbG := tbp_6 213 rfl rfl
theorem w_1514 : (Jvm.Cond.methodLink "LineEndsModel" (252 : Nat) ({ cls := "LineEndsModel", name := "oneEnd", desc := "(II)I" } : Jvm.MethodName)) ∈ tbG := tbp_6 214 rfl rfl
theorem w_1516 : (Jvm.Cond.instanceMethod ({ cls := "LineEndsModel", name := "oneEnd", desc := "(II)I" } : Jvm.MethodName)) ∈ tbG := tbp_6 216 rfl rfl
theorem w_1517 : (Jvm.Cond.code ({ cls := "LineEndsModel", name := "oneEnd", desc := "(II)I" } : Jvm.MethodName) prog_12_method_46_code (4 : Nat) (Option.some Jvm.ClassFile.FieldType.int)) ∈ tbG := tbp_6 217 rfl rfl
theorem w_1518 : (Jvm.Cond.methodLink "LineEndsModel" (242 : Nat) ({ cls := "LineEndsModel", name := "lastEnd", desc := "(IZZ)I" } : Jvm.MethodName)) ∈ tbG := tbp_6 218 rfl rfl
theorem w_1520 : (Jvm.Cond.instanceMethod ({ cls := "LineEndsModel", name := "lastEnd", desc := "(IZZ)I" } : Jvm.MethodName)) ∈ tbG := tbp_6 220 rfl rfl
theorem w_1521 : (Jvm.Cond.code ({ cls := "LineEndsModel", name := "lastEnd", desc := "(IZZ)I" } : Jvm.MethodName) prog_12_method_45_code (7 : Nat) (Option.some Jvm.ClassFile.FieldType.int)) ∈ tbG := tbp_6 221 rfl rfl
theorem w_1522 : (Jvm.Cond.methodLink "LineEndsModel" (261 : Nat) ({ cls := "LineEndsModel", name := "firstOf", desc := "(I)I" } : Jvm.MethodName)) ∈ tbG := tbp_6 222 rfl rfl
theorem w_1524 : (Jvm.Cond.instanceMethod ({ cls := "LineEndsModel", name := "firstOf", desc := "(I)I" } : Jvm.MethodName)) ∈ tbG := tbp_6 224 rfl rfl
theorem w_1525 : (Jvm.Cond.code ({ cls := "LineEndsModel", name := "firstOf", desc := "(I)I" } : Jvm.MethodName) prog_12_method_48_code (2 : Nat) (Option.some Jvm.ClassFile.FieldType.int)) ∈ tbG := tbp_6 225 rfl rfl
theorem w_1526 : (Jvm.Cond.methodLink "LineEndsModel" (271 : Nat) ({ cls := "LineEndsModel", name := "ofLooked", desc := "(II)I" } : Jvm.MethodName)) ∈ tbG := tbp_6 226 rfl rfl
theorem w_1528 : (Jvm.Cond.instanceMethod ({ cls := "LineEndsModel", name := "ofLooked", desc := "(II)I" } : Jvm.MethodName)) ∈ tbG := tbp_6 228 rfl rfl
theorem w_1529 : (Jvm.Cond.code ({ cls := "LineEndsModel", name := "ofLooked", desc := "(II)I" } : Jvm.MethodName) prog_12_method_61_code (3 : Nat) (Option.some Jvm.ClassFile.FieldType.int)) ∈ tbG := tbp_6 229 rfl rfl
theorem w_1530 : (Jvm.Cond.methodLink "LineEndsLaw" (120 : Nat) ({ cls := "LineEndsModel", name := "line", desc := "(III)I" } : Jvm.MethodName)) ∈ tbG := tbp_6 230 rfl rfl
theorem w_1531 : (Jvm.Cond.instanceMethod ({ cls := "LineEndsModel", name := "line", desc := "(III)I" } : Jvm.MethodName)) ∈ tbG := tbp_6 231 rfl rfl
theorem w_1532 : (Jvm.Cond.selects "LineEndsModel" ({ cls := "LineEndsModel", name := "line", desc := "(III)I" } : Jvm.MethodName) ({ cls := "LineEndsModel", name := "line", desc := "(III)I" } : Jvm.MethodName)) ∈ tbG := tbp_6 232 rfl rfl
theorem w_1533 : (Jvm.Cond.code ({ cls := "LineEndsModel", name := "line", desc := "(III)I" } : Jvm.MethodName) prog_12_method_63_code (4 : Nat) (Option.some Jvm.ClassFile.FieldType.int)) ∈ tbG := tbp_6 233 rfl rfl
theorem w_1534 : (Jvm.Cond.methodLink "LineEndsModel" (274 : Nat) ({ cls := "LineEndsModel", name := "looksAt", desc := "(II)Z" } : Jvm.MethodName)) ∈ tbG := tbp_6 234 rfl rfl
theorem w_1536 : (Jvm.Cond.instanceMethod ({ cls := "LineEndsModel", name := "looksAt", desc := "(II)Z" } : Jvm.MethodName)) ∈ tbG := tbp_6 236 rfl rfl
theorem w_1537 : (Jvm.Cond.code ({ cls := "LineEndsModel", name := "looksAt", desc := "(II)Z" } : Jvm.MethodName) prog_12_method_49_code (3 : Nat) (Option.some Jvm.ClassFile.FieldType.boolean)) ∈ tbG := tbp_6 237 rfl rfl
theorem w_1538 : (Jvm.Cond.methodLink "LineEndsLaw" (124 : Nat) ({ cls := "LineEndsModel", name := "lineOf", desc := "(II)I" } : Jvm.MethodName)) ∈ tbG := tbp_6 238 rfl rfl
theorem w_1539 : (Jvm.Cond.instanceMethod ({ cls := "LineEndsModel", name := "lineOf", desc := "(II)I" } : Jvm.MethodName)) ∈ tbG := tbp_6 239 rfl rfl
theorem w_1540 : (Jvm.Cond.selects "LineEndsModel" ({ cls := "LineEndsModel", name := "lineOf", desc := "(II)I" } : Jvm.MethodName) ({ cls := "LineEndsModel", name := "lineOf", desc := "(II)I" } : Jvm.MethodName)) ∈ tbG := tbp_7 0 rfl rfl
theorem w_1541 : (Jvm.Cond.code ({ cls := "LineEndsModel", name := "lineOf", desc := "(II)I" } : Jvm.MethodName) prog_12_method_65_code (3 : Nat) (Option.some Jvm.ClassFile.FieldType.int)) ∈ tbG := tbp_7 1 rfl rfl
theorem w_1542 : (Jvm.Cond.methodLink "LineEndsModel" (277 : Nat) ({ cls := "LineEndsModel", name := "lineWith", desc := "(I)I" } : Jvm.MethodName)) ∈ tbG := tbp_7 2 rfl rfl
theorem w_1544 : (Jvm.Cond.instanceMethod ({ cls := "LineEndsModel", name := "lineWith", desc := "(I)I" } : Jvm.MethodName)) ∈ tbG := tbp_7 4 rfl rfl
theorem w_1545 : (Jvm.Cond.code ({ cls := "LineEndsModel", name := "lineWith", desc := "(I)I" } : Jvm.MethodName) prog_12_method_64_code (3 : Nat) (Option.some Jvm.ClassFile.FieldType.int)) ∈ tbG := tbp_7 5 rfl rfl
theorem w_1546 : (Jvm.Cond.methodLink "LineEndsLaw" (128 : Nat) ({ cls := "LineEndsModel", name := "place", desc := "(III)I" } : Jvm.MethodName)) ∈ tbG := tbp_7 6 rfl rfl
theorem w_1547 : (Jvm.Cond.instanceMethod ({ cls := "LineEndsModel", name := "place", desc := "(III)I" } : Jvm.MethodName)) ∈ tbG := tbp_7 7 rfl rfl
theorem w_1548 : (Jvm.Cond.selects "LineEndsModel" ({ cls := "LineEndsModel", name := "place", desc := "(III)I" } : Jvm.MethodName) ({ cls := "LineEndsModel", name := "place", desc := "(III)I" } : Jvm.MethodName)) ∈ tbG := tbp_7 8 rfl rfl
theorem w_1549 : (Jvm.Cond.code ({ cls := "LineEndsModel", name := "place", desc := "(III)I" } : Jvm.MethodName) prog_12_method_66_code (5 : Nat) (Option.some Jvm.ClassFile.FieldType.int)) ∈ tbG := tbp_7 9 rfl rfl
theorem w_1550 : (Jvm.Cond.methodLink "LineEndsModel" (280 : Nat) ({ cls := "LineEndsModel", name := "deals", desc := "(II)V" } : Jvm.MethodName)) ∈ tbG := tbp_7 10 rfl rfl
theorem w_1552 : (Jvm.Cond.instanceMethod ({ cls := "LineEndsModel", name := "deals", desc := "(II)V" } : Jvm.MethodName)) ∈ tbG := tbp_7 12 rfl rfl
theorem w_1553 : (Jvm.Cond.code ({ cls := "LineEndsModel", name := "deals", desc := "(II)V" } : Jvm.MethodName) prog_12_method_50_code (6 : Nat) (Option.none : Option Jvm.ClassFile.FieldType)) ∈ tbG := tbp_7 13 rfl rfl
theorem w_1554 : (Jvm.Cond.methodLink "LineEndsModel" (264 : Nat) ({ cls := "LineEndsModel", name := "leastTaken", desc := "(III)I" } : Jvm.MethodName)) ∈ tbG := tbp_7 14 rfl rfl
theorem w_1556 : (Jvm.Cond.instanceMethod ({ cls := "LineEndsModel", name := "leastTaken", desc := "(III)I" } : Jvm.MethodName)) ∈ tbG := tbp_7 16 rfl rfl
theorem w_1557 : (Jvm.Cond.code ({ cls := "LineEndsModel", name := "leastTaken", desc := "(III)I" } : Jvm.MethodName) prog_12_method_51_code (6 : Nat) (Option.some Jvm.ClassFile.FieldType.int)) ∈ tbG := tbp_7 17 rfl rfl
theorem w_1558 : (Jvm.Cond.methodLink "LineEndsModel" (268 : Nat) ({ cls := "LineEndsModel", name := "leastPut", desc := "(III)I" } : Jvm.MethodName)) ∈ tbG := tbp_7 18 rfl rfl
theorem w_1560 : (Jvm.Cond.instanceMethod ({ cls := "LineEndsModel", name := "leastPut", desc := "(III)I" } : Jvm.MethodName)) ∈ tbG := tbp_7 20 rfl rfl
theorem w_1561 : (Jvm.Cond.code ({ cls := "LineEndsModel", name := "leastPut", desc := "(III)I" } : Jvm.MethodName) prog_12_method_52_code (6 : Nat) (Option.some Jvm.ClassFile.FieldType.int)) ∈ tbG := tbp_7 21 rfl rfl
theorem w_1562 : (Jvm.Cond.methodLink "LineEndsModel" (283 : Nat) ({ cls := "LineEndsModel", name := "edgeOf", desc := "(II)I" } : Jvm.MethodName)) ∈ tbG := tbp_7 22 rfl rfl
theorem w_1564 : (Jvm.Cond.instanceMethod ({ cls := "LineEndsModel", name := "edgeOf", desc := "(II)I" } : Jvm.MethodName)) ∈ tbG := tbp_7 24 rfl rfl
theorem w_1565 : (Jvm.Cond.code ({ cls := "LineEndsModel", name := "edgeOf", desc := "(II)I" } : Jvm.MethodName) prog_12_method_53_code (5 : Nat) (Option.some Jvm.ClassFile.FieldType.int)) ∈ tbG := tbp_7 25 rfl rfl
theorem w_1566 : (Jvm.Cond.methodLink "LineEndsLaw" (132 : Nat) ({ cls := "LineEndsModel", name := "at", desc := "(III)I" } : Jvm.MethodName)) ∈ tbG := tbp_7 26 rfl rfl
theorem w_1567 : (Jvm.Cond.instanceMethod ({ cls := "LineEndsModel", name := "at", desc := "(III)I" } : Jvm.MethodName)) ∈ tbG := tbp_7 27 rfl rfl
theorem w_1568 : (Jvm.Cond.selects "LineEndsModel" ({ cls := "LineEndsModel", name := "at", desc := "(III)I" } : Jvm.MethodName) ({ cls := "LineEndsModel", name := "at", desc := "(III)I" } : Jvm.MethodName)) ∈ tbG := tbp_7 28 rfl rfl
theorem w_1569 : (Jvm.Cond.code ({ cls := "LineEndsModel", name := "at", desc := "(III)I" } : Jvm.MethodName) prog_12_method_67_code (9 : Nat) (Option.some Jvm.ClassFile.FieldType.int)) ∈ tbG := tbp_7 29 rfl rfl
theorem w_1570 : (Jvm.Cond.methodLink "LineEndsLaw" (136 : Nat) ({ cls := "LineEndsModel", name := "common", desc := "(I)I" } : Jvm.MethodName)) ∈ tbG := tbp_7 30 rfl rfl
theorem w_1571 : (Jvm.Cond.instanceMethod ({ cls := "LineEndsModel", name := "common", desc := "(I)I" } : Jvm.MethodName)) ∈ tbG := tbp_7 31 rfl rfl
theorem w_1572 : (Jvm.Cond.selects "LineEndsModel" ({ cls := "LineEndsModel", name := "common", desc := "(I)I" } : Jvm.MethodName) ({ cls := "LineEndsModel", name := "common", desc := "(I)I" } : Jvm.MethodName)) ∈ tbG := tbp_7 32 rfl rfl
theorem w_1573 : (Jvm.Cond.code ({ cls := "LineEndsModel", name := "common", desc := "(I)I" } : Jvm.MethodName) prog_12_method_68_code (7 : Nat) (Option.some Jvm.ClassFile.FieldType.int)) ∈ tbG := tbp_7 33 rfl rfl
theorem w_1574 : (Jvm.Cond.methodLink "LineEndsLaw" (140 : Nat) ({ cls := "LineEndsModel", name := "same", desc := "(II)I" } : Jvm.MethodName)) ∈ tbG := tbp_7 34 rfl rfl
theorem w_1575 : (Jvm.Cond.instanceMethod ({ cls := "LineEndsModel", name := "same", desc := "(II)I" } : Jvm.MethodName)) ∈ tbG := tbp_7 35 rfl rfl
theorem w_1576 : (Jvm.Cond.selects "LineEndsModel" ({ cls := "LineEndsModel", name := "same", desc := "(II)I" } : Jvm.MethodName) ({ cls := "LineEndsModel", name := "same", desc := "(II)I" } : Jvm.MethodName)) ∈ tbG := tbp_7 36 rfl rfl
theorem w_1577 : (Jvm.Cond.code ({ cls := "LineEndsModel", name := "same", desc := "(II)I" } : Jvm.MethodName) prog_12_method_69_code (8 : Nat) (Option.some Jvm.ClassFile.FieldType.int)) ∈ tbG := tbp_7 37 rfl rfl
theorem w_1578 : (Jvm.Cond.methodLink "LineEndsLaw" (144 : Nat) ({ cls := "LineEndsModel", name := "dearest", desc := "(I)I" } : Jvm.MethodName)) ∈ tbG := tbp_7 38 rfl rfl
theorem w_1579 : (Jvm.Cond.instanceMethod ({ cls := "LineEndsModel", name := "dearest", desc := "(I)I" } : Jvm.MethodName)) ∈ tbG := tbp_7 39 rfl rfl
theorem w_1580 : (Jvm.Cond.selects "LineEndsModel" ({ cls := "LineEndsModel", name := "dearest", desc := "(I)I" } : Jvm.MethodName) ({ cls := "LineEndsModel", name := "dearest", desc := "(I)I" } : Jvm.MethodName)) ∈ tbG := tbp_7 40 rfl rfl
theorem w_1581 : (Jvm.Cond.code ({ cls := "LineEndsModel", name := "dearest", desc := "(I)I" } : Jvm.MethodName) prog_12_method_70_code (5 : Nat) (Option.some Jvm.ClassFile.FieldType.int)) ∈ tbG := tbp_7 41 rfl rfl
theorem w_1582 : (Jvm.Cond.methodLink "LineEndsLaw" (149 : Nat) ({ cls := "LineEndsModel", name := "units", desc := "(IIZ)I" } : Jvm.MethodName)) ∈ tbG := tbp_7 42 rfl rfl
theorem w_1583 : (Jvm.Cond.instanceMethod ({ cls := "LineEndsModel", name := "units", desc := "(IIZ)I" } : Jvm.MethodName)) ∈ tbG := tbp_7 43 rfl rfl
theorem w_1584 : (Jvm.Cond.selects "LineEndsModel" ({ cls := "LineEndsModel", name := "units", desc := "(IIZ)I" } : Jvm.MethodName) ({ cls := "LineEndsModel", name := "units", desc := "(IIZ)I" } : Jvm.MethodName)) ∈ tbG := tbp_7 44 rfl rfl
theorem w_1585 : (Jvm.Cond.code ({ cls := "LineEndsModel", name := "units", desc := "(IIZ)I" } : Jvm.MethodName) prog_12_method_71_code (7 : Nat) (Option.some Jvm.ClassFile.FieldType.int)) ∈ tbG := tbp_7 45 rfl rfl
theorem w_1586 : (Jvm.Cond.methodLink "LineEndsLaw" (153 : Nat) ({ cls := "LineEndsModel", name := "river", desc := "(I)I" } : Jvm.MethodName)) ∈ tbG := tbp_7 46 rfl rfl
theorem w_1587 : (Jvm.Cond.instanceMethod ({ cls := "LineEndsModel", name := "river", desc := "(I)I" } : Jvm.MethodName)) ∈ tbG := tbp_7 47 rfl rfl
theorem w_1588 : (Jvm.Cond.selects "LineEndsModel" ({ cls := "LineEndsModel", name := "river", desc := "(I)I" } : Jvm.MethodName) ({ cls := "LineEndsModel", name := "river", desc := "(I)I" } : Jvm.MethodName)) ∈ tbG := tbp_7 48 rfl rfl
theorem w_1589 : (Jvm.Cond.code ({ cls := "LineEndsModel", name := "river", desc := "(I)I" } : Jvm.MethodName) prog_12_method_72_code (7 : Nat) (Option.some Jvm.ClassFile.FieldType.int)) ∈ tbG := tbp_7 49 rfl rfl
theorem w_1590 : (Jvm.Cond.methodLink "LineEndsLaw" (157 : Nat) ({ cls := "LineEndsModel", name := "spell", desc := "(III)I" } : Jvm.MethodName)) ∈ tbG := tbp_7 50 rfl rfl
theorem w_1591 : (Jvm.Cond.instanceMethod ({ cls := "LineEndsModel", name := "spell", desc := "(III)I" } : Jvm.MethodName)) ∈ tbG := tbp_7 51 rfl rfl
theorem w_1592 : (Jvm.Cond.selects "LineEndsModel" ({ cls := "LineEndsModel", name := "spell", desc := "(III)I" } : Jvm.MethodName) ({ cls := "LineEndsModel", name := "spell", desc := "(III)I" } : Jvm.MethodName)) ∈ tbG := tbp_7 52 rfl rfl
theorem w_1593 : (Jvm.Cond.code ({ cls := "LineEndsModel", name := "spell", desc := "(III)I" } : Jvm.MethodName) prog_12_method_75_code (8 : Nat) (Option.some Jvm.ClassFile.FieldType.int)) ∈ tbG := tbp_7 53 rfl rfl
theorem w_1594 : (Jvm.Cond.methodLink "LineEndsModel" (289 : Nat) ({ cls := "LineEndsModel", name := "writes", desc := "(I)V" } : Jvm.MethodName)) ∈ tbG := tbp_7 54 rfl rfl
theorem w_1596 : (Jvm.Cond.instanceMethod ({ cls := "LineEndsModel", name := "writes", desc := "(I)V" } : Jvm.MethodName)) ∈ tbG := tbp_7 56 rfl rfl
theorem w_1597 : (Jvm.Cond.code ({ cls := "LineEndsModel", name := "writes", desc := "(I)V" } : Jvm.MethodName) prog_12_method_73_code (2 : Nat) (Option.none : Option Jvm.ClassFile.FieldType)) ∈ tbG := tbp_7 57 rfl rfl
theorem w_1598 : (Jvm.Cond.methodLink "LineEndsModel" (292 : Nat) ({ cls := "LineEndsModel", name := "told", desc := "(I)I" } : Jvm.MethodName)) ∈ tbG := tbp_7 58 rfl rfl
theorem w_1600 : (Jvm.Cond.instanceMethod ({ cls := "LineEndsModel", name := "told", desc := "(I)I" } : Jvm.MethodName)) ∈ tbG := tbp_7 60 rfl rfl
theorem w_1601 : (Jvm.Cond.code ({ cls := "LineEndsModel", name := "told", desc := "(I)I" } : Jvm.MethodName) prog_12_method_74_code (2 : Nat) (Option.some Jvm.ClassFile.FieldType.int)) ∈ tbG := tbp_7 61 rfl rfl
theorem w_1602 : (Jvm.Cond.methodLink "LineEndsLaw" (161 : Nat) ({ cls := "LineEndsModel", name := "spellTable", desc := "(I)I" } : Jvm.MethodName)) ∈ tbG := tbp_7 62 rfl rfl
theorem w_1603 : (Jvm.Cond.instanceMethod ({ cls := "LineEndsModel", name := "spellTable", desc := "(I)I" } : Jvm.MethodName)) ∈ tbG := tbp_7 63 rfl rfl
theorem w_1604 : (Jvm.Cond.selects "LineEndsModel" ({ cls := "LineEndsModel", name := "spellTable", desc := "(I)I" } : Jvm.MethodName) ({ cls := "LineEndsModel", name := "spellTable", desc := "(I)I" } : Jvm.MethodName)) ∈ tbG := tbp_7 64 rfl rfl
theorem w_1605 : (Jvm.Cond.code ({ cls := "LineEndsModel", name := "spellTable", desc := "(I)I" } : Jvm.MethodName) prog_12_method_80_code (4 : Nat) (Option.some Jvm.ClassFile.FieldType.int)) ∈ tbG := tbp_7 65 rfl rfl
theorem w_1606 : (Jvm.Cond.methodLink "LineEndsModel" (307 : Nat) ({ cls := "LineEndsModel", name := "writesClass", desc := "(I)V" } : Jvm.MethodName)) ∈ tbG := tbp_7 66 rfl rfl
theorem w_1608 : (Jvm.Cond.instanceMethod ({ cls := "LineEndsModel", name := "writesClass", desc := "(I)V" } : Jvm.MethodName)) ∈ tbG := tbp_7 68 rfl rfl
theorem w_1609 : (Jvm.Cond.code ({ cls := "LineEndsModel", name := "writesClass", desc := "(I)V" } : Jvm.MethodName) prog_12_method_79_code (3 : Nat) (Option.none : Option Jvm.ClassFile.FieldType)) ∈ tbG := tbp_7 69 rfl rfl
theorem w_1610 : (Jvm.Cond.methodLink "LineEndsModel" (298 : Nat) ({ cls := "LineEndsModel", name := "writesWord", desc := "(I)V" } : Jvm.MethodName)) ∈ tbG := tbp_7 70 rfl rfl
theorem w_1612 : (Jvm.Cond.instanceMethod ({ cls := "LineEndsModel", name := "writesWord", desc := "(I)V" } : Jvm.MethodName)) ∈ tbG := tbp_7 72 rfl rfl
theorem w_1613 : (Jvm.Cond.code ({ cls := "LineEndsModel", name := "writesWord", desc := "(I)V" } : Jvm.MethodName) prog_12_method_76_code (3 : Nat) (Option.none : Option Jvm.ClassFile.FieldType)) ∈ tbG := tbp_7 73 rfl rfl
theorem w_1614 : (Jvm.Cond.methodLink "LineEndsModel" (295 : Nat) ({ cls := "LineEndsModel", name := "wordFrom", desc := "(I)I" } : Jvm.MethodName)) ∈ tbG := tbp_7 74 rfl rfl
theorem w_1616 : (Jvm.Cond.instanceMethod ({ cls := "LineEndsModel", name := "wordFrom", desc := "(I)I" } : Jvm.MethodName)) ∈ tbG := tbp_7 76 rfl rfl
theorem w_1617 : (Jvm.Cond.code ({ cls := "LineEndsModel", name := "wordFrom", desc := "(I)I" } : Jvm.MethodName) prog_12_method_100_code (4 : Nat) (Option.some Jvm.ClassFile.FieldType.int)) ∈ tbG := tbp_7 77 rfl rfl
theorem w_1618 : (Jvm.Cond.methodLink "LineEndsModel" (304 : Nat) ({ cls := "LineEndsModel", name := "writesNumber", desc := "(II)V" } : Jvm.MethodName)) ∈ tbG := tbp_7 78 rfl rfl
theorem w_1620 : (Jvm.Cond.instanceMethod ({ cls := "LineEndsModel", name := "writesNumber", desc := "(II)V" } : Jvm.MethodName)) ∈ tbG := tbp_7 80 rfl rfl
theorem w_1621 : (Jvm.Cond.code ({ cls := "LineEndsModel", name := "writesNumber", desc := "(II)V" } : Jvm.MethodName) prog_12_method_78_code (3 : Nat) (Option.none : Option Jvm.ClassFile.FieldType)) ∈ tbG := tbp_7 81 rfl rfl
theorem w_1622 : (Jvm.Cond.methodLink "LineEndsModel" (301 : Nat) ({ cls := "LineEndsModel", name := "writesMore", desc := "(I)V" } : Jvm.MethodName)) ∈ tbG := tbp_7 82 rfl rfl
theorem w_1624 : (Jvm.Cond.instanceMethod ({ cls := "LineEndsModel", name := "writesMore", desc := "(I)V" } : Jvm.MethodName)) ∈ tbG := tbp_7 84 rfl rfl
theorem w_1625 : (Jvm.Cond.code ({ cls := "LineEndsModel", name := "writesMore", desc := "(I)V" } : Jvm.MethodName) prog_12_method_77_code (2 : Nat) (Option.none : Option Jvm.ClassFile.FieldType)) ∈ tbG := tbp_7 85 rfl rfl
theorem w_1626 : (Jvm.Cond.methodLink "LineEndsLaw" (165 : Nat) ({ cls := "LineEndsModel", name := "ways", desc := "()I" } : Jvm.MethodName)) ∈ tbG := tbp_7 86 rfl rfl
theorem w_1627 : (Jvm.Cond.instanceMethod ({ cls := "LineEndsModel", name := "ways", desc := "()I" } : Jvm.MethodName)) ∈ tbG := tbp_7 87 rfl rfl
theorem w_1628 : (Jvm.Cond.selects "LineEndsModel" ({ cls := "LineEndsModel", name := "ways", desc := "()I" } : Jvm.MethodName) ({ cls := "LineEndsModel", name := "ways", desc := "()I" } : Jvm.MethodName)) ∈ tbG := tbp_7 88 rfl rfl
theorem w_1629 : (Jvm.Cond.code ({ cls := "LineEndsModel", name := "ways", desc := "()I" } : Jvm.MethodName) prog_12_method_83_code (1 : Nat) (Option.some Jvm.ClassFile.FieldType.int)) ∈ tbG := tbp_7 89 rfl rfl
theorem w_1630 : (Jvm.Cond.methodLink "LineEndsModel" (313 : Nat) ({ cls := "LineEndsModel", name := "laysWays", desc := "()V" } : Jvm.MethodName)) ∈ tbG := tbp_7 90 rfl rfl
theorem w_1632 : (Jvm.Cond.instanceMethod ({ cls := "LineEndsModel", name := "laysWays", desc := "()V" } : Jvm.MethodName)) ∈ tbG := tbp_7 92 rfl rfl
theorem w_1633 : (Jvm.Cond.code ({ cls := "LineEndsModel", name := "laysWays", desc := "()V" } : Jvm.MethodName) prog_12_method_82_code (5 : Nat) (Option.none : Option Jvm.ClassFile.FieldType)) ∈ tbG := tbp_7 93 rfl rfl
theorem w_1634 : (Jvm.Cond.methodLink "LineEndsModel" (310 : Nat) ({ cls := "LineEndsModel", name := "mayBe", desc := "(II)Z" } : Jvm.MethodName)) ∈ tbG := tbp_7 94 rfl rfl
theorem w_1636 : (Jvm.Cond.instanceMethod ({ cls := "LineEndsModel", name := "mayBe", desc := "(II)Z" } : Jvm.MethodName)) ∈ tbG := tbp_7 96 rfl rfl
theorem w_1637 : (Jvm.Cond.code ({ cls := "LineEndsModel", name := "mayBe", desc := "(II)Z" } : Jvm.MethodName) prog_12_method_81_code (3 : Nat) (Option.some Jvm.ClassFile.FieldType.boolean)) ∈ tbG := tbp_7 97 rfl rfl
theorem w_1638 : (Jvm.Cond.constantLong "LineEndsModel" (316 : Nat) (1000000000 : Int64)) ∈ tbG := tbp_7 98 rfl rfl
theorem w_1639 : (Jvm.Cond.methodLink "LineEndsLaw" (169 : Nat) ({ cls := "LineEndsModel", name := "fewest", desc := "()I" } : Jvm.MethodName)) ∈ tbG := tbp_7 99 rfl rfl
theorem w_1640 : (Jvm.Cond.instanceMethod ({ cls := "LineEndsModel", name := "fewest", desc := "()I" } : Jvm.MethodName)) ∈ tbG := tbp_7 100 rfl rfl
theorem w_1641 : (Jvm.Cond.selects "LineEndsModel" ({ cls := "LineEndsModel", name := "fewest", desc := "()I" } : Jvm.MethodName) ({ cls := "LineEndsModel", name := "fewest", desc := "()I" } : Jvm.MethodName)) ∈ tbG := tbp_7 101 rfl rfl
theorem w_1642 : (Jvm.Cond.code ({ cls := "LineEndsModel", name := "fewest", desc := "()I" } : Jvm.MethodName) prog_12_method_84_code (1 : Nat) (Option.some Jvm.ClassFile.FieldType.int)) ∈ tbG := tbp_7 102 rfl rfl
theorem w_1643 : (Jvm.Cond.methodLink "LineEndsLaw" (173 : Nat) ({ cls := "LineEndsModel", name := "way", desc := "(II)I" } : Jvm.MethodName)) ∈ tbG := tbp_7 103 rfl rfl
theorem w_1644 : (Jvm.Cond.instanceMethod ({ cls := "LineEndsModel", name := "way", desc := "(II)I" } : Jvm.MethodName)) ∈ tbG := tbp_7 104 rfl rfl
theorem w_1645 : (Jvm.Cond.selects "LineEndsModel" ({ cls := "LineEndsModel", name := "way", desc := "(II)I" } : Jvm.MethodName) ({ cls := "LineEndsModel", name := "way", desc := "(II)I" } : Jvm.MethodName)) ∈ tbG := tbp_7 105 rfl rfl
theorem w_1646 : (Jvm.Cond.code ({ cls := "LineEndsModel", name := "way", desc := "(II)I" } : Jvm.MethodName) prog_12_method_85_code (8 : Nat) (Option.some Jvm.ClassFile.FieldType.int)) ∈ tbG := tbp_7 106 rfl rfl
theorem w_1647 : (Jvm.Cond.methodLink "LineEndsLaw" (177 : Nat) ({ cls := "LineEndsModel", name := "worst", desc := "()I" } : Jvm.MethodName)) ∈ tbG := tbp_7 107 rfl rfl
theorem w_1648 : (Jvm.Cond.instanceMethod ({ cls := "LineEndsModel", name := "worst", desc := "()I" } : Jvm.MethodName)) ∈ tbG := tbp_7 108 rfl rfl
theorem w_1649 : (Jvm.Cond.selects "LineEndsModel" ({ cls := "LineEndsModel", name := "worst", desc := "()I" } : Jvm.MethodName) ({ cls := "LineEndsModel", name := "worst", desc := "()I" } : Jvm.MethodName)) ∈ tbG := tbp_7 109 rfl rfl
theorem w_1650 : (Jvm.Cond.code ({ cls := "LineEndsModel", name := "worst", desc := "()I" } : Jvm.MethodName) prog_12_method_86_code (5 : Nat) (Option.some Jvm.ClassFile.FieldType.int)) ∈ tbG := tbp_7 110 rfl rfl
theorem w_1651 : (Jvm.Cond.methodLink "LineEndsModel" (318 : Nat) ({ cls := "LineEndsModel", name := "bestAsIs", desc := "()I" } : Jvm.MethodName)) ∈ tbG := tbp_7 111 rfl rfl
theorem w_1653 : (Jvm.Cond.instanceMethod ({ cls := "LineEndsModel", name := "bestAsIs", desc := "()I" } : Jvm.MethodName)) ∈ tbG := tbp_7 113 rfl rfl
theorem w_1654 : (Jvm.Cond.code ({ cls := "LineEndsModel", name := "bestAsIs", desc := "()I" } : Jvm.MethodName) prog_12_method_42_code (1 : Nat) (Option.some Jvm.ClassFile.FieldType.int)) ∈ tbG := tbp_7 114 rfl rfl
theorem w_1655 : (Jvm.Cond.methodLink "LineEndsModel" (321 : Nat) ({ cls := "LineEndsModel", name := "takesBack", desc := "()V" } : Jvm.MethodName)) ∈ tbG := tbp_7 115 rfl rfl
theorem w_1657 : (Jvm.Cond.instanceMethod ({ cls := "LineEndsModel", name := "takesBack", desc := "()V" } : Jvm.MethodName)) ∈ tbG := tbp_7 117 rfl rfl
theorem w_1658 : (Jvm.Cond.code ({ cls := "LineEndsModel", name := "takesBack", desc := "()V" } : Jvm.MethodName) prog_12_method_9_code (2 : Nat) (Option.none : Option Jvm.ClassFile.FieldType)) ∈ tbG := tbp_7 118 rfl rfl
theorem w_1659 : (Jvm.Cond.methodLink "LineEndsLaw" (181 : Nat) ({ cls := "LineEndsModel", name := "costMarked", desc := "(II)I" } : Jvm.MethodName)) ∈ tbG := tbp_7 119 rfl rfl
theorem w_1660 : (Jvm.Cond.instanceMethod ({ cls := "LineEndsModel", name := "costMarked", desc := "(II)I" } : Jvm.MethodName)) ∈ tbG := tbp_7 120 rfl rfl
theorem w_1661 : (Jvm.Cond.selects "LineEndsModel" ({ cls := "LineEndsModel", name := "costMarked", desc := "(II)I" } : Jvm.MethodName) ({ cls := "LineEndsModel", name := "costMarked", desc := "(II)I" } : Jvm.MethodName)) ∈ tbG := tbp_7 121 rfl rfl
theorem w_1662 : (Jvm.Cond.code ({ cls := "LineEndsModel", name := "costMarked", desc := "(II)I" } : Jvm.MethodName) prog_12_method_87_code (4 : Nat) (Option.some Jvm.ClassFile.FieldType.int)) ∈ tbG := tbp_7 122 rfl rfl
theorem w_1663 : (Jvm.Cond.methodLink "LineEndsLaw" (185 : Nat) ({ cls := "LineEndsModel", name := "costBy", desc := "(I)I" } : Jvm.MethodName)) ∈ tbG := tbp_7 123 rfl rfl
theorem w_1664 : (Jvm.Cond.instanceMethod ({ cls := "LineEndsModel", name := "costBy", desc := "(I)I" } : Jvm.MethodName)) ∈ tbG := tbp_7 124 rfl rfl
theorem w_1665 : (Jvm.Cond.selects "LineEndsModel" ({ cls := "LineEndsModel", name := "costBy", desc := "(I)I" } : Jvm.MethodName) ({ cls := "LineEndsModel", name := "costBy", desc := "(I)I" } : Jvm.MethodName)) ∈ tbG := tbp_7 125 rfl rfl
theorem w_1666 : (Jvm.Cond.code ({ cls := "LineEndsModel", name := "costBy", desc := "(I)I" } : Jvm.MethodName) prog_12_method_89_code (2 : Nat) (Option.some Jvm.ClassFile.FieldType.int)) ∈ tbG := tbp_7 126 rfl rfl
theorem w_1667 : (Jvm.Cond.methodLink "LineEndsModel" (324 : Nat) ({ cls := "LineEndsModel", name := "costAt", desc := "(I)I" } : Jvm.MethodName)) ∈ tbG := tbp_7 127 rfl rfl
theorem w_1669 : (Jvm.Cond.instanceMethod ({ cls := "LineEndsModel", name := "costAt", desc := "(I)I" } : Jvm.MethodName)) ∈ tbG := tbp_7 129 rfl rfl
theorem w_1670 : (Jvm.Cond.code ({ cls := "LineEndsModel", name := "costAt", desc := "(I)I" } : Jvm.MethodName) prog_12_method_88_code (4 : Nat) (Option.some Jvm.ClassFile.FieldType.int)) ∈ tbG := tbp_7 130 rfl rfl
theorem w_1671 : (Jvm.Cond.methodLink "LineEndsLaw" (189 : Nat) ({ cls := "LineEndsModel", name := "widthFor", desc := "(I)I" } : Jvm.MethodName)) ∈ tbG := tbp_7 131 rfl rfl
theorem w_1672 : (Jvm.Cond.instanceMethod ({ cls := "LineEndsModel", name := "widthFor", desc := "(I)I" } : Jvm.MethodName)) ∈ tbG := tbp_7 132 rfl rfl
theorem w_1673 : (Jvm.Cond.selects "LineEndsModel" ({ cls := "LineEndsModel", name := "widthFor", desc := "(I)I" } : Jvm.MethodName) ({ cls := "LineEndsModel", name := "widthFor", desc := "(I)I" } : Jvm.MethodName)) ∈ tbG := tbp_7 133 rfl rfl
theorem w_1674 : (Jvm.Cond.code ({ cls := "LineEndsModel", name := "widthFor", desc := "(I)I" } : Jvm.MethodName) prog_12_method_90_code (3 : Nat) (Option.some Jvm.ClassFile.FieldType.int)) ∈ tbG := tbp_7 134 rfl rfl
theorem w_1675 : (Jvm.Cond.methodLink "LineEndsLaw" (193 : Nat) ({ cls := "LineEndsModel", name := "bestWidth", desc := "()I" } : Jvm.MethodName)) ∈ tbG := tbp_7 135 rfl rfl
theorem w_1676 : (Jvm.Cond.instanceMethod ({ cls := "LineEndsModel", name := "bestWidth", desc := "()I" } : Jvm.MethodName)) ∈ tbG := tbp_7 136 rfl rfl
theorem w_1677 : (Jvm.Cond.selects "LineEndsModel" ({ cls := "LineEndsModel", name := "bestWidth", desc := "()I" } : Jvm.MethodName) ({ cls := "LineEndsModel", name := "bestWidth", desc := "()I" } : Jvm.MethodName)) ∈ tbG := tbp_7 137 rfl rfl
theorem w_1678 : (Jvm.Cond.code ({ cls := "LineEndsModel", name := "bestWidth", desc := "()I" } : Jvm.MethodName) prog_12_method_91_code (5 : Nat) (Option.some Jvm.ClassFile.FieldType.int)) ∈ tbG := tbp_7 138 rfl rfl
theorem w_1679 : (Jvm.Cond.methodLink "LineEndsLaw" (197 : Nat) ({ cls := "LineEndsModel", name := "atEnds", desc := "(IIZ)I" } : Jvm.MethodName)) ∈ tbG := tbp_7 139 rfl rfl
theorem w_1680 : (Jvm.Cond.instanceMethod ({ cls := "LineEndsModel", name := "atEnds", desc := "(IIZ)I" } : Jvm.MethodName)) ∈ tbG := tbp_7 140 rfl rfl
theorem w_1681 : (Jvm.Cond.selects "LineEndsModel" ({ cls := "LineEndsModel", name := "atEnds", desc := "(IIZ)I" } : Jvm.MethodName) ({ cls := "LineEndsModel", name := "atEnds", desc := "(IIZ)I" } : Jvm.MethodName)) ∈ tbG := tbp_7 141 rfl rfl
theorem w_1682 : (Jvm.Cond.code ({ cls := "LineEndsModel", name := "atEnds", desc := "(IIZ)I" } : Jvm.MethodName) prog_12_method_92_code (6 : Nat) (Option.some Jvm.ClassFile.FieldType.int)) ∈ tbG := tbp_7 142 rfl rfl
theorem w_1683 : (Jvm.Cond.methodLink "LineEndsLaw" (201 : Nat) ({ cls := "LineEndsModel", name := "count", desc := "(I)I" } : Jvm.MethodName)) ∈ tbG := tbp_7 143 rfl rfl
theorem w_1684 : (Jvm.Cond.instanceMethod ({ cls := "LineEndsModel", name := "count", desc := "(I)I" } : Jvm.MethodName)) ∈ tbG := tbp_7 144 rfl rfl
theorem w_1685 : (Jvm.Cond.selects "LineEndsModel" ({ cls := "LineEndsModel", name := "count", desc := "(I)I" } : Jvm.MethodName) ({ cls := "LineEndsModel", name := "count", desc := "(I)I" } : Jvm.MethodName)) ∈ tbG := tbp_7 145 rfl rfl
theorem w_1686 : (Jvm.Cond.code ({ cls := "LineEndsModel", name := "count", desc := "(I)I" } : Jvm.MethodName) prog_12_method_97_code (2 : Nat) (Option.some Jvm.ClassFile.FieldType.int)) ∈ tbG := tbp_7 146 rfl rfl
theorem w_1687 : (Jvm.Cond.methodLink "LineEndsModel" (327 : Nat) ({ cls := "LineEndsModel", name := "classes", desc := "()I" } : Jvm.MethodName)) ∈ tbG := tbp_7 147 rfl rfl
theorem w_1689 : (Jvm.Cond.instanceMethod ({ cls := "LineEndsModel", name := "classes", desc := "()I" } : Jvm.MethodName)) ∈ tbG := tbp_7 149 rfl rfl
theorem w_1690 : (Jvm.Cond.code ({ cls := "LineEndsModel", name := "classes", desc := "()I" } : Jvm.MethodName) prog_12_method_96_code (3 : Nat) (Option.some Jvm.ClassFile.FieldType.int)) ∈ tbG := tbp_7 150 rfl rfl
theorem w_1691 : (Jvm.Cond.methodLink "LineEndsModel" (333 : Nat) ({ cls := "LineEndsModel", name := "legalEnds", desc := "()I" } : Jvm.MethodName)) ∈ tbG := tbp_7 151 rfl rfl
theorem w_1693 : (Jvm.Cond.instanceMethod ({ cls := "LineEndsModel", name := "legalEnds", desc := "()I" } : Jvm.MethodName)) ∈ tbG := tbp_7 153 rfl rfl
theorem w_1694 : (Jvm.Cond.code ({ cls := "LineEndsModel", name := "legalEnds", desc := "()I" } : Jvm.MethodName) prog_12_method_93_code (3 : Nat) (Option.some Jvm.ClassFile.FieldType.int)) ∈ tbG := tbp_7 154 rfl rfl
theorem w_1695 : (Jvm.Cond.methodLink "LineEndsModel" (336 : Nat) ({ cls := "LineEndsModel", name := "longest", desc := "()I" } : Jvm.MethodName)) ∈ tbG := tbp_7 155 rfl rfl
theorem w_1697 : (Jvm.Cond.instanceMethod ({ cls := "LineEndsModel", name := "longest", desc := "()I" } : Jvm.MethodName)) ∈ tbG := tbp_7 157 rfl rfl
theorem w_1698 : (Jvm.Cond.code ({ cls := "LineEndsModel", name := "longest", desc := "()I" } : Jvm.MethodName) prog_12_method_94_code (4 : Nat) (Option.some Jvm.ClassFile.FieldType.int)) ∈ tbG := tbp_7 158 rfl rfl
theorem w_1699 : (Jvm.Cond.methodLink "LineEndsModel" (339 : Nat) ({ cls := "LineEndsModel", name := "signsMarked", desc := "(I)I" } : Jvm.MethodName)) ∈ tbG := tbp_7 159 rfl rfl
theorem w_1701 : (Jvm.Cond.instanceMethod ({ cls := "LineEndsModel", name := "signsMarked", desc := "(I)I" } : Jvm.MethodName)) ∈ tbG := tbp_7 161 rfl rfl
theorem w_1702 : (Jvm.Cond.code ({ cls := "LineEndsModel", name := "signsMarked", desc := "(I)I" } : Jvm.MethodName) prog_12_method_95_code (4 : Nat) (Option.some Jvm.ClassFile.FieldType.int)) ∈ tbG := tbp_7 162 rfl rfl
theorem w_1703 : (Jvm.Cond.methodLink "LineEndsLaw" (17 : Nat) ({ cls := "LineEndsModel", name := "feed", desc := "(IIIII)I" } : Jvm.MethodName)) ∈ tbG := tbp_7 163 rfl rfl
theorem w_1704 : (Jvm.Cond.instanceMethod ({ cls := "LineEndsModel", name := "feed", desc := "(IIIII)I" } : Jvm.MethodName)) ∈ tbG := tbp_7 164 rfl rfl
theorem w_1705 : (Jvm.Cond.selects "LineEndsModel" ({ cls := "LineEndsModel", name := "feed", desc := "(IIIII)I" } : Jvm.MethodName) ({ cls := "LineEndsModel", name := "feed", desc := "(IIIII)I" } : Jvm.MethodName)) ∈ tbG := tbp_7 165 rfl rfl
theorem w_1706 : (Jvm.Cond.code ({ cls := "LineEndsModel", name := "feed", desc := "(IIIII)I" } : Jvm.MethodName) prog_12_method_98_code (8 : Nat) (Option.some Jvm.ClassFile.FieldType.int)) ∈ tbG := tbp_7 166 rfl rfl
theorem w_1707 : (Jvm.Cond.methodLink "LineEndsLaw" (22 : Nat) ({ cls := "LineEndsModel", name := "back", desc := "(I)I" } : Jvm.MethodName)) ∈ tbG := tbp_7 167 rfl rfl
theorem w_1708 : (Jvm.Cond.instanceMethod ({ cls := "LineEndsModel", name := "back", desc := "(I)I" } : Jvm.MethodName)) ∈ tbG := tbp_7 168 rfl rfl
theorem w_1709 : (Jvm.Cond.selects "LineEndsModel" ({ cls := "LineEndsModel", name := "back", desc := "(I)I" } : Jvm.MethodName) ({ cls := "LineEndsModel", name := "back", desc := "(I)I" } : Jvm.MethodName)) ∈ tbG := tbp_7 169 rfl rfl
theorem w_1710 : (Jvm.Cond.code ({ cls := "LineEndsModel", name := "back", desc := "(I)I" } : Jvm.MethodName) prog_12_method_99_code (2 : Nat) (Option.some Jvm.ClassFile.FieldType.int)) ∈ tbG := tbp_7 170 rfl rfl
theorem w_1711 : (Jvm.Cond.methodLink "LineEndsLaw" (27 : Nat) ({ cls := "LineEndsModel", name := "table", desc := "()I" } : Jvm.MethodName)) ∈ tbG := tbp_7 171 rfl rfl
theorem w_1712 : (Jvm.Cond.instanceMethod ({ cls := "LineEndsModel", name := "table", desc := "()I" } : Jvm.MethodName)) ∈ tbG := tbp_7 172 rfl rfl
theorem w_1713 : (Jvm.Cond.selects "LineEndsModel" ({ cls := "LineEndsModel", name := "table", desc := "()I" } : Jvm.MethodName) ({ cls := "LineEndsModel", name := "table", desc := "()I" } : Jvm.MethodName)) ∈ tbG := tbp_7 173 rfl rfl
theorem w_1714 : (Jvm.Cond.code ({ cls := "LineEndsModel", name := "table", desc := "()I" } : Jvm.MethodName) prog_12_method_114_code (2 : Nat) (Option.some Jvm.ClassFile.FieldType.int)) ∈ tbG := tbp_7 174 rfl rfl
theorem w_1715 : (Jvm.Cond.methodLink "LineEndsModel" (363 : Nat) ({ cls := "LineEndsModel", name := "goesOn", desc := "()V" } : Jvm.MethodName)) ∈ tbG := tbp_7 175 rfl rfl
theorem w_1717 : (Jvm.Cond.instanceMethod ({ cls := "LineEndsModel", name := "goesOn", desc := "()V" } : Jvm.MethodName)) ∈ tbG := tbp_7 177 rfl rfl
theorem w_1718 : (Jvm.Cond.code ({ cls := "LineEndsModel", name := "goesOn", desc := "()V" } : Jvm.MethodName) prog_12_method_102_code (5 : Nat) (Option.none : Option Jvm.ClassFile.FieldType)) ∈ tbG := tbp_7 178 rfl rfl
theorem w_1719 : (Jvm.Cond.methodLink "LineEndsModel" (348 : Nat) ({ cls := "LineEndsModel", name := "here", desc := "()I" } : Jvm.MethodName)) ∈ tbG := tbp_7 179 rfl rfl
theorem w_1721 : (Jvm.Cond.instanceMethod ({ cls := "LineEndsModel", name := "here", desc := "()I" } : Jvm.MethodName)) ∈ tbG := tbp_7 181 rfl rfl
theorem w_1722 : (Jvm.Cond.code ({ cls := "LineEndsModel", name := "here", desc := "()I" } : Jvm.MethodName) prog_12_method_101_code (1 : Nat) (Option.some Jvm.ClassFile.FieldType.int)) ∈ tbG := tbp_7 182 rfl rfl
theorem w_1723 : (Jvm.Cond.methodLink "LineEndsModel" (366 : Nat) ({ cls := "LineEndsModel", name := "takesWord", desc := "(I)Z" } : Jvm.MethodName)) ∈ tbG := tbp_7 183 rfl rfl
theorem w_1725 : (Jvm.Cond.instanceMethod ({ cls := "LineEndsModel", name := "takesWord", desc := "(I)Z" } : Jvm.MethodName)) ∈ tbG := tbp_7 185 rfl rfl
theorem w_1726 : (Jvm.Cond.code ({ cls := "LineEndsModel", name := "takesWord", desc := "(I)Z" } : Jvm.MethodName) prog_12_method_104_code (2 : Nat) (Option.some Jvm.ClassFile.FieldType.boolean)) ∈ tbG := tbp_7 186 rfl rfl
theorem w_1727 : (Jvm.Cond.methodLink "LineEndsModel" (360 : Nat) ({ cls := "LineEndsModel", name := "isWord", desc := "(I)Z" } : Jvm.MethodName)) ∈ tbG := tbp_7 187 rfl rfl
theorem w_1729 : (Jvm.Cond.instanceMethod ({ cls := "LineEndsModel", name := "isWord", desc := "(I)Z" } : Jvm.MethodName)) ∈ tbG := tbp_7 189 rfl rfl
theorem w_1730 : (Jvm.Cond.code ({ cls := "LineEndsModel", name := "isWord", desc := "(I)Z" } : Jvm.MethodName) prog_12_method_103_code (4 : Nat) (Option.some Jvm.ClassFile.FieldType.boolean)) ∈ tbG := tbp_7 190 rfl rfl
theorem w_1731 : (Jvm.Cond.methodLink "LineEndsModel" (396 : Nat) ({ cls := "LineEndsModel", name := "readsClass", desc := "()V" } : Jvm.MethodName)) ∈ tbG := tbp_7 191 rfl rfl
theorem w_1733 : (Jvm.Cond.instanceMethod ({ cls := "LineEndsModel", name := "readsClass", desc := "()V" } : Jvm.MethodName)) ∈ tbG := tbp_7 193 rfl rfl
theorem w_1734 : (Jvm.Cond.code ({ cls := "LineEndsModel", name := "readsClass", desc := "()V" } : Jvm.MethodName) prog_12_method_109_code (4 : Nat) (Option.none : Option Jvm.ClassFile.FieldType)) ∈ tbG := tbp_7 194 rfl rfl
theorem w_1735 : (Jvm.Cond.methodLink "LineEndsModel" (369 : Nat) ({ cls := "LineEndsModel", name := "letterHere", desc := "()I" } : Jvm.MethodName)) ∈ tbG := tbp_7 195 rfl rfl
theorem w_1737 : (Jvm.Cond.instanceMethod ({ cls := "LineEndsModel", name := "letterHere", desc := "()I" } : Jvm.MethodName)) ∈ tbG := tbp_7 197 rfl rfl
theorem w_1738 : (Jvm.Cond.code ({ cls := "LineEndsModel", name := "letterHere", desc := "()I" } : Jvm.MethodName) prog_12_method_107_code (1 : Nat) (Option.some Jvm.ClassFile.FieldType.int)) ∈ tbG := tbp_7 198 rfl rfl
theorem w_1739 : (Jvm.Cond.methodLink "LineEndsModel" (375 : Nat) ({ cls := "LineEndsModel", name := "needs", desc := "(I)V" } : Jvm.MethodName)) ∈ tbG := tbp_7 199 rfl rfl
theorem w_1741 : (Jvm.Cond.instanceMethod ({ cls := "LineEndsModel", name := "needs", desc := "(I)V" } : Jvm.MethodName)) ∈ tbG := tbp_7 201 rfl rfl
theorem w_1742 : (Jvm.Cond.code ({ cls := "LineEndsModel", name := "needs", desc := "(I)V" } : Jvm.MethodName) prog_12_method_105_code (2 : Nat) (Option.none : Option Jvm.ClassFile.FieldType)) ∈ tbG := tbp_7 202 rfl rfl
theorem w_1743 : (Jvm.Cond.methodLink "LineEndsModel" (378 : Nat) ({ cls := "LineEndsModel", name := "needsNumber", desc := "(II)I" } : Jvm.MethodName)) ∈ tbG := tbp_7 203 rfl rfl
theorem w_1745 : (Jvm.Cond.instanceMethod ({ cls := "LineEndsModel", name := "needsNumber", desc := "(II)I" } : Jvm.MethodName)) ∈ tbG := tbp_7 205 rfl rfl
theorem w_1746 : (Jvm.Cond.code ({ cls := "LineEndsModel", name := "needsNumber", desc := "(II)I" } : Jvm.MethodName) prog_12_method_106_code (4 : Nat) (Option.some Jvm.ClassFile.FieldType.int)) ∈ tbG := tbp_7 206 rfl rfl
theorem w_1747 : (Jvm.Cond.methodLink "LineEndsModel" (381 : Nat) ({ cls := "LineEndsModel", name := "readsShyEnd", desc := "(I)V" } : Jvm.MethodName)) ∈ tbG := tbp_7 207 rfl rfl
theorem w_1749 : (Jvm.Cond.instanceMethod ({ cls := "LineEndsModel", name := "readsShyEnd", desc := "(I)V" } : Jvm.MethodName)) ∈ tbG := tbp_7 209 rfl rfl
theorem w_1750 : (Jvm.Cond.code ({ cls := "LineEndsModel", name := "readsShyEnd", desc := "(I)V" } : Jvm.MethodName) prog_12_method_110_code (2 : Nat) (Option.none : Option Jvm.ClassFile.FieldType)) ∈ tbG := tbp_7 210 rfl rfl
theorem w_1751 : (Jvm.Cond.methodLink "LineEndsModel" (384 : Nat) ({ cls := "LineEndsModel", name := "readsRank", desc := "()I" } : Jvm.MethodName)) ∈ tbG := tbp_7 211 rfl rfl
theorem w_1753 : (Jvm.Cond.instanceMethod ({ cls := "LineEndsModel", name := "readsRank", desc := "()I" } : Jvm.MethodName)) ∈ tbG := tbp_7 213 rfl rfl
theorem w_1754 : (Jvm.Cond.code ({ cls := "LineEndsModel", name := "readsRank", desc := "()I" } : Jvm.MethodName) prog_12_method_111_code (1 : Nat) (Option.some Jvm.ClassFile.FieldType.int)) ∈ tbG := tbp_7 214 rfl rfl
theorem w_1755 : (Jvm.Cond.methodLink "LineEndsModel" (387 : Nat) ({ cls := "LineEndsModel", name := "needsClose", desc := "()V" } : Jvm.MethodName)) ∈ tbG := tbp_7 215 rfl rfl
theorem w_1757 : (Jvm.Cond.instanceMethod ({ cls := "LineEndsModel", name := "needsClose", desc := "()V" } : Jvm.MethodName)) ∈ tbG := tbp_7 217 rfl rfl
theorem w_1758 : (Jvm.Cond.code ({ cls := "LineEndsModel", name := "needsClose", desc := "()V" } : Jvm.MethodName) prog_12_method_108_code (1 : Nat) (Option.none : Option Jvm.ClassFile.FieldType)) ∈ tbG := tbp_7 218 rfl rfl
theorem w_1759 : (Jvm.Cond.methodLink "LineEndsModel" (399 : Nat) ({ cls := "LineEndsModel", name := "readsKeep", desc := "()V" } : Jvm.MethodName)) ∈ tbG := tbp_7 219 rfl rfl
theorem w_1761 : (Jvm.Cond.instanceMethod ({ cls := "LineEndsModel", name := "readsKeep", desc := "()V" } : Jvm.MethodName)) ∈ tbG := tbp_7 221 rfl rfl
theorem w_1762 : (Jvm.Cond.code ({ cls := "LineEndsModel", name := "readsKeep", desc := "()V" } : Jvm.MethodName) prog_12_method_113_code (5 : Nat) (Option.none : Option Jvm.ClassFile.FieldType)) ∈ tbG := tbp_7 222 rfl rfl
theorem w_1763 : (Jvm.Cond.methodLink "LineEndsModel" (390 : Nat) ({ cls := "LineEndsModel", name := "readsLetter", desc := "()I" } : Jvm.MethodName)) ∈ tbG := tbp_7 223 rfl rfl
theorem w_1765 : (Jvm.Cond.instanceMethod ({ cls := "LineEndsModel", name := "readsLetter", desc := "()I" } : Jvm.MethodName)) ∈ tbG := tbp_7 225 rfl rfl
theorem w_1766 : (Jvm.Cond.code ({ cls := "LineEndsModel", name := "readsLetter", desc := "()I" } : Jvm.MethodName) prog_12_method_112_code (2 : Nat) (Option.some Jvm.ClassFile.FieldType.int)) ∈ tbG := tbp_7 226 rfl rfl
theorem w_1767 : (Jvm.Cond.methodLink "LineEndsLaw" (31 : Nat) ({ cls := "LineEndsModel", name := "paragraph", desc := "()I" } : Jvm.MethodName)) ∈ tbG := tbp_7 227 rfl rfl
theorem w_1768 : (Jvm.Cond.instanceMethod ({ cls := "LineEndsModel", name := "paragraph", desc := "()I" } : Jvm.MethodName)) ∈ tbG := tbp_7 228 rfl rfl
theorem w_1769 : (Jvm.Cond.selects "LineEndsModel" ({ cls := "LineEndsModel", name := "paragraph", desc := "()I" } : Jvm.MethodName) ({ cls := "LineEndsModel", name := "paragraph", desc := "()I" } : Jvm.MethodName)) ∈ tbG := tbp_7 229 rfl rfl
theorem w_1770 : (Jvm.Cond.code ({ cls := "LineEndsModel", name := "paragraph", desc := "()I" } : Jvm.MethodName) prog_12_method_115_code (5 : Nat) (Option.some Jvm.ClassFile.FieldType.int)) ∈ tbG := tbp_7 230 rfl rfl
theorem w_1771 : (Jvm.Cond.methodLink "LineEndsLaw" (91 : Nat) ({ cls := "LineEndsModel", name := "find", desc := "(I)I" } : Jvm.MethodName)) ∈ tbG := tbp_7 231 rfl rfl
theorem w_1772 : (Jvm.Cond.instanceMethod ({ cls := "LineEndsModel", name := "find", desc := "(I)I" } : Jvm.MethodName)) ∈ tbG := tbp_7 232 rfl rfl
theorem w_1773 : (Jvm.Cond.selects "LineEndsModel" ({ cls := "LineEndsModel", name := "find", desc := "(I)I" } : Jvm.MethodName) ({ cls := "LineEndsModel", name := "find", desc := "(I)I" } : Jvm.MethodName)) ∈ tbG := tbp_7 233 rfl rfl
theorem w_1774 : (Jvm.Cond.code ({ cls := "LineEndsModel", name := "find", desc := "(I)I" } : Jvm.MethodName) prog_12_method_116_code (7 : Nat) (Option.some Jvm.ClassFile.FieldType.int)) ∈ tbG := tbp_7 234 rfl rfl
theorem w_1775 : (Jvm.Cond.fieldLink "java/lang/String" (9 : Nat) "java/lang/String" "value" "[B") ∈ tbG := tbp_7 235 rfl rfl
theorem w_1776 : (Jvm.Cond.fieldLink "java/lang/String" (15 : Nat) "java/lang/String" "coder" "B") ∈ tbG := tbp_7 236 rfl rfl
set_option maxRecDepth 20000 in
theorem inG0 : ∀ w ∈ u_ws RX0 TX0 2, w ∈ tbG := List.forall_mem_cons.mpr ⟨tbp_1 43 rfl rfl, List.forall_mem_cons.mpr ⟨tbp_1 45 rfl rfl, List.forall_mem_nil _⟩⟩
set_option maxRecDepth 20000 in
theorem inG1 : ∀ w ∈ u_ws RX1 TX1 6, w ∈ tbG := List.forall_mem_cons.mpr ⟨tbp_1 76 rfl rfl, List.forall_mem_cons.mpr ⟨tbp_1 78 rfl rfl, List.forall_mem_cons.mpr ⟨tbp_1 80 rfl rfl, List.forall_mem_cons.mpr ⟨tbp_1 82 rfl rfl, List.forall_mem_cons.mpr ⟨tbp_1 84 rfl rfl, List.forall_mem_cons.mpr ⟨tbp_1 86 rfl rfl, List.forall_mem_nil _⟩⟩⟩⟩⟩⟩
set_option maxRecDepth 20000 in
theorem inG2 : ∀ w ∈ u_ws RX2 TX2 3, w ∈ tbG := List.forall_mem_cons.mpr ⟨tbp_1 151 rfl rfl, List.forall_mem_cons.mpr ⟨tbp_1 153 rfl rfl, List.forall_mem_cons.mpr ⟨tbp_1 155 rfl rfl, List.forall_mem_nil _⟩⟩⟩
set_option maxRecDepth 20000 in
theorem inG3 : ∀ w ∈ u_ws RX3 TX3 8, w ∈ tbG := List.forall_mem_cons.mpr ⟨tbp_2 34 rfl rfl, List.forall_mem_cons.mpr ⟨tbp_2 36 rfl rfl, List.forall_mem_cons.mpr ⟨tbp_2 38 rfl rfl, List.forall_mem_cons.mpr ⟨tbp_2 40 rfl rfl, List.forall_mem_cons.mpr ⟨tbp_2 42 rfl rfl, List.forall_mem_cons.mpr ⟨tbp_2 44 rfl rfl, List.forall_mem_cons.mpr ⟨tbp_2 46 rfl rfl, List.forall_mem_cons.mpr ⟨tbp_2 48 rfl rfl, List.forall_mem_nil _⟩⟩⟩⟩⟩⟩⟩⟩
set_option maxRecDepth 20000 in
theorem inG4 : ∀ w ∈ u_ws RX4 TX4 9, w ∈ tbG := List.forall_mem_cons.mpr ⟨tbp_1 119 rfl rfl, List.forall_mem_cons.mpr ⟨tbp_1 121 rfl rfl, List.forall_mem_cons.mpr ⟨tbp_1 123 rfl rfl, List.forall_mem_cons.mpr ⟨tbp_1 125 rfl rfl, List.forall_mem_cons.mpr ⟨tbp_1 127 rfl rfl, List.forall_mem_cons.mpr ⟨tbp_1 129 rfl rfl, List.forall_mem_cons.mpr ⟨tbp_1 131 rfl rfl, List.forall_mem_cons.mpr ⟨tbp_1 133 rfl rfl, List.forall_mem_cons.mpr ⟨tbp_1 135 rfl rfl, List.forall_mem_nil _⟩⟩⟩⟩⟩⟩⟩⟩⟩
set_option maxRecDepth 20000 in
theorem inG5 : ∀ w ∈ u_ws RX5 TX5 3, w ∈ tbG := List.forall_mem_cons.mpr ⟨tbp_2 6 rfl rfl, List.forall_mem_cons.mpr ⟨tbp_2 8 rfl rfl, List.forall_mem_cons.mpr ⟨tbp_2 10 rfl rfl, List.forall_mem_nil _⟩⟩⟩
set_option maxRecDepth 20000 in
theorem inG6 : ∀ w ∈ u_ws RX6 TX6 6, w ∈ tbG := List.forall_mem_cons.mpr ⟨tbp_2 145 rfl rfl, List.forall_mem_cons.mpr ⟨tbp_2 147 rfl rfl, List.forall_mem_cons.mpr ⟨tbp_2 149 rfl rfl, List.forall_mem_cons.mpr ⟨tbp_2 151 rfl rfl, List.forall_mem_cons.mpr ⟨tbp_2 153 rfl rfl, List.forall_mem_cons.mpr ⟨tbp_2 155 rfl rfl, List.forall_mem_nil _⟩⟩⟩⟩⟩⟩
set_option maxRecDepth 20000 in
theorem inG7 : ∀ w ∈ u_ws RX7 TX7 18, w ∈ tbG := List.forall_mem_cons.mpr ⟨tbp_1 196 rfl rfl, List.forall_mem_cons.mpr ⟨tbp_1 198 rfl rfl, List.forall_mem_cons.mpr ⟨tbp_1 200 rfl rfl, List.forall_mem_cons.mpr ⟨tbp_1 202 rfl rfl, List.forall_mem_cons.mpr ⟨tbp_1 204 rfl rfl, List.forall_mem_cons.mpr ⟨tbp_1 206 rfl rfl, List.forall_mem_cons.mpr ⟨tbp_1 208 rfl rfl, List.forall_mem_cons.mpr ⟨tbp_1 210 rfl rfl, List.forall_mem_cons.mpr ⟨tbp_1 212 rfl rfl, List.forall_mem_cons.mpr ⟨tbp_1 214 rfl rfl, List.forall_mem_cons.mpr ⟨tbp_1 216 rfl rfl, List.forall_mem_cons.mpr ⟨tbp_1 218 rfl rfl, List.forall_mem_cons.mpr ⟨tbp_1 220 rfl rfl, List.forall_mem_cons.mpr ⟨tbp_1 222 rfl rfl, List.forall_mem_cons.mpr ⟨tbp_1 224 rfl rfl, List.forall_mem_cons.mpr ⟨tbp_1 226 rfl rfl, List.forall_mem_cons.mpr ⟨tbp_1 228 rfl rfl, List.forall_mem_cons.mpr ⟨tbp_1 230 rfl rfl, List.forall_mem_nil _⟩⟩⟩⟩⟩⟩⟩⟩⟩⟩⟩⟩⟩⟩⟩⟩⟩⟩
set_option maxRecDepth 20000 in
theorem inG8 : ∀ w ∈ u_ws RX8 TX8 4, w ∈ tbG := List.forall_mem_cons.mpr ⟨tbp_2 63 rfl rfl, List.forall_mem_cons.mpr ⟨tbp_2 65 rfl rfl, List.forall_mem_cons.mpr ⟨tbp_2 67 rfl rfl, List.forall_mem_cons.mpr ⟨tbp_2 69 rfl rfl, List.forall_mem_nil _⟩⟩⟩⟩
set_option maxRecDepth 20000 in
theorem inG9 : ∀ w ∈ u_ws RX9 TX9 13, w ∈ tbG := List.forall_mem_cons.mpr ⟨tbp_2 86 rfl rfl, List.forall_mem_cons.mpr ⟨tbp_2 88 rfl rfl, List.forall_mem_cons.mpr ⟨tbp_2 90 rfl rfl, List.forall_mem_cons.mpr ⟨tbp_2 92 rfl rfl, List.forall_mem_cons.mpr ⟨tbp_2 94 rfl rfl, List.forall_mem_cons.mpr ⟨tbp_2 96 rfl rfl, List.forall_mem_cons.mpr ⟨tbp_2 98 rfl rfl, List.forall_mem_cons.mpr ⟨tbp_2 100 rfl rfl, List.forall_mem_cons.mpr ⟨tbp_2 102 rfl rfl, List.forall_mem_cons.mpr ⟨tbp_2 104 rfl rfl, List.forall_mem_cons.mpr ⟨tbp_2 106 rfl rfl, List.forall_mem_cons.mpr ⟨tbp_2 108 rfl rfl, List.forall_mem_cons.mpr ⟨tbp_2 110 rfl rfl, List.forall_mem_nil _⟩⟩⟩⟩⟩⟩⟩⟩⟩⟩⟩⟩⟩
set_option maxRecDepth 20000 in
theorem inG10 : ∀ w ∈ u_ws RX10 TX10 55, w ∈ tbG := List.forall_mem_cons.mpr ⟨tbp_5 152 rfl rfl, List.forall_mem_cons.mpr ⟨tbp_5 154 rfl rfl, List.forall_mem_cons.mpr ⟨tbp_5 156 rfl rfl, List.forall_mem_cons.mpr ⟨tbp_5 158 rfl rfl, List.forall_mem_cons.mpr ⟨tbp_5 160 rfl rfl, List.forall_mem_cons.mpr ⟨tbp_5 162 rfl rfl, List.forall_mem_cons.mpr ⟨tbp_5 164 rfl rfl, List.forall_mem_cons.mpr ⟨tbp_5 166 rfl rfl, List.forall_mem_cons.mpr ⟨tbp_5 168 rfl rfl, List.forall_mem_cons.mpr ⟨tbp_5 170 rfl rfl, List.forall_mem_cons.mpr ⟨tbp_5 172 rfl rfl, List.forall_mem_cons.mpr ⟨tbp_5 174 rfl rfl, List.forall_mem_cons.mpr ⟨tbp_5 176 rfl rfl, List.forall_mem_cons.mpr ⟨tbp_5 178 rfl rfl, List.forall_mem_cons.mpr ⟨tbp_5 180 rfl rfl, List.forall_mem_cons.mpr ⟨tbp_5 182 rfl rfl, List.forall_mem_cons.mpr ⟨tbp_5 184 rfl rfl, List.forall_mem_cons.mpr ⟨tbp_5 186 rfl rfl, List.forall_mem_cons.mpr ⟨tbp_5 188 rfl rfl, List.forall_mem_cons.mpr ⟨tbp_5 190 rfl rfl, List.forall_mem_cons.mpr ⟨tbp_5 192 rfl rfl, List.forall_mem_cons.mpr ⟨tbp_5 194 rfl rfl, List.forall_mem_cons.mpr ⟨tbp_5 196 rfl rfl, List.forall_mem_cons.mpr ⟨tbp_5 198 rfl rfl, List.forall_mem_cons.mpr ⟨tbp_5 200 rfl rfl, List.forall_mem_cons.mpr ⟨tbp_5 202 rfl rfl, List.forall_mem_cons.mpr ⟨tbp_5 204 rfl rfl, List.forall_mem_cons.mpr ⟨tbp_5 206 rfl rfl, List.forall_mem_cons.mpr ⟨tbp_5 208 rfl rfl, List.forall_mem_cons.mpr ⟨tbp_5 210 rfl rfl, List.forall_mem_cons.mpr ⟨tbp_5 212 rfl rfl, List.forall_mem_cons.mpr ⟨tbp_5 214 rfl rfl, List.forall_mem_cons.mpr ⟨tbp_5 216 rfl rfl, List.forall_mem_cons.mpr ⟨tbp_5 218 rfl rfl, List.forall_mem_cons.mpr ⟨tbp_5 220 rfl rfl, List.forall_mem_cons.mpr ⟨tbp_5 222 rfl rfl, List.forall_mem_cons.mpr ⟨tbp_5 224 rfl rfl, List.forall_mem_cons.mpr ⟨tbp_5 226 rfl rfl, List.forall_mem_cons.mpr ⟨tbp_5 228 rfl rfl, List.forall_mem_cons.mpr ⟨tbp_5 230 rfl rfl, List.forall_mem_cons.mpr ⟨tbp_5 232 rfl rfl, List.forall_mem_cons.mpr ⟨tbp_5 234 rfl rfl, List.forall_mem_cons.mpr ⟨tbp_5 236 rfl rfl, List.forall_mem_cons.mpr ⟨tbp_5 238 rfl rfl, List.forall_mem_cons.mpr ⟨tbp_6 0 rfl rfl, List.forall_mem_cons.mpr ⟨tbp_6 2 rfl rfl, List.forall_mem_cons.mpr ⟨tbp_6 4 rfl rfl, List.forall_mem_cons.mpr ⟨tbp_6 6 rfl rfl, List.forall_mem_cons.mpr ⟨tbp_6 8 rfl rfl, List.forall_mem_cons.mpr ⟨tbp_6 10 rfl rfl, List.forall_mem_cons.mpr ⟨tbp_6 12 rfl rfl, List.forall_mem_cons.mpr ⟨tbp_6 14 rfl rfl, List.forall_mem_cons.mpr ⟨tbp_6 16 rfl rfl, List.forall_mem_cons.mpr ⟨tbp_6 18 rfl rfl, List.forall_mem_cons.mpr ⟨tbp_6 20 rfl rfl, List.forall_mem_nil _⟩⟩⟩⟩⟩⟩⟩⟩⟩⟩⟩⟩⟩⟩⟩⟩⟩⟩⟩⟩⟩⟩⟩⟩⟩⟩⟩⟩⟩⟩⟩⟩⟩⟩⟩⟩⟩⟩⟩⟩⟩⟩⟩⟩⟩⟩⟩⟩⟩⟩⟩⟩⟩⟩⟩
