/-! what the tables say of the classes, methods and links (by program) -/
theorem rInP {w : Cond} (i : Nat) (h : (k2_sels lw_privs)[i]? = some w) (g : goodWord w = true) : w ∈ rTT := List.mem_filter.mpr ⟨List.mem_append_left _ (List.mem_of_getElem? h), g⟩
theorem rIn1 {w : Cond} (i : Nat) (h : tables_1_1[i]? = some w) (g : goodWord w = true) : w ∈ rTT := List.mem_filter.mpr ⟨List.mem_append_right _ (List.mem_append_left _ (List.mem_of_getElem? h)), g⟩
theorem rIn2 {w : Cond} (i : Nat) (h : tables_1_2[i]? = some w) (g : goodWord w = true) : w ∈ rTT := List.mem_filter.mpr ⟨List.mem_append_right _ (List.mem_append_right _ (List.mem_append_left _ (List.mem_of_getElem? h))), g⟩
theorem rIn3 {w : Cond} (i : Nat) (h : tables_1_3[i]? = some w) (g : goodWord w = true) : w ∈ rTT := List.mem_filter.mpr ⟨List.mem_append_right _ (List.mem_append_right _ (List.mem_append_right _ (List.mem_append_left _ (List.mem_of_getElem? h)))), g⟩
theorem rIn4 {w : Cond} (i : Nat) (h : tables_1_4[i]? = some w) (g : goodWord w = true) : w ∈ rTT := List.mem_filter.mpr ⟨List.mem_append_right _ (List.mem_append_right _ (List.mem_append_right _ (List.mem_append_right _ (List.mem_append_left _ (List.mem_of_getElem? h))))), g⟩
theorem rIn5 {w : Cond} (i : Nat) (h : tables_1_5[i]? = some w) (g : goodWord w = true) : w ∈ rTT := List.mem_filter.mpr ⟨List.mem_append_right _ (List.mem_append_right _ (List.mem_append_right _ (List.mem_append_right _ (List.mem_append_right _ (List.mem_append_left _ (List.mem_of_getElem? h)))))), g⟩
theorem rIn6 {w : Cond} (i : Nat) (h : tables_1_6[i]? = some w) (g : goodWord w = true) : w ∈ rTT := List.mem_filter.mpr ⟨List.mem_append_right _ (List.mem_append_right _ (List.mem_append_right _ (List.mem_append_right _ (List.mem_append_right _ (List.mem_append_right _ ((List.mem_of_getElem? h))))))), g⟩
def rYb : List (MethodName × ByteArray) := [(⟨rCn 0, "<init>", "()V"⟩, prog_2_method_1_code), (⟨rCn 0, "clea\x72", "()V"⟩, prog_2_method_2_code), (⟨rCn 0, "holdOne", "(III)V"⟩, prog_2_method_3_code), (⟨rCn 0, "answe\x72", "(II)I"⟩, prog_2_method_4_code), (⟨rCn 0, "own", "(III)I"⟩, prog_2_method_5_code), (⟨rCn 0, "inherited", "(IIII)I"⟩, prog_2_method_6_code), (⟨rCn 0, "bodyFo\x72", "(II)I"⟩, prog_2_method_7_code), (⟨rCn 0, "run", "(III)I"⟩, prog_2_method_8_code), (⟨rCn 0, "part", "(I)I"⟩, prog_2_method_9_code), (⟨rCn 0, "note", "(I)V"⟩, prog_2_method_10_code), (⟨rCn 1, "<init>", "()V"⟩, prog_3_method_1_code), (⟨rCn 1, "begin", "(III)V"⟩, prog_3_method_2_code), (⟨rCn 1, "holds", "(II)Z"⟩, prog_3_method_3_code), (⟨rCn 1, "numbe\x72", "(II)I"⟩, prog_3_method_4_code), (⟨rCn 1, "write", "(III)V"⟩, prog_3_method_5_code), (⟨rCn 2, "<init>", "()V"⟩, prog_4_method_1_code), (⟨rCn 2, "clea\x72", "(I)V"⟩, prog_4_method_2_code), (⟨rCn 2, "holdThing", "(II)V"⟩, prog_4_method_3_code), (⟨rCn 2, "holdRow", "(III)V"⟩, prog_4_method_4_code), (⟨rCn 2, "holdsRow", "(I)Z"⟩, prog_4_method_5_code), (⟨rCn 3, "<init>", "()V"⟩, prog_5_method_1_code), (⟨rCn 3, "begin", "()V"⟩, prog_5_method_2_code), (⟨rCn 3, "become", "(LSampleLayers$Street;)V"⟩, prog_5_method_3_code), (⟨rCn 3, "has", "(I)Z"⟩, prog_5_method_4_code), (⟨rCn 3, "lies", "(I)Z"⟩, prog_5_method_5_code), (⟨rCn 3, "add", "(IIII)I"⟩, prog_5_method_6_code), (⟨rCn 3, "layIn", "(II)V"⟩, prog_5_method_7_code), (⟨rCn 3, "setLying", "()I"⟩, prog_5_method_8_code), (⟨rCn 3, "setIn", "(I)I"⟩, prog_5_method_9_code), (⟨rCn 3, "setAbove", "(I)I"⟩, prog_5_method_10_code), (⟨rCn 3, "uppermost", "(I)I"⟩, prog_5_method_11_code), (⟨rCn 3, "worthLying", "()I"⟩, prog_5_method_12_code), (⟨rCn 3, "pitsInUse", "()I"⟩, prog_5_method_13_code), (⟨rCn 3, "cove\x72", "()I"⟩, prog_5_method_14_code), (⟨rCn 3, "kindsIn", "(I)I"⟩, prog_5_method_15_code), (⟨rCn 3, "speaking", "(I)I"⟩, prog_5_method_16_code), (⟨rCn 3, "hiding", "(I)I"⟩, prog_5_method_17_code), (⟨rCn 3, "passYears", "(I)V"⟩, prog_5_method_18_code), (⟨rCn 3, "passYea\x72", "()V"⟩, prog_5_method_19_code), (⟨rCn 3, "dig", "()V"⟩, prog_5_method_20_code), (⟨rCn 3, "passDrawnYea\x72", "()V"⟩, prog_5_method_21_code), (⟨rCn 3, "draw", "()I"⟩, prog_5_method_22_code), (⟨rCn 4, "<init>", "()V"⟩, prog_6_method_1_code), (⟨rCn 4, "clea\x72", "()V"⟩, prog_6_method_2_code), (⟨rCn 4, "append", "(JI)I"⟩, prog_6_method_3_code), (⟨rCn 4, "readInto", "(LSampleLayers$Street;)I"⟩, prog_6_method_4_code), (⟨rCn 4, "readStatement", "(LSampleLayers$Street;)V"⟩, prog_6_method_5_code), (⟨rCn 4, "readThing", "(LSampleLayers$Street;I)V"⟩, prog_6_method_6_code), (⟨rCn 4, "apply", "(LSampleLayers$Street;II)V"⟩, prog_6_method_7_code), (⟨rCn 4, "mostOfSetting", "(I)I"⟩, prog_6_method_8_code), (⟨rCn 4, "kindNamed", "()I"⟩, prog_6_method_9_code), (⟨rCn 4, "settingNamed", "()I"⟩, prog_6_method_10_code), (⟨rCn 4, "readNumbe\x72", "(I)I"⟩, prog_6_method_11_code), (⟨rCn 4, "needEndOfStatement", "()V"⟩, prog_6_method_12_code), (⟨rCn 4, "fail", "()V"⟩, prog_6_method_13_code), (⟨rCn 4, "next", "()V"⟩, prog_6_method_14_code), (⟨rCn 4, "sortOf", "(I)I"⟩, prog_6_method_15_code), (⟨rCn 4, "isName", "(Ljava/lang/String;)Z"⟩, prog_6_method_16_code), (⟨rCn 5, "<init>", "()V"⟩, prog_1_method_1_code), (⟨rCn 5, "feed", "(JI)I"⟩, prog_1_method_2_code), (⟨rCn 5, "street", "()I"⟩, prog_1_method_3_code), (⟨rCn 5, "set", "(II)I"⟩, prog_1_method_4_code), (⟨rCn 5, "lawOf", "(I)I"⟩, prog_1_method_5_code), (⟨rCn 5, "thing", "(IIII)I"⟩, prog_1_method_6_code), (⟨rCn 5, "of", "(II)I"⟩, prog_1_method_7_code), (⟨rCn 5, "does", "(II)I"⟩, prog_1_method_8_code), (⟨rCn 5, "mind", "(III)I"⟩, prog_1_method_9_code), (⟨rCn 5, "value", "(II)I"⟩, prog_1_method_10_code), (⟨rCn 5, "lay", "(II)I"⟩, prog_1_method_11_code), (⟨rCn 5, "take", "(I)I"⟩, prog_1_method_12_code), (⟨rCn 5, "bring", "(I)I"⟩, prog_1_method_13_code), (⟨rCn 5, "think", "(I)I"⟩, prog_1_method_14_code), (⟨rCn 5, "pit", "(II)I"⟩, prog_1_method_15_code), (⟨rCn 5, "years", "(I)I"⟩, prog_1_method_16_code), (⟨rCn 5, "seed", "(I)I"⟩, prog_1_method_17_code), (⟨rCn 5, "yea\x72", "()I"⟩, prog_1_method_18_code), (⟨rCn 5, "luck", "(I)I"⟩, prog_1_method_19_code), (⟨rCn 5, "state", "(I)I"⟩, prog_1_method_20_code), (⟨rCn 5, "thought", "(I)I"⟩, prog_1_method_21_code), (⟨rCn 5, "dug", "(I)I"⟩, prog_1_method_22_code), (⟨rCn 5, "empty", "()I"⟩, prog_1_method_23_code), (⟨rCn 5, "praised", "(I)I"⟩, prog_1_method_24_code), (⟨rCn 5, "pitFo\x72", "(II)I"⟩, prog_1_method_25_code), (⟨rCn 5, "kindFo\x72", "(II)I"⟩, prog_1_method_26_code), (⟨rCn 5, "worthFo\x72", "(III)I"⟩, prog_1_method_27_code), (⟨rCn 5, "beginFo\x72", "(I)I"⟩, prog_1_method_28_code), (⟨rCn 5, "awayFo\x72", "(II)I"⟩, prog_1_method_29_code), (⟨rCn 5, "above", "(I)I"⟩, prog_1_method_30_code), (⟨rCn 5, "fits", "(III)I"⟩, prog_1_method_31_code), (⟨rCn 5, "odds", "(III)J"⟩, prog_1_method_32_code), (⟨rCn 5, "hope", "(II)J"⟩, prog_1_method_33_code), (⟨rCn 5, "prove", "(II)I"⟩, prog_1_method_34_code), (⟨rCn 5, "row", "(II)I"⟩, prog_1_method_35_code), (⟨rCn 5, "alterRow", "(III)I"⟩, prog_1_method_36_code), (⟨rCn 5, "judge", "(I)I"⟩, prog_1_method_37_code), (⟨rCn 5, "minds", "(IIII)I"⟩, prog_1_method_38_code), (⟨rCn 5, "sheet", "(III)I"⟩, prog_1_method_39_code), (⟨rCn 5, "put", "(III)I"⟩, prog_1_method_40_code), (⟨rCn 5, "item", "(III)I"⟩, prog_1_method_41_code), (⟨rCn 5, "shelf", "(III)I"⟩, prog_1_method_42_code), (⟨rCn 5, "taken", "(II)I"⟩, prog_1_method_43_code), (⟨rCn 5, "act", "(III)I"⟩, prog_1_method_44_code), (⟨rCn 5, "trace", "(I)I"⟩, prog_1_method_45_code), (⟨rCn 5, "many", "(I)I"⟩, prog_1_method_46_code), (⟨rCn 5, "keep", "()I"⟩, prog_1_method_47_code), (⟨rCn 5, "again", "()I"⟩, prog_1_method_48_code), (⟨rCn 5, "within", "(II)Z"⟩, prog_1_method_49_code), (⟨rCn 5, "isNea\x72", "(I)Z"⟩, prog_1_method_50_code), (⟨rCn 5, "held", "(II)I"⟩, prog_1_method_51_code), (⟨rCn 5, "mostOfLaw", "(I)I"⟩, prog_1_method_52_code), (⟨rCn 5, "isUnde\x72", "(II)Z"⟩, prog_1_method_53_code), (⟨rCn 5, "opinionBehind", "(I)I"⟩, prog_1_method_54_code), (⟨rCn 5, "opinionWithout", "(II)I"⟩, prog_1_method_55_code), (⟨rCn 5, "bestChange", "(III)I"⟩, prog_1_method_56_code), (⟨rCn 5, "changeTried", "(III)V"⟩, prog_1_method_57_code), (⟨rCn 5, "fitsWith", "(III)Z"⟩, prog_1_method_58_code), (⟨rCn 5, "hasRow", "(II)Z"⟩, prog_1_method_59_code), (⟨rCn 5, "triedPart", "(II)I"⟩, prog_1_method_60_code), (⟨rCn 5, "ways", "(II)J"⟩, prog_1_method_61_code), (⟨rCn 5, "powe\x72", "(JI)J"⟩, prog_1_method_62_code), (⟨rCn 5, "partOf", "(JJI)J"⟩, prog_1_method_63_code), (⟨rCn 6, "<init>", "()V"⟩, prog_8_method_1_code), (⟨rCn 6, "begins", "()V"⟩, prog_8_method_2_code), (⟨rCn 6, "isIn", "(JJJ)Z"⟩, prog_8_method_3_code), (⟨rCn 6, "isPit", "(I)Z"⟩, prog_8_method_4_code), (⟨rCn 6, "isOne", "(I)Z"⟩, prog_8_method_5_code), (⟨rCn 6, "its", "(II)I"⟩, prog_8_method_6_code), (⟨rCn 6, "becomes", "(II)I"⟩, prog_8_method_7_code), (⟨rCn 6, "copyRow", "([I[I)V"⟩, prog_8_method_8_code), (⟨rCn 6, "greatest", "(II)I"⟩, prog_8_method_9_code), (⟨rCn 6, "within", "(I)I"⟩, prog_8_method_10_code), (⟨rCn 6, "size", "(I)I"⟩, prog_8_method_11_code), (⟨rCn 6, "isUnde\x72", "(II)Z"⟩, prog_8_method_12_code), (⟨rCn 6, "feed", "(JI)I"⟩, prog_8_method_13_code), (⟨rCn 6, "isAlpha", "(I)Z"⟩, prog_8_method_14_code), (⟨rCn 6, "isDigit", "(I)Z"⟩, prog_8_method_15_code), (⟨rCn 6, "byteAt", "(I)I"⟩, prog_8_method_16_code), (⟨rCn 6, "nextToken", "()V"⟩, prog_8_method_17_code), (⟨rCn 6, "needs", "(Z)V"⟩, prog_8_method_18_code), (⟨rCn 6, "isName", "(IIIII)Z"⟩, prog_8_method_19_code), (⟨rCn 6, "isSame", "(IIII)Z"⟩, prog_8_method_20_code), (⟨rCn 6, "isFou\x72", "(IIII)Z"⟩, prog_8_method_21_code), (⟨rCn 6, "isFive", "(IIIII)Z"⟩, prog_8_method_22_code), (⟨rCn 6, "kindHere", "()I"⟩, prog_8_method_23_code), (⟨rCn 6, "numberTo", "(II)V"⟩, prog_8_method_24_code), (⟨rCn 6, "perhaps", "(ZII)V"⟩, prog_8_method_25_code), (⟨rCn 6, "thingHere", "(I)V"⟩, prog_8_method_26_code), (⟨rCn 6, "ownHere", "()I"⟩, prog_8_method_27_code), (⟨rCn 6, "itemHere", "()V"⟩, prog_8_method_28_code), (⟨rCn 6, "street", "()I"⟩, prog_8_method_29_code), (⟨rCn 6, "set", "(II)I"⟩, prog_8_method_30_code), (⟨rCn 6, "lawOf", "(I)I"⟩, prog_8_method_31_code), (⟨rCn 6, "lies", "(II)V"⟩, prog_8_method_32_code), (⟨rCn 6, "comes", "(IIII)V"⟩, prog_8_method_33_code), (⟨rCn 6, "thing", "(IIII)I"⟩, prog_8_method_34_code), (⟨rCn 6, "aboveOf", "(I)I"⟩, prog_8_method_35_code), (⟨rCn 6, "speaks", "(I)I"⟩, prog_8_method_36_code), (⟨rCn 6, "hides", "(I)I"⟩, prog_8_method_37_code), (⟨rCn 6, "of", "(II)I"⟩, prog_8_method_38_code), (⟨rCn 6, "does", "(II)I"⟩, prog_8_method_39_code), (⟨rCn 6, "mind", "(III)I"⟩, prog_8_method_40_code), (⟨rCn 6, "value", "(II)I"⟩, prog_8_method_41_code), (⟨rCn 6, "lay", "(II)I"⟩, prog_8_method_42_code), (⟨rCn 6, "lying", "()I"⟩, prog_8_method_43_code), (⟨rCn 6, "take", "(I)I"⟩, prog_8_method_44_code), (⟨rCn 6, "bring", "(I)I"⟩, prog_8_method_45_code), (⟨rCn 6, "think", "(I)I"⟩, prog_8_method_46_code), (⟨rCn 6, "lyingIn", "(I)I"⟩, prog_8_method_47_code), (⟨rCn 6, "top", "(I)I"⟩, prog_8_method_48_code), (⟨rCn 6, "pit", "(II)I"⟩, prog_8_method_49_code), (⟨rCn 6, "goesOn", "()V"⟩, prog_8_method_50_code), (⟨rCn 6, "goes", "(I)V"⟩, prog_8_method_51_code), (⟨rCn 6, "years", "(I)I"⟩, prog_8_method_52_code), (⟨rCn 6, "seed", "(I)I"⟩, prog_8_method_53_code), (⟨rCn 6, "drawn", "()I"⟩, prog_8_method_54_code), (⟨rCn 6, "yea\x72", "()I"⟩, prog_8_method_55_code), (⟨rCn 6, "luck", "(I)I"⟩, prog_8_method_56_code), (⟨rCn 6, "worthOfAll", "()I"⟩, prog_8_method_57_code), (⟨rCn 6, "kindsIn", "(I)I"⟩, prog_8_method_58_code), (⟨rCn 6, "cove\x72", "()I"⟩, prog_8_method_59_code), (⟨rCn 6, "state", "(I)I"⟩, prog_8_method_60_code), (⟨rCn 6, "thoughtBehind", "(I)I"⟩, prog_8_method_61_code), (⟨rCn 6, "thought", "(I)I"⟩, prog_8_method_62_code), (⟨rCn 6, "dug", "(I)I"⟩, prog_8_method_63_code), (⟨rCn 6, "empty", "()I"⟩, prog_8_method_64_code), (⟨rCn 6, "praised", "(I)I"⟩, prog_8_method_65_code), (⟨rCn 6, "isShort", "(I)Z"⟩, prog_8_method_66_code), (⟨rCn 6, "pitFo\x72", "(II)I"⟩, prog_8_method_67_code), (⟨rCn 6, "mostBy", "(III)I"⟩, prog_8_method_68_code), (⟨rCn 6, "kindFo\x72", "(II)I"⟩, prog_8_method_69_code), (⟨rCn 6, "worthFo\x72", "(III)I"⟩, prog_8_method_70_code), (⟨rCn 6, "beginFo\x72", "(I)I"⟩, prog_8_method_71_code), (⟨rCn 6, "awayFo\x72", "(II)I"⟩, prog_8_method_72_code), (⟨rCn 6, "above", "(I)I"⟩, prog_8_method_73_code), (⟨rCn 6, "product", "(I)J"⟩, prog_8_method_74_code), (⟨rCn 6, "partOf", "(JJI)J"⟩, prog_8_method_75_code), (⟨rCn 6, "isTold", "(I)Z"⟩, prog_8_method_76_code), (⟨rCn 6, "fits", "(III)I"⟩, prog_8_method_77_code), (⟨rCn 6, "odds", "(III)J"⟩, prog_8_method_78_code), (⟨rCn 6, "hope", "(II)J"⟩, prog_8_method_79_code), (⟨rCn 6, "prove", "(II)I"⟩, prog_8_method_80_code), (⟨rCn 6, "isRow", "(II)Z"⟩, prog_8_method_81_code), (⟨rCn 6, "row", "(II)I"⟩, prog_8_method_82_code), (⟨rCn 6, "alterRow", "(III)I"⟩, prog_8_method_83_code), (⟨rCn 6, "judge", "(I)I"⟩, prog_8_method_84_code), (⟨rCn 6, "isSheet", "(I)Z"⟩, prog_8_method_85_code), (⟨rCn 6, "isShelf", "(I)Z"⟩, prog_8_method_86_code), (⟨rCn 6, "sheet", "(III)I"⟩, prog_8_method_87_code), (⟨rCn 6, "put", "(III)I"⟩, prog_8_method_88_code), (⟨rCn 6, "lacks", "(II)I"⟩, prog_8_method_89_code), (⟨rCn 6, "item", "(III)I"⟩, prog_8_method_90_code), (⟨rCn 6, "minds", "(IIII)I"⟩, prog_8_method_91_code), (⟨rCn 6, "shelf", "(III)I"⟩, prog_8_method_92_code), (⟨rCn 6, "heldOn", "(I)I"⟩, prog_8_method_93_code), (⟨rCn 6, "taken", "(II)I"⟩, prog_8_method_94_code), (⟨rCn 6, "runs", "(I)V"⟩, prog_8_method_95_code), (⟨rCn 6, "sinksPlain", "(I)I"⟩, prog_8_method_96_code), (⟨rCn 6, "sinksOfRubbish", "(I)I"⟩, prog_8_method_97_code), (⟨rCn 6, "sinks", "(I)I"⟩, prog_8_method_98_code), (⟨rCn 6, "showsPlain", "(I)I"⟩, prog_8_method_99_code), (⟨rCn 6, "shows", "(I)I"⟩, prog_8_method_100_code), (⟨rCn 6, "partsPlain", "(I)I"⟩, prog_8_method_101_code), (⟨rCn 6, "parts", "(I)I"⟩, prog_8_method_102_code), (⟨rCn 6, "asksPlain", "(I)I"⟩, prog_8_method_103_code), (⟨rCn 6, "asks", "(I)I"⟩, prog_8_method_104_code), (⟨rCn 6, "act", "(III)I"⟩, prog_8_method_105_code), (⟨rCn 6, "trace", "(I)I"⟩, prog_8_method_106_code), (⟨rCn 6, "many", "(I)I"⟩, prog_8_method_107_code), (⟨rCn 6, "keep", "()I"⟩, prog_8_method_108_code), (⟨rCn 6, "again", "()I"⟩, prog_8_method_109_code), (⟨rCn 11, "bitCount", "(I)I"⟩, prog_9_method_49_code), (⟨rCn 8, "length", "()I"⟩, prog_11_method_54_code), (⟨rCn 8, "charAt", "(I)C"⟩, prog_11_method_56_code), (⟨rCn 8, "code\x72", "()B"⟩, prog_11_method_152_code), (⟨rCn 8, "isLatin1", "()Z"⟩, prog_11_method_154_code), (⟨rCn 8, "checkIndex", "(II)V"⟩, prog_11_method_155_code), (⟨rCn 9, "charAt", "([BI)C"⟩, prog_12_method_2_code), (⟨rCn 10, "checkIndex", "(IILjava/util/function/BiFunction;)I"⟩, prog_15_method_11_code), (⟨rCn 7, "law", "([I)Z"⟩, code)]
def rYd : MethodName × ByteArray := (⟨"", "", ""⟩, ⟨#[]⟩)
def rYn (i : Nat) : MethodName := (rYb.getD i rYd).1
def rBy (i : Nat) : ByteArray := (rYb.getD i rYd).2
/-- a class of ours: its place in classes, its fields' words -/
def rKc (ci : Nat) (C : String) (T : u_T) (N : Nat) (ty : Nat → FieldType) : Prop := classes[ci]? = some (C, T, N) ∧ C = rCn ci ∧ (∀ w ∈ u_ws C T N, w ∈ rTT) ∧ (∀ a, a < N → ∀ b, b < N → a ≠ b → (T a).2.1 ≠ (T b).2.1) ∧ (∀ k, k < N → parseFieldDescriptor (T k).2.2.1 = some (ty k)) ∧ (∀ k, k < N → (T k).1 = C) ∧ Cond.instantiable C N ∈ rTT ∧ Cond.initialized C ∈ rTT
set_option maxRecDepth 20000 in
theorem rKX0_w : ∀ w ∈ u_ws RX0 TX0 6, w ∈ rTT := by
  show ∀ w ∈ [u_lay RX0 TX0 0, u_lay RX0 TX0 1, u_lay RX0 TX0 2, u_lay RX0 TX0 3, u_lay RX0 TX0 4, u_lay RX0 TX0 5], w ∈ rTT
  exact List.forall_mem_cons.mpr ⟨rIn1 167 rfl rfl, List.forall_mem_cons.mpr ⟨rIn1 169 rfl rfl, List.forall_mem_cons.mpr ⟨rIn1 171 rfl rfl, List.forall_mem_cons.mpr ⟨rIn1 173 rfl rfl, List.forall_mem_cons.mpr ⟨rIn1 175 rfl rfl, List.forall_mem_cons.mpr ⟨rIn1 177 rfl rfl, fun _ h => absurd h List.not_mem_nil⟩⟩⟩⟩⟩⟩
set_option maxRecDepth 20000 in
theorem rKX0 : rKc 0 RX0 TX0 6 tyX0 := ⟨rfl, rfl, rKX0_w, nmX0, tyX0_ok, by decide +kernel, rIn1 154 rfl rfl, rIn1 6 rfl rfl⟩
set_option maxRecDepth 20000 in
theorem rKX1_w : ∀ w ∈ u_ws RX1 TX1 3, w ∈ rTT := by
  show ∀ w ∈ [u_lay RX1 TX1 0, u_lay RX1 TX1 1, u_lay RX1 TX1 2], w ∈ rTT
  exact List.forall_mem_cons.mpr ⟨rIn1 123 rfl rfl, List.forall_mem_cons.mpr ⟨rIn1 125 rfl rfl, List.forall_mem_cons.mpr ⟨rIn1 127 rfl rfl, fun _ h => absurd h List.not_mem_nil⟩⟩⟩
set_option maxRecDepth 20000 in
theorem rKX1 : rKc 1 RX1 TX1 3 tyX1 := ⟨rfl, rfl, rKX1_w, nmX1, tyX1_ok, by decide +kernel, rIn1 113 rfl rfl, rIn1 4 rfl rfl⟩
set_option maxRecDepth 20000 in
theorem rKX2_w : ∀ w ∈ u_ws RX2 TX2 3, w ∈ rTT := by
  show ∀ w ∈ [u_lay RX2 TX2 0, u_lay RX2 TX2 1, u_lay RX2 TX2 2], w ∈ rTT
  exact List.forall_mem_cons.mpr ⟨rIn1 146 rfl rfl, List.forall_mem_cons.mpr ⟨rIn1 148 rfl rfl, List.forall_mem_cons.mpr ⟨rIn1 150 rfl rfl, fun _ h => absurd h List.not_mem_nil⟩⟩⟩
set_option maxRecDepth 20000 in
theorem rKX2 : rKc 2 RX2 TX2 3 tyX2 := ⟨rfl, rfl, rKX2_w, nmX2, tyX2_ok, by decide +kernel, rIn1 131 rfl rfl, rIn1 5 rfl rfl⟩
set_option maxRecDepth 20000 in
theorem rKX3_w : ∀ w ∈ u_ws RX3 TX3 12, w ∈ rTT := by
  show ∀ w ∈ [u_lay RX3 TX3 0, u_lay RX3 TX3 1, u_lay RX3 TX3 2, u_lay RX3 TX3 3, u_lay RX3 TX3 4, u_lay RX3 TX3 5, u_lay RX3 TX3 6, u_lay RX3 TX3 7, u_lay RX3 TX3 8, u_lay RX3 TX3 9, u_lay RX3 TX3 10, u_lay RX3 TX3 11], w ∈ rTT
  exact List.forall_mem_cons.mpr ⟨rIn1 59 rfl rfl, List.forall_mem_cons.mpr ⟨rIn1 61 rfl rfl, List.forall_mem_cons.mpr ⟨rIn1 63 rfl rfl, List.forall_mem_cons.mpr ⟨rIn1 65 rfl rfl, List.forall_mem_cons.mpr ⟨rIn1 67 rfl rfl, List.forall_mem_cons.mpr ⟨rIn1 69 rfl rfl, List.forall_mem_cons.mpr ⟨rIn1 71 rfl rfl, List.forall_mem_cons.mpr ⟨rIn1 73 rfl rfl, List.forall_mem_cons.mpr ⟨rIn1 75 rfl rfl, List.forall_mem_cons.mpr ⟨rIn1 77 rfl rfl, List.forall_mem_cons.mpr ⟨rIn1 79 rfl rfl, List.forall_mem_cons.mpr ⟨rIn1 81 rfl rfl, fun _ h => absurd h List.not_mem_nil⟩⟩⟩⟩⟩⟩⟩⟩⟩⟩⟩⟩
set_option maxRecDepth 20000 in
theorem rKX3 : rKc 3 RX3 TX3 12 tyX3 := ⟨rfl, rfl, rKX3_w, nmX3, tyX3_ok, by decide +kernel, rIn1 24 rfl rfl, rIn1 2 rfl rfl⟩
set_option maxRecDepth 20000 in
theorem rKX4_w : ∀ w ∈ u_ws RX4 TX4 6, w ∈ rTT := by
  show ∀ w ∈ [u_lay RX4 TX4 0, u_lay RX4 TX4 1, u_lay RX4 TX4 2, u_lay RX4 TX4 3, u_lay RX4 TX4 4, u_lay RX4 TX4 5], w ∈ rTT
  exact List.forall_mem_cons.mpr ⟨rIn1 98 rfl rfl, List.forall_mem_cons.mpr ⟨rIn1 100 rfl rfl, List.forall_mem_cons.mpr ⟨rIn1 102 rfl rfl, List.forall_mem_cons.mpr ⟨rIn1 104 rfl rfl, List.forall_mem_cons.mpr ⟨rIn1 106 rfl rfl, List.forall_mem_cons.mpr ⟨rIn1 108 rfl rfl, fun _ h => absurd h List.not_mem_nil⟩⟩⟩⟩⟩⟩
set_option maxRecDepth 20000 in
theorem rKX4 : rKc 4 RX4 TX4 6 tyX4 := ⟨rfl, rfl, rKX4_w, nmX4, tyX4_ok, by decide +kernel, rIn1 86 rfl rfl, rIn1 3 rfl rfl⟩
set_option maxRecDepth 20000 in
theorem rKX5_w : ∀ w ∈ u_ws RX5 TX5 10, w ∈ rTT := by
  show ∀ w ∈ [u_lay RX5 TX5 0, u_lay RX5 TX5 1, u_lay RX5 TX5 2, u_lay RX5 TX5 3, u_lay RX5 TX5 4, u_lay RX5 TX5 5, u_lay RX5 TX5 6, u_lay RX5 TX5 7, u_lay RX5 TX5 8, u_lay RX5 TX5 9], w ∈ rTT
  exact List.forall_mem_cons.mpr ⟨rIn1 190 rfl rfl, List.forall_mem_cons.mpr ⟨rIn1 192 rfl rfl, List.forall_mem_cons.mpr ⟨rIn1 194 rfl rfl, List.forall_mem_cons.mpr ⟨rIn1 196 rfl rfl, List.forall_mem_cons.mpr ⟨rIn1 198 rfl rfl, List.forall_mem_cons.mpr ⟨rIn1 200 rfl rfl, List.forall_mem_cons.mpr ⟨rIn1 202 rfl rfl, List.forall_mem_cons.mpr ⟨rIn1 204 rfl rfl, List.forall_mem_cons.mpr ⟨rIn1 206 rfl rfl, List.forall_mem_cons.mpr ⟨rIn1 208 rfl rfl, fun _ h => absurd h List.not_mem_nil⟩⟩⟩⟩⟩⟩⟩⟩⟩⟩
set_option maxRecDepth 20000 in
theorem rKX5 : rKc 5 RX5 TX5 10 tyX5 := ⟨rfl, rfl, rKX5_w, nmX5, tyX5_ok, by decide +kernel, rIn1 16 rfl rfl, rIn1 1 rfl rfl⟩
set_option maxRecDepth 20000 in
theorem rKX6_w : ∀ w ∈ u_ws RX6 TX6 27, w ∈ rTT := by
  show ∀ w ∈ [u_lay RX6 TX6 0, u_lay RX6 TX6 1, u_lay RX6 TX6 2, u_lay RX6 TX6 3, u_lay RX6 TX6 4, u_lay RX6 TX6 5, u_lay RX6 TX6 6, u_lay RX6 TX6 7, u_lay RX6 TX6 8, u_lay RX6 TX6 9, u_lay RX6 TX6 10, u_lay RX6 TX6 11, u_lay RX6 TX6 12, u_lay RX6 TX6 13, u_lay RX6 TX6 14, u_lay RX6 TX6 15, u_lay RX6 TX6 16, u_lay RX6 TX6 17, u_lay RX6 TX6 18, u_lay RX6 TX6 19, u_lay RX6 TX6 20, u_lay RX6 TX6 21, u_lay RX6 TX6 22, u_lay RX6 TX6 23, u_lay RX6 TX6 24, u_lay RX6 TX6 25, u_lay RX6 TX6 26], w ∈ rTT
  exact List.forall_mem_cons.mpr ⟨rIn4 70 rfl rfl, List.forall_mem_cons.mpr ⟨rIn4 72 rfl rfl, List.forall_mem_cons.mpr ⟨rIn4 74 rfl rfl, List.forall_mem_cons.mpr ⟨rIn4 76 rfl rfl, List.forall_mem_cons.mpr ⟨rIn4 78 rfl rfl, List.forall_mem_cons.mpr ⟨rIn4 80 rfl rfl, List.forall_mem_cons.mpr ⟨rIn4 82 rfl rfl, List.forall_mem_cons.mpr ⟨rIn4 84 rfl rfl, List.forall_mem_cons.mpr ⟨rIn4 86 rfl rfl, List.forall_mem_cons.mpr ⟨rIn4 88 rfl rfl, List.forall_mem_cons.mpr ⟨rIn4 90 rfl rfl, List.forall_mem_cons.mpr ⟨rIn4 92 rfl rfl, List.forall_mem_cons.mpr ⟨rIn4 94 rfl rfl, List.forall_mem_cons.mpr ⟨rIn4 96 rfl rfl, List.forall_mem_cons.mpr ⟨rIn4 98 rfl rfl, List.forall_mem_cons.mpr ⟨rIn4 100 rfl rfl, List.forall_mem_cons.mpr ⟨rIn4 102 rfl rfl, List.forall_mem_cons.mpr ⟨rIn4 104 rfl rfl, List.forall_mem_cons.mpr ⟨rIn4 106 rfl rfl, List.forall_mem_cons.mpr ⟨rIn4 108 rfl rfl, List.forall_mem_cons.mpr ⟨rIn4 110 rfl rfl, List.forall_mem_cons.mpr ⟨rIn4 112 rfl rfl, List.forall_mem_cons.mpr ⟨rIn4 114 rfl rfl, List.forall_mem_cons.mpr ⟨rIn4 116 rfl rfl, List.forall_mem_cons.mpr ⟨rIn4 118 rfl rfl, List.forall_mem_cons.mpr ⟨rIn4 120 rfl rfl, List.forall_mem_cons.mpr ⟨rIn4 122 rfl rfl, fun _ h => absurd h List.not_mem_nil⟩⟩⟩⟩⟩⟩⟩⟩⟩⟩⟩⟩⟩⟩⟩⟩⟩⟩⟩⟩⟩⟩⟩⟩⟩⟩⟩
set_option maxRecDepth 20000 in
theorem rKX6 : rKc 6 RX6 TX6 27 tyX6 := ⟨rfl, rfl, rKX6_w, nmX6, tyX6_ok, by decide +kernel, rIn4 34 rfl rfl, rIn1 7 rfl rfl⟩
theorem rKcl : ∀ ci, ci < 7 → ∃ C T N ty, rKc ci C T N ty := fun ci h => match ci, h with
  | 0, _ => ⟨_, _, _, _, rKX0⟩
  | 1, _ => ⟨_, _, _, _, rKX1⟩
  | 2, _ => ⟨_, _, _, _, rKX2⟩
  | 3, _ => ⟨_, _, _, _, rKX3⟩
  | 4, _ => ⟨_, _, _, _, rKX4⟩
  | 5, _ => ⟨_, _, _, _, rKX5⟩
  | 6, _ => ⟨_, _, _, _, rKX6⟩
  | n + 7, h => absurd h (by omega)
/-- a field link: q = (index, class, slot, kind) in class c -/
def rFk (c : Nat) (q : Nat × Nat × Nat × Nat) : Prop := ∃ C T N ty, rKc q.2.1 C T N ty ∧ q.2.2.1 < N ∧ Cond.fieldLink (rCn c) q.1 C (T q.2.2.1).2.1 (T q.2.2.1).2.2.1 ∈ rTT ∧
  match q.2.2.2 with
  | 0 => (T q.2.2.1).2.2.2 = false ∧ ty q.2.2.1 = .int
  | 1 => (T q.2.2.1).2.2.2 = false ∧ ty q.2.2.1 = .boolean
  | _ => (T q.2.2.1).2.2.2 = true ∧ ∀ a : Nat, narrow (ty q.2.2.1) (.ref a) = .ref a ∧ fits (ty q.2.2.1) (.ref a) = true
set_option maxRecDepth 20000 in
theorem rFX0_0 : rFk 0 (11, 0, 0, 2) := ⟨_, _, _, _, rKX0, by decide, rIn1 159 rfl rfl, ⟨rfl, fun _ => ⟨rfl, rfl⟩⟩⟩
set_option maxRecDepth 20000 in
theorem rFX0_1 : rFk 0 (15, 0, 1, 0) := ⟨_, _, _, _, rKX0, by decide, rIn1 161 rfl rfl, ⟨rfl, rfl⟩⟩
set_option maxRecDepth 20000 in
theorem rFX0_2 : rFk 0 (19, 0, 5, 1) := ⟨_, _, _, _, rKX0, by decide, rIn1 166 rfl rfl, ⟨rfl, rfl⟩⟩
set_option maxRecDepth 20000 in
theorem rFX0_3 : rFk 0 (23, 0, 2, 0) := ⟨_, _, _, _, rKX0, by decide, rIn1 163 rfl rfl, ⟨rfl, rfl⟩⟩
set_option maxRecDepth 20000 in
theorem rFX0_4 : rFk 0 (26, 0, 3, 0) := ⟨_, _, _, _, rKX0, by decide, rIn1 164 rfl rfl, ⟨rfl, rfl⟩⟩
set_option maxRecDepth 20000 in
theorem rFX0_5 : rFk 0 (29, 0, 4, 0) := ⟨_, _, _, _, rKX0, by decide, rIn1 165 rfl rfl, ⟨rfl, rfl⟩⟩
theorem rFX0 : ∀ q ∈ (lkF.getD 0 []), rFk 0 q := List.forall_mem_cons.mpr ⟨rFX0_0, List.forall_mem_cons.mpr ⟨rFX0_1, List.forall_mem_cons.mpr ⟨rFX0_2, List.forall_mem_cons.mpr ⟨rFX0_3, List.forall_mem_cons.mpr ⟨rFX0_4, List.forall_mem_cons.mpr ⟨rFX0_5, fun _ h => absurd h List.not_mem_nil⟩⟩⟩⟩⟩⟩
set_option maxRecDepth 20000 in
theorem rFX1_0 : rFk 1 (9, 1, 0, 2) := ⟨_, _, _, _, rKX1, by decide, rIn1 118 rfl rfl, ⟨rfl, fun _ => ⟨rfl, rfl⟩⟩⟩
set_option maxRecDepth 20000 in
theorem rFX1_1 : rFk 1 (15, 1, 1, 2) := ⟨_, _, _, _, rKX1, by decide, rIn1 120 rfl rfl, ⟨rfl, fun _ => ⟨rfl, rfl⟩⟩⟩
set_option maxRecDepth 20000 in
theorem rFX1_2 : rFk 1 (18, 1, 2, 2) := ⟨_, _, _, _, rKX1, by decide, rIn1 122 rfl rfl, ⟨rfl, fun _ => ⟨rfl, rfl⟩⟩⟩
theorem rFX1 : ∀ q ∈ (lkF.getD 1 []), rFk 1 q := List.forall_mem_cons.mpr ⟨rFX1_0, List.forall_mem_cons.mpr ⟨rFX1_1, List.forall_mem_cons.mpr ⟨rFX1_2, fun _ h => absurd h List.not_mem_nil⟩⟩⟩
set_option maxRecDepth 20000 in
theorem rFX2_0 : rFk 2 (9, 2, 0, 2) := ⟨_, _, _, _, rKX2, by decide, rIn1 140 rfl rfl, ⟨rfl, fun _ => ⟨rfl, rfl⟩⟩⟩
set_option maxRecDepth 20000 in
theorem rFX2_1 : rFk 2 (15, 2, 1, 2) := ⟨_, _, _, _, rKX2, by decide, rIn1 142 rfl rfl, ⟨rfl, fun _ => ⟨rfl, rfl⟩⟩⟩
set_option maxRecDepth 20000 in
theorem rFX2_2 : rFk 2 (18, 2, 2, 2) := ⟨_, _, _, _, rKX2, by decide, rIn1 144 rfl rfl, ⟨rfl, fun _ => ⟨rfl, rfl⟩⟩⟩
theorem rFX2 : ∀ q ∈ (lkF.getD 2 []), rFk 2 q := List.forall_mem_cons.mpr ⟨rFX2_0, List.forall_mem_cons.mpr ⟨rFX2_1, List.forall_mem_cons.mpr ⟨rFX2_2, fun _ h => absurd h List.not_mem_nil⟩⟩⟩
set_option maxRecDepth 20000 in
theorem rFX3_0 : rFk 3 (9, 3, 0, 2) := ⟨_, _, _, _, rKX3, by decide, rIn1 33 rfl rfl, ⟨rfl, fun _ => ⟨rfl, rfl⟩⟩⟩
set_option maxRecDepth 20000 in
theorem rFX3_1 : rFk 3 (15, 3, 1, 2) := ⟨_, _, _, _, rKX3, by decide, rIn1 35 rfl rfl, ⟨rfl, fun _ => ⟨rfl, rfl⟩⟩⟩
set_option maxRecDepth 20000 in
theorem rFX3_2 : rFk 3 (18, 3, 2, 2) := ⟨_, _, _, _, rKX3, by decide, rIn1 37 rfl rfl, ⟨rfl, fun _ => ⟨rfl, rfl⟩⟩⟩
set_option maxRecDepth 20000 in
theorem rFX3_3 : rFk 3 (21, 3, 3, 2) := ⟨_, _, _, _, rKX3, by decide, rIn1 39 rfl rfl, ⟨rfl, fun _ => ⟨rfl, rfl⟩⟩⟩
set_option maxRecDepth 20000 in
theorem rFX3_4 : rFk 3 (24, 3, 5, 2) := ⟨_, _, _, _, rKX3, by decide, rIn1 44 rfl rfl, ⟨rfl, fun _ => ⟨rfl, rfl⟩⟩⟩
set_option maxRecDepth 20000 in
theorem rFX3_5 : rFk 3 (27, 3, 4, 2) := ⟨_, _, _, _, rKX3, by decide, rIn1 41 rfl rfl, ⟨rfl, fun _ => ⟨rfl, rfl⟩⟩⟩
set_option maxRecDepth 20000 in
theorem rFX3_6 : rFk 3 (30, 3, 11, 0) := ⟨_, _, _, _, rKX3, by decide, rIn1 57 rfl rfl, ⟨rfl, rfl⟩⟩
set_option maxRecDepth 20000 in
theorem rFX3_7 : rFk 3 (37, 3, 6, 0) := ⟨_, _, _, _, rKX3, by decide, rIn1 45 rfl rfl, ⟨rfl, rfl⟩⟩
set_option maxRecDepth 20000 in
theorem rFX3_8 : rFk 3 (40, 3, 7, 0) := ⟨_, _, _, _, rKX3, by decide, rIn1 48 rfl rfl, ⟨rfl, rfl⟩⟩
set_option maxRecDepth 20000 in
theorem rFX3_9 : rFk 3 (43, 3, 8, 0) := ⟨_, _, _, _, rKX3, by decide, rIn1 49 rfl rfl, ⟨rfl, rfl⟩⟩
set_option maxRecDepth 20000 in
theorem rFX3_10 : rFk 3 (46, 3, 9, 0) := ⟨_, _, _, _, rKX3, by decide, rIn1 51 rfl rfl, ⟨rfl, rfl⟩⟩
set_option maxRecDepth 20000 in
theorem rFX3_11 : rFk 3 (49, 3, 10, 0) := ⟨_, _, _, _, rKX3, by decide, rIn1 54 rfl rfl, ⟨rfl, rfl⟩⟩
theorem rFX3 : ∀ q ∈ (lkF.getD 3 []), rFk 3 q := List.forall_mem_cons.mpr ⟨rFX3_0, List.forall_mem_cons.mpr ⟨rFX3_1, List.forall_mem_cons.mpr ⟨rFX3_2, List.forall_mem_cons.mpr ⟨rFX3_3, List.forall_mem_cons.mpr ⟨rFX3_4, List.forall_mem_cons.mpr ⟨rFX3_5, List.forall_mem_cons.mpr ⟨rFX3_6, List.forall_mem_cons.mpr ⟨rFX3_7, List.forall_mem_cons.mpr ⟨rFX3_8, List.forall_mem_cons.mpr ⟨rFX3_9, List.forall_mem_cons.mpr ⟨rFX3_10, List.forall_mem_cons.mpr ⟨rFX3_11, fun _ h => absurd h List.not_mem_nil⟩⟩⟩⟩⟩⟩⟩⟩⟩⟩⟩⟩
set_option maxRecDepth 20000 in
theorem rFX4_0 : rFk 4 (11, 4, 0, 2) := ⟨_, _, _, _, rKX4, by decide, rIn1 91 rfl rfl, ⟨rfl, fun _ => ⟨rfl, rfl⟩⟩⟩
set_option maxRecDepth 20000 in
theorem rFX4_1 : rFk 4 (15, 4, 1, 0) := ⟨_, _, _, _, rKX4, by decide, rIn1 92 rfl rfl, ⟨rfl, rfl⟩⟩
set_option maxRecDepth 20000 in
theorem rFX4_2 : rFk 4 (24, 4, 4, 0) := ⟨_, _, _, _, rKX4, by decide, rIn1 96 rfl rfl, ⟨rfl, rfl⟩⟩
set_option maxRecDepth 20000 in
theorem rFX4_3 : rFk 4 (27, 4, 5, 0) := ⟨_, _, _, _, rKX4, by decide, rIn1 97 rfl rfl, ⟨rfl, rfl⟩⟩
set_option maxRecDepth 20000 in
theorem rFX4_4 : rFk 4 (33, 4, 2, 0) := ⟨_, _, _, _, rKX4, by decide, rIn1 94 rfl rfl, ⟨rfl, rfl⟩⟩
set_option maxRecDepth 20000 in
theorem rFX4_5 : rFk 4 (68, 3, 6, 0) := ⟨_, _, _, _, rKX3, by decide, rIn1 47 rfl rfl, ⟨rfl, rfl⟩⟩
set_option maxRecDepth 20000 in
theorem rFX4_6 : rFk 4 (85, 3, 9, 0) := ⟨_, _, _, _, rKX3, by decide, rIn1 52 rfl rfl, ⟨rfl, rfl⟩⟩
set_option maxRecDepth 20000 in
theorem rFX4_7 : rFk 4 (88, 3, 10, 0) := ⟨_, _, _, _, rKX3, by decide, rIn1 55 rfl rfl, ⟨rfl, rfl⟩⟩
set_option maxRecDepth 20000 in
theorem rFX4_8 : rFk 4 (95, 3, 4, 2) := ⟨_, _, _, _, rKX3, by decide, rIn1 43 rfl rfl, ⟨rfl, fun _ => ⟨rfl, rfl⟩⟩⟩
set_option maxRecDepth 20000 in
theorem rFX4_9 : rFk 4 (125, 4, 3, 0) := ⟨_, _, _, _, rKX4, by decide, rIn1 95 rfl rfl, ⟨rfl, rfl⟩⟩
theorem rFX4 : ∀ q ∈ (lkF.getD 4 []), rFk 4 q := List.forall_mem_cons.mpr ⟨rFX4_0, List.forall_mem_cons.mpr ⟨rFX4_1, List.forall_mem_cons.mpr ⟨rFX4_2, List.forall_mem_cons.mpr ⟨rFX4_3, List.forall_mem_cons.mpr ⟨rFX4_4, List.forall_mem_cons.mpr ⟨rFX4_5, List.forall_mem_cons.mpr ⟨rFX4_6, List.forall_mem_cons.mpr ⟨rFX4_7, List.forall_mem_cons.mpr ⟨rFX4_8, List.forall_mem_cons.mpr ⟨rFX4_9, fun _ h => absurd h List.not_mem_nil⟩⟩⟩⟩⟩⟩⟩⟩⟩⟩
set_option maxRecDepth 20000 in
theorem rFX5_0 : rFk 5 (10, 5, 0, 2) := ⟨_, _, _, _, rKX5, by decide, rIn1 180 rfl rfl, ⟨rfl, fun _ => ⟨rfl, rfl⟩⟩⟩
set_option maxRecDepth 20000 in
theorem rFX5_1 : rFk 5 (16, 5, 1, 2) := ⟨_, _, _, _, rKX5, by decide, rIn1 181 rfl rfl, ⟨rfl, fun _ => ⟨rfl, rfl⟩⟩⟩
set_option maxRecDepth 20000 in
theorem rFX5_2 : rFk 5 (19, 5, 2, 2) := ⟨_, _, _, _, rKX5, by decide, rIn1 182 rfl rfl, ⟨rfl, fun _ => ⟨rfl, rfl⟩⟩⟩
set_option maxRecDepth 20000 in
theorem rFX5_3 : rFk 5 (25, 5, 3, 2) := ⟨_, _, _, _, rKX5, by decide, rIn1 183 rfl rfl, ⟨rfl, fun _ => ⟨rfl, rfl⟩⟩⟩
set_option maxRecDepth 20000 in
theorem rFX5_4 : rFk 5 (32, 5, 4, 2) := ⟨_, _, _, _, rKX5, by decide, rIn1 184 rfl rfl, ⟨rfl, fun _ => ⟨rfl, rfl⟩⟩⟩
set_option maxRecDepth 20000 in
theorem rFX5_5 : rFk 5 (39, 5, 5, 2) := ⟨_, _, _, _, rKX5, by decide, rIn1 185 rfl rfl, ⟨rfl, fun _ => ⟨rfl, rfl⟩⟩⟩
set_option maxRecDepth 20000 in
theorem rFX5_6 : rFk 5 (46, 5, 6, 2) := ⟨_, _, _, _, rKX5, by decide, rIn1 186 rfl rfl, ⟨rfl, fun _ => ⟨rfl, rfl⟩⟩⟩
set_option maxRecDepth 20000 in
theorem rFX5_7 : rFk 5 (50, 5, 7, 2) := ⟨_, _, _, _, rKX5, by decide, rIn1 187 rfl rfl, ⟨rfl, fun _ => ⟨rfl, rfl⟩⟩⟩
set_option maxRecDepth 20000 in
theorem rFX5_8 : rFk 5 (54, 5, 8, 0) := ⟨_, _, _, _, rKX5, by decide, rIn1 188 rfl rfl, ⟨rfl, rfl⟩⟩
set_option maxRecDepth 20000 in
theorem rFX5_9 : rFk 5 (58, 5, 9, 1) := ⟨_, _, _, _, rKX5, by decide, rIn1 189 rfl rfl, ⟨rfl, rfl⟩⟩
set_option maxRecDepth 20000 in
theorem rFX5_10 : rFk 5 (73, 3, 11, 0) := ⟨_, _, _, _, rKX3, by decide, rIn1 58 rfl rfl, ⟨rfl, rfl⟩⟩
set_option maxRecDepth 20000 in
theorem rFX5_11 : rFk 5 (80, 3, 6, 0) := ⟨_, _, _, _, rKX3, by decide, rIn1 46 rfl rfl, ⟨rfl, rfl⟩⟩
set_option maxRecDepth 20000 in
theorem rFX5_12 : rFk 5 (91, 3, 4, 2) := ⟨_, _, _, _, rKX3, by decide, rIn1 42 rfl rfl, ⟨rfl, fun _ => ⟨rfl, rfl⟩⟩⟩
set_option maxRecDepth 20000 in
theorem rFX5_13 : rFk 5 (102, 3, 0, 2) := ⟨_, _, _, _, rKX3, by decide, rIn1 34 rfl rfl, ⟨rfl, fun _ => ⟨rfl, rfl⟩⟩⟩
set_option maxRecDepth 20000 in
theorem rFX5_14 : rFk 5 (105, 3, 1, 2) := ⟨_, _, _, _, rKX3, by decide, rIn1 36 rfl rfl, ⟨rfl, fun _ => ⟨rfl, rfl⟩⟩⟩
set_option maxRecDepth 20000 in
theorem rFX5_15 : rFk 5 (108, 3, 2, 2) := ⟨_, _, _, _, rKX3, by decide, rIn1 38 rfl rfl, ⟨rfl, fun _ => ⟨rfl, rfl⟩⟩⟩
set_option maxRecDepth 20000 in
theorem rFX5_16 : rFk 5 (111, 3, 3, 2) := ⟨_, _, _, _, rKX3, by decide, rIn1 40 rfl rfl, ⟨rfl, fun _ => ⟨rfl, rfl⟩⟩⟩
set_option maxRecDepth 20000 in
theorem rFX5_17 : rFk 5 (139, 3, 9, 0) := ⟨_, _, _, _, rKX3, by decide, rIn1 53 rfl rfl, ⟨rfl, rfl⟩⟩
set_option maxRecDepth 20000 in
theorem rFX5_18 : rFk 5 (142, 3, 10, 0) := ⟨_, _, _, _, rKX3, by decide, rIn1 56 rfl rfl, ⟨rfl, rfl⟩⟩
set_option maxRecDepth 20000 in
theorem rFX5_19 : rFk 5 (161, 3, 8, 0) := ⟨_, _, _, _, rKX3, by decide, rIn1 50 rfl rfl, ⟨rfl, rfl⟩⟩
set_option maxRecDepth 20000 in
theorem rFX5_20 : rFk 5 (184, 1, 0, 2) := ⟨_, _, _, _, rKX1, by decide, rIn1 119 rfl rfl, ⟨rfl, fun _ => ⟨rfl, rfl⟩⟩⟩
set_option maxRecDepth 20000 in
theorem rFX5_21 : rFk 5 (213, 1, 1, 2) := ⟨_, _, _, _, rKX1, by decide, rIn1 121 rfl rfl, ⟨rfl, fun _ => ⟨rfl, rfl⟩⟩⟩
set_option maxRecDepth 20000 in
theorem rFX5_22 : rFk 5 (243, 2, 1, 2) := ⟨_, _, _, _, rKX2, by decide, rIn1 143 rfl rfl, ⟨rfl, fun _ => ⟨rfl, rfl⟩⟩⟩
set_option maxRecDepth 20000 in
theorem rFX5_23 : rFk 5 (244, 2, 2, 2) := ⟨_, _, _, _, rKX2, by decide, rIn1 145 rfl rfl, ⟨rfl, fun _ => ⟨rfl, rfl⟩⟩⟩
set_option maxRecDepth 20000 in
theorem rFX5_24 : rFk 5 (245, 2, 0, 2) := ⟨_, _, _, _, rKX2, by decide, rIn1 141 rfl rfl, ⟨rfl, fun _ => ⟨rfl, rfl⟩⟩⟩
set_option maxRecDepth 20000 in
theorem rFX5_25 : rFk 5 (258, 0, 1, 0) := ⟨_, _, _, _, rKX0, by decide, rIn1 162 rfl rfl, ⟨rfl, rfl⟩⟩
set_option maxRecDepth 20000 in
theorem rFX5_26 : rFk 5 (261, 0, 0, 2) := ⟨_, _, _, _, rKX0, by decide, rIn1 160 rfl rfl, ⟨rfl, fun _ => ⟨rfl, rfl⟩⟩⟩
set_option maxRecDepth 20000 in
theorem rFX5_27 : rFk 5 (267, 4, 1, 0) := ⟨_, _, _, _, rKX4, by decide, rIn1 93 rfl rfl, ⟨rfl, rfl⟩⟩
theorem rFX5 : ∀ q ∈ (lkF.getD 5 []), rFk 5 q := List.forall_mem_cons.mpr ⟨rFX5_0, List.forall_mem_cons.mpr ⟨rFX5_1, List.forall_mem_cons.mpr ⟨rFX5_2, List.forall_mem_cons.mpr ⟨rFX5_3, List.forall_mem_cons.mpr ⟨rFX5_4, List.forall_mem_cons.mpr ⟨rFX5_5, List.forall_mem_cons.mpr ⟨rFX5_6, List.forall_mem_cons.mpr ⟨rFX5_7, List.forall_mem_cons.mpr ⟨rFX5_8, List.forall_mem_cons.mpr ⟨rFX5_9, List.forall_mem_cons.mpr ⟨rFX5_10, List.forall_mem_cons.mpr ⟨rFX5_11, List.forall_mem_cons.mpr ⟨rFX5_12, List.forall_mem_cons.mpr ⟨rFX5_13, List.forall_mem_cons.mpr ⟨rFX5_14, List.forall_mem_cons.mpr ⟨rFX5_15, List.forall_mem_cons.mpr ⟨rFX5_16, List.forall_mem_cons.mpr ⟨rFX5_17, List.forall_mem_cons.mpr ⟨rFX5_18, List.forall_mem_cons.mpr ⟨rFX5_19, List.forall_mem_cons.mpr ⟨rFX5_20, List.forall_mem_cons.mpr ⟨rFX5_21, List.forall_mem_cons.mpr ⟨rFX5_22, List.forall_mem_cons.mpr ⟨rFX5_23, List.forall_mem_cons.mpr ⟨rFX5_24, List.forall_mem_cons.mpr ⟨rFX5_25, List.forall_mem_cons.mpr ⟨rFX5_26, List.forall_mem_cons.mpr ⟨rFX5_27, fun _ h => absurd h List.not_mem_nil⟩⟩⟩⟩⟩⟩⟩⟩⟩⟩⟩⟩⟩⟩⟩⟩⟩⟩⟩⟩⟩⟩⟩⟩⟩⟩⟩⟩
set_option maxRecDepth 20000 in
theorem rFX6_0 : rFk 6 (7, 6, 0, 2) := ⟨_, _, _, _, rKX6, by decide, rIn4 43 rfl rfl, ⟨rfl, fun _ => ⟨rfl, rfl⟩⟩⟩
set_option maxRecDepth 20000 in
theorem rFX6_1 : rFk 6 (13, 6, 1, 2) := ⟨_, _, _, _, rKX6, by decide, rIn4 44 rfl rfl, ⟨rfl, fun _ => ⟨rfl, rfl⟩⟩⟩
set_option maxRecDepth 20000 in
theorem rFX6_2 : rFk 6 (16, 6, 2, 2) := ⟨_, _, _, _, rKX6, by decide, rIn4 45 rfl rfl, ⟨rfl, fun _ => ⟨rfl, rfl⟩⟩⟩
set_option maxRecDepth 20000 in
theorem rFX6_3 : rFk 6 (19, 6, 3, 2) := ⟨_, _, _, _, rKX6, by decide, rIn4 46 rfl rfl, ⟨rfl, fun _ => ⟨rfl, rfl⟩⟩⟩
set_option maxRecDepth 20000 in
theorem rFX6_4 : rFk 6 (22, 6, 4, 2) := ⟨_, _, _, _, rKX6, by decide, rIn4 47 rfl rfl, ⟨rfl, fun _ => ⟨rfl, rfl⟩⟩⟩
set_option maxRecDepth 20000 in
theorem rFX6_5 : rFk 6 (25, 6, 6, 2) := ⟨_, _, _, _, rKX6, by decide, rIn4 49 rfl rfl, ⟨rfl, fun _ => ⟨rfl, rfl⟩⟩⟩
set_option maxRecDepth 20000 in
theorem rFX6_6 : rFk 6 (28, 6, 13, 2) := ⟨_, _, _, _, rKX6, by decide, rIn4 56 rfl rfl, ⟨rfl, fun _ => ⟨rfl, rfl⟩⟩⟩
set_option maxRecDepth 20000 in
theorem rFX6_7 : rFk 6 (31, 6, 15, 2) := ⟨_, _, _, _, rKX6, by decide, rIn4 58 rfl rfl, ⟨rfl, fun _ => ⟨rfl, rfl⟩⟩⟩
set_option maxRecDepth 20000 in
theorem rFX6_8 : rFk 6 (34, 6, 16, 2) := ⟨_, _, _, _, rKX6, by decide, rIn4 59 rfl rfl, ⟨rfl, fun _ => ⟨rfl, rfl⟩⟩⟩
set_option maxRecDepth 20000 in
theorem rFX6_9 : rFk 6 (37, 6, 17, 2) := ⟨_, _, _, _, rKX6, by decide, rIn4 60 rfl rfl, ⟨rfl, fun _ => ⟨rfl, rfl⟩⟩⟩
set_option maxRecDepth 20000 in
theorem rFX6_10 : rFk 6 (40, 6, 18, 2) := ⟨_, _, _, _, rKX6, by decide, rIn4 61 rfl rfl, ⟨rfl, fun _ => ⟨rfl, rfl⟩⟩⟩
set_option maxRecDepth 20000 in
theorem rFX6_11 : rFk 6 (43, 6, 19, 2) := ⟨_, _, _, _, rKX6, by decide, rIn4 62 rfl rfl, ⟨rfl, fun _ => ⟨rfl, rfl⟩⟩⟩
set_option maxRecDepth 20000 in
theorem rFX6_12 : rFk 6 (46, 6, 20, 2) := ⟨_, _, _, _, rKX6, by decide, rIn4 63 rfl rfl, ⟨rfl, fun _ => ⟨rfl, rfl⟩⟩⟩
set_option maxRecDepth 20000 in
theorem rFX6_13 : rFk 6 (49, 6, 21, 2) := ⟨_, _, _, _, rKX6, by decide, rIn4 64 rfl rfl, ⟨rfl, fun _ => ⟨rfl, rfl⟩⟩⟩
set_option maxRecDepth 20000 in
theorem rFX6_14 : rFk 6 (61, 6, 7, 0) := ⟨_, _, _, _, rKX6, by decide, rIn4 50 rfl rfl, ⟨rfl, rfl⟩⟩
set_option maxRecDepth 20000 in
theorem rFX6_15 : rFk 6 (67, 6, 10, 0) := ⟨_, _, _, _, rKX6, by decide, rIn4 53 rfl rfl, ⟨rfl, rfl⟩⟩
set_option maxRecDepth 20000 in
theorem rFX6_16 : rFk 6 (70, 6, 9, 0) := ⟨_, _, _, _, rKX6, by decide, rIn4 52 rfl rfl, ⟨rfl, rfl⟩⟩
set_option maxRecDepth 20000 in
theorem rFX6_17 : rFk 6 (84, 6, 8, 0) := ⟨_, _, _, _, rKX6, by decide, rIn4 51 rfl rfl, ⟨rfl, rfl⟩⟩
set_option maxRecDepth 20000 in
theorem rFX6_18 : rFk 6 (87, 6, 11, 0) := ⟨_, _, _, _, rKX6, by decide, rIn4 54 rfl rfl, ⟨rfl, rfl⟩⟩
set_option maxRecDepth 20000 in
theorem rFX6_19 : rFk 6 (90, 6, 12, 1) := ⟨_, _, _, _, rKX6, by decide, rIn4 55 rfl rfl, ⟨rfl, rfl⟩⟩
set_option maxRecDepth 20000 in
theorem rFX6_20 : rFk 6 (145, 6, 14, 0) := ⟨_, _, _, _, rKX6, by decide, rIn4 57 rfl rfl, ⟨rfl, rfl⟩⟩
set_option maxRecDepth 20000 in
theorem rFX6_21 : rFk 6 (281, 6, 22, 0) := ⟨_, _, _, _, rKX6, by decide, rIn4 65 rfl rfl, ⟨rfl, rfl⟩⟩
set_option maxRecDepth 20000 in
theorem rFX6_22 : rFk 6 (287, 6, 24, 0) := ⟨_, _, _, _, rKX6, by decide, rIn4 67 rfl rfl, ⟨rfl, rfl⟩⟩
set_option maxRecDepth 20000 in
theorem rFX6_23 : rFk 6 (293, 6, 23, 0) := ⟨_, _, _, _, rKX6, by decide, rIn4 66 rfl rfl, ⟨rfl, rfl⟩⟩
set_option maxRecDepth 20000 in
theorem rFX6_24 : rFk 6 (302, 6, 25, 0) := ⟨_, _, _, _, rKX6, by decide, rIn4 68 rfl rfl, ⟨rfl, rfl⟩⟩
set_option maxRecDepth 20000 in
theorem rFX6_25 : rFk 6 (308, 6, 26, 1) := ⟨_, _, _, _, rKX6, by decide, rIn4 69 rfl rfl, ⟨rfl, rfl⟩⟩
set_option maxRecDepth 20000 in
theorem rFX6_26 : rFk 6 (326, 6, 5, 1) := ⟨_, _, _, _, rKX6, by decide, rIn4 48 rfl rfl, ⟨rfl, rfl⟩⟩
theorem rFX6 : ∀ q ∈ (lkF.getD 6 []), rFk 6 q := List.forall_mem_cons.mpr ⟨rFX6_0, List.forall_mem_cons.mpr ⟨rFX6_1, List.forall_mem_cons.mpr ⟨rFX6_2, List.forall_mem_cons.mpr ⟨rFX6_3, List.forall_mem_cons.mpr ⟨rFX6_4, List.forall_mem_cons.mpr ⟨rFX6_5, List.forall_mem_cons.mpr ⟨rFX6_6, List.forall_mem_cons.mpr ⟨rFX6_7, List.forall_mem_cons.mpr ⟨rFX6_8, List.forall_mem_cons.mpr ⟨rFX6_9, List.forall_mem_cons.mpr ⟨rFX6_10, List.forall_mem_cons.mpr ⟨rFX6_11, List.forall_mem_cons.mpr ⟨rFX6_12, List.forall_mem_cons.mpr ⟨rFX6_13, List.forall_mem_cons.mpr ⟨rFX6_14, List.forall_mem_cons.mpr ⟨rFX6_15, List.forall_mem_cons.mpr ⟨rFX6_16, List.forall_mem_cons.mpr ⟨rFX6_17, List.forall_mem_cons.mpr ⟨rFX6_18, List.forall_mem_cons.mpr ⟨rFX6_19, List.forall_mem_cons.mpr ⟨rFX6_20, List.forall_mem_cons.mpr ⟨rFX6_21, List.forall_mem_cons.mpr ⟨rFX6_22, List.forall_mem_cons.mpr ⟨rFX6_23, List.forall_mem_cons.mpr ⟨rFX6_24, List.forall_mem_cons.mpr ⟨rFX6_25, List.forall_mem_cons.mpr ⟨rFX6_26, fun _ h => absurd h List.not_mem_nil⟩⟩⟩⟩⟩⟩⟩⟩⟩⟩⟩⟩⟩⟩⟩⟩⟩⟩⟩⟩⟩⟩⟩⟩⟩⟩⟩
theorem rFL : ∀ q ∈ (lkF.getD 7 []), rFk 7 q := fun q h => by cases h
theorem rFJ0 : ∀ q ∈ (lkF.getD 8 []), rFk 8 q := fun q h => by cases h
theorem rFJ1 : ∀ q ∈ (lkF.getD 9 []), rFk 9 q := fun q h => by cases h
theorem rFJ3 : ∀ q ∈ (lkF.getD 10 []), rFk 10 q := fun q h => by cases h
theorem rFJ6 : ∀ q ∈ (lkF.getD 11 []), rFk 11 q := fun q h => by cases h
theorem rFall : ∀ c l, lkF[c]? = some l → ∀ q ∈ l, rFk c q := fun c l h => match c, h with
  | 0, h => by cases h; exact rFX0
  | 1, h => by cases h; exact rFX1
  | 2, h => by cases h; exact rFX2
  | 3, h => by cases h; exact rFX3
  | 4, h => by cases h; exact rFX4
  | 5, h => by cases h; exact rFX5
  | 6, h => by cases h; exact rFX6
  | 7, h => by cases h; exact rFL
  | 8, h => by cases h; exact rFJ0
  | 9, h => by cases h; exact rFJ1
  | 10, h => by cases h; exact rFJ3
  | 11, h => by cases h; exact rFJ6
  | n + 12, h => by cases h
def rZk (c : Nat) (q : Nat × Bool) : Prop := Cond.fieldLink (rCn c) q.1 "java/lang/String" (cond q.2 "value" "code\x72") (cond q.2 "[B" "B") ∈ rTT
set_option maxRecDepth 20000 in
theorem rZall : ∀ c l, lkZ[c]? = some l → ∀ q ∈ l, rZk c q := fun c l h => match c, h with
  | 0, h => by cases h; exact fun _ h => absurd h List.not_mem_nil
  | 1, h => by cases h; exact fun _ h => absurd h List.not_mem_nil
  | 2, h => by cases h; exact fun _ h => absurd h List.not_mem_nil
  | 3, h => by cases h; exact fun _ h => absurd h List.not_mem_nil
  | 4, h => by cases h; exact fun _ h => absurd h List.not_mem_nil
  | 5, h => by cases h; exact fun _ h => absurd h List.not_mem_nil
  | 6, h => by cases h; exact fun _ h => absurd h List.not_mem_nil
  | 7, h => by cases h; exact fun _ h => absurd h List.not_mem_nil
  | 8, h => by cases h; exact List.forall_mem_cons.mpr ⟨rIn6 78 rfl rfl, List.forall_mem_cons.mpr ⟨rIn6 79 rfl rfl, fun _ h => absurd h List.not_mem_nil⟩⟩
  | 9, h => by cases h; exact fun _ h => absurd h List.not_mem_nil
  | 10, h => by cases h; exact fun _ h => absurd h List.not_mem_nil
  | 11, h => by cases h; exact fun _ h => absurd h List.not_mem_nil
  | n + 12, h => by cases h
def rIk (c : Nat) (q : Nat × Int32) : Prop := Cond.constant (rCn c) q.1 q.2 ∈ rTT
def rJk (c : Nat) (q : Nat × Int64) : Prop := Cond.constantLong (rCn c) q.1 q.2 ∈ rTT
set_option maxRecDepth 20000 in
theorem rIall : ∀ c l, lkI[c]? = some l → ∀ q ∈ l, rIk c q := fun c l h => match c, h with
  | 0, h => by cases h; exact fun _ h => absurd h List.not_mem_nil
  | 1, h => by cases h; exact fun _ h => absurd h List.not_mem_nil
  | 2, h => by cases h; exact fun _ h => absurd h List.not_mem_nil
  | 3, h => by cases h; exact List.forall_mem_cons.mpr ⟨rIn3 17 rfl rfl, fun _ h => absurd h List.not_mem_nil⟩
  | 4, h => by cases h; exact fun _ h => absurd h List.not_mem_nil
  | 5, h => by cases h; exact fun _ h => absurd h List.not_mem_nil
  | 6, h => by cases h; exact List.forall_mem_cons.mpr ⟨rIn5 90 rfl rfl, fun _ h => absurd h List.not_mem_nil⟩
  | 7, h => by cases h; exact fun _ h => absurd h List.not_mem_nil
  | 8, h => by cases h; exact fun _ h => absurd h List.not_mem_nil
  | 9, h => by cases h; exact fun _ h => absurd h List.not_mem_nil
  | 10, h => by cases h; exact fun _ h => absurd h List.not_mem_nil
  | 11, h => by cases h; exact List.forall_mem_cons.mpr ⟨rIn2 151 rfl rfl, List.forall_mem_cons.mpr ⟨rIn2 152 rfl rfl, List.forall_mem_cons.mpr ⟨rIn2 153 rfl rfl, fun _ h => absurd h List.not_mem_nil⟩⟩⟩
  | n + 12, h => by cases h
set_option maxRecDepth 20000 in
theorem rJall : ∀ c l, lkL[c]? = some l → ∀ q ∈ l, rJk c q := fun c l h => match c, h with
  | 0, h => by cases h; exact fun _ h => absurd h List.not_mem_nil
  | 1, h => by cases h; exact fun _ h => absurd h List.not_mem_nil
  | 2, h => by cases h; exact fun _ h => absurd h List.not_mem_nil
  | 3, h => by cases h; exact fun _ h => absurd h List.not_mem_nil
  | 4, h => by cases h; exact fun _ h => absurd h List.not_mem_nil
  | 5, h => by cases h; exact List.forall_mem_cons.mpr ⟨rIn3 115 rfl rfl, List.forall_mem_cons.mpr ⟨rIn3 122 rfl rfl, fun _ h => absurd h List.not_mem_nil⟩⟩
  | 6, h => by cases h; exact List.forall_mem_cons.mpr ⟨rIn4 129 rfl rfl, List.forall_mem_cons.mpr ⟨rIn4 133 rfl rfl, List.forall_mem_cons.mpr ⟨rIn4 211 rfl rfl, List.forall_mem_cons.mpr ⟨rIn4 212 rfl rfl, List.forall_mem_cons.mpr ⟨rIn4 213 rfl rfl, List.forall_mem_cons.mpr ⟨rIn4 226 rfl rfl, List.forall_mem_cons.mpr ⟨rIn4 238 rfl rfl, List.forall_mem_cons.mpr ⟨rIn5 66 rfl rfl, List.forall_mem_cons.mpr ⟨rIn5 95 rfl rfl, List.forall_mem_cons.mpr ⟨rIn5 140 rfl rfl, List.forall_mem_cons.mpr ⟨rIn5 183 rfl rfl, List.forall_mem_cons.mpr ⟨rIn5 187 rfl rfl, List.forall_mem_cons.mpr ⟨rIn5 199 rfl rfl, List.forall_mem_cons.mpr ⟨rIn5 208 rfl rfl, List.forall_mem_cons.mpr ⟨rIn6 8 rfl rfl, List.forall_mem_cons.mpr ⟨rIn6 9 rfl rfl, fun _ h => absurd h List.not_mem_nil⟩⟩⟩⟩⟩⟩⟩⟩⟩⟩⟩⟩⟩⟩⟩⟩
  | 7, h => by cases h; exact List.forall_mem_cons.mpr ⟨rIn6 77 rfl rfl, fun _ h => absurd h List.not_mem_nil⟩
  | 8, h => by cases h; exact fun _ h => absurd h List.not_mem_nil
  | 9, h => by cases h; exact fun _ h => absurd h List.not_mem_nil
  | 10, h => by cases h; exact fun _ h => absurd h List.not_mem_nil
  | 11, h => by cases h; exact fun _ h => absurd h List.not_mem_nil
  | n + 12, h => by cases h
def rStrs : List (Nat × String) := [(102, "thing"), (104, "vessel"), (106, "rubbish"), (108, "mosaic"), (110, "shoe"), (112, "sand"), (71, "in"), (77, "worth"), (79, "truth"), (114, "reade\x72"), (116, "opinion"), (117, "dig"), (119, "shine"), (121, "filth"), (123, "slip")]
set_option maxRecDepth 20000 in
theorem rSall : ∀ c l, lkS[c]? = some l → ∀ q ∈ l, rCn c = "SampleLayers$Text" ∧ ∃ tx, rStrs[q.2]? = some (q.1, tx) ∧ q.2 < 15 := fun c l h => match c, h with
  | 0, h => by cases h; exact fun _ h => absurd h List.not_mem_nil
  | 1, h => by cases h; exact fun _ h => absurd h List.not_mem_nil
  | 2, h => by cases h; exact fun _ h => absurd h List.not_mem_nil
  | 3, h => by cases h; exact fun _ h => absurd h List.not_mem_nil
  | 4, h => by cases h; exact List.forall_mem_cons.mpr ⟨⟨rfl, _, rfl, by decide⟩, List.forall_mem_cons.mpr ⟨⟨rfl, _, rfl, by decide⟩, List.forall_mem_cons.mpr ⟨⟨rfl, _, rfl, by decide⟩, List.forall_mem_cons.mpr ⟨⟨rfl, _, rfl, by decide⟩, List.forall_mem_cons.mpr ⟨⟨rfl, _, rfl, by decide⟩, List.forall_mem_cons.mpr ⟨⟨rfl, _, rfl, by decide⟩, List.forall_mem_cons.mpr ⟨⟨rfl, _, rfl, by decide⟩, List.forall_mem_cons.mpr ⟨⟨rfl, _, rfl, by decide⟩, List.forall_mem_cons.mpr ⟨⟨rfl, _, rfl, by decide⟩, List.forall_mem_cons.mpr ⟨⟨rfl, _, rfl, by decide⟩, List.forall_mem_cons.mpr ⟨⟨rfl, _, rfl, by decide⟩, List.forall_mem_cons.mpr ⟨⟨rfl, _, rfl, by decide⟩, List.forall_mem_cons.mpr ⟨⟨rfl, _, rfl, by decide⟩, List.forall_mem_cons.mpr ⟨⟨rfl, _, rfl, by decide⟩, List.forall_mem_cons.mpr ⟨⟨rfl, _, rfl, by decide⟩, fun _ h => absurd h List.not_mem_nil⟩⟩⟩⟩⟩⟩⟩⟩⟩⟩⟩⟩⟩⟩⟩
  | 5, h => by cases h; exact fun _ h => absurd h List.not_mem_nil
  | 6, h => by cases h; exact fun _ h => absurd h List.not_mem_nil
  | 7, h => by cases h; exact fun _ h => absurd h List.not_mem_nil
  | 8, h => by cases h; exact fun _ h => absurd h List.not_mem_nil
  | 9, h => by cases h; exact fun _ h => absurd h List.not_mem_nil
  | 10, h => by cases h; exact fun _ h => absurd h List.not_mem_nil
  | 11, h => by cases h; exact fun _ h => absurd h List.not_mem_nil
  | n + 12, h => by cases h
set_option maxRecDepth 20000 in
theorem rCnew : ∀ c l, lkC[c]? = some l → ∀ q ∈ l, q.2 < 7 ∧ Cond.classLink (rCn c) q.1 (rCn q.2) ∈ rTT := fun c l h => match c, h with
  | 0, h => by cases h; exact fun _ h => absurd h List.not_mem_nil
  | 1, h => by cases h; exact fun _ h => absurd h List.not_mem_nil
  | 2, h => by cases h; exact fun _ h => absurd h List.not_mem_nil
  | 3, h => by cases h; exact fun _ h => absurd h List.not_mem_nil
  | 4, h => by cases h; exact fun _ h => absurd h List.not_mem_nil
  | 5, h => by cases h; exact List.forall_mem_cons.mpr ⟨⟨by decide, rIn1 23 rfl rfl⟩, List.forall_mem_cons.mpr ⟨⟨by decide, rIn1 85 rfl rfl⟩, List.forall_mem_cons.mpr ⟨⟨by decide, rIn1 112 rfl rfl⟩, List.forall_mem_cons.mpr ⟨⟨by decide, rIn1 130 rfl rfl⟩, List.forall_mem_cons.mpr ⟨⟨by decide, rIn1 153 rfl rfl⟩, fun _ h => absurd h List.not_mem_nil⟩⟩⟩⟩⟩
  | 6, h => by cases h; exact fun _ h => absurd h List.not_mem_nil
  | 7, h => by cases h; exact List.forall_mem_cons.mpr ⟨⟨by decide, rIn1 15 rfl rfl⟩, List.forall_mem_cons.mpr ⟨⟨by decide, rIn4 33 rfl rfl⟩, fun _ h => absurd h List.not_mem_nil⟩⟩
  | 8, h => by cases h; exact fun _ h => absurd h List.not_mem_nil
  | 9, h => by cases h; exact fun _ h => absurd h List.not_mem_nil
  | 10, h => by cases h; exact fun _ h => absurd h List.not_mem_nil
  | 11, h => by cases h; exact fun _ h => absurd h List.not_mem_nil
  | n + 12, h => by cases h
/-- the nest's links -/
abbrev rN0 : Cond := .methodLinkNest "SampleLayers$Text" 99 ⟨"SampleLayers", "mostOfLaw", "(I)I"⟩ "SampleLayers"
abbrev rN1 : Cond := .methodLinkNest "SampleLayers$Text" 91 ⟨"SampleLayers", "within", "(II)Z"⟩ "SampleLayers"
abbrev rN2 : Cond := .methodLinkNest "SampleLayers$Street" 92 ⟨"SampleLayers", "held", "(II)I"⟩ "SampleLayers"
abbrev rN3 : Cond := .methodLinkNest "SampleLayers$Acts" 46 ⟨"SampleLayers", "within", "(II)Z"⟩ "SampleLayers"
abbrev rN4 : Cond := .fieldLinkNest "SampleLayers$Acts" 43 "SampleLayers" "UNDER" "[I" "SampleLayers"
def rNs : List Cond := [rN0, rN1, rN2, rN3, rN4]
theorem rN0_in : rN0 ∈ lw_tbl := List.mem_of_getElem? (i := 412) (by decide +kernel)
theorem rN1_in : rN1 ∈ lw_tbl := List.mem_of_getElem? (i := 418) (by decide +kernel)
theorem rN2_in : rN2 ∈ lw_tbl := List.mem_of_getElem? (i := 543) (by decide +kernel)
theorem rN3_in : rN3 ∈ lw_tbl := List.mem_of_getElem? (i := 783) (by decide +kernel)
theorem rN4_in : rN4 ∈ lw_tbl := List.mem_of_getElem? (i := 786) (by decide +kernel)
/-- which static: declarer, name, descriptor, value -/
def rGs (v : rPV) : String × String × String := match v with
  | .inl _ => ("java/lang/String", "COMPACT_STRINGS", "Z")
  | .inr (.inr (.inr 1)) => ("SampleLayers", "UNDE\x52", "[I")
  | .inr (.inr (.inr 2)) => ("SampleLayers$Acts", "OWN_BODIES", "[I")
  | _ => ("jdk/internal/util/Preconditions", "SIOOBE_FORMATTE\x52", "Ljava/util/function/BiFunction;")
def rGk (c : Nat) (q : Nat × rPV × Bool) : Prop := (q.2.1 = pI 1 ∨ q.2.1 = pC 1 ∨ q.2.1 = pC 2 ∨ q.2.1 = pC 3) ∧ match q.2.2 with
  | false => Cond.fieldLink (rCn c) q.1 (rGs q.2.1).1 (rGs q.2.1).2.1 (rGs q.2.1).2.2 ∈ rTT
  | true => Cond.fieldLinkNest (rCn c) q.1 (rGs q.2.1).1 (rGs q.2.1).2.1 (rGs q.2.1).2.2 "SampleLayers" ∈ rNs
set_option maxRecDepth 20000 in
theorem rGall : ∀ c l, lkG[c]? = some l → ∀ q ∈ l, rGk c q := fun c l h => match c, h with
  | 0, h => by cases h; exact List.forall_mem_cons.mpr ⟨⟨Or.inr (Or.inl rfl), List.mem_of_getElem? (i := 4) rfl⟩, List.forall_mem_cons.mpr ⟨⟨Or.inr (Or.inr (Or.inl rfl)), rIn3 233 rfl rfl⟩, fun _ h => absurd h List.not_mem_nil⟩⟩
  | 1, h => by cases h; exact fun _ h => absurd h List.not_mem_nil
  | 2, h => by cases h; exact fun _ h => absurd h List.not_mem_nil
  | 3, h => by cases h; exact fun _ h => absurd h List.not_mem_nil
  | 4, h => by cases h; exact fun _ h => absurd h List.not_mem_nil
  | 5, h => by cases h; exact List.forall_mem_cons.mpr ⟨⟨Or.inr (Or.inl rfl), rIn3 207 rfl rfl⟩, fun _ h => absurd h List.not_mem_nil⟩
  | 6, h => by cases h; exact fun _ h => absurd h List.not_mem_nil
  | 7, h => by cases h; exact fun _ h => absurd h List.not_mem_nil
  | 8, h => by cases h; exact List.forall_mem_cons.mpr ⟨⟨Or.inl rfl, rIn2 16 rfl rfl⟩, List.forall_mem_cons.mpr ⟨⟨Or.inr (Or.inr (Or.inr rfl)), rIn2 32 rfl rfl⟩, fun _ h => absurd h List.not_mem_nil⟩⟩
  | 9, h => by cases h; exact fun _ h => absurd h List.not_mem_nil
  | 10, h => by cases h; exact fun _ h => absurd h List.not_mem_nil
  | 11, h => by cases h; exact fun _ h => absurd h List.not_mem_nil
  | n + 12, h => by cases h
def rOkM (M : rM) (i : Nat) : Prop := M.1 = i ∧ Cond.code (rYn i) (rBy i) M.2.2.2.2.2.2.2.1 M.2.2.2.2.1 ∈ rTT ∧ Cond.initialized (rYn i).cls ∈ rTT ∧ (rYn i).cls = rCn M.2.2.1 ∧ plainName (rYn i).cls = true ∧ ((rYn i).cls ≠ "java/lang/invoke/MethodHandle" ∧ (rYn i).cls ≠ "java/lang/invoke/VarHandle") ∧ (M.2.2.2.1 = true ↔ (rYn i).name = "<init>") ∧ M.2.2.2.2.2.2.2.1 ≤ 40 ∧ (M.2.2.2.1 = true → M.2.2.2.2.1 = none)
set_option maxRecDepth 20000 in
theorem rOk0 : rOkM mAc_init 0 := ⟨rfl, rIn1 157 rfl rfl, rIn1 6 rfl rfl, rfl, by decide +kernel, by decide +kernel, by decide +kernel, by decide, by decide⟩
set_option maxRecDepth 20000 in
theorem rOk1 : rOkM mAc_clear 1 := ⟨rfl, rIn3 216 rfl rfl, rIn1 6 rfl rfl, rfl, by decide +kernel, by decide +kernel, by decide +kernel, by decide, by decide⟩
set_option maxRecDepth 20000 in
theorem rOk2 : rOkM mAc_holdOne 2 := ⟨rfl, rIn3 220 rfl rfl, rIn1 6 rfl rfl, rfl, by decide +kernel, by decide +kernel, by decide +kernel, by decide, by decide⟩
set_option maxRecDepth 20000 in
theorem rOk3 : rOkM mAc_answer 3 := ⟨rfl, rIn3 224 rfl rfl, rIn1 6 rfl rfl, rfl, by decide +kernel, by decide +kernel, by decide +kernel, by decide, by decide⟩
set_option maxRecDepth 20000 in
theorem rOk4 : rOkM mAc_own 4 := ⟨rfl, rIn3 228 rfl rfl, rIn1 6 rfl rfl, rfl, by decide +kernel, by decide +kernel, by decide +kernel, by decide, by decide⟩
set_option maxRecDepth 20000 in
theorem rOk5 : rOkM mAc_inherited 5 := ⟨rfl, rIn4 11 rfl rfl, rIn1 6 rfl rfl, rfl, by decide +kernel, by decide +kernel, by decide +kernel, by decide, by decide⟩
set_option maxRecDepth 20000 in
theorem rOk6 : rOkM mAc_bodyFor 6 := ⟨rfl, rIn3 231 rfl rfl, rIn1 6 rfl rfl, rfl, by decide +kernel, by decide +kernel, by decide +kernel, by decide, by decide⟩
set_option maxRecDepth 20000 in
theorem rOk7 : rOkM mAc_run 7 := ⟨rfl, rIn3 239 rfl rfl, rIn1 6 rfl rfl, rfl, by decide +kernel, by decide +kernel, by decide +kernel, by decide, by decide⟩
set_option maxRecDepth 20000 in
theorem rOk8 : rOkM mAc_part 8 := ⟨rfl, rIn4 7 rfl rfl, rIn1 6 rfl rfl, rfl, by decide +kernel, by decide +kernel, by decide +kernel, by decide, by decide⟩
set_option maxRecDepth 20000 in
theorem rOk9 : rOkM mAc_note 9 := ⟨rfl, rIn4 3 rfl rfl, rIn1 6 rfl rfl, rfl, by decide +kernel, by decide +kernel, by decide +kernel, by decide, by decide⟩
set_option maxRecDepth 20000 in
theorem rOk10 : rOkM mSe_init 10 := ⟨rfl, rIn1 116 rfl rfl, rIn1 4 rfl rfl, rfl, by decide +kernel, by decide +kernel, by decide +kernel, by decide, by decide⟩
set_option maxRecDepth 20000 in
theorem rOk11 : rOkM mSe_begin 11 := ⟨rfl, rIn3 166 rfl rfl, rIn1 4 rfl rfl, rfl, by decide +kernel, by decide +kernel, by decide +kernel, by decide, by decide⟩
set_option maxRecDepth 20000 in
theorem rOk12 : rOkM mSe_holds 12 := ⟨rfl, rIn3 174 rfl rfl, rIn1 4 rfl rfl, rfl, by decide +kernel, by decide +kernel, by decide +kernel, by decide, by decide⟩
set_option maxRecDepth 20000 in
theorem rOk13 : rOkM mSe_number 13 := ⟨rfl, rIn3 110 rfl rfl, rIn1 4 rfl rfl, rfl, by decide +kernel, by decide +kernel, by decide +kernel, by decide, by decide⟩
set_option maxRecDepth 20000 in
theorem rOk14 : rOkM mSe_write 14 := ⟨rfl, rIn3 178 rfl rfl, rIn1 4 rfl rfl, rfl, by decide +kernel, by decide +kernel, by decide +kernel, by decide, by decide⟩
set_option maxRecDepth 20000 in
theorem rOk15 : rOkM mSf_init 15 := ⟨rfl, rIn1 134 rfl rfl, rIn1 5 rfl rfl, rfl, by decide +kernel, by decide +kernel, by decide +kernel, by decide, by decide⟩
set_option maxRecDepth 20000 in
theorem rOk16 : rOkM mSf_clear 16 := ⟨rfl, rIn1 139 rfl rfl, rIn1 5 rfl rfl, rfl, by decide +kernel, by decide +kernel, by decide +kernel, by decide, by decide⟩
set_option maxRecDepth 20000 in
theorem rOk17 : rOkM mSf_holdThing 17 := ⟨rfl, rIn3 190 rfl rfl, rIn1 5 rfl rfl, rfl, by decide +kernel, by decide +kernel, by decide +kernel, by decide, by decide⟩
set_option maxRecDepth 20000 in
theorem rOk18 : rOkM mSf_holdRow 18 := ⟨rfl, rIn3 194 rfl rfl, rIn1 5 rfl rfl, rfl, by decide +kernel, by decide +kernel, by decide +kernel, by decide, by decide⟩
set_option maxRecDepth 20000 in
theorem rOk19 : rOkM mSf_holdsRow 19 := ⟨rfl, rIn3 203 rfl rfl, rIn1 5 rfl rfl, rfl, by decide +kernel, by decide +kernel, by decide +kernel, by decide, by decide⟩
set_option maxRecDepth 20000 in
theorem rOk20 : rOkM mSt_init 20 := ⟨rfl, rIn1 27 rfl rfl, rIn1 2 rfl rfl, rfl, by decide +kernel, by decide +kernel, by decide +kernel, by decide, by decide⟩
set_option maxRecDepth 20000 in
theorem rOk21 : rOkM mSt_begin 21 := ⟨rfl, rIn1 32 rfl rfl, rIn1 2 rfl rfl, rfl, by decide +kernel, by decide +kernel, by decide +kernel, by decide, by decide⟩
set_option maxRecDepth 20000 in
theorem rOk22 : rOkM mSt_become 22 := ⟨rfl, rIn2 117 rfl rfl, rIn1 2 rfl rfl, rfl, by decide +kernel, by decide +kernel, by decide +kernel, by decide, by decide⟩
set_option maxRecDepth 20000 in
theorem rOk23 : rOkM mSt_has 23 := ⟨rfl, rIn2 143 rfl rfl, rIn1 2 rfl rfl, rfl, by decide +kernel, by decide +kernel, by decide +kernel, by decide, by decide⟩
set_option maxRecDepth 20000 in
theorem rOk24 : rOkM mSt_lies 24 := ⟨rfl, rIn2 188 rfl rfl, rIn1 2 rfl rfl, rfl, by decide +kernel, by decide +kernel, by decide +kernel, by decide, by decide⟩
set_option maxRecDepth 20000 in
theorem rOk25 : rOkM mSt_add 25 := ⟨rfl, rIn2 83 rfl rfl, rIn1 2 rfl rfl, rfl, by decide +kernel, by decide +kernel, by decide +kernel, by decide, by decide⟩
set_option maxRecDepth 20000 in
theorem rOk26 : rOkM mSt_layIn 26 := ⟨rfl, rIn2 87 rfl rfl, rIn1 2 rfl rfl, rfl, by decide +kernel, by decide +kernel, by decide +kernel, by decide, by decide⟩
set_option maxRecDepth 20000 in
theorem rOk27 : rOkM mSt_setLying 27 := ⟨rfl, rIn2 192 rfl rfl, rIn1 2 rfl rfl, rfl, by decide +kernel, by decide +kernel, by decide +kernel, by decide, by decide⟩
set_option maxRecDepth 20000 in
theorem rOk28 : rOkM mSt_setIn 28 := ⟨rfl, rIn2 208 rfl rfl, rIn1 2 rfl rfl, rfl, by decide +kernel, by decide +kernel, by decide +kernel, by decide, by decide⟩
set_option maxRecDepth 20000 in
theorem rOk29 : rOkM mSt_setAbove 29 := ⟨rfl, rIn2 147 rfl rfl, rIn1 2 rfl rfl, rfl, by decide +kernel, by decide +kernel, by decide +kernel, by decide, by decide⟩
set_option maxRecDepth 20000 in
theorem rOk30 : rOkM mSt_uppermost 30 := ⟨rfl, rIn2 212 rfl rfl, rIn1 2 rfl rfl, rfl, by decide +kernel, by decide +kernel, by decide +kernel, by decide, by decide⟩
set_option maxRecDepth 20000 in
theorem rOk31 : rOkM mSt_worthLying 31 := ⟨rfl, rIn3 34 rfl rfl, rIn1 2 rfl rfl, rfl, by decide +kernel, by decide +kernel, by decide +kernel, by decide, by decide⟩
set_option maxRecDepth 20000 in
theorem rOk32 : rOkM mSt_pitsInUse 32 := ⟨rfl, rIn4 23 rfl rfl, rIn1 2 rfl rfl, rfl, by decide +kernel, by decide +kernel, by decide +kernel, by decide, by decide⟩
set_option maxRecDepth 20000 in
theorem rOk33 : rOkM mSt_cover 33 := ⟨rfl, rIn3 38 rfl rfl, rIn1 2 rfl rfl, rfl, by decide +kernel, by decide +kernel, by decide +kernel, by decide, by decide⟩
set_option maxRecDepth 20000 in
theorem rOk34 : rOkM mSt_kindsIn 34 := ⟨rfl, rIn3 42 rfl rfl, rIn1 2 rfl rfl, rfl, by decide +kernel, by decide +kernel, by decide +kernel, by decide, by decide⟩
set_option maxRecDepth 20000 in
theorem rOk35 : rOkM mSt_speaking 35 := ⟨rfl, rIn2 161 rfl rfl, rIn1 2 rfl rfl, rfl, by decide +kernel, by decide +kernel, by decide +kernel, by decide, by decide⟩
set_option maxRecDepth 20000 in
theorem rOk36 : rOkM mSt_hiding 36 := ⟨rfl, rIn2 165 rfl rfl, rIn1 2 rfl rfl, rfl, by decide +kernel, by decide +kernel, by decide +kernel, by decide, by decide⟩
set_option maxRecDepth 20000 in
theorem rOk37 : rOkM mSt_passYears 37 := ⟨rfl, rIn2 220 rfl rfl, rIn1 2 rfl rfl, rfl, by decide +kernel, by decide +kernel, by decide +kernel, by decide, by decide⟩
set_option maxRecDepth 20000 in
theorem rOk38 : rOkM mSt_passYear 38 := ⟨rfl, rIn2 224 rfl rfl, rIn1 2 rfl rfl, rfl, by decide +kernel, by decide +kernel, by decide +kernel, by decide, by decide⟩
set_option maxRecDepth 20000 in
theorem rOk39 : rOkM mSt_dig 39 := ⟨rfl, rIn2 228 rfl rfl, rIn1 2 rfl rfl, rfl, by decide +kernel, by decide +kernel, by decide +kernel, by decide, by decide⟩
set_option maxRecDepth 20000 in
theorem rOk40 : rOkM mSt_passDrawnYear 40 := ⟨rfl, rIn3 12 rfl rfl, rIn1 2 rfl rfl, rfl, by decide +kernel, by decide +kernel, by decide +kernel, by decide, by decide⟩
set_option maxRecDepth 20000 in
theorem rOk41 : rOkM mSt_draw 41 := ⟨rfl, rIn3 16 rfl rfl, rIn1 2 rfl rfl, rfl, by decide +kernel, by decide +kernel, by decide +kernel, by decide, by decide⟩
set_option maxRecDepth 20000 in
theorem rOk42 : rOkM mTx_init 42 := ⟨rfl, rIn1 89 rfl rfl, rIn1 3 rfl rfl, rfl, by decide +kernel, by decide +kernel, by decide +kernel, by decide, by decide⟩
set_option maxRecDepth 20000 in
theorem rOk43 : rOkM mTx_clear 43 := ⟨rfl, rIn2 113 rfl rfl, rIn1 3 rfl rfl, rfl, by decide +kernel, by decide +kernel, by decide +kernel, by decide, by decide⟩
set_option maxRecDepth 20000 in
theorem rOk44 : rOkM mTx_append 44 := ⟨rfl, rIn1 218 rfl rfl, rIn1 3 rfl rfl, rfl, by decide +kernel, by decide +kernel, by decide +kernel, by decide, by decide⟩
set_option maxRecDepth 20000 in
theorem rOk45 : rOkM mTx_readInto 45 := ⟨rfl, rIn1 226 rfl rfl, rIn1 3 rfl rfl, rfl, by decide +kernel, by decide +kernel, by decide +kernel, by decide, by decide⟩
set_option maxRecDepth 20000 in
theorem rOk46 : rOkM mTx_readStatement 46 := ⟨rfl, rIn1 238 rfl rfl, rIn1 3 rfl rfl, rfl, by decide +kernel, by decide +kernel, by decide +kernel, by decide, by decide⟩
set_option maxRecDepth 20000 in
theorem rOk47 : rOkM mTx_readThing 47 := ⟨rfl, rIn2 64 rfl rfl, rIn1 3 rfl rfl, rfl, by decide +kernel, by decide +kernel, by decide +kernel, by decide, by decide⟩
set_option maxRecDepth 20000 in
theorem rOk48 : rOkM mTx_apply 48 := ⟨rfl, rIn2 106 rfl rfl, rIn1 3 rfl rfl, rfl, by decide +kernel, by decide +kernel, by decide +kernel, by decide, by decide⟩
set_option maxRecDepth 20000 in
theorem rOk49 : rOkM mTx_mostOfSetting 49 := ⟨rfl, rIn2 100 rfl rfl, rIn1 3 rfl rfl, rfl, by decide +kernel, by decide +kernel, by decide +kernel, by decide, by decide⟩
set_option maxRecDepth 20000 in
theorem rOk50 : rOkM mTx_kindNamed 50 := ⟨rfl, rIn2 2 rfl rfl, rIn1 3 rfl rfl, rfl, by decide +kernel, by decide +kernel, by decide +kernel, by decide, by decide⟩
set_option maxRecDepth 20000 in
theorem rOk51 : rOkM mTx_settingNamed 51 := ⟨rfl, rIn2 91 rfl rfl, rIn1 3 rfl rfl, rfl, by decide +kernel, by decide +kernel, by decide +kernel, by decide, by decide⟩
set_option maxRecDepth 20000 in
theorem rOk52 : rOkM mTx_readNumber 52 := ⟨rfl, rIn2 73 rfl rfl, rIn1 3 rfl rfl, rfl, by decide +kernel, by decide +kernel, by decide +kernel, by decide, by decide⟩
set_option maxRecDepth 20000 in
theorem rOk53 : rOkM mTx_needEndOfStatement 53 := ⟨rfl, rIn2 79 rfl rfl, rIn1 3 rfl rfl, rfl, by decide +kernel, by decide +kernel, by decide +kernel, by decide, by decide⟩
set_option maxRecDepth 20000 in
theorem rOk54 : rOkM mTx_fail 54 := ⟨rfl, rIn2 68 rfl rfl, rIn1 3 rfl rfl, rfl, by decide +kernel, by decide +kernel, by decide +kernel, by decide, by decide⟩
set_option maxRecDepth 20000 in
theorem rOk55 : rOkM mTx_next 55 := ⟨rfl, rIn1 231 rfl rfl, rIn1 3 rfl rfl, rfl, by decide +kernel, by decide +kernel, by decide +kernel, by decide, by decide⟩
set_option maxRecDepth 20000 in
theorem rOk56 : rOkM mTx_sortOf 56 := ⟨rfl, rIn1 234 rfl rfl, rIn1 3 rfl rfl, rfl, by decide +kernel, by decide +kernel, by decide +kernel, by decide, by decide⟩
set_option maxRecDepth 20000 in
theorem rOk57 : rOkM mTx_isName 57 := ⟨rfl, rIn2 7 rfl rfl, rIn1 3 rfl rfl, rfl, by decide +kernel, by decide +kernel, by decide +kernel, by decide, by decide⟩
set_option maxRecDepth 20000 in
theorem rOk58 : rOkM mLa_init 58 := ⟨rfl, rIn1 19 rfl rfl, rIn1 1 rfl rfl, rfl, by decide +kernel, by decide +kernel, by decide +kernel, by decide, by decide⟩
set_option maxRecDepth 20000 in
theorem rOk59 : rOkM mLa_feed 59 := ⟨rfl, rIn1 214 rfl rfl, rIn1 1 rfl rfl, rfl, by decide +kernel, by decide +kernel, by decide +kernel, by decide, by decide⟩
set_option maxRecDepth 20000 in
theorem rOk60 : rOkM mLa_street 60 := ⟨rfl, rIn1 222 rfl rfl, rIn1 1 rfl rfl, rfl, by decide +kernel, by decide +kernel, by decide +kernel, by decide, by decide⟩
set_option maxRecDepth 20000 in
theorem rOk61 : rOkM mLa_set 61 := ⟨rfl, rIn2 124 rfl rfl, rIn1 1 rfl rfl, rfl, by decide +kernel, by decide +kernel, by decide +kernel, by decide, by decide⟩
set_option maxRecDepth 20000 in
theorem rOk62 : rOkM mLa_lawOf 62 := ⟨rfl, rIn2 130 rfl rfl, rIn1 1 rfl rfl, rfl, by decide +kernel, by decide +kernel, by decide +kernel, by decide, by decide⟩
set_option maxRecDepth 20000 in
theorem rOk63 : rOkM mLa_thing 63 := ⟨rfl, rIn2 134 rfl rfl, rIn1 1 rfl rfl, rfl, by decide +kernel, by decide +kernel, by decide +kernel, by decide, by decide⟩
set_option maxRecDepth 20000 in
theorem rOk64 : rOkM mLa_of 64 := ⟨rfl, rIn2 139 rfl rfl, rIn1 1 rfl rfl, rfl, by decide +kernel, by decide +kernel, by decide +kernel, by decide, by decide⟩
set_option maxRecDepth 20000 in
theorem rOk65 : rOkM mLa_does 65 := ⟨rfl, rIn2 157 rfl rfl, rIn1 1 rfl rfl, rfl, by decide +kernel, by decide +kernel, by decide +kernel, by decide, by decide⟩
set_option maxRecDepth 20000 in
theorem rOk66 : rOkM mLa_mind 66 := ⟨rfl, rIn2 171 rfl rfl, rIn1 1 rfl rfl, rfl, by decide +kernel, by decide +kernel, by decide +kernel, by decide, by decide⟩
set_option maxRecDepth 20000 in
theorem rOk67 : rOkM mLa_value 67 := ⟨rfl, rIn2 175 rfl rfl, rIn1 1 rfl rfl, rfl, by decide +kernel, by decide +kernel, by decide +kernel, by decide, by decide⟩
set_option maxRecDepth 20000 in
theorem rOk68 : rOkM mLa_lay 68 := ⟨rfl, rIn2 179 rfl rfl, rIn1 1 rfl rfl, rfl, by decide +kernel, by decide +kernel, by decide +kernel, by decide, by decide⟩
set_option maxRecDepth 20000 in
theorem rOk69 : rOkM mLa_take 69 := ⟨rfl, rIn2 184 rfl rfl, rIn1 1 rfl rfl, rfl, by decide +kernel, by decide +kernel, by decide +kernel, by decide, by decide⟩
set_option maxRecDepth 20000 in
theorem rOk70 : rOkM mLa_bring 70 := ⟨rfl, rIn2 196 rfl rfl, rIn1 1 rfl rfl, rfl, by decide +kernel, by decide +kernel, by decide +kernel, by decide, by decide⟩
set_option maxRecDepth 20000 in
theorem rOk71 : rOkM mLa_think 71 := ⟨rfl, rIn2 200 rfl rfl, rIn1 1 rfl rfl, rfl, by decide +kernel, by decide +kernel, by decide +kernel, by decide, by decide⟩
set_option maxRecDepth 20000 in
theorem rOk72 : rOkM mLa_pit 72 := ⟨rfl, rIn2 204 rfl rfl, rIn1 1 rfl rfl, rfl, by decide +kernel, by decide +kernel, by decide +kernel, by decide, by decide⟩
set_option maxRecDepth 20000 in
theorem rOk73 : rOkM mLa_years 73 := ⟨rfl, rIn2 216 rfl rfl, rIn1 1 rfl rfl, rfl, by decide +kernel, by decide +kernel, by decide +kernel, by decide, by decide⟩
set_option maxRecDepth 20000 in
theorem rOk74 : rOkM mLa_seed 74 := ⟨rfl, rIn3 4 rfl rfl, rIn1 1 rfl rfl, rfl, by decide +kernel, by decide +kernel, by decide +kernel, by decide, by decide⟩
set_option maxRecDepth 20000 in
theorem rOk75 : rOkM mLa_year 75 := ⟨rfl, rIn3 8 rfl rfl, rIn1 1 rfl rfl, rfl, by decide +kernel, by decide +kernel, by decide +kernel, by decide, by decide⟩
set_option maxRecDepth 20000 in
theorem rOk76 : rOkM mLa_luck 76 := ⟨rfl, rIn3 22 rfl rfl, rIn1 1 rfl rfl, rfl, by decide +kernel, by decide +kernel, by decide +kernel, by decide, by decide⟩
set_option maxRecDepth 20000 in
theorem rOk77 : rOkM mLa_state 77 := ⟨rfl, rIn3 30 rfl rfl, rIn1 1 rfl rfl, rfl, by decide +kernel, by decide +kernel, by decide +kernel, by decide, by decide⟩
set_option maxRecDepth 20000 in
theorem rOk78 : rOkM mLa_thought 78 := ⟨rfl, rIn3 46 rfl rfl, rIn1 1 rfl rfl, rfl, by decide +kernel, by decide +kernel, by decide +kernel, by decide, by decide⟩
set_option maxRecDepth 20000 in
theorem rOk79 : rOkM mLa_dug 79 := ⟨rfl, rIn3 50 rfl rfl, rIn1 1 rfl rfl, rfl, by decide +kernel, by decide +kernel, by decide +kernel, by decide, by decide⟩
set_option maxRecDepth 20000 in
theorem rOk80 : rOkM mLa_empty 80 := ⟨rfl, rIn3 55 rfl rfl, rIn1 1 rfl rfl, rfl, by decide +kernel, by decide +kernel, by decide +kernel, by decide, by decide⟩
set_option maxRecDepth 20000 in
theorem rOk81 : rOkM mLa_praised 81 := ⟨rfl, rIn3 59 rfl rfl, rIn1 1 rfl rfl, rfl, by decide +kernel, by decide +kernel, by decide +kernel, by decide, by decide⟩
set_option maxRecDepth 20000 in
theorem rOk82 : rOkM mLa_pitFor 82 := ⟨rfl, rIn3 63 rfl rfl, rIn1 1 rfl rfl, rfl, by decide +kernel, by decide +kernel, by decide +kernel, by decide, by decide⟩
set_option maxRecDepth 20000 in
theorem rOk83 : rOkM mLa_kindFor 83 := ⟨rfl, rIn3 78 rfl rfl, rIn1 1 rfl rfl, rfl, by decide +kernel, by decide +kernel, by decide +kernel, by decide, by decide⟩
set_option maxRecDepth 20000 in
theorem rOk84 : rOkM mLa_worthFor 84 := ⟨rfl, rIn3 82 rfl rfl, rIn1 1 rfl rfl, rfl, by decide +kernel, by decide +kernel, by decide +kernel, by decide, by decide⟩
set_option maxRecDepth 20000 in
theorem rOk85 : rOkM mLa_beginFor 85 := ⟨rfl, rIn3 86 rfl rfl, rIn1 1 rfl rfl, rfl, by decide +kernel, by decide +kernel, by decide +kernel, by decide, by decide⟩
set_option maxRecDepth 20000 in
theorem rOk86 : rOkM mLa_awayFor 86 := ⟨rfl, rIn3 90 rfl rfl, rIn1 1 rfl rfl, rfl, by decide +kernel, by decide +kernel, by decide +kernel, by decide, by decide⟩
set_option maxRecDepth 20000 in
theorem rOk87 : rOkM mLa_above 87 := ⟨rfl, rIn3 98 rfl rfl, rIn1 1 rfl rfl, rfl, by decide +kernel, by decide +kernel, by decide +kernel, by decide, by decide⟩
set_option maxRecDepth 20000 in
theorem rOk88 : rOkM mLa_fits 88 := ⟨rfl, rIn3 102 rfl rfl, rIn1 1 rfl rfl, rfl, by decide +kernel, by decide +kernel, by decide +kernel, by decide, by decide⟩
set_option maxRecDepth 20000 in
theorem rOk89 : rOkM mLa_odds 89 := ⟨rfl, rIn3 114 rfl rfl, rIn1 1 rfl rfl, rfl, by decide +kernel, by decide +kernel, by decide +kernel, by decide, by decide⟩
set_option maxRecDepth 20000 in
theorem rOk90 : rOkM mLa_hope 90 := ⟨rfl, rIn3 129 rfl rfl, rIn1 1 rfl rfl, rfl, by decide +kernel, by decide +kernel, by decide +kernel, by decide, by decide⟩
set_option maxRecDepth 20000 in
theorem rOk91 : rOkM mLa_prove 91 := ⟨rfl, rIn3 133 rfl rfl, rIn1 1 rfl rfl, rfl, by decide +kernel, by decide +kernel, by decide +kernel, by decide, by decide⟩
set_option maxRecDepth 20000 in
theorem rOk92 : rOkM mLa_row 92 := ⟨rfl, rIn3 141 rfl rfl, rIn1 1 rfl rfl, rfl, by decide +kernel, by decide +kernel, by decide +kernel, by decide, by decide⟩
set_option maxRecDepth 20000 in
theorem rOk93 : rOkM mLa_alterRow 93 := ⟨rfl, rIn3 149 rfl rfl, rIn1 1 rfl rfl, rfl, by decide +kernel, by decide +kernel, by decide +kernel, by decide, by decide⟩
set_option maxRecDepth 20000 in
theorem rOk94 : rOkM mLa_judge 94 := ⟨rfl, rIn3 153 rfl rfl, rIn1 1 rfl rfl, rfl, by decide +kernel, by decide +kernel, by decide +kernel, by decide, by decide⟩
set_option maxRecDepth 20000 in
theorem rOk95 : rOkM mLa_minds 95 := ⟨rfl, rIn3 157 rfl rfl, rIn1 1 rfl rfl, rfl, by decide +kernel, by decide +kernel, by decide +kernel, by decide, by decide⟩
set_option maxRecDepth 20000 in
theorem rOk96 : rOkM mLa_sheet 96 := ⟨rfl, rIn3 162 rfl rfl, rIn1 1 rfl rfl, rfl, by decide +kernel, by decide +kernel, by decide +kernel, by decide, by decide⟩
set_option maxRecDepth 20000 in
theorem rOk97 : rOkM mLa_put 97 := ⟨rfl, rIn3 170 rfl rfl, rIn1 1 rfl rfl, rfl, by decide +kernel, by decide +kernel, by decide +kernel, by decide, by decide⟩
set_option maxRecDepth 20000 in
theorem rOk98 : rOkM mLa_item 98 := ⟨rfl, rIn3 182 rfl rfl, rIn1 1 rfl rfl, rfl, by decide +kernel, by decide +kernel, by decide +kernel, by decide, by decide⟩
set_option maxRecDepth 20000 in
theorem rOk99 : rOkM mLa_shelf 99 := ⟨rfl, rIn3 186 rfl rfl, rIn1 1 rfl rfl, rfl, by decide +kernel, by decide +kernel, by decide +kernel, by decide, by decide⟩
set_option maxRecDepth 20000 in
theorem rOk100 : rOkM mLa_taken 100 := ⟨rfl, rIn3 199 rfl rfl, rIn1 1 rfl rfl, rfl, by decide +kernel, by decide +kernel, by decide +kernel, by decide, by decide⟩
set_option maxRecDepth 20000 in
theorem rOk101 : rOkM mLa_act 101 := ⟨rfl, rIn3 212 rfl rfl, rIn1 1 rfl rfl, rfl, by decide +kernel, by decide +kernel, by decide +kernel, by decide, by decide⟩
set_option maxRecDepth 20000 in
theorem rOk102 : rOkM mLa_trace 102 := ⟨rfl, rIn4 15 rfl rfl, rIn1 1 rfl rfl, rfl, by decide +kernel, by decide +kernel, by decide +kernel, by decide, by decide⟩
set_option maxRecDepth 20000 in
theorem rOk103 : rOkM mLa_many 103 := ⟨rfl, rIn4 19 rfl rfl, rIn1 1 rfl rfl, rfl, by decide +kernel, by decide +kernel, by decide +kernel, by decide, by decide⟩
set_option maxRecDepth 20000 in
theorem rOk104 : rOkM mLa_keep 104 := ⟨rfl, rIn4 28 rfl rfl, rIn1 1 rfl rfl, rfl, by decide +kernel, by decide +kernel, by decide +kernel, by decide, by decide⟩
set_option maxRecDepth 20000 in
theorem rOk105 : rOkM mLa_again 105 := ⟨rfl, rIn4 32 rfl rfl, rIn1 1 rfl rfl, rfl, by decide +kernel, by decide +kernel, by decide +kernel, by decide, by decide⟩
set_option maxRecDepth 20000 in
theorem rOk106 : rOkM mLa_within 106 := ⟨rfl, rIn2 109 rfl rfl, rIn1 1 rfl rfl, rfl, by decide +kernel, by decide +kernel, by decide +kernel, by decide, by decide⟩
set_option maxRecDepth 20000 in
theorem rOk107 : rOkM mLa_isNear 107 := ⟨rfl, rIn3 66 rfl rfl, rIn1 1 rfl rfl, rfl, by decide +kernel, by decide +kernel, by decide +kernel, by decide, by decide⟩
set_option maxRecDepth 20000 in
theorem rOk108 : rOkM mLa_held 108 := ⟨rfl, rIn2 234 rfl rfl, rIn1 1 rfl rfl, rfl, by decide +kernel, by decide +kernel, by decide +kernel, by decide, by decide⟩
set_option maxRecDepth 20000 in
theorem rOk109 : rOkM mLa_mostOfLaw 109 := ⟨rfl, rIn2 103 rfl rfl, rIn1 1 rfl rfl, rfl, by decide +kernel, by decide +kernel, by decide +kernel, by decide, by decide⟩
set_option maxRecDepth 20000 in
theorem rOk110 : rOkM mLa_isUnder 110 := ⟨rfl, rIn3 206 rfl rfl, rIn1 1 rfl rfl, rfl, by decide +kernel, by decide +kernel, by decide +kernel, by decide, by decide⟩
set_option maxRecDepth 20000 in
theorem rOk111 : rOkM mLa_opinionBehind 111 := ⟨rfl, rIn3 26 rfl rfl, rIn1 1 rfl rfl, rfl, by decide +kernel, by decide +kernel, by decide +kernel, by decide, by decide⟩
set_option maxRecDepth 20000 in
theorem rOk112 : rOkM mLa_opinionWithout 112 := ⟨rfl, rIn3 94 rfl rfl, rIn1 1 rfl rfl, rfl, by decide +kernel, by decide +kernel, by decide +kernel, by decide, by decide⟩
set_option maxRecDepth 20000 in
theorem rOk113 : rOkM mLa_bestChange 113 := ⟨rfl, rIn3 70 rfl rfl, rIn1 1 rfl rfl, rfl, by decide +kernel, by decide +kernel, by decide +kernel, by decide, by decide⟩
set_option maxRecDepth 20000 in
theorem rOk114 : rOkM mLa_changeTried 114 := ⟨rfl, rIn3 74 rfl rfl, rIn1 1 rfl rfl, rfl, by decide +kernel, by decide +kernel, by decide +kernel, by decide, by decide⟩
set_option maxRecDepth 20000 in
theorem rOk115 : rOkM mLa_fitsWith 115 := ⟨rfl, rIn3 106 rfl rfl, rIn1 1 rfl rfl, rfl, by decide +kernel, by decide +kernel, by decide +kernel, by decide, by decide⟩
set_option maxRecDepth 20000 in
theorem rOk116 : rOkM mLa_hasRow 116 := ⟨rfl, rIn3 145 rfl rfl, rIn1 1 rfl rfl, rfl, by decide +kernel, by decide +kernel, by decide +kernel, by decide, by decide⟩
set_option maxRecDepth 20000 in
theorem rOk117 : rOkM mLa_triedPart 117 := ⟨rfl, rIn3 137 rfl rfl, rIn1 1 rfl rfl, rfl, by decide +kernel, by decide +kernel, by decide +kernel, by decide, by decide⟩
set_option maxRecDepth 20000 in
theorem rOk118 : rOkM mLa_ways 118 := ⟨rfl, rIn3 118 rfl rfl, rIn1 1 rfl rfl, rfl, by decide +kernel, by decide +kernel, by decide +kernel, by decide, by decide⟩
set_option maxRecDepth 20000 in
theorem rOk119 : rOkM mLa_power 119 := ⟨rfl, rIn3 121 rfl rfl, rIn1 1 rfl rfl, rfl, by decide +kernel, by decide +kernel, by decide +kernel, by decide, by decide⟩
set_option maxRecDepth 20000 in
theorem rOk120 : rOkM mLa_partOf 120 := ⟨rfl, rIn3 125 rfl rfl, rIn1 1 rfl rfl, rfl, by decide +kernel, by decide +kernel, by decide +kernel, by decide, by decide⟩
set_option maxRecDepth 20000 in
theorem rOk121 : rOkM mMo_init 121 := ⟨rfl, rIn4 37 rfl rfl, rIn1 7 rfl rfl, rfl, by decide +kernel, by decide +kernel, by decide +kernel, by decide, by decide⟩
set_option maxRecDepth 20000 in
theorem rOk122 : rOkM mMo_begins 122 := ⟨rfl, rIn4 42 rfl rfl, rIn1 7 rfl rfl, rfl, by decide +kernel, by decide +kernel, by decide +kernel, by decide, by decide⟩
set_option maxRecDepth 20000 in
theorem rOk123 : rOkM mMo_isIn 123 := ⟨rfl, rIn4 132 rfl rfl, rIn1 7 rfl rfl, rfl, by decide +kernel, by decide +kernel, by decide +kernel, by decide, by decide⟩
set_option maxRecDepth 20000 in
theorem rOk124 : rOkM mMo_isPit 124 := ⟨rfl, rIn4 229 rfl rfl, rIn1 7 rfl rfl, rfl, by decide +kernel, by decide +kernel, by decide +kernel, by decide, by decide⟩
set_option maxRecDepth 20000 in
theorem rOk125 : rOkM mMo_isOne 125 := ⟨rfl, rIn4 237 rfl rfl, rIn1 7 rfl rfl, rfl, by decide +kernel, by decide +kernel, by decide +kernel, by decide, by decide⟩
set_option maxRecDepth 20000 in
theorem rOk126 : rOkM mMo_its 126 := ⟨rfl, rIn5 2 rfl rfl, rIn1 7 rfl rfl, rfl, by decide +kernel, by decide +kernel, by decide +kernel, by decide, by decide⟩
set_option maxRecDepth 20000 in
theorem rOk127 : rOkM mMo_becomes 127 := ⟨rfl, rIn4 217 rfl rfl, rIn1 7 rfl rfl, rfl, by decide +kernel, by decide +kernel, by decide +kernel, by decide, by decide⟩
set_option maxRecDepth 20000 in
theorem rOk128 : rOkM mMo_copyRow 128 := ⟨rfl, rIn4 140 rfl rfl, rIn1 7 rfl rfl, rfl, by decide +kernel, by decide +kernel, by decide +kernel, by decide, by decide⟩
set_option maxRecDepth 20000 in
theorem rOk129 : rOkM mMo_greatest 129 := ⟨rfl, rIn5 143 rfl rfl, rIn1 7 rfl rfl, rfl, by decide +kernel, by decide +kernel, by decide +kernel, by decide, by decide⟩
set_option maxRecDepth 20000 in
theorem rOk130 : rOkM mMo_within 130 := ⟨rfl, rIn5 77 rfl rfl, rIn1 7 rfl rfl, rfl, by decide +kernel, by decide +kernel, by decide +kernel, by decide, by decide⟩
set_option maxRecDepth 20000 in
theorem rOk131 : rOkM mMo_size 131 := ⟨rfl, rIn5 9 rfl rfl, rIn1 7 rfl rfl, rfl, by decide +kernel, by decide +kernel, by decide +kernel, by decide, by decide⟩
set_option maxRecDepth 20000 in
theorem rOk132 : rOkM mMo_isUnder 132 := ⟨rfl, rIn6 16 rfl rfl, rIn1 7 rfl rfl, rfl, by decide +kernel, by decide +kernel, by decide +kernel, by decide, by decide⟩
set_option maxRecDepth 20000 in
theorem rOk133 : rOkM mMo_feed 133 := ⟨rfl, rIn4 128 rfl rfl, rIn1 7 rfl rfl, rfl, by decide +kernel, by decide +kernel, by decide +kernel, by decide, by decide⟩
set_option maxRecDepth 20000 in
theorem rOk134 : rOkM mMo_isAlpha 134 := ⟨rfl, rIn4 151 rfl rfl, rIn1 7 rfl rfl, rfl, by decide +kernel, by decide +kernel, by decide +kernel, by decide, by decide⟩
set_option maxRecDepth 20000 in
theorem rOk135 : rOkM mMo_isDigit 135 := ⟨rfl, rIn4 154 rfl rfl, rIn1 7 rfl rfl, rfl, by decide +kernel, by decide +kernel, by decide +kernel, by decide, by decide⟩
set_option maxRecDepth 20000 in
theorem rOk136 : rOkM mMo_byteAt 136 := ⟨rfl, rIn4 148 rfl rfl, rIn1 7 rfl rfl, rfl, by decide +kernel, by decide +kernel, by decide +kernel, by decide, by decide⟩
set_option maxRecDepth 20000 in
theorem rOk137 : rOkM mMo_nextToken 137 := ⟨rfl, rIn4 144 rfl rfl, rIn1 7 rfl rfl, rfl, by decide +kernel, by decide +kernel, by decide +kernel, by decide, by decide⟩
set_option maxRecDepth 20000 in
theorem rOk138 : rOkM mMo_needs 138 := ⟨rfl, rIn4 190 rfl rfl, rIn1 7 rfl rfl, rfl, by decide +kernel, by decide +kernel, by decide +kernel, by decide, by decide⟩
set_option maxRecDepth 20000 in
theorem rOk139 : rOkM mMo_isName 139 := ⟨rfl, rIn4 170 rfl rfl, rIn1 7 rfl rfl, rfl, by decide +kernel, by decide +kernel, by decide +kernel, by decide, by decide⟩
set_option maxRecDepth 20000 in
theorem rOk140 : rOkM mMo_isSame 140 := ⟨rfl, rIn4 174 rfl rfl, rIn1 7 rfl rfl, rfl, by decide +kernel, by decide +kernel, by decide +kernel, by decide, by decide⟩
set_option maxRecDepth 20000 in
theorem rOk141 : rOkM mMo_isFour 141 := ⟨rfl, rIn4 178 rfl rfl, rIn1 7 rfl rfl, rfl, by decide +kernel, by decide +kernel, by decide +kernel, by decide, by decide⟩
set_option maxRecDepth 20000 in
theorem rOk142 : rOkM mMo_isFive 142 := ⟨rfl, rIn4 166 rfl rfl, rIn1 7 rfl rfl, rfl, by decide +kernel, by decide +kernel, by decide +kernel, by decide, by decide⟩
set_option maxRecDepth 20000 in
theorem rOk143 : rOkM mMo_kindHere 143 := ⟨rfl, rIn4 162 rfl rfl, rIn1 7 rfl rfl, rfl, by decide +kernel, by decide +kernel, by decide +kernel, by decide, by decide⟩
set_option maxRecDepth 20000 in
theorem rOk144 : rOkM mMo_numberTo 144 := ⟨rfl, rIn4 202 rfl rfl, rIn1 7 rfl rfl, rfl, by decide +kernel, by decide +kernel, by decide +kernel, by decide, by decide⟩
set_option maxRecDepth 20000 in
theorem rOk145 : rOkM mMo_perhaps 145 := ⟨rfl, rIn4 206 rfl rfl, rIn1 7 rfl rfl, rfl, by decide +kernel, by decide +kernel, by decide +kernel, by decide, by decide⟩
set_option maxRecDepth 20000 in
theorem rOk146 : rOkM mMo_thingHere 146 := ⟨rfl, rIn4 186 rfl rfl, rIn1 7 rfl rfl, rfl, by decide +kernel, by decide +kernel, by decide +kernel, by decide, by decide⟩
set_option maxRecDepth 20000 in
theorem rOk147 : rOkM mMo_ownHere 147 := ⟨rfl, rIn4 182 rfl rfl, rIn1 7 rfl rfl, rfl, by decide +kernel, by decide +kernel, by decide +kernel, by decide, by decide⟩
set_option maxRecDepth 20000 in
theorem rOk148 : rOkM mMo_itemHere 148 := ⟨rfl, rIn4 158 rfl rfl, rIn1 7 rfl rfl, rfl, by decide +kernel, by decide +kernel, by decide +kernel, by decide, by decide⟩
set_option maxRecDepth 20000 in
theorem rOk149 : rOkM mMo_street 149 := ⟨rfl, rIn4 137 rfl rfl, rIn1 7 rfl rfl, rfl, by decide +kernel, by decide +kernel, by decide +kernel, by decide, by decide⟩
set_option maxRecDepth 20000 in
theorem rOk150 : rOkM mMo_set 150 := ⟨rfl, rIn4 210 rfl rfl, rIn1 7 rfl rfl, rfl, by decide +kernel, by decide +kernel, by decide +kernel, by decide, by decide⟩
set_option maxRecDepth 20000 in
theorem rOk151 : rOkM mMo_lawOf 151 := ⟨rfl, rIn4 221 rfl rfl, rIn1 7 rfl rfl, rfl, by decide +kernel, by decide +kernel, by decide +kernel, by decide, by decide⟩
set_option maxRecDepth 20000 in
theorem rOk152 : rOkM mMo_lies 152 := ⟨rfl, rIn4 198 rfl rfl, rIn1 7 rfl rfl, rfl, by decide +kernel, by decide +kernel, by decide +kernel, by decide, by decide⟩
set_option maxRecDepth 20000 in
theorem rOk153 : rOkM mMo_comes 153 := ⟨rfl, rIn4 194 rfl rfl, rIn1 7 rfl rfl, rfl, by decide +kernel, by decide +kernel, by decide +kernel, by decide, by decide⟩
set_option maxRecDepth 20000 in
theorem rOk154 : rOkM mMo_thing 154 := ⟨rfl, rIn4 225 rfl rfl, rIn1 7 rfl rfl, rfl, by decide +kernel, by decide +kernel, by decide +kernel, by decide, by decide⟩
set_option maxRecDepth 20000 in
theorem rOk155 : rOkM mMo_aboveOf 155 := ⟨rfl, rIn5 6 rfl rfl, rIn1 7 rfl rfl, rfl, by decide +kernel, by decide +kernel, by decide +kernel, by decide, by decide⟩
set_option maxRecDepth 20000 in
theorem rOk156 : rOkM mMo_speaks 156 := ⟨rfl, rIn5 17 rfl rfl, rIn1 7 rfl rfl, rfl, by decide +kernel, by decide +kernel, by decide +kernel, by decide, by decide⟩
set_option maxRecDepth 20000 in
theorem rOk157 : rOkM mMo_hides 157 := ⟨rfl, rIn5 21 rfl rfl, rIn1 7 rfl rfl, rfl, by decide +kernel, by decide +kernel, by decide +kernel, by decide, by decide⟩
set_option maxRecDepth 20000 in
theorem rOk158 : rOkM mMo_of 158 := ⟨rfl, rIn4 233 rfl rfl, rIn1 7 rfl rfl, rfl, by decide +kernel, by decide +kernel, by decide +kernel, by decide, by decide⟩
set_option maxRecDepth 20000 in
theorem rOk159 : rOkM mMo_does 159 := ⟨rfl, rIn5 13 rfl rfl, rIn1 7 rfl rfl, rfl, by decide +kernel, by decide +kernel, by decide +kernel, by decide, by decide⟩
set_option maxRecDepth 20000 in
theorem rOk160 : rOkM mMo_mind 160 := ⟨rfl, rIn5 25 rfl rfl, rIn1 7 rfl rfl, rfl, by decide +kernel, by decide +kernel, by decide +kernel, by decide, by decide⟩
set_option maxRecDepth 20000 in
theorem rOk161 : rOkM mMo_value 161 := ⟨rfl, rIn5 29 rfl rfl, rIn1 7 rfl rfl, rfl, by decide +kernel, by decide +kernel, by decide +kernel, by decide, by decide⟩
set_option maxRecDepth 20000 in
theorem rOk162 : rOkM mMo_lay 162 := ⟨rfl, rIn5 33 rfl rfl, rIn1 7 rfl rfl, rfl, by decide +kernel, by decide +kernel, by decide +kernel, by decide, by decide⟩
set_option maxRecDepth 20000 in
theorem rOk163 : rOkM mMo_lying 163 := ⟨rfl, rIn5 41 rfl rfl, rIn1 7 rfl rfl, rfl, by decide +kernel, by decide +kernel, by decide +kernel, by decide, by decide⟩
set_option maxRecDepth 20000 in
theorem rOk164 : rOkM mMo_take 164 := ⟨rfl, rIn5 37 rfl rfl, rIn1 7 rfl rfl, rfl, by decide +kernel, by decide +kernel, by decide +kernel, by decide, by decide⟩
set_option maxRecDepth 20000 in
theorem rOk165 : rOkM mMo_bring 165 := ⟨rfl, rIn5 45 rfl rfl, rIn1 7 rfl rfl, rfl, by decide +kernel, by decide +kernel, by decide +kernel, by decide, by decide⟩
set_option maxRecDepth 20000 in
theorem rOk166 : rOkM mMo_think 166 := ⟨rfl, rIn5 49 rfl rfl, rIn1 7 rfl rfl, rfl, by decide +kernel, by decide +kernel, by decide +kernel, by decide, by decide⟩
set_option maxRecDepth 20000 in
theorem rOk167 : rOkM mMo_lyingIn 167 := ⟨rfl, rIn5 57 rfl rfl, rIn1 7 rfl rfl, rfl, by decide +kernel, by decide +kernel, by decide +kernel, by decide, by decide⟩
set_option maxRecDepth 20000 in
theorem rOk168 : rOkM mMo_top 168 := ⟨rfl, rIn5 61 rfl rfl, rIn1 7 rfl rfl, rfl, by decide +kernel, by decide +kernel, by decide +kernel, by decide, by decide⟩
set_option maxRecDepth 20000 in
theorem rOk169 : rOkM mMo_pit 169 := ⟨rfl, rIn5 53 rfl rfl, rIn1 7 rfl rfl, rfl, by decide +kernel, by decide +kernel, by decide +kernel, by decide, by decide⟩
set_option maxRecDepth 20000 in
theorem rOk170 : rOkM mMo_goesOn 170 := ⟨rfl, rIn5 74 rfl rfl, rIn1 7 rfl rfl, rfl, by decide +kernel, by decide +kernel, by decide +kernel, by decide, by decide⟩
set_option maxRecDepth 20000 in
theorem rOk171 : rOkM mMo_goes 171 := ⟨rfl, rIn5 70 rfl rfl, rIn1 7 rfl rfl, rfl, by decide +kernel, by decide +kernel, by decide +kernel, by decide, by decide⟩
set_option maxRecDepth 20000 in
theorem rOk172 : rOkM mMo_years 172 := ⟨rfl, rIn5 65 rfl rfl, rIn1 7 rfl rfl, rfl, by decide +kernel, by decide +kernel, by decide +kernel, by decide, by decide⟩
set_option maxRecDepth 20000 in
theorem rOk173 : rOkM mMo_seed 173 := ⟨rfl, rIn5 81 rfl rfl, rIn1 7 rfl rfl, rfl, by decide +kernel, by decide +kernel, by decide +kernel, by decide, by decide⟩
set_option maxRecDepth 20000 in
theorem rOk174 : rOkM mMo_drawn 174 := ⟨rfl, rIn5 89 rfl rfl, rIn1 7 rfl rfl, rfl, by decide +kernel, by decide +kernel, by decide +kernel, by decide, by decide⟩
set_option maxRecDepth 20000 in
theorem rOk175 : rOkM mMo_year 175 := ⟨rfl, rIn5 85 rfl rfl, rIn1 7 rfl rfl, rfl, by decide +kernel, by decide +kernel, by decide +kernel, by decide, by decide⟩
set_option maxRecDepth 20000 in
theorem rOk176 : rOkM mMo_luck 176 := ⟨rfl, rIn5 94 rfl rfl, rIn1 7 rfl rfl, rfl, by decide +kernel, by decide +kernel, by decide +kernel, by decide, by decide⟩
set_option maxRecDepth 20000 in
theorem rOk177 : rOkM mMo_worthOfAll 177 := ⟨rfl, rIn5 104 rfl rfl, rIn1 7 rfl rfl, rfl, by decide +kernel, by decide +kernel, by decide +kernel, by decide, by decide⟩
set_option maxRecDepth 20000 in
theorem rOk178 : rOkM mMo_kindsIn 178 := ⟨rfl, rIn5 112 rfl rfl, rIn1 7 rfl rfl, rfl, by decide +kernel, by decide +kernel, by decide +kernel, by decide, by decide⟩
set_option maxRecDepth 20000 in
theorem rOk179 : rOkM mMo_cover 179 := ⟨rfl, rIn5 108 rfl rfl, rIn1 7 rfl rfl, rfl, by decide +kernel, by decide +kernel, by decide +kernel, by decide, by decide⟩
set_option maxRecDepth 20000 in
theorem rOk180 : rOkM mMo_state 180 := ⟨rfl, rIn5 100 rfl rfl, rIn1 7 rfl rfl, rfl, by decide +kernel, by decide +kernel, by decide +kernel, by decide, by decide⟩
set_option maxRecDepth 20000 in
theorem rOk181 : rOkM mMo_thoughtBehind 181 := ⟨rfl, rIn5 120 rfl rfl, rIn1 7 rfl rfl, rfl, by decide +kernel, by decide +kernel, by decide +kernel, by decide, by decide⟩
set_option maxRecDepth 20000 in
theorem rOk182 : rOkM mMo_thought 182 := ⟨rfl, rIn5 116 rfl rfl, rIn1 7 rfl rfl, rfl, by decide +kernel, by decide +kernel, by decide +kernel, by decide, by decide⟩
set_option maxRecDepth 20000 in
theorem rOk183 : rOkM mMo_dug 183 := ⟨rfl, rIn5 124 rfl rfl, rIn1 7 rfl rfl, rfl, by decide +kernel, by decide +kernel, by decide +kernel, by decide, by decide⟩
set_option maxRecDepth 20000 in
theorem rOk184 : rOkM mMo_empty 184 := ⟨rfl, rIn5 128 rfl rfl, rIn1 7 rfl rfl, rfl, by decide +kernel, by decide +kernel, by decide +kernel, by decide, by decide⟩
set_option maxRecDepth 20000 in
theorem rOk185 : rOkM mMo_praised 185 := ⟨rfl, rIn5 132 rfl rfl, rIn1 7 rfl rfl, rfl, by decide +kernel, by decide +kernel, by decide +kernel, by decide, by decide⟩
set_option maxRecDepth 20000 in
theorem rOk186 : rOkM mMo_isShort 186 := ⟨rfl, rIn5 139 rfl rfl, rIn1 7 rfl rfl, rfl, by decide +kernel, by decide +kernel, by decide +kernel, by decide, by decide⟩
set_option maxRecDepth 20000 in
theorem rOk187 : rOkM mMo_pitFor 187 := ⟨rfl, rIn5 136 rfl rfl, rIn1 7 rfl rfl, rfl, by decide +kernel, by decide +kernel, by decide +kernel, by decide, by decide⟩
set_option maxRecDepth 20000 in
theorem rOk188 : rOkM mMo_mostBy 188 := ⟨rfl, rIn5 151 rfl rfl, rIn1 7 rfl rfl, rfl, by decide +kernel, by decide +kernel, by decide +kernel, by decide, by decide⟩
set_option maxRecDepth 20000 in
theorem rOk189 : rOkM mMo_kindFor 189 := ⟨rfl, rIn5 147 rfl rfl, rIn1 7 rfl rfl, rfl, by decide +kernel, by decide +kernel, by decide +kernel, by decide, by decide⟩
set_option maxRecDepth 20000 in
theorem rOk190 : rOkM mMo_worthFor 190 := ⟨rfl, rIn5 155 rfl rfl, rIn1 7 rfl rfl, rfl, by decide +kernel, by decide +kernel, by decide +kernel, by decide, by decide⟩
set_option maxRecDepth 20000 in
theorem rOk191 : rOkM mMo_beginFor 191 := ⟨rfl, rIn5 159 rfl rfl, rIn1 7 rfl rfl, rfl, by decide +kernel, by decide +kernel, by decide +kernel, by decide, by decide⟩
set_option maxRecDepth 20000 in
theorem rOk192 : rOkM mMo_awayFor 192 := ⟨rfl, rIn5 163 rfl rfl, rIn1 7 rfl rfl, rfl, by decide +kernel, by decide +kernel, by decide +kernel, by decide, by decide⟩
set_option maxRecDepth 20000 in
theorem rOk193 : rOkM mMo_above 193 := ⟨rfl, rIn5 167 rfl rfl, rIn1 7 rfl rfl, rfl, by decide +kernel, by decide +kernel, by decide +kernel, by decide, by decide⟩
set_option maxRecDepth 20000 in
theorem rOk194 : rOkM mMo_product 194 := ⟨rfl, rIn5 186 rfl rfl, rIn1 7 rfl rfl, rfl, by decide +kernel, by decide +kernel, by decide +kernel, by decide, by decide⟩
set_option maxRecDepth 20000 in
theorem rOk195 : rOkM mMo_partOf 195 := ⟨rfl, rIn5 190 rfl rfl, rIn1 7 rfl rfl, rfl, by decide +kernel, by decide +kernel, by decide +kernel, by decide, by decide⟩
set_option maxRecDepth 20000 in
theorem rOk196 : rOkM mMo_isTold 196 := ⟨rfl, rIn5 178 rfl rfl, rIn1 7 rfl rfl, rfl, by decide +kernel, by decide +kernel, by decide +kernel, by decide, by decide⟩
set_option maxRecDepth 20000 in
theorem rOk197 : rOkM mMo_fits 197 := ⟨rfl, rIn5 171 rfl rfl, rIn1 7 rfl rfl, rfl, by decide +kernel, by decide +kernel, by decide +kernel, by decide, by decide⟩
set_option maxRecDepth 20000 in
theorem rOk198 : rOkM mMo_odds 198 := ⟨rfl, rIn5 182 rfl rfl, rIn1 7 rfl rfl, rfl, by decide +kernel, by decide +kernel, by decide +kernel, by decide, by decide⟩
set_option maxRecDepth 20000 in
theorem rOk199 : rOkM mMo_hope 199 := ⟨rfl, rIn5 194 rfl rfl, rIn1 7 rfl rfl, rfl, by decide +kernel, by decide +kernel, by decide +kernel, by decide, by decide⟩
set_option maxRecDepth 20000 in
theorem rOk200 : rOkM mMo_prove 200 := ⟨rfl, rIn5 198 rfl rfl, rIn1 7 rfl rfl, rfl, by decide +kernel, by decide +kernel, by decide +kernel, by decide, by decide⟩
set_option maxRecDepth 20000 in
theorem rOk201 : rOkM mMo_isRow 201 := ⟨rfl, rIn5 207 rfl rfl, rIn1 7 rfl rfl, rfl, by decide +kernel, by decide +kernel, by decide +kernel, by decide, by decide⟩
set_option maxRecDepth 20000 in
theorem rOk202 : rOkM mMo_row 202 := ⟨rfl, rIn5 203 rfl rfl, rIn1 7 rfl rfl, rfl, by decide +kernel, by decide +kernel, by decide +kernel, by decide, by decide⟩
set_option maxRecDepth 20000 in
theorem rOk203 : rOkM mMo_alterRow 203 := ⟨rfl, rIn5 212 rfl rfl, rIn1 7 rfl rfl, rfl, by decide +kernel, by decide +kernel, by decide +kernel, by decide, by decide⟩
set_option maxRecDepth 20000 in
theorem rOk204 : rOkM mMo_judge 204 := ⟨rfl, rIn5 216 rfl rfl, rIn1 7 rfl rfl, rfl, by decide +kernel, by decide +kernel, by decide +kernel, by decide, by decide⟩
set_option maxRecDepth 20000 in
theorem rOk205 : rOkM mMo_isSheet 205 := ⟨rfl, rIn5 174 rfl rfl, rIn1 7 rfl rfl, rfl, by decide +kernel, by decide +kernel, by decide +kernel, by decide, by decide⟩
set_option maxRecDepth 20000 in
theorem rOk206 : rOkM mMo_isShelf 206 := ⟨rfl, rIn6 3 rfl rfl, rIn1 7 rfl rfl, rfl, by decide +kernel, by decide +kernel, by decide +kernel, by decide, by decide⟩
set_option maxRecDepth 20000 in
theorem rOk207 : rOkM mMo_sheet 207 := ⟨rfl, rIn5 220 rfl rfl, rIn1 7 rfl rfl, rfl, by decide +kernel, by decide +kernel, by decide +kernel, by decide, by decide⟩
set_option maxRecDepth 20000 in
theorem rOk208 : rOkM mMo_put 208 := ⟨rfl, rIn5 224 rfl rfl, rIn1 7 rfl rfl, rfl, by decide +kernel, by decide +kernel, by decide +kernel, by decide, by decide⟩
set_option maxRecDepth 20000 in
theorem rOk209 : rOkM mMo_lacks 209 := ⟨rfl, rIn5 232 rfl rfl, rIn1 7 rfl rfl, rfl, by decide +kernel, by decide +kernel, by decide +kernel, by decide, by decide⟩
set_option maxRecDepth 20000 in
theorem rOk210 : rOkM mMo_item 210 := ⟨rfl, rIn5 228 rfl rfl, rIn1 7 rfl rfl, rfl, by decide +kernel, by decide +kernel, by decide +kernel, by decide, by decide⟩
set_option maxRecDepth 20000 in
theorem rOk211 : rOkM mMo_minds 211 := ⟨rfl, rIn5 236 rfl rfl, rIn1 7 rfl rfl, rfl, by decide +kernel, by decide +kernel, by decide +kernel, by decide, by decide⟩
set_option maxRecDepth 20000 in
theorem rOk212 : rOkM mMo_shelf 212 := ⟨rfl, rIn6 0 rfl rfl, rIn1 7 rfl rfl, rfl, by decide +kernel, by decide +kernel, by decide +kernel, by decide, by decide⟩
set_option maxRecDepth 20000 in
theorem rOk213 : rOkM mMo_heldOn 213 := ⟨rfl, rIn6 13 rfl rfl, rIn1 7 rfl rfl, rfl, by decide +kernel, by decide +kernel, by decide +kernel, by decide, by decide⟩
set_option maxRecDepth 20000 in
theorem rOk214 : rOkM mMo_taken 214 := ⟨rfl, rIn6 7 rfl rfl, rIn1 7 rfl rfl, rfl, by decide +kernel, by decide +kernel, by decide +kernel, by decide, by decide⟩
set_option maxRecDepth 20000 in
theorem rOk215 : rOkM mMo_runs 215 := ⟨rfl, rIn6 32 rfl rfl, rIn1 7 rfl rfl, rfl, by decide +kernel, by decide +kernel, by decide +kernel, by decide, by decide⟩
set_option maxRecDepth 20000 in
theorem rOk216 : rOkM mMo_sinksPlain 216 := ⟨rfl, rIn6 36 rfl rfl, rIn1 7 rfl rfl, rfl, by decide +kernel, by decide +kernel, by decide +kernel, by decide, by decide⟩
set_option maxRecDepth 20000 in
theorem rOk217 : rOkM mMo_sinksOfRubbish 217 := ⟨rfl, rIn6 28 rfl rfl, rIn1 7 rfl rfl, rfl, by decide +kernel, by decide +kernel, by decide +kernel, by decide, by decide⟩
set_option maxRecDepth 20000 in
theorem rOk218 : rOkM mMo_sinks 218 := ⟨rfl, rIn6 24 rfl rfl, rIn1 7 rfl rfl, rfl, by decide +kernel, by decide +kernel, by decide +kernel, by decide, by decide⟩
set_option maxRecDepth 20000 in
theorem rOk219 : rOkM mMo_showsPlain 219 := ⟨rfl, rIn6 44 rfl rfl, rIn1 7 rfl rfl, rfl, by decide +kernel, by decide +kernel, by decide +kernel, by decide, by decide⟩
set_option maxRecDepth 20000 in
theorem rOk220 : rOkM mMo_shows 220 := ⟨rfl, rIn6 40 rfl rfl, rIn1 7 rfl rfl, rfl, by decide +kernel, by decide +kernel, by decide +kernel, by decide, by decide⟩
set_option maxRecDepth 20000 in
theorem rOk221 : rOkM mMo_partsPlain 221 := ⟨rfl, rIn6 52 rfl rfl, rIn1 7 rfl rfl, rfl, by decide +kernel, by decide +kernel, by decide +kernel, by decide, by decide⟩
set_option maxRecDepth 20000 in
theorem rOk222 : rOkM mMo_parts 222 := ⟨rfl, rIn6 48 rfl rfl, rIn1 7 rfl rfl, rfl, by decide +kernel, by decide +kernel, by decide +kernel, by decide, by decide⟩
set_option maxRecDepth 20000 in
theorem rOk223 : rOkM mMo_asksPlain 223 := ⟨rfl, rIn6 60 rfl rfl, rIn1 7 rfl rfl, rfl, by decide +kernel, by decide +kernel, by decide +kernel, by decide, by decide⟩
set_option maxRecDepth 20000 in
theorem rOk224 : rOkM mMo_asks 224 := ⟨rfl, rIn6 56 rfl rfl, rIn1 7 rfl rfl, rfl, by decide +kernel, by decide +kernel, by decide +kernel, by decide, by decide⟩
set_option maxRecDepth 20000 in
theorem rOk225 : rOkM mMo_act 225 := ⟨rfl, rIn6 20 rfl rfl, rIn1 7 rfl rfl, rfl, by decide +kernel, by decide +kernel, by decide +kernel, by decide, by decide⟩
set_option maxRecDepth 20000 in
theorem rOk226 : rOkM mMo_trace 226 := ⟨rfl, rIn6 64 rfl rfl, rIn1 7 rfl rfl, rfl, by decide +kernel, by decide +kernel, by decide +kernel, by decide, by decide⟩
set_option maxRecDepth 20000 in
theorem rOk227 : rOkM mMo_many 227 := ⟨rfl, rIn6 68 rfl rfl, rIn1 7 rfl rfl, rfl, by decide +kernel, by decide +kernel, by decide +kernel, by decide, by decide⟩
set_option maxRecDepth 20000 in
theorem rOk228 : rOkM mMo_keep 228 := ⟨rfl, rIn6 72 rfl rfl, rIn1 7 rfl rfl, rfl, by decide +kernel, by decide +kernel, by decide +kernel, by decide, by decide⟩
set_option maxRecDepth 20000 in
theorem rOk229 : rOkM mMo_again 229 := ⟨rfl, rIn6 76 rfl rfl, rIn1 7 rfl rfl, rfl, by decide +kernel, by decide +kernel, by decide +kernel, by decide, by decide⟩
set_option maxRecDepth 20000 in
theorem rOk230 : rOkM mJi_bitCount 230 := ⟨rfl, rIn2 150 rfl rfl, rIn1 13 rfl rfl, rfl, by decide +kernel, by decide +kernel, by decide +kernel, by decide, by decide⟩
set_option maxRecDepth 20000 in
theorem rOk231 : rOkM mJs_length 231 := ⟨rfl, rIn2 11 rfl rfl, rIn1 8 rfl rfl, rfl, by decide +kernel, by decide +kernel, by decide +kernel, by decide, by decide⟩
set_option maxRecDepth 20000 in
theorem rOk232 : rOkM mJs_charAt 232 := ⟨rfl, rIn2 21 rfl rfl, rIn1 8 rfl rfl, rfl, by decide +kernel, by decide +kernel, by decide +kernel, by decide, by decide⟩
set_option maxRecDepth 20000 in
theorem rOk233 : rOkM mJs_coder 233 := ⟨rfl, rIn2 15 rfl rfl, rIn1 8 rfl rfl, rfl, by decide +kernel, by decide +kernel, by decide +kernel, by decide, by decide⟩
set_option maxRecDepth 20000 in
theorem rOk234 : rOkM mJs_isLatin1 234 := ⟨rfl, rIn2 25 rfl rfl, rIn1 8 rfl rfl, rfl, by decide +kernel, by decide +kernel, by decide +kernel, by decide, by decide⟩
set_option maxRecDepth 20000 in
theorem rOk235 : rOkM mJs_checkIndex 235 := ⟨rfl, rIn2 31 rfl rfl, rIn1 8 rfl rfl, rfl, by decide +kernel, by decide +kernel, by decide +kernel, by decide, by decide⟩
set_option maxRecDepth 20000 in
theorem rOk236 : rOkM mJl_charAt 236 := ⟨rfl, rIn2 28 rfl rfl, rIn1 9 rfl rfl, rfl, by decide +kernel, by decide +kernel, by decide +kernel, by decide, by decide⟩
set_option maxRecDepth 20000 in
theorem rOk237 : rOkM mJp_checkIndex 237 := ⟨rfl, rIn2 36 rfl rfl, rIn1 10 rfl rfl, rfl, by decide +kernel, by decide +kernel, by decide +kernel, by decide, by decide⟩
/-- a call's link: q = (index, kind, method) in class c -/
def rMk (c : Nat) (q : Nat × Nat × Nat) : Prop := match q.2.1 with
  | 4 => Cond.methodLink (rCn c) q.1 arraycopyName ∈ rTT ∧ Cond.native arraycopyName ∈ rTT ∧ Cond.static arraycopyName ∈ rTT ∧ Cond.initialized "java/lang/System" ∈ rTT
  | 5 => Cond.methodLink (rCn c) q.1 Lib.objectInit ∈ rTT ∧ Cond.instanceMethod Lib.objectInit ∈ rTT ∧ Cond.code Lib.objectInit ⟨#[0xb1]⟩ 1 none ∈ rTT
  | 6 => Cond.methodLink (rCn c) q.1 Lib.Math.max.name ∈ rTT ∧ Cond.static Lib.Math.max.name ∈ rTT ∧ Cond.initialized "java/lang/Math" ∈ rTT ∧ Cond.code Lib.Math.max.name Lib.Math.max.code 2 (some .int) ∈ rTT
  | 7 => Cond.methodLink (rCn c) q.1 Lib.Math.min.name ∈ rTT ∧ Cond.static Lib.Math.min.name ∈ rTT ∧ Cond.initialized "java/lang/Math" ∈ rTT ∧ Cond.code Lib.Math.min.name Lib.Math.min.code 2 (some .int) ∈ rTT
  | 0 => ∃ M', rNth rMs q.2.2 = some M' ∧ rOkM M' q.2.2 ∧ (parseMethodDescriptor (rYn q.2.2).desc).map (fun d => d.parameters.length + 1) = some M'.2.2.2.2.2.2.2.2 ∧ Cond.methodLink (rCn c) q.1 (rYn q.2.2) ∈ rTT ∧ Cond.instanceMethod (rYn q.2.2) ∈ rTT ∧ Cond.selects (rYn q.2.2).cls (rYn q.2.2) (rYn q.2.2) ∈ rTT
  | 1 => ∃ M', rNth rMs q.2.2 = some M' ∧ rOkM M' q.2.2 ∧ (parseMethodDescriptor (rYn q.2.2).desc).map (fun d => d.parameters.length) = some M'.2.2.2.2.2.2.2.2 ∧ Cond.methodLink (rCn c) q.1 (rYn q.2.2) ∈ rTT ∧ Cond.static (rYn q.2.2) ∈ rTT
  | 3 => ∃ M', rNth rMs q.2.2 = some M' ∧ rOkM M' q.2.2 ∧ (parseMethodDescriptor (rYn q.2.2).desc).map (fun d => d.parameters.length) = some M'.2.2.2.2.2.2.2.2 ∧ Cond.methodLinkNest (rCn c) q.1 (rYn q.2.2) "SampleLayers" ∈ rNs ∧ Cond.static (rYn q.2.2) ∈ rTT
  | 2 => ∃ M', rNth rMs q.2.2 = some M' ∧ rOkM M' q.2.2 ∧ (parseMethodDescriptor (rYn q.2.2).desc).map (fun d => d.parameters.length + 1) = some M'.2.2.2.2.2.2.2.2 ∧ Cond.methodLink (rCn c) q.1 (rYn q.2.2) ∈ rTT ∧ Cond.instanceMethod (rYn q.2.2) ∈ rTT ∧ (rYn q.2.2).name = "<init>"
  | _ => False
set_option maxRecDepth 20000 in
theorem rMX0_0 : rMk 0 (3, 5, 0) := ⟨rIn1 158 rfl rfl, rIn1 21 rfl rfl, rIn1 22 rfl rfl⟩
set_option maxRecDepth 20000 in
theorem rMX0_1 : rMk 0 (32, 0, 4) := ⟨_, rfl, rOk4, by decide +kernel, rIn3 225 rfl rfl, rIn3 227 rfl rfl, rInP 19 rfl rfl⟩
set_option maxRecDepth 20000 in
theorem rMX0_2 : rMk 0 (36, 1, 6) := ⟨_, rfl, rOk6, by decide +kernel, rIn3 229 rfl rfl, rIn3 230 rfl rfl⟩
set_option maxRecDepth 20000 in
theorem rMX0_3 : rMk 0 (40, 0, 7) := ⟨_, rfl, rOk7, by decide +kernel, rIn3 236 rfl rfl, rIn3 238 rfl rfl, rInP 20 rfl rfl⟩
set_option maxRecDepth 20000 in
theorem rMX0_4 : rMk 0 (46, 3, 106) := ⟨_, rfl, rOk106, by decide +kernel, List.mem_of_getElem? (i := 3) rfl, rIn2 108 rfl rfl⟩
set_option maxRecDepth 20000 in
theorem rMX0_5 : rMk 0 (53, 0, 9) := ⟨_, rfl, rOk9, by decide +kernel, rIn4 0 rfl rfl, rIn4 2 rfl rfl, rInP 21 rfl rfl⟩
set_option maxRecDepth 20000 in
theorem rMX0_6 : rMk 0 (57, 0, 8) := ⟨_, rfl, rOk8, by decide +kernel, rIn4 4 rfl rfl, rIn4 6 rfl rfl, rInP 22 rfl rfl⟩
set_option maxRecDepth 20000 in
theorem rMX0_7 : rMk 0 (61, 0, 5) := ⟨_, rfl, rOk5, by decide +kernel, rIn4 8 rfl rfl, rIn4 10 rfl rfl, rInP 23 rfl rfl⟩
theorem rMX0 : ∀ q ∈ (lkM.getD 0 []), rMk 0 q := List.forall_mem_cons.mpr ⟨rMX0_0, List.forall_mem_cons.mpr ⟨rMX0_1, List.forall_mem_cons.mpr ⟨rMX0_2, List.forall_mem_cons.mpr ⟨rMX0_3, List.forall_mem_cons.mpr ⟨rMX0_4, List.forall_mem_cons.mpr ⟨rMX0_5, List.forall_mem_cons.mpr ⟨rMX0_6, List.forall_mem_cons.mpr ⟨rMX0_7, fun _ h => absurd h List.not_mem_nil⟩⟩⟩⟩⟩⟩⟩⟩
set_option maxRecDepth 20000 in
theorem rMX1_0 : rMk 1 (3, 5, 0) := ⟨rIn1 117 rfl rfl, rIn1 21 rfl rfl, rIn1 22 rfl rfl⟩
theorem rMX1 : ∀ q ∈ (lkM.getD 1 []), rMk 1 q := List.forall_mem_cons.mpr ⟨rMX1_0, fun _ h => absurd h List.not_mem_nil⟩
set_option maxRecDepth 20000 in
theorem rMX2_0 : rMk 2 (3, 5, 0) := ⟨rIn1 135 rfl rfl, rIn1 21 rfl rfl, rIn1 22 rfl rfl⟩
set_option maxRecDepth 20000 in
theorem rMX2_1 : rMk 2 (21, 0, 16) := ⟨_, rfl, rOk16, by decide +kernel, rIn1 136 rfl rfl, rIn1 137 rfl rfl, rIn1 138 rfl rfl⟩
theorem rMX2 : ∀ q ∈ (lkM.getD 2 []), rMk 2 q := List.forall_mem_cons.mpr ⟨rMX2_0, List.forall_mem_cons.mpr ⟨rMX2_1, fun _ h => absurd h List.not_mem_nil⟩⟩
set_option maxRecDepth 20000 in
theorem rMX3_0 : rMk 3 (3, 5, 0) := ⟨rIn1 28 rfl rfl, rIn1 21 rfl rfl, rIn1 22 rfl rfl⟩
set_option maxRecDepth 20000 in
theorem rMX3_1 : rMk 3 (34, 0, 21) := ⟨_, rfl, rOk21, by decide +kernel, rIn1 29 rfl rfl, rIn1 30 rfl rfl, rIn1 31 rfl rfl⟩
set_option maxRecDepth 20000 in
theorem rMX3_2 : rMk 3 (52, 4, 0) := ⟨rIn2 118 rfl rfl, rIn2 120 rfl rfl, rIn2 119 rfl rfl, rIn1 12 rfl rfl⟩
set_option maxRecDepth 20000 in
theorem rMX3_3 : rMk 3 (58, 0, 26) := ⟨_, rfl, rOk26, by decide +kernel, rIn2 84 rfl rfl, rIn2 85 rfl rfl, rIn2 86 rfl rfl⟩
set_option maxRecDepth 20000 in
theorem rMX3_4 : rMk 3 (62, 0, 28) := ⟨_, rfl, rOk28, by decide +kernel, rIn4 24 rfl rfl, rIn2 206 rfl rfl, rIn2 207 rfl rfl⟩
set_option maxRecDepth 20000 in
theorem rMX3_5 : rMk 3 (66, 0, 34) := ⟨_, rfl, rOk34, by decide +kernel, rIn3 39 rfl rfl, rIn3 41 rfl rfl, rInP 12 rfl rfl⟩
set_option maxRecDepth 20000 in
theorem rMX3_6 : rMk 3 (69, 1, 230) := ⟨_, rfl, rOk230, by decide +kernel, rIn2 167 rfl rfl, rIn2 149 rfl rfl⟩
set_option maxRecDepth 20000 in
theorem rMX3_7 : rMk 3 (74, 0, 29) := ⟨_, rfl, rOk29, by decide +kernel, rIn2 166 rfl rfl, rIn2 145 rfl rfl, rIn2 146 rfl rfl⟩
set_option maxRecDepth 20000 in
theorem rMX3_8 : rMk 3 (77, 0, 38) := ⟨_, rfl, rOk38, by decide +kernel, rIn2 221 rfl rfl, rIn2 222 rfl rfl, rIn2 223 rfl rfl⟩
set_option maxRecDepth 20000 in
theorem rMX3_9 : rMk 3 (80, 0, 39) := ⟨_, rfl, rOk39, by decide +kernel, rIn2 225 rfl rfl, rIn2 227 rfl rfl, rInP 9 rfl rfl⟩
set_option maxRecDepth 20000 in
theorem rMX3_10 : rMk 3 (83, 0, 30) := ⟨_, rfl, rOk30, by decide +kernel, rIn2 229 rfl rfl, rIn2 210 rfl rfl, rIn2 211 rfl rfl⟩
set_option maxRecDepth 20000 in
theorem rMX3_11 : rMk 3 (86, 0, 36) := ⟨_, rfl, rOk36, by decide +kernel, rIn2 230 rfl rfl, rIn2 163 rfl rfl, rIn2 164 rfl rfl⟩
set_option maxRecDepth 20000 in
theorem rMX3_12 : rMk 3 (89, 0, 35) := ⟨_, rfl, rOk35, by decide +kernel, rIn2 231 rfl rfl, rIn2 159 rfl rfl, rIn2 160 rfl rfl⟩
set_option maxRecDepth 20000 in
theorem rMX3_13 : rMk 3 (92, 3, 108) := ⟨_, rfl, rOk108, by decide +kernel, List.mem_of_getElem? (i := 2) rfl, rIn2 233 rfl rfl⟩
set_option maxRecDepth 20000 in
theorem rMX3_14 : rMk 3 (96, 0, 41) := ⟨_, rfl, rOk41, by decide +kernel, rIn3 13 rfl rfl, rIn3 15 rfl rfl, rInP 10 rfl rfl⟩
set_option maxRecDepth 20000 in
theorem rMX3_15 : rMk 3 (100, 0, 24) := ⟨_, rfl, rOk24, by decide +kernel, rIn3 18 rfl rfl, rIn2 186 rfl rfl, rIn2 187 rfl rfl⟩
theorem rMX3 : ∀ q ∈ (lkM.getD 3 []), rMk 3 q := List.forall_mem_cons.mpr ⟨rMX3_0, List.forall_mem_cons.mpr ⟨rMX3_1, List.forall_mem_cons.mpr ⟨rMX3_2, List.forall_mem_cons.mpr ⟨rMX3_3, List.forall_mem_cons.mpr ⟨rMX3_4, List.forall_mem_cons.mpr ⟨rMX3_5, List.forall_mem_cons.mpr ⟨rMX3_6, List.forall_mem_cons.mpr ⟨rMX3_7, List.forall_mem_cons.mpr ⟨rMX3_8, List.forall_mem_cons.mpr ⟨rMX3_9, List.forall_mem_cons.mpr ⟨rMX3_10, List.forall_mem_cons.mpr ⟨rMX3_11, List.forall_mem_cons.mpr ⟨rMX3_12, List.forall_mem_cons.mpr ⟨rMX3_13, List.forall_mem_cons.mpr ⟨rMX3_14, List.forall_mem_cons.mpr ⟨rMX3_15, fun _ h => absurd h List.not_mem_nil⟩⟩⟩⟩⟩⟩⟩⟩⟩⟩⟩⟩⟩⟩⟩⟩
set_option maxRecDepth 20000 in
theorem rMX4_0 : rMk 4 (3, 5, 0) := ⟨rIn1 90 rfl rfl, rIn1 21 rfl rfl, rIn1 22 rfl rfl⟩
set_option maxRecDepth 20000 in
theorem rMX4_1 : rMk 4 (19, 0, 21) := ⟨_, rfl, rOk21, by decide +kernel, rIn1 227 rfl rfl, rIn1 30 rfl rfl, rIn1 31 rfl rfl⟩
set_option maxRecDepth 20000 in
theorem rMX4_2 : rMk 4 (30, 0, 55) := ⟨_, rfl, rOk55, by decide +kernel, rIn1 228 rfl rfl, rIn1 230 rfl rfl, rInP 0 rfl rfl⟩
set_option maxRecDepth 20000 in
theorem rMX4_3 : rMk 4 (36, 0, 46) := ⟨_, rfl, rOk46, by decide +kernel, rIn1 235 rfl rfl, rIn1 237 rfl rfl, rInP 1 rfl rfl⟩
set_option maxRecDepth 20000 in
theorem rMX4_4 : rMk 4 (40, 0, 50) := ⟨_, rfl, rOk50, by decide +kernel, rIn1 239 rfl rfl, rIn2 1 rfl rfl, rInP 2 rfl rfl⟩
set_option maxRecDepth 20000 in
theorem rMX4_5 : rMk 4 (44, 0, 47) := ⟨_, rfl, rOk47, by decide +kernel, rIn2 61 rfl rfl, rIn2 63 rfl rfl, rInP 4 rfl rfl⟩
set_option maxRecDepth 20000 in
theorem rMX4_6 : rMk 4 (48, 0, 51) := ⟨_, rfl, rOk51, by decide +kernel, rIn2 88 rfl rfl, rIn2 90 rfl rfl, rInP 8 rfl rfl⟩
set_option maxRecDepth 20000 in
theorem rMX4_7 : rMk 4 (51, 0, 54) := ⟨_, rfl, rOk54, by decide +kernel, rIn2 65 rfl rfl, rIn2 67 rfl rfl, rInP 5 rfl rfl⟩
set_option maxRecDepth 20000 in
theorem rMX4_8 : rMk 4 (54, 1, 49) := ⟨_, rfl, rOk49, by decide +kernel, rIn2 98 rfl rfl, rIn2 99 rfl rfl⟩
set_option maxRecDepth 20000 in
theorem rMX4_9 : rMk 4 (58, 0, 52) := ⟨_, rfl, rOk52, by decide +kernel, rIn2 70 rfl rfl, rIn2 72 rfl rfl, rInP 6 rfl rfl⟩
set_option maxRecDepth 20000 in
theorem rMX4_10 : rMk 4 (61, 0, 53) := ⟨_, rfl, rOk53, by decide +kernel, rIn2 76 rfl rfl, rIn2 78 rfl rfl, rInP 7 rfl rfl⟩
set_option maxRecDepth 20000 in
theorem rMX4_11 : rMk 4 (64, 1, 48) := ⟨_, rfl, rOk48, by decide +kernel, rIn2 104 rfl rfl, rIn2 105 rfl rfl⟩
set_option maxRecDepth 20000 in
theorem rMX4_12 : rMk 4 (73, 0, 57) := ⟨_, rfl, rOk57, by decide +kernel, rIn2 4 rfl rfl, rIn2 6 rfl rfl, rInP 3 rfl rfl⟩
set_option maxRecDepth 20000 in
theorem rMX4_13 : rMk 4 (81, 0, 25) := ⟨_, rfl, rOk25, by decide +kernel, rIn2 80 rfl rfl, rIn2 81 rfl rfl, rIn2 82 rfl rfl⟩
set_option maxRecDepth 20000 in
theorem rMX4_14 : rMk 4 (91, 3, 106) := ⟨_, rfl, rOk106, by decide +kernel, List.mem_of_getElem? (i := 1) rfl, rIn2 108 rfl rfl⟩
set_option maxRecDepth 20000 in
theorem rMX4_15 : rMk 4 (99, 3, 109) := ⟨_, rfl, rOk109, by decide +kernel, List.mem_of_getElem? (i := 0) rfl, rIn2 102 rfl rfl⟩
set_option maxRecDepth 20000 in
theorem rMX4_16 : rMk 4 (128, 1, 56) := ⟨_, rfl, rOk56, by decide +kernel, rIn1 232 rfl rfl, rIn1 233 rfl rfl⟩
set_option maxRecDepth 20000 in
theorem rMX4_17 : rMk 4 (131, 0, 231) := ⟨_, rfl, rOk231, by decide +kernel, rIn2 8 rfl rfl, rIn2 9 rfl rfl, rIn2 10 rfl rfl⟩
set_option maxRecDepth 20000 in
theorem rMX4_18 : rMk 4 (136, 0, 232) := ⟨_, rfl, rOk232, by decide +kernel, rIn2 18 rfl rfl, rIn2 19 rfl rfl, rIn2 20 rfl rfl⟩
theorem rMX4 : ∀ q ∈ (lkM.getD 4 []), rMk 4 q := List.forall_mem_cons.mpr ⟨rMX4_0, List.forall_mem_cons.mpr ⟨rMX4_1, List.forall_mem_cons.mpr ⟨rMX4_2, List.forall_mem_cons.mpr ⟨rMX4_3, List.forall_mem_cons.mpr ⟨rMX4_4, List.forall_mem_cons.mpr ⟨rMX4_5, List.forall_mem_cons.mpr ⟨rMX4_6, List.forall_mem_cons.mpr ⟨rMX4_7, List.forall_mem_cons.mpr ⟨rMX4_8, List.forall_mem_cons.mpr ⟨rMX4_9, List.forall_mem_cons.mpr ⟨rMX4_10, List.forall_mem_cons.mpr ⟨rMX4_11, List.forall_mem_cons.mpr ⟨rMX4_12, List.forall_mem_cons.mpr ⟨rMX4_13, List.forall_mem_cons.mpr ⟨rMX4_14, List.forall_mem_cons.mpr ⟨rMX4_15, List.forall_mem_cons.mpr ⟨rMX4_16, List.forall_mem_cons.mpr ⟨rMX4_17, List.forall_mem_cons.mpr ⟨rMX4_18, fun _ h => absurd h List.not_mem_nil⟩⟩⟩⟩⟩⟩⟩⟩⟩⟩⟩⟩⟩⟩⟩⟩⟩⟩⟩
set_option maxRecDepth 20000 in
theorem rMX5_0 : rMk 5 (1, 5, 0) := ⟨rIn1 20 rfl rfl, rIn1 21 rfl rfl, rIn1 22 rfl rfl⟩
set_option maxRecDepth 20000 in
theorem rMX5_1 : rMk 5 (9, 2, 20) := ⟨_, rfl, rOk20, by decide +kernel, rIn1 25 rfl rfl, rIn1 26 rfl rfl, rfl⟩
set_option maxRecDepth 20000 in
theorem rMX5_2 : rMk 5 (24, 2, 42) := ⟨_, rfl, rOk42, by decide +kernel, rIn1 87 rfl rfl, rIn1 88 rfl rfl, rfl⟩
set_option maxRecDepth 20000 in
theorem rMX5_3 : rMk 5 (31, 2, 10) := ⟨_, rfl, rOk10, by decide +kernel, rIn1 114 rfl rfl, rIn1 115 rfl rfl, rfl⟩
set_option maxRecDepth 20000 in
theorem rMX5_4 : rMk 5 (38, 2, 15) := ⟨_, rfl, rOk15, by decide +kernel, rIn1 132 rfl rfl, rIn1 133 rfl rfl, rfl⟩
set_option maxRecDepth 20000 in
theorem rMX5_5 : rMk 5 (45, 2, 0) := ⟨_, rfl, rOk0, by decide +kernel, rIn1 155 rfl rfl, rIn1 156 rfl rfl, rfl⟩
set_option maxRecDepth 20000 in
theorem rMX5_6 : rMk 5 (62, 0, 44) := ⟨_, rfl, rOk44, by decide +kernel, rIn1 215 rfl rfl, rIn1 216 rfl rfl, rIn1 217 rfl rfl⟩
set_option maxRecDepth 20000 in
theorem rMX5_7 : rMk 5 (66, 0, 45) := ⟨_, rfl, rOk45, by decide +kernel, rIn1 223 rfl rfl, rIn1 224 rfl rfl, rIn1 225 rfl rfl⟩
set_option maxRecDepth 20000 in
theorem rMX5_8 : rMk 5 (70, 0, 43) := ⟨_, rfl, rOk43, by decide +kernel, rIn2 110 rfl rfl, rIn2 111 rfl rfl, rIn2 112 rfl rfl⟩
set_option maxRecDepth 20000 in
theorem rMX5_9 : rMk 5 (76, 0, 22) := ⟨_, rfl, rOk22, by decide +kernel, rIn2 114 rfl rfl, rIn2 115 rfl rfl, rIn2 116 rfl rfl⟩
set_option maxRecDepth 20000 in
theorem rMX5_10 : rMk 5 (83, 1, 106) := ⟨_, rfl, rOk106, by decide +kernel, rIn2 125 rfl rfl, rIn2 108 rfl rfl⟩
set_option maxRecDepth 20000 in
theorem rMX5_11 : rMk 5 (87, 1, 109) := ⟨_, rfl, rOk109, by decide +kernel, rIn2 126 rfl rfl, rIn2 102 rfl rfl⟩
set_option maxRecDepth 20000 in
theorem rMX5_12 : rMk 5 (94, 0, 25) := ⟨_, rfl, rOk25, by decide +kernel, rIn2 135 rfl rfl, rIn2 81 rfl rfl, rIn2 82 rfl rfl⟩
set_option maxRecDepth 20000 in
theorem rMX5_13 : rMk 5 (98, 0, 23) := ⟨_, rfl, rOk23, by decide +kernel, rIn2 140 rfl rfl, rIn2 141 rfl rfl, rIn2 142 rfl rfl⟩
set_option maxRecDepth 20000 in
theorem rMX5_14 : rMk 5 (114, 0, 29) := ⟨_, rfl, rOk29, by decide +kernel, rIn2 144 rfl rfl, rIn2 145 rfl rfl, rIn2 146 rfl rfl⟩
set_option maxRecDepth 20000 in
theorem rMX5_15 : rMk 5 (117, 1, 230) := ⟨_, rfl, rOk230, by decide +kernel, rIn2 148 rfl rfl, rIn2 149 rfl rfl⟩
set_option maxRecDepth 20000 in
theorem rMX5_16 : rMk 5 (122, 0, 35) := ⟨_, rfl, rOk35, by decide +kernel, rIn2 158 rfl rfl, rIn2 159 rfl rfl, rIn2 160 rfl rfl⟩
set_option maxRecDepth 20000 in
theorem rMX5_17 : rMk 5 (125, 0, 36) := ⟨_, rfl, rOk36, by decide +kernel, rIn2 162 rfl rfl, rIn2 163 rfl rfl, rIn2 164 rfl rfl⟩
set_option maxRecDepth 20000 in
theorem rMX5_18 : rMk 5 (128, 0, 26) := ⟨_, rfl, rOk26, by decide +kernel, rIn2 180 rfl rfl, rIn2 85 rfl rfl, rIn2 86 rfl rfl⟩
set_option maxRecDepth 20000 in
theorem rMX5_19 : rMk 5 (132, 0, 24) := ⟨_, rfl, rOk24, by decide +kernel, rIn2 185 rfl rfl, rIn2 186 rfl rfl, rIn2 187 rfl rfl⟩
set_option maxRecDepth 20000 in
theorem rMX5_20 : rMk 5 (135, 0, 27) := ⟨_, rfl, rOk27, by decide +kernel, rIn2 189 rfl rfl, rIn2 190 rfl rfl, rIn2 191 rfl rfl⟩
set_option maxRecDepth 20000 in
theorem rMX5_21 : rMk 5 (145, 0, 28) := ⟨_, rfl, rOk28, by decide +kernel, rIn2 205 rfl rfl, rIn2 206 rfl rfl, rIn2 207 rfl rfl⟩
set_option maxRecDepth 20000 in
theorem rMX5_22 : rMk 5 (148, 0, 30) := ⟨_, rfl, rOk30, by decide +kernel, rIn2 209 rfl rfl, rIn2 210 rfl rfl, rIn2 211 rfl rfl⟩
set_option maxRecDepth 20000 in
theorem rMX5_23 : rMk 5 (151, 0, 37) := ⟨_, rfl, rOk37, by decide +kernel, rIn2 217 rfl rfl, rIn2 218 rfl rfl, rIn2 219 rfl rfl⟩
set_option maxRecDepth 20000 in
theorem rMX5_24 : rMk 5 (155, 0, 40) := ⟨_, rfl, rOk40, by decide +kernel, rIn3 9 rfl rfl, rIn3 10 rfl rfl, rIn3 11 rfl rfl⟩
set_option maxRecDepth 20000 in
theorem rMX5_25 : rMk 5 (158, 0, 111) := ⟨_, rfl, rOk111, by decide +kernel, rIn3 23 rfl rfl, rIn3 25 rfl rfl, rInP 11 rfl rfl⟩
set_option maxRecDepth 20000 in
theorem rMX5_26 : rMk 5 (164, 0, 31) := ⟨_, rfl, rOk31, by decide +kernel, rIn3 31 rfl rfl, rIn3 32 rfl rfl, rIn3 33 rfl rfl⟩
set_option maxRecDepth 20000 in
theorem rMX5_27 : rMk 5 (167, 0, 33) := ⟨_, rfl, rOk33, by decide +kernel, rIn3 35 rfl rfl, rIn3 36 rfl rfl, rIn3 37 rfl rfl⟩
set_option maxRecDepth 20000 in
theorem rMX5_28 : rMk 5 (170, 0, 38) := ⟨_, rfl, rOk38, by decide +kernel, rIn3 51 rfl rfl, rIn2 222 rfl rfl, rIn2 223 rfl rfl⟩
set_option maxRecDepth 20000 in
theorem rMX5_29 : rMk 5 (173, 1, 107) := ⟨_, rfl, rOk107, by decide +kernel, rIn3 64 rfl rfl, rIn3 65 rfl rfl⟩
set_option maxRecDepth 20000 in
theorem rMX5_30 : rMk 5 (176, 0, 113) := ⟨_, rfl, rOk113, by decide +kernel, rIn3 67 rfl rfl, rIn3 69 rfl rfl, rInP 13 rfl rfl⟩
set_option maxRecDepth 20000 in
theorem rMX5_31 : rMk 5 (180, 0, 112) := ⟨_, rfl, rOk112, by decide +kernel, rIn3 91 rfl rfl, rIn3 93 rfl rfl, rInP 15 rfl rfl⟩
set_option maxRecDepth 20000 in
theorem rMX5_32 : rMk 5 (187, 0, 115) := ⟨_, rfl, rOk115, by decide +kernel, rIn3 103 rfl rfl, rIn3 105 rfl rfl, rInP 16 rfl rfl⟩
set_option maxRecDepth 20000 in
theorem rMX5_33 : rMk 5 (193, 1, 118) := ⟨_, rfl, rOk118, by decide +kernel, rIn3 116 rfl rfl, rIn3 117 rfl rfl⟩
set_option maxRecDepth 20000 in
theorem rMX5_34 : rMk 5 (197, 1, 119) := ⟨_, rfl, rOk119, by decide +kernel, rIn3 119 rfl rfl, rIn3 120 rfl rfl⟩
set_option maxRecDepth 20000 in
theorem rMX5_35 : rMk 5 (203, 1, 120) := ⟨_, rfl, rOk120, by decide +kernel, rIn3 123 rfl rfl, rIn3 124 rfl rfl⟩
set_option maxRecDepth 20000 in
theorem rMX5_36 : rMk 5 (207, 0, 117) := ⟨_, rfl, rOk117, by decide +kernel, rIn3 134 rfl rfl, rIn3 136 rfl rfl, rInP 17 rfl rfl⟩
set_option maxRecDepth 20000 in
theorem rMX5_37 : rMk 5 (210, 0, 116) := ⟨_, rfl, rOk116, by decide +kernel, rIn3 142 rfl rfl, rIn3 144 rfl rfl, rInP 18 rfl rfl⟩
set_option maxRecDepth 20000 in
theorem rMX5_38 : rMk 5 (216, 0, 13) := ⟨_, rfl, rOk13, by decide +kernel, rIn3 107 rfl rfl, rIn3 108 rfl rfl, rIn3 109 rfl rfl⟩
set_option maxRecDepth 20000 in
theorem rMX5_39 : rMk 5 (219, 1, 108) := ⟨_, rfl, rOk108, by decide +kernel, rIn3 158 rfl rfl, rIn2 233 rfl rfl⟩
set_option maxRecDepth 20000 in
theorem rMX5_40 : rMk 5 (222, 0, 11) := ⟨_, rfl, rOk11, by decide +kernel, rIn3 163 rfl rfl, rIn3 164 rfl rfl, rIn3 165 rfl rfl⟩
set_option maxRecDepth 20000 in
theorem rMX5_41 : rMk 5 (226, 0, 12) := ⟨_, rfl, rOk12, by decide +kernel, rIn3 171 rfl rfl, rIn3 172 rfl rfl, rIn3 173 rfl rfl⟩
set_option maxRecDepth 20000 in
theorem rMX5_42 : rMk 5 (229, 0, 14) := ⟨_, rfl, rOk14, by decide +kernel, rIn3 175 rfl rfl, rIn3 176 rfl rfl, rIn3 177 rfl rfl⟩
set_option maxRecDepth 20000 in
theorem rMX5_43 : rMk 5 (232, 0, 17) := ⟨_, rfl, rOk17, by decide +kernel, rIn3 187 rfl rfl, rIn3 188 rfl rfl, rIn3 189 rfl rfl⟩
set_option maxRecDepth 20000 in
theorem rMX5_44 : rMk 5 (235, 0, 18) := ⟨_, rfl, rOk18, by decide +kernel, rIn3 191 rfl rfl, rIn3 192 rfl rfl, rIn3 193 rfl rfl⟩
set_option maxRecDepth 20000 in
theorem rMX5_45 : rMk 5 (238, 0, 16) := ⟨_, rfl, rOk16, by decide +kernel, rIn3 195 rfl rfl, rIn1 137 rfl rfl, rIn1 138 rfl rfl⟩
set_option maxRecDepth 20000 in
theorem rMX5_46 : rMk 5 (240, 0, 19) := ⟨_, rfl, rOk19, by decide +kernel, rIn3 200 rfl rfl, rIn3 201 rfl rfl, rIn3 202 rfl rfl⟩
set_option maxRecDepth 20000 in
theorem rMX5_47 : rMk 5 (248, 1, 110) := ⟨_, rfl, rOk110, by decide +kernel, rIn3 204 rfl rfl, rIn3 205 rfl rfl⟩
set_option maxRecDepth 20000 in
theorem rMX5_48 : rMk 5 (251, 0, 1) := ⟨_, rfl, rOk1, by decide +kernel, rIn3 213 rfl rfl, rIn3 214 rfl rfl, rIn3 215 rfl rfl⟩
set_option maxRecDepth 20000 in
theorem rMX5_49 : rMk 5 (252, 0, 2) := ⟨_, rfl, rOk2, by decide +kernel, rIn3 217 rfl rfl, rIn3 218 rfl rfl, rIn3 219 rfl rfl⟩
set_option maxRecDepth 20000 in
theorem rMX5_50 : rMk 5 (255, 0, 3) := ⟨_, rfl, rOk3, by decide +kernel, rIn3 221 rfl rfl, rIn3 222 rfl rfl, rIn3 223 rfl rfl⟩
set_option maxRecDepth 20000 in
theorem rMX5_51 : rMk 5 (264, 0, 32) := ⟨_, rfl, rOk32, by decide +kernel, rIn4 20 rfl rfl, rIn4 21 rfl rfl, rIn4 22 rfl rfl⟩
set_option maxRecDepth 20000 in
theorem rMX5_52 : rMk 5 (270, 7, 0) := ⟨rIn2 235 rfl rfl, rIn2 236 rfl rfl, rIn1 14 rfl rfl, rIn2 237 rfl rfl⟩
set_option maxRecDepth 20000 in
theorem rMX5_53 : rMk 5 (275, 6, 0) := ⟨rIn2 238 rfl rfl, rIn2 239 rfl rfl, rIn1 14 rfl rfl, rIn3 0 rfl rfl⟩
set_option maxRecDepth 20000 in
theorem rMX5_54 : rMk 5 (281, 0, 114) := ⟨_, rfl, rOk114, by decide +kernel, rIn3 71 rfl rfl, rIn3 73 rfl rfl, rInP 14 rfl rfl⟩
theorem rMX5 : ∀ q ∈ (lkM.getD 5 []), rMk 5 q := List.forall_mem_cons.mpr ⟨rMX5_0, List.forall_mem_cons.mpr ⟨rMX5_1, List.forall_mem_cons.mpr ⟨rMX5_2, List.forall_mem_cons.mpr ⟨rMX5_3, List.forall_mem_cons.mpr ⟨rMX5_4, List.forall_mem_cons.mpr ⟨rMX5_5, List.forall_mem_cons.mpr ⟨rMX5_6, List.forall_mem_cons.mpr ⟨rMX5_7, List.forall_mem_cons.mpr ⟨rMX5_8, List.forall_mem_cons.mpr ⟨rMX5_9, List.forall_mem_cons.mpr ⟨rMX5_10, List.forall_mem_cons.mpr ⟨rMX5_11, List.forall_mem_cons.mpr ⟨rMX5_12, List.forall_mem_cons.mpr ⟨rMX5_13, List.forall_mem_cons.mpr ⟨rMX5_14, List.forall_mem_cons.mpr ⟨rMX5_15, List.forall_mem_cons.mpr ⟨rMX5_16, List.forall_mem_cons.mpr ⟨rMX5_17, List.forall_mem_cons.mpr ⟨rMX5_18, List.forall_mem_cons.mpr ⟨rMX5_19, List.forall_mem_cons.mpr ⟨rMX5_20, List.forall_mem_cons.mpr ⟨rMX5_21, List.forall_mem_cons.mpr ⟨rMX5_22, List.forall_mem_cons.mpr ⟨rMX5_23, List.forall_mem_cons.mpr ⟨rMX5_24, List.forall_mem_cons.mpr ⟨rMX5_25, List.forall_mem_cons.mpr ⟨rMX5_26, List.forall_mem_cons.mpr ⟨rMX5_27, List.forall_mem_cons.mpr ⟨rMX5_28, List.forall_mem_cons.mpr ⟨rMX5_29, List.forall_mem_cons.mpr ⟨rMX5_30, List.forall_mem_cons.mpr ⟨rMX5_31, List.forall_mem_cons.mpr ⟨rMX5_32, List.forall_mem_cons.mpr ⟨rMX5_33, List.forall_mem_cons.mpr ⟨rMX5_34, List.forall_mem_cons.mpr ⟨rMX5_35, List.forall_mem_cons.mpr ⟨rMX5_36, List.forall_mem_cons.mpr ⟨rMX5_37, List.forall_mem_cons.mpr ⟨rMX5_38, List.forall_mem_cons.mpr ⟨rMX5_39, List.forall_mem_cons.mpr ⟨rMX5_40, List.forall_mem_cons.mpr ⟨rMX5_41, List.forall_mem_cons.mpr ⟨rMX5_42, List.forall_mem_cons.mpr ⟨rMX5_43, List.forall_mem_cons.mpr ⟨rMX5_44, List.forall_mem_cons.mpr ⟨rMX5_45, List.forall_mem_cons.mpr ⟨rMX5_46, List.forall_mem_cons.mpr ⟨rMX5_47, List.forall_mem_cons.mpr ⟨rMX5_48, List.forall_mem_cons.mpr ⟨rMX5_49, List.forall_mem_cons.mpr ⟨rMX5_50, List.forall_mem_cons.mpr ⟨rMX5_51, List.forall_mem_cons.mpr ⟨rMX5_52, List.forall_mem_cons.mpr ⟨rMX5_53, List.forall_mem_cons.mpr ⟨rMX5_54, fun _ h => absurd h List.not_mem_nil⟩⟩⟩⟩⟩⟩⟩⟩⟩⟩⟩⟩⟩⟩⟩⟩⟩⟩⟩⟩⟩⟩⟩⟩⟩⟩⟩⟩⟩⟩⟩⟩⟩⟩⟩⟩⟩⟩⟩⟩⟩⟩⟩⟩⟩⟩⟩⟩⟩⟩⟩⟩⟩⟩⟩
set_option maxRecDepth 20000 in
theorem rMX6_0 : rMk 6 (1, 5, 0) := ⟨rIn4 38 rfl rfl, rIn1 21 rfl rfl, rIn1 22 rfl rfl⟩
set_option maxRecDepth 20000 in
theorem rMX6_1 : rMk 6 (52, 0, 122) := ⟨_, rfl, rOk122, by decide +kernel, rIn4 39 rfl rfl, rIn4 41 rfl rfl, rInP 24 rfl rfl⟩
set_option maxRecDepth 20000 in
theorem rMX6_2 : rMk 6 (57, 1, 123) := ⟨_, rfl, rOk123, by decide +kernel, rIn4 130 rfl rfl, rIn4 131 rfl rfl⟩
set_option maxRecDepth 20000 in
theorem rMX6_3 : rMk 6 (73, 0, 136) := ⟨_, rfl, rOk136, by decide +kernel, rIn4 145 rfl rfl, rIn4 147 rfl rfl, rInP 26 rfl rfl⟩
set_option maxRecDepth 20000 in
theorem rMX6_4 : rMk 6 (77, 1, 134) := ⟨_, rfl, rOk134, by decide +kernel, rIn4 149 rfl rfl, rIn4 150 rfl rfl⟩
set_option maxRecDepth 20000 in
theorem rMX6_5 : rMk 6 (81, 1, 135) := ⟨_, rfl, rOk135, by decide +kernel, rIn4 152 rfl rfl, rIn4 153 rfl rfl⟩
set_option maxRecDepth 20000 in
theorem rMX6_6 : rMk 6 (94, 0, 137) := ⟨_, rfl, rOk137, by decide +kernel, rIn4 141 rfl rfl, rIn4 143 rfl rfl, rInP 25 rfl rfl⟩
set_option maxRecDepth 20000 in
theorem rMX6_7 : rMk 6 (97, 0, 139) := ⟨_, rfl, rOk139, by decide +kernel, rIn4 167 rfl rfl, rIn4 169 rfl rfl, rInP 30 rfl rfl⟩
set_option maxRecDepth 20000 in
theorem rMX6_8 : rMk 6 (101, 0, 142) := ⟨_, rfl, rOk142, by decide +kernel, rIn4 163 rfl rfl, rIn4 165 rfl rfl, rInP 29 rfl rfl⟩
set_option maxRecDepth 20000 in
theorem rMX6_9 : rMk 6 (104, 0, 140) := ⟨_, rfl, rOk140, by decide +kernel, rIn4 171 rfl rfl, rIn4 173 rfl rfl, rInP 31 rfl rfl⟩
set_option maxRecDepth 20000 in
theorem rMX6_10 : rMk 6 (108, 0, 141) := ⟨_, rfl, rOk141, by decide +kernel, rIn4 175 rfl rfl, rIn4 177 rfl rfl, rInP 32 rfl rfl⟩
set_option maxRecDepth 20000 in
theorem rMX6_11 : rMk 6 (111, 0, 138) := ⟨_, rfl, rOk138, by decide +kernel, rIn4 187 rfl rfl, rIn4 189 rfl rfl, rInP 35 rfl rfl⟩
set_option maxRecDepth 20000 in
theorem rMX6_12 : rMk 6 (115, 0, 144) := ⟨_, rfl, rOk144, by decide +kernel, rIn4 199 rfl rfl, rIn4 201 rfl rfl, rInP 38 rfl rfl⟩
set_option maxRecDepth 20000 in
theorem rMX6_13 : rMk 6 (119, 0, 153) := ⟨_, rfl, rOk153, by decide +kernel, rIn4 191 rfl rfl, rIn4 193 rfl rfl, rInP 36 rfl rfl⟩
set_option maxRecDepth 20000 in
theorem rMX6_14 : rMk 6 (123, 0, 145) := ⟨_, rfl, rOk145, by decide +kernel, rIn4 203 rfl rfl, rIn4 205 rfl rfl, rInP 39 rfl rfl⟩
set_option maxRecDepth 20000 in
theorem rMX6_15 : rMk 6 (127, 0, 143) := ⟨_, rfl, rOk143, by decide +kernel, rIn4 159 rfl rfl, rIn4 161 rfl rfl, rInP 28 rfl rfl⟩
set_option maxRecDepth 20000 in
theorem rMX6_16 : rMk 6 (131, 0, 147) := ⟨_, rfl, rOk147, by decide +kernel, rIn4 179 rfl rfl, rIn4 181 rfl rfl, rInP 33 rfl rfl⟩
set_option maxRecDepth 20000 in
theorem rMX6_17 : rMk 6 (134, 0, 146) := ⟨_, rfl, rOk146, by decide +kernel, rIn4 183 rfl rfl, rIn4 185 rfl rfl, rInP 34 rfl rfl⟩
set_option maxRecDepth 20000 in
theorem rMX6_18 : rMk 6 (138, 1, 128) := ⟨_, rfl, rOk128, by decide +kernel, rIn4 138 rfl rfl, rIn4 139 rfl rfl⟩
set_option maxRecDepth 20000 in
theorem rMX6_19 : rMk 6 (142, 0, 148) := ⟨_, rfl, rOk148, by decide +kernel, rIn4 155 rfl rfl, rIn4 157 rfl rfl, rInP 27 rfl rfl⟩
set_option maxRecDepth 20000 in
theorem rMX6_20 : rMk 6 (154, 0, 127) := ⟨_, rfl, rOk127, by decide +kernel, rIn4 214 rfl rfl, rIn4 216 rfl rfl, rInP 40 rfl rfl⟩
set_option maxRecDepth 20000 in
theorem rMX6_21 : rMk 6 (158, 0, 152) := ⟨_, rfl, rOk152, by decide +kernel, rIn4 195 rfl rfl, rIn4 197 rfl rfl, rInP 37 rfl rfl⟩
set_option maxRecDepth 20000 in
theorem rMX6_22 : rMk 6 (163, 1, 124) := ⟨_, rfl, rOk124, by decide +kernel, rIn4 227 rfl rfl, rIn4 228 rfl rfl⟩
set_option maxRecDepth 20000 in
theorem rMX6_23 : rMk 6 (166, 0, 126) := ⟨_, rfl, rOk126, by decide +kernel, rIn4 239 rfl rfl, rIn5 1 rfl rfl, rInP 42 rfl rfl⟩
set_option maxRecDepth 20000 in
theorem rMX6_24 : rMk 6 (169, 0, 155) := ⟨_, rfl, rOk155, by decide +kernel, rIn5 3 rfl rfl, rIn5 5 rfl rfl, rInP 43 rfl rfl⟩
set_option maxRecDepth 20000 in
theorem rMX6_25 : rMk 6 (172, 1, 131) := ⟨_, rfl, rOk131, by decide +kernel, rIn5 7 rfl rfl, rIn5 8 rfl rfl⟩
set_option maxRecDepth 20000 in
theorem rMX6_26 : rMk 6 (175, 0, 125) := ⟨_, rfl, rOk125, by decide +kernel, rIn4 234 rfl rfl, rIn4 236 rfl rfl, rInP 41 rfl rfl⟩
set_option maxRecDepth 20000 in
theorem rMX6_27 : rMk 6 (180, 0, 156) := ⟨_, rfl, rOk156, by decide +kernel, rIn5 14 rfl rfl, rIn5 16 rfl rfl, rInP 44 rfl rfl⟩
set_option maxRecDepth 20000 in
theorem rMX6_28 : rMk 6 (183, 0, 157) := ⟨_, rfl, rOk157, by decide +kernel, rIn5 18 rfl rfl, rIn5 20 rfl rfl, rInP 45 rfl rfl⟩
set_option maxRecDepth 20000 in
theorem rMX6_29 : rMk 6 (186, 0, 163) := ⟨_, rfl, rOk163, by decide +kernel, rIn5 38 rfl rfl, rIn5 40 rfl rfl, rInP 46 rfl rfl⟩
set_option maxRecDepth 20000 in
theorem rMX6_30 : rMk 6 (189, 0, 167) := ⟨_, rfl, rOk167, by decide +kernel, rIn5 54 rfl rfl, rIn5 56 rfl rfl, rInP 47 rfl rfl⟩
set_option maxRecDepth 20000 in
theorem rMX6_31 : rMk 6 (192, 0, 168) := ⟨_, rfl, rOk168, by decide +kernel, rIn5 58 rfl rfl, rIn5 60 rfl rfl, rInP 48 rfl rfl⟩
set_option maxRecDepth 20000 in
theorem rMX6_32 : rMk 6 (195, 1, 130) := ⟨_, rfl, rOk130, by decide +kernel, rIn5 75 rfl rfl, rIn5 76 rfl rfl⟩
set_option maxRecDepth 20000 in
theorem rMX6_33 : rMk 6 (198, 0, 170) := ⟨_, rfl, rOk170, by decide +kernel, rIn5 71 rfl rfl, rIn5 73 rfl rfl, rInP 50 rfl rfl⟩
set_option maxRecDepth 20000 in
theorem rMX6_34 : rMk 6 (203, 0, 171) := ⟨_, rfl, rOk171, by decide +kernel, rIn5 67 rfl rfl, rIn5 69 rfl rfl, rInP 49 rfl rfl⟩
set_option maxRecDepth 20000 in
theorem rMX6_35 : rMk 6 (207, 0, 174) := ⟨_, rfl, rOk174, by decide +kernel, rIn5 86 rfl rfl, rIn5 88 rfl rfl, rInP 51 rfl rfl⟩
set_option maxRecDepth 20000 in
theorem rMX6_36 : rMk 6 (212, 0, 175) := ⟨_, rfl, rOk175, by decide +kernel, rIn5 96 rfl rfl, rIn5 83 rfl rfl, rIn5 84 rfl rfl⟩
set_option maxRecDepth 20000 in
theorem rMX6_37 : rMk 6 (215, 0, 178) := ⟨_, rfl, rOk178, by decide +kernel, rIn5 109 rfl rfl, rIn5 111 rfl rfl, rInP 54 rfl rfl⟩
set_option maxRecDepth 20000 in
theorem rMX6_38 : rMk 6 (218, 0, 177) := ⟨_, rfl, rOk177, by decide +kernel, rIn5 101 rfl rfl, rIn5 103 rfl rfl, rInP 52 rfl rfl⟩
set_option maxRecDepth 20000 in
theorem rMX6_39 : rMk 6 (221, 0, 179) := ⟨_, rfl, rOk179, by decide +kernel, rIn5 105 rfl rfl, rIn5 107 rfl rfl, rInP 53 rfl rfl⟩
set_option maxRecDepth 20000 in
theorem rMX6_40 : rMk 6 (224, 0, 181) := ⟨_, rfl, rOk181, by decide +kernel, rIn5 117 rfl rfl, rIn5 119 rfl rfl, rInP 55 rfl rfl⟩
set_option maxRecDepth 20000 in
theorem rMX6_41 : rMk 6 (229, 1, 186) := ⟨_, rfl, rOk186, by decide +kernel, rIn5 137 rfl rfl, rIn5 138 rfl rfl⟩
set_option maxRecDepth 20000 in
theorem rMX6_42 : rMk 6 (232, 1, 129) := ⟨_, rfl, rOk129, by decide +kernel, rIn5 141 rfl rfl, rIn5 142 rfl rfl⟩
set_option maxRecDepth 20000 in
theorem rMX6_43 : rMk 6 (235, 0, 188) := ⟨_, rfl, rOk188, by decide +kernel, rIn5 148 rfl rfl, rIn5 150 rfl rfl, rInP 56 rfl rfl⟩
set_option maxRecDepth 20000 in
theorem rMX6_44 : rMk 6 (239, 1, 205) := ⟨_, rfl, rOk205, by decide +kernel, rIn5 172 rfl rfl, rIn5 173 rfl rfl⟩
set_option maxRecDepth 20000 in
theorem rMX6_45 : rMk 6 (242, 0, 196) := ⟨_, rfl, rOk196, by decide +kernel, rIn5 175 rfl rfl, rIn5 177 rfl rfl, rInP 57 rfl rfl⟩
set_option maxRecDepth 20000 in
theorem rMX6_46 : rMk 6 (247, 1, 194) := ⟨_, rfl, rOk194, by decide +kernel, rIn5 184 rfl rfl, rIn5 185 rfl rfl⟩
set_option maxRecDepth 20000 in
theorem rMX6_47 : rMk 6 (253, 1, 195) := ⟨_, rfl, rOk195, by decide +kernel, rIn5 188 rfl rfl, rIn5 189 rfl rfl⟩
set_option maxRecDepth 20000 in
theorem rMX6_48 : rMk 6 (261, 0, 201) := ⟨_, rfl, rOk201, by decide +kernel, rIn5 204 rfl rfl, rIn5 206 rfl rfl, rInP 58 rfl rfl⟩
set_option maxRecDepth 20000 in
theorem rMX6_49 : rMk 6 (265, 0, 209) := ⟨_, rfl, rOk209, by decide +kernel, rIn5 229 rfl rfl, rIn5 231 rfl rfl, rInP 59 rfl rfl⟩
set_option maxRecDepth 20000 in
theorem rMX6_50 : rMk 6 (268, 1, 206) := ⟨_, rfl, rOk206, by decide +kernel, rIn6 1 rfl rfl, rIn6 2 rfl rfl⟩
set_option maxRecDepth 20000 in
theorem rMX6_51 : rMk 6 (275, 0, 213) := ⟨_, rfl, rOk213, by decide +kernel, rIn6 10 rfl rfl, rIn6 12 rfl rfl, rInP 60 rfl rfl⟩
set_option maxRecDepth 20000 in
theorem rMX6_52 : rMk 6 (278, 1, 132) := ⟨_, rfl, rOk132, by decide +kernel, rIn6 14 rfl rfl, rIn6 15 rfl rfl⟩
set_option maxRecDepth 20000 in
theorem rMX6_53 : rMk 6 (284, 0, 215) := ⟨_, rfl, rOk215, by decide +kernel, rIn6 29 rfl rfl, rIn6 31 rfl rfl, rInP 63 rfl rfl⟩
set_option maxRecDepth 20000 in
theorem rMX6_54 : rMk 6 (290, 0, 216) := ⟨_, rfl, rOk216, by decide +kernel, rIn6 33 rfl rfl, rIn6 35 rfl rfl, rInP 64 rfl rfl⟩
set_option maxRecDepth 20000 in
theorem rMX6_55 : rMk 6 (296, 0, 217) := ⟨_, rfl, rOk217, by decide +kernel, rIn6 25 rfl rfl, rIn6 27 rfl rfl, rInP 62 rfl rfl⟩
set_option maxRecDepth 20000 in
theorem rMX6_56 : rMk 6 (299, 0, 218) := ⟨_, rfl, rOk218, by decide +kernel, rIn6 21 rfl rfl, rIn6 23 rfl rfl, rInP 61 rfl rfl⟩
set_option maxRecDepth 20000 in
theorem rMX6_57 : rMk 6 (305, 0, 219) := ⟨_, rfl, rOk219, by decide +kernel, rIn6 41 rfl rfl, rIn6 43 rfl rfl, rInP 66 rfl rfl⟩
set_option maxRecDepth 20000 in
theorem rMX6_58 : rMk 6 (311, 0, 221) := ⟨_, rfl, rOk221, by decide +kernel, rIn6 49 rfl rfl, rIn6 51 rfl rfl, rInP 68 rfl rfl⟩
set_option maxRecDepth 20000 in
theorem rMX6_59 : rMk 6 (314, 0, 220) := ⟨_, rfl, rOk220, by decide +kernel, rIn6 37 rfl rfl, rIn6 39 rfl rfl, rInP 65 rfl rfl⟩
set_option maxRecDepth 20000 in
theorem rMX6_60 : rMk 6 (317, 0, 223) := ⟨_, rfl, rOk223, by decide +kernel, rIn6 57 rfl rfl, rIn6 59 rfl rfl, rInP 70 rfl rfl⟩
set_option maxRecDepth 20000 in
theorem rMX6_61 : rMk 6 (320, 0, 222) := ⟨_, rfl, rOk222, by decide +kernel, rIn6 45 rfl rfl, rIn6 47 rfl rfl, rInP 67 rfl rfl⟩
set_option maxRecDepth 20000 in
theorem rMX6_62 : rMk 6 (323, 0, 224) := ⟨_, rfl, rOk224, by decide +kernel, rIn6 53 rfl rfl, rIn6 55 rfl rfl, rInP 69 rfl rfl⟩
theorem rMX6 : ∀ q ∈ (lkM.getD 6 []), rMk 6 q := List.forall_mem_cons.mpr ⟨rMX6_0, List.forall_mem_cons.mpr ⟨rMX6_1, List.forall_mem_cons.mpr ⟨rMX6_2, List.forall_mem_cons.mpr ⟨rMX6_3, List.forall_mem_cons.mpr ⟨rMX6_4, List.forall_mem_cons.mpr ⟨rMX6_5, List.forall_mem_cons.mpr ⟨rMX6_6, List.forall_mem_cons.mpr ⟨rMX6_7, List.forall_mem_cons.mpr ⟨rMX6_8, List.forall_mem_cons.mpr ⟨rMX6_9, List.forall_mem_cons.mpr ⟨rMX6_10, List.forall_mem_cons.mpr ⟨rMX6_11, List.forall_mem_cons.mpr ⟨rMX6_12, List.forall_mem_cons.mpr ⟨rMX6_13, List.forall_mem_cons.mpr ⟨rMX6_14, List.forall_mem_cons.mpr ⟨rMX6_15, List.forall_mem_cons.mpr ⟨rMX6_16, List.forall_mem_cons.mpr ⟨rMX6_17, List.forall_mem_cons.mpr ⟨rMX6_18, List.forall_mem_cons.mpr ⟨rMX6_19, List.forall_mem_cons.mpr ⟨rMX6_20, List.forall_mem_cons.mpr ⟨rMX6_21, List.forall_mem_cons.mpr ⟨rMX6_22, List.forall_mem_cons.mpr ⟨rMX6_23, List.forall_mem_cons.mpr ⟨rMX6_24, List.forall_mem_cons.mpr ⟨rMX6_25, List.forall_mem_cons.mpr ⟨rMX6_26, List.forall_mem_cons.mpr ⟨rMX6_27, List.forall_mem_cons.mpr ⟨rMX6_28, List.forall_mem_cons.mpr ⟨rMX6_29, List.forall_mem_cons.mpr ⟨rMX6_30, List.forall_mem_cons.mpr ⟨rMX6_31, List.forall_mem_cons.mpr ⟨rMX6_32, List.forall_mem_cons.mpr ⟨rMX6_33, List.forall_mem_cons.mpr ⟨rMX6_34, List.forall_mem_cons.mpr ⟨rMX6_35, List.forall_mem_cons.mpr ⟨rMX6_36, List.forall_mem_cons.mpr ⟨rMX6_37, List.forall_mem_cons.mpr ⟨rMX6_38, List.forall_mem_cons.mpr ⟨rMX6_39, List.forall_mem_cons.mpr ⟨rMX6_40, List.forall_mem_cons.mpr ⟨rMX6_41, List.forall_mem_cons.mpr ⟨rMX6_42, List.forall_mem_cons.mpr ⟨rMX6_43, List.forall_mem_cons.mpr ⟨rMX6_44, List.forall_mem_cons.mpr ⟨rMX6_45, List.forall_mem_cons.mpr ⟨rMX6_46, List.forall_mem_cons.mpr ⟨rMX6_47, List.forall_mem_cons.mpr ⟨rMX6_48, List.forall_mem_cons.mpr ⟨rMX6_49, List.forall_mem_cons.mpr ⟨rMX6_50, List.forall_mem_cons.mpr ⟨rMX6_51, List.forall_mem_cons.mpr ⟨rMX6_52, List.forall_mem_cons.mpr ⟨rMX6_53, List.forall_mem_cons.mpr ⟨rMX6_54, List.forall_mem_cons.mpr ⟨rMX6_55, List.forall_mem_cons.mpr ⟨rMX6_56, List.forall_mem_cons.mpr ⟨rMX6_57, List.forall_mem_cons.mpr ⟨rMX6_58, List.forall_mem_cons.mpr ⟨rMX6_59, List.forall_mem_cons.mpr ⟨rMX6_60, List.forall_mem_cons.mpr ⟨rMX6_61, List.forall_mem_cons.mpr ⟨rMX6_62, fun _ h => absurd h List.not_mem_nil⟩⟩⟩⟩⟩⟩⟩⟩⟩⟩⟩⟩⟩⟩⟩⟩⟩⟩⟩⟩⟩⟩⟩⟩⟩⟩⟩⟩⟩⟩⟩⟩⟩⟩⟩⟩⟩⟩⟩⟩⟩⟩⟩⟩⟩⟩⟩⟩⟩⟩⟩⟩⟩⟩⟩⟩⟩⟩⟩⟩⟩⟩⟩
set_option maxRecDepth 20000 in
theorem rML_0 : rMk 7 (9, 2, 58) := ⟨_, rfl, rOk58, by decide +kernel, rIn1 17 rfl rfl, rIn1 18 rfl rfl, rfl⟩
set_option maxRecDepth 20000 in
theorem rML_1 : rMk 7 (12, 2, 121) := ⟨_, rfl, rOk121, by decide +kernel, rIn4 35 rfl rfl, rIn4 36 rfl rfl, rfl⟩
set_option maxRecDepth 20000 in
theorem rML_2 : rMk 7 (15, 0, 59) := ⟨_, rfl, rOk59, by decide +kernel, rIn1 211 rfl rfl, rIn1 212 rfl rfl, rIn1 213 rfl rfl⟩
set_option maxRecDepth 20000 in
theorem rML_3 : rMk 7 (19, 0, 133) := ⟨_, rfl, rOk133, by decide +kernel, rIn4 125 rfl rfl, rIn4 126 rfl rfl, rIn4 127 rfl rfl⟩
set_option maxRecDepth 20000 in
theorem rML_4 : rMk 7 (20, 0, 60) := ⟨_, rfl, rOk60, by decide +kernel, rIn1 219 rfl rfl, rIn1 220 rfl rfl, rIn1 221 rfl rfl⟩
set_option maxRecDepth 20000 in
theorem rML_5 : rMk 7 (24, 0, 149) := ⟨_, rfl, rOk149, by decide +kernel, rIn4 134 rfl rfl, rIn4 135 rfl rfl, rIn4 136 rfl rfl⟩
set_option maxRecDepth 20000 in
theorem rML_6 : rMk 7 (25, 0, 61) := ⟨_, rfl, rOk61, by decide +kernel, rIn2 121 rfl rfl, rIn2 122 rfl rfl, rIn2 123 rfl rfl⟩
set_option maxRecDepth 20000 in
theorem rML_7 : rMk 7 (29, 0, 150) := ⟨_, rfl, rOk150, by decide +kernel, rIn4 207 rfl rfl, rIn4 208 rfl rfl, rIn4 209 rfl rfl⟩
set_option maxRecDepth 20000 in
theorem rML_8 : rMk 7 (30, 0, 62) := ⟨_, rfl, rOk62, by decide +kernel, rIn2 127 rfl rfl, rIn2 128 rfl rfl, rIn2 129 rfl rfl⟩
set_option maxRecDepth 20000 in
theorem rML_9 : rMk 7 (34, 0, 151) := ⟨_, rfl, rOk151, by decide +kernel, rIn4 218 rfl rfl, rIn4 219 rfl rfl, rIn4 220 rfl rfl⟩
set_option maxRecDepth 20000 in
theorem rML_10 : rMk 7 (35, 0, 63) := ⟨_, rfl, rOk63, by decide +kernel, rIn2 131 rfl rfl, rIn2 132 rfl rfl, rIn2 133 rfl rfl⟩
set_option maxRecDepth 20000 in
theorem rML_11 : rMk 7 (39, 0, 154) := ⟨_, rfl, rOk154, by decide +kernel, rIn4 222 rfl rfl, rIn4 223 rfl rfl, rIn4 224 rfl rfl⟩
set_option maxRecDepth 20000 in
theorem rML_12 : rMk 7 (40, 0, 64) := ⟨_, rfl, rOk64, by decide +kernel, rIn2 136 rfl rfl, rIn2 137 rfl rfl, rIn2 138 rfl rfl⟩
set_option maxRecDepth 20000 in
theorem rML_13 : rMk 7 (43, 0, 158) := ⟨_, rfl, rOk158, by decide +kernel, rIn4 230 rfl rfl, rIn4 231 rfl rfl, rIn4 232 rfl rfl⟩
set_option maxRecDepth 20000 in
theorem rML_14 : rMk 7 (44, 0, 65) := ⟨_, rfl, rOk65, by decide +kernel, rIn2 154 rfl rfl, rIn2 155 rfl rfl, rIn2 156 rfl rfl⟩
set_option maxRecDepth 20000 in
theorem rML_15 : rMk 7 (47, 0, 159) := ⟨_, rfl, rOk159, by decide +kernel, rIn5 10 rfl rfl, rIn5 11 rfl rfl, rIn5 12 rfl rfl⟩
set_option maxRecDepth 20000 in
theorem rML_16 : rMk 7 (48, 0, 66) := ⟨_, rfl, rOk66, by decide +kernel, rIn2 168 rfl rfl, rIn2 169 rfl rfl, rIn2 170 rfl rfl⟩
set_option maxRecDepth 20000 in
theorem rML_17 : rMk 7 (52, 0, 160) := ⟨_, rfl, rOk160, by decide +kernel, rIn5 22 rfl rfl, rIn5 23 rfl rfl, rIn5 24 rfl rfl⟩
set_option maxRecDepth 20000 in
theorem rML_18 : rMk 7 (53, 0, 67) := ⟨_, rfl, rOk67, by decide +kernel, rIn2 172 rfl rfl, rIn2 173 rfl rfl, rIn2 174 rfl rfl⟩
set_option maxRecDepth 20000 in
theorem rML_19 : rMk 7 (56, 0, 161) := ⟨_, rfl, rOk161, by decide +kernel, rIn5 26 rfl rfl, rIn5 27 rfl rfl, rIn5 28 rfl rfl⟩
set_option maxRecDepth 20000 in
theorem rML_20 : rMk 7 (57, 0, 68) := ⟨_, rfl, rOk68, by decide +kernel, rIn2 176 rfl rfl, rIn2 177 rfl rfl, rIn2 178 rfl rfl⟩
set_option maxRecDepth 20000 in
theorem rML_21 : rMk 7 (60, 0, 162) := ⟨_, rfl, rOk162, by decide +kernel, rIn5 30 rfl rfl, rIn5 31 rfl rfl, rIn5 32 rfl rfl⟩
set_option maxRecDepth 20000 in
theorem rML_22 : rMk 7 (61, 0, 69) := ⟨_, rfl, rOk69, by decide +kernel, rIn2 181 rfl rfl, rIn2 182 rfl rfl, rIn2 183 rfl rfl⟩
set_option maxRecDepth 20000 in
theorem rML_23 : rMk 7 (64, 0, 164) := ⟨_, rfl, rOk164, by decide +kernel, rIn5 34 rfl rfl, rIn5 35 rfl rfl, rIn5 36 rfl rfl⟩
set_option maxRecDepth 20000 in
theorem rML_24 : rMk 7 (65, 0, 70) := ⟨_, rfl, rOk70, by decide +kernel, rIn2 193 rfl rfl, rIn2 194 rfl rfl, rIn2 195 rfl rfl⟩
set_option maxRecDepth 20000 in
theorem rML_25 : rMk 7 (68, 0, 165) := ⟨_, rfl, rOk165, by decide +kernel, rIn5 42 rfl rfl, rIn5 43 rfl rfl, rIn5 44 rfl rfl⟩
set_option maxRecDepth 20000 in
theorem rML_26 : rMk 7 (69, 0, 71) := ⟨_, rfl, rOk71, by decide +kernel, rIn2 197 rfl rfl, rIn2 198 rfl rfl, rIn2 199 rfl rfl⟩
set_option maxRecDepth 20000 in
theorem rML_27 : rMk 7 (72, 0, 166) := ⟨_, rfl, rOk166, by decide +kernel, rIn5 46 rfl rfl, rIn5 47 rfl rfl, rIn5 48 rfl rfl⟩
set_option maxRecDepth 20000 in
theorem rML_28 : rMk 7 (73, 0, 72) := ⟨_, rfl, rOk72, by decide +kernel, rIn2 201 rfl rfl, rIn2 202 rfl rfl, rIn2 203 rfl rfl⟩
set_option maxRecDepth 20000 in
theorem rML_29 : rMk 7 (76, 0, 169) := ⟨_, rfl, rOk169, by decide +kernel, rIn5 50 rfl rfl, rIn5 51 rfl rfl, rIn5 52 rfl rfl⟩
set_option maxRecDepth 20000 in
theorem rML_30 : rMk 7 (77, 0, 73) := ⟨_, rfl, rOk73, by decide +kernel, rIn2 213 rfl rfl, rIn2 214 rfl rfl, rIn2 215 rfl rfl⟩
set_option maxRecDepth 20000 in
theorem rML_31 : rMk 7 (80, 0, 172) := ⟨_, rfl, rOk172, by decide +kernel, rIn5 62 rfl rfl, rIn5 63 rfl rfl, rIn5 64 rfl rfl⟩
set_option maxRecDepth 20000 in
theorem rML_32 : rMk 7 (81, 0, 74) := ⟨_, rfl, rOk74, by decide +kernel, rIn3 1 rfl rfl, rIn3 2 rfl rfl, rIn3 3 rfl rfl⟩
set_option maxRecDepth 20000 in
theorem rML_33 : rMk 7 (84, 0, 173) := ⟨_, rfl, rOk173, by decide +kernel, rIn5 78 rfl rfl, rIn5 79 rfl rfl, rIn5 80 rfl rfl⟩
set_option maxRecDepth 20000 in
theorem rML_34 : rMk 7 (85, 0, 75) := ⟨_, rfl, rOk75, by decide +kernel, rIn3 5 rfl rfl, rIn3 6 rfl rfl, rIn3 7 rfl rfl⟩
set_option maxRecDepth 20000 in
theorem rML_35 : rMk 7 (88, 0, 175) := ⟨_, rfl, rOk175, by decide +kernel, rIn5 82 rfl rfl, rIn5 83 rfl rfl, rIn5 84 rfl rfl⟩
set_option maxRecDepth 20000 in
theorem rML_36 : rMk 7 (89, 0, 76) := ⟨_, rfl, rOk76, by decide +kernel, rIn3 19 rfl rfl, rIn3 20 rfl rfl, rIn3 21 rfl rfl⟩
set_option maxRecDepth 20000 in
theorem rML_37 : rMk 7 (92, 0, 176) := ⟨_, rfl, rOk176, by decide +kernel, rIn5 91 rfl rfl, rIn5 92 rfl rfl, rIn5 93 rfl rfl⟩
set_option maxRecDepth 20000 in
theorem rML_38 : rMk 7 (93, 0, 77) := ⟨_, rfl, rOk77, by decide +kernel, rIn3 27 rfl rfl, rIn3 28 rfl rfl, rIn3 29 rfl rfl⟩
set_option maxRecDepth 20000 in
theorem rML_39 : rMk 7 (96, 0, 180) := ⟨_, rfl, rOk180, by decide +kernel, rIn5 97 rfl rfl, rIn5 98 rfl rfl, rIn5 99 rfl rfl⟩
set_option maxRecDepth 20000 in
theorem rML_40 : rMk 7 (97, 0, 78) := ⟨_, rfl, rOk78, by decide +kernel, rIn3 43 rfl rfl, rIn3 44 rfl rfl, rIn3 45 rfl rfl⟩
set_option maxRecDepth 20000 in
theorem rML_41 : rMk 7 (100, 0, 182) := ⟨_, rfl, rOk182, by decide +kernel, rIn5 113 rfl rfl, rIn5 114 rfl rfl, rIn5 115 rfl rfl⟩
set_option maxRecDepth 20000 in
theorem rML_42 : rMk 7 (101, 0, 79) := ⟨_, rfl, rOk79, by decide +kernel, rIn3 47 rfl rfl, rIn3 48 rfl rfl, rIn3 49 rfl rfl⟩
set_option maxRecDepth 20000 in
theorem rML_43 : rMk 7 (104, 0, 183) := ⟨_, rfl, rOk183, by decide +kernel, rIn5 121 rfl rfl, rIn5 122 rfl rfl, rIn5 123 rfl rfl⟩
set_option maxRecDepth 20000 in
theorem rML_44 : rMk 7 (105, 0, 80) := ⟨_, rfl, rOk80, by decide +kernel, rIn3 52 rfl rfl, rIn3 53 rfl rfl, rIn3 54 rfl rfl⟩
set_option maxRecDepth 20000 in
theorem rML_45 : rMk 7 (108, 0, 184) := ⟨_, rfl, rOk184, by decide +kernel, rIn5 125 rfl rfl, rIn5 126 rfl rfl, rIn5 127 rfl rfl⟩
set_option maxRecDepth 20000 in
theorem rML_46 : rMk 7 (109, 0, 81) := ⟨_, rfl, rOk81, by decide +kernel, rIn3 56 rfl rfl, rIn3 57 rfl rfl, rIn3 58 rfl rfl⟩
set_option maxRecDepth 20000 in
theorem rML_47 : rMk 7 (112, 0, 185) := ⟨_, rfl, rOk185, by decide +kernel, rIn5 129 rfl rfl, rIn5 130 rfl rfl, rIn5 131 rfl rfl⟩
set_option maxRecDepth 20000 in
theorem rML_48 : rMk 7 (113, 0, 82) := ⟨_, rfl, rOk82, by decide +kernel, rIn3 60 rfl rfl, rIn3 61 rfl rfl, rIn3 62 rfl rfl⟩
set_option maxRecDepth 20000 in
theorem rML_49 : rMk 7 (116, 0, 187) := ⟨_, rfl, rOk187, by decide +kernel, rIn5 133 rfl rfl, rIn5 134 rfl rfl, rIn5 135 rfl rfl⟩
set_option maxRecDepth 20000 in
theorem rML_50 : rMk 7 (117, 0, 83) := ⟨_, rfl, rOk83, by decide +kernel, rIn3 75 rfl rfl, rIn3 76 rfl rfl, rIn3 77 rfl rfl⟩
set_option maxRecDepth 20000 in
theorem rML_51 : rMk 7 (120, 0, 189) := ⟨_, rfl, rOk189, by decide +kernel, rIn5 144 rfl rfl, rIn5 145 rfl rfl, rIn5 146 rfl rfl⟩
set_option maxRecDepth 20000 in
theorem rML_52 : rMk 7 (121, 0, 84) := ⟨_, rfl, rOk84, by decide +kernel, rIn3 79 rfl rfl, rIn3 80 rfl rfl, rIn3 81 rfl rfl⟩
set_option maxRecDepth 20000 in
theorem rML_53 : rMk 7 (124, 0, 190) := ⟨_, rfl, rOk190, by decide +kernel, rIn5 152 rfl rfl, rIn5 153 rfl rfl, rIn5 154 rfl rfl⟩
set_option maxRecDepth 20000 in
theorem rML_54 : rMk 7 (125, 0, 85) := ⟨_, rfl, rOk85, by decide +kernel, rIn3 83 rfl rfl, rIn3 84 rfl rfl, rIn3 85 rfl rfl⟩
set_option maxRecDepth 20000 in
theorem rML_55 : rMk 7 (128, 0, 191) := ⟨_, rfl, rOk191, by decide +kernel, rIn5 156 rfl rfl, rIn5 157 rfl rfl, rIn5 158 rfl rfl⟩
set_option maxRecDepth 20000 in
theorem rML_56 : rMk 7 (129, 0, 86) := ⟨_, rfl, rOk86, by decide +kernel, rIn3 87 rfl rfl, rIn3 88 rfl rfl, rIn3 89 rfl rfl⟩
set_option maxRecDepth 20000 in
theorem rML_57 : rMk 7 (132, 0, 192) := ⟨_, rfl, rOk192, by decide +kernel, rIn5 160 rfl rfl, rIn5 161 rfl rfl, rIn5 162 rfl rfl⟩
set_option maxRecDepth 20000 in
theorem rML_58 : rMk 7 (133, 0, 87) := ⟨_, rfl, rOk87, by decide +kernel, rIn3 95 rfl rfl, rIn3 96 rfl rfl, rIn3 97 rfl rfl⟩
set_option maxRecDepth 20000 in
theorem rML_59 : rMk 7 (136, 0, 193) := ⟨_, rfl, rOk193, by decide +kernel, rIn5 164 rfl rfl, rIn5 165 rfl rfl, rIn5 166 rfl rfl⟩
set_option maxRecDepth 20000 in
theorem rML_60 : rMk 7 (137, 0, 88) := ⟨_, rfl, rOk88, by decide +kernel, rIn3 99 rfl rfl, rIn3 100 rfl rfl, rIn3 101 rfl rfl⟩
set_option maxRecDepth 20000 in
theorem rML_61 : rMk 7 (140, 0, 197) := ⟨_, rfl, rOk197, by decide +kernel, rIn5 168 rfl rfl, rIn5 169 rfl rfl, rIn5 170 rfl rfl⟩
set_option maxRecDepth 20000 in
theorem rML_62 : rMk 7 (141, 0, 89) := ⟨_, rfl, rOk89, by decide +kernel, rIn3 111 rfl rfl, rIn3 112 rfl rfl, rIn3 113 rfl rfl⟩
set_option maxRecDepth 20000 in
theorem rML_63 : rMk 7 (145, 0, 198) := ⟨_, rfl, rOk198, by decide +kernel, rIn5 179 rfl rfl, rIn5 180 rfl rfl, rIn5 181 rfl rfl⟩
set_option maxRecDepth 20000 in
theorem rML_64 : rMk 7 (146, 0, 90) := ⟨_, rfl, rOk90, by decide +kernel, rIn3 126 rfl rfl, rIn3 127 rfl rfl, rIn3 128 rfl rfl⟩
set_option maxRecDepth 20000 in
theorem rML_65 : rMk 7 (150, 0, 199) := ⟨_, rfl, rOk199, by decide +kernel, rIn5 191 rfl rfl, rIn5 192 rfl rfl, rIn5 193 rfl rfl⟩
set_option maxRecDepth 20000 in
theorem rML_66 : rMk 7 (151, 0, 91) := ⟨_, rfl, rOk91, by decide +kernel, rIn3 130 rfl rfl, rIn3 131 rfl rfl, rIn3 132 rfl rfl⟩
set_option maxRecDepth 20000 in
theorem rML_67 : rMk 7 (154, 0, 200) := ⟨_, rfl, rOk200, by decide +kernel, rIn5 195 rfl rfl, rIn5 196 rfl rfl, rIn5 197 rfl rfl⟩
set_option maxRecDepth 20000 in
theorem rML_68 : rMk 7 (155, 0, 92) := ⟨_, rfl, rOk92, by decide +kernel, rIn3 138 rfl rfl, rIn3 139 rfl rfl, rIn3 140 rfl rfl⟩
set_option maxRecDepth 20000 in
theorem rML_69 : rMk 7 (158, 0, 202) := ⟨_, rfl, rOk202, by decide +kernel, rIn5 200 rfl rfl, rIn5 201 rfl rfl, rIn5 202 rfl rfl⟩
set_option maxRecDepth 20000 in
theorem rML_70 : rMk 7 (159, 0, 93) := ⟨_, rfl, rOk93, by decide +kernel, rIn3 146 rfl rfl, rIn3 147 rfl rfl, rIn3 148 rfl rfl⟩
set_option maxRecDepth 20000 in
theorem rML_71 : rMk 7 (162, 0, 203) := ⟨_, rfl, rOk203, by decide +kernel, rIn5 209 rfl rfl, rIn5 210 rfl rfl, rIn5 211 rfl rfl⟩
set_option maxRecDepth 20000 in
theorem rML_72 : rMk 7 (163, 0, 94) := ⟨_, rfl, rOk94, by decide +kernel, rIn3 150 rfl rfl, rIn3 151 rfl rfl, rIn3 152 rfl rfl⟩
set_option maxRecDepth 20000 in
theorem rML_73 : rMk 7 (166, 0, 204) := ⟨_, rfl, rOk204, by decide +kernel, rIn5 213 rfl rfl, rIn5 214 rfl rfl, rIn5 215 rfl rfl⟩
set_option maxRecDepth 20000 in
theorem rML_74 : rMk 7 (167, 0, 95) := ⟨_, rfl, rOk95, by decide +kernel, rIn3 154 rfl rfl, rIn3 155 rfl rfl, rIn3 156 rfl rfl⟩
set_option maxRecDepth 20000 in
theorem rML_75 : rMk 7 (170, 0, 211) := ⟨_, rfl, rOk211, by decide +kernel, rIn5 233 rfl rfl, rIn5 234 rfl rfl, rIn5 235 rfl rfl⟩
set_option maxRecDepth 20000 in
theorem rML_76 : rMk 7 (171, 0, 96) := ⟨_, rfl, rOk96, by decide +kernel, rIn3 159 rfl rfl, rIn3 160 rfl rfl, rIn3 161 rfl rfl⟩
set_option maxRecDepth 20000 in
theorem rML_77 : rMk 7 (174, 0, 207) := ⟨_, rfl, rOk207, by decide +kernel, rIn5 217 rfl rfl, rIn5 218 rfl rfl, rIn5 219 rfl rfl⟩
set_option maxRecDepth 20000 in
theorem rML_78 : rMk 7 (175, 0, 97) := ⟨_, rfl, rOk97, by decide +kernel, rIn3 167 rfl rfl, rIn3 168 rfl rfl, rIn3 169 rfl rfl⟩
set_option maxRecDepth 20000 in
theorem rML_79 : rMk 7 (178, 0, 208) := ⟨_, rfl, rOk208, by decide +kernel, rIn5 221 rfl rfl, rIn5 222 rfl rfl, rIn5 223 rfl rfl⟩
set_option maxRecDepth 20000 in
theorem rML_80 : rMk 7 (179, 0, 98) := ⟨_, rfl, rOk98, by decide +kernel, rIn3 179 rfl rfl, rIn3 180 rfl rfl, rIn3 181 rfl rfl⟩
set_option maxRecDepth 20000 in
theorem rML_81 : rMk 7 (182, 0, 210) := ⟨_, rfl, rOk210, by decide +kernel, rIn5 225 rfl rfl, rIn5 226 rfl rfl, rIn5 227 rfl rfl⟩
set_option maxRecDepth 20000 in
theorem rML_82 : rMk 7 (183, 0, 99) := ⟨_, rfl, rOk99, by decide +kernel, rIn3 183 rfl rfl, rIn3 184 rfl rfl, rIn3 185 rfl rfl⟩
set_option maxRecDepth 20000 in
theorem rML_83 : rMk 7 (186, 0, 212) := ⟨_, rfl, rOk212, by decide +kernel, rIn5 237 rfl rfl, rIn5 238 rfl rfl, rIn5 239 rfl rfl⟩
set_option maxRecDepth 20000 in
theorem rML_84 : rMk 7 (187, 0, 100) := ⟨_, rfl, rOk100, by decide +kernel, rIn3 196 rfl rfl, rIn3 197 rfl rfl, rIn3 198 rfl rfl⟩
set_option maxRecDepth 20000 in
theorem rML_85 : rMk 7 (190, 0, 214) := ⟨_, rfl, rOk214, by decide +kernel, rIn6 4 rfl rfl, rIn6 5 rfl rfl, rIn6 6 rfl rfl⟩
set_option maxRecDepth 20000 in
theorem rML_86 : rMk 7 (191, 0, 101) := ⟨_, rfl, rOk101, by decide +kernel, rIn3 209 rfl rfl, rIn3 210 rfl rfl, rIn3 211 rfl rfl⟩
set_option maxRecDepth 20000 in
theorem rML_87 : rMk 7 (194, 0, 225) := ⟨_, rfl, rOk225, by decide +kernel, rIn6 17 rfl rfl, rIn6 18 rfl rfl, rIn6 19 rfl rfl⟩
set_option maxRecDepth 20000 in
theorem rML_88 : rMk 7 (195, 0, 102) := ⟨_, rfl, rOk102, by decide +kernel, rIn4 12 rfl rfl, rIn4 13 rfl rfl, rIn4 14 rfl rfl⟩
set_option maxRecDepth 20000 in
theorem rML_89 : rMk 7 (198, 0, 226) := ⟨_, rfl, rOk226, by decide +kernel, rIn6 61 rfl rfl, rIn6 62 rfl rfl, rIn6 63 rfl rfl⟩
set_option maxRecDepth 20000 in
theorem rML_90 : rMk 7 (199, 0, 103) := ⟨_, rfl, rOk103, by decide +kernel, rIn4 16 rfl rfl, rIn4 17 rfl rfl, rIn4 18 rfl rfl⟩
set_option maxRecDepth 20000 in
theorem rML_91 : rMk 7 (202, 0, 227) := ⟨_, rfl, rOk227, by decide +kernel, rIn6 65 rfl rfl, rIn6 66 rfl rfl, rIn6 67 rfl rfl⟩
set_option maxRecDepth 20000 in
theorem rML_92 : rMk 7 (203, 0, 104) := ⟨_, rfl, rOk104, by decide +kernel, rIn4 25 rfl rfl, rIn4 26 rfl rfl, rIn4 27 rfl rfl⟩
set_option maxRecDepth 20000 in
theorem rML_93 : rMk 7 (206, 0, 228) := ⟨_, rfl, rOk228, by decide +kernel, rIn6 69 rfl rfl, rIn6 70 rfl rfl, rIn6 71 rfl rfl⟩
set_option maxRecDepth 20000 in
theorem rML_94 : rMk 7 (207, 0, 105) := ⟨_, rfl, rOk105, by decide +kernel, rIn4 29 rfl rfl, rIn4 30 rfl rfl, rIn4 31 rfl rfl⟩
set_option maxRecDepth 20000 in
theorem rML_95 : rMk 7 (210, 0, 229) := ⟨_, rfl, rOk229, by decide +kernel, rIn6 73 rfl rfl, rIn6 74 rfl rfl, rIn6 75 rfl rfl⟩
theorem rML : ∀ q ∈ (lkM.getD 7 []), rMk 7 q := List.forall_mem_cons.mpr ⟨rML_0, List.forall_mem_cons.mpr ⟨rML_1, List.forall_mem_cons.mpr ⟨rML_2, List.forall_mem_cons.mpr ⟨rML_3, List.forall_mem_cons.mpr ⟨rML_4, List.forall_mem_cons.mpr ⟨rML_5, List.forall_mem_cons.mpr ⟨rML_6, List.forall_mem_cons.mpr ⟨rML_7, List.forall_mem_cons.mpr ⟨rML_8, List.forall_mem_cons.mpr ⟨rML_9, List.forall_mem_cons.mpr ⟨rML_10, List.forall_mem_cons.mpr ⟨rML_11, List.forall_mem_cons.mpr ⟨rML_12, List.forall_mem_cons.mpr ⟨rML_13, List.forall_mem_cons.mpr ⟨rML_14, List.forall_mem_cons.mpr ⟨rML_15, List.forall_mem_cons.mpr ⟨rML_16, List.forall_mem_cons.mpr ⟨rML_17, List.forall_mem_cons.mpr ⟨rML_18, List.forall_mem_cons.mpr ⟨rML_19, List.forall_mem_cons.mpr ⟨rML_20, List.forall_mem_cons.mpr ⟨rML_21, List.forall_mem_cons.mpr ⟨rML_22, List.forall_mem_cons.mpr ⟨rML_23, List.forall_mem_cons.mpr ⟨rML_24, List.forall_mem_cons.mpr ⟨rML_25, List.forall_mem_cons.mpr ⟨rML_26, List.forall_mem_cons.mpr ⟨rML_27, List.forall_mem_cons.mpr ⟨rML_28, List.forall_mem_cons.mpr ⟨rML_29, List.forall_mem_cons.mpr ⟨rML_30, List.forall_mem_cons.mpr ⟨rML_31, List.forall_mem_cons.mpr ⟨rML_32, List.forall_mem_cons.mpr ⟨rML_33, List.forall_mem_cons.mpr ⟨rML_34, List.forall_mem_cons.mpr ⟨rML_35, List.forall_mem_cons.mpr ⟨rML_36, List.forall_mem_cons.mpr ⟨rML_37, List.forall_mem_cons.mpr ⟨rML_38, List.forall_mem_cons.mpr ⟨rML_39, List.forall_mem_cons.mpr ⟨rML_40, List.forall_mem_cons.mpr ⟨rML_41, List.forall_mem_cons.mpr ⟨rML_42, List.forall_mem_cons.mpr ⟨rML_43, List.forall_mem_cons.mpr ⟨rML_44, List.forall_mem_cons.mpr ⟨rML_45, List.forall_mem_cons.mpr ⟨rML_46, List.forall_mem_cons.mpr ⟨rML_47, List.forall_mem_cons.mpr ⟨rML_48, List.forall_mem_cons.mpr ⟨rML_49, List.forall_mem_cons.mpr ⟨rML_50, List.forall_mem_cons.mpr ⟨rML_51, List.forall_mem_cons.mpr ⟨rML_52, List.forall_mem_cons.mpr ⟨rML_53, List.forall_mem_cons.mpr ⟨rML_54, List.forall_mem_cons.mpr ⟨rML_55, List.forall_mem_cons.mpr ⟨rML_56, List.forall_mem_cons.mpr ⟨rML_57, List.forall_mem_cons.mpr ⟨rML_58, List.forall_mem_cons.mpr ⟨rML_59, List.forall_mem_cons.mpr ⟨rML_60, List.forall_mem_cons.mpr ⟨rML_61, List.forall_mem_cons.mpr ⟨rML_62, List.forall_mem_cons.mpr ⟨rML_63, List.forall_mem_cons.mpr ⟨rML_64, List.forall_mem_cons.mpr ⟨rML_65, List.forall_mem_cons.mpr ⟨rML_66, List.forall_mem_cons.mpr ⟨rML_67, List.forall_mem_cons.mpr ⟨rML_68, List.forall_mem_cons.mpr ⟨rML_69, List.forall_mem_cons.mpr ⟨rML_70, List.forall_mem_cons.mpr ⟨rML_71, List.forall_mem_cons.mpr ⟨rML_72, List.forall_mem_cons.mpr ⟨rML_73, List.forall_mem_cons.mpr ⟨rML_74, List.forall_mem_cons.mpr ⟨rML_75, List.forall_mem_cons.mpr ⟨rML_76, List.forall_mem_cons.mpr ⟨rML_77, List.forall_mem_cons.mpr ⟨rML_78, List.forall_mem_cons.mpr ⟨rML_79, List.forall_mem_cons.mpr ⟨rML_80, List.forall_mem_cons.mpr ⟨rML_81, List.forall_mem_cons.mpr ⟨rML_82, List.forall_mem_cons.mpr ⟨rML_83, List.forall_mem_cons.mpr ⟨rML_84, List.forall_mem_cons.mpr ⟨rML_85, List.forall_mem_cons.mpr ⟨rML_86, List.forall_mem_cons.mpr ⟨rML_87, List.forall_mem_cons.mpr ⟨rML_88, List.forall_mem_cons.mpr ⟨rML_89, List.forall_mem_cons.mpr ⟨rML_90, List.forall_mem_cons.mpr ⟨rML_91, List.forall_mem_cons.mpr ⟨rML_92, List.forall_mem_cons.mpr ⟨rML_93, List.forall_mem_cons.mpr ⟨rML_94, List.forall_mem_cons.mpr ⟨rML_95, fun _ h => absurd h List.not_mem_nil⟩⟩⟩⟩⟩⟩⟩⟩⟩⟩⟩⟩⟩⟩⟩⟩⟩⟩⟩⟩⟩⟩⟩⟩⟩⟩⟩⟩⟩⟩⟩⟩⟩⟩⟩⟩⟩⟩⟩⟩⟩⟩⟩⟩⟩⟩⟩⟩⟩⟩⟩⟩⟩⟩⟩⟩⟩⟩⟩⟩⟩⟩⟩⟩⟩⟩⟩⟩⟩⟩⟩⟩⟩⟩⟩⟩⟩⟩⟩⟩⟩⟩⟩⟩⟩⟩⟩⟩⟩⟩⟩⟩⟩⟩⟩⟩
set_option maxRecDepth 20000 in
theorem rMJ0_0 : rMk 8 (335, 0, 233) := ⟨_, rfl, rOk233, by decide +kernel, rIn2 12 rfl rfl, rIn2 13 rfl rfl, rIn2 14 rfl rfl⟩
set_option maxRecDepth 20000 in
theorem rMJ0_1 : rMk 8 (492, 0, 234) := ⟨_, rfl, rOk234, by decide +kernel, rIn2 22 rfl rfl, rIn2 23 rfl rfl, rIn2 24 rfl rfl⟩
set_option maxRecDepth 20000 in
theorem rMJ0_2 : rMk 8 (495, 1, 236) := ⟨_, rfl, rOk236, by decide +kernel, rIn2 26 rfl rfl, rIn2 27 rfl rfl⟩
set_option maxRecDepth 20000 in
theorem rMJ0_3 : rMk 8 (1059, 1, 237) := ⟨_, rfl, rOk237, by decide +kernel, rIn2 34 rfl rfl, rIn2 35 rfl rfl⟩
theorem rMJ0 : ∀ q ∈ (lkM.getD 8 []), rMk 8 q := List.forall_mem_cons.mpr ⟨rMJ0_0, List.forall_mem_cons.mpr ⟨rMJ0_1, List.forall_mem_cons.mpr ⟨rMJ0_2, List.forall_mem_cons.mpr ⟨rMJ0_3, fun _ h => absurd h List.not_mem_nil⟩⟩⟩⟩
set_option maxRecDepth 20000 in
theorem rMJ1_0 : rMk 9 (9, 1, 235) := ⟨_, rfl, rOk235, by decide +kernel, rIn2 29 rfl rfl, rIn2 30 rfl rfl⟩
theorem rMJ1 : ∀ q ∈ (lkM.getD 9 []), rMk 9 q := List.forall_mem_cons.mpr ⟨rMJ1_0, fun _ h => absurd h List.not_mem_nil⟩
theorem rMJ3 : ∀ q ∈ (lkM.getD 10 []), rMk 10 q := fun q h => by cases h
theorem rMJ6 : ∀ q ∈ (lkM.getD 11 []), rMk 11 q := fun q h => by cases h
theorem rMall : ∀ c l, lkM[c]? = some l → ∀ q ∈ l, rMk c q := fun c l h => match c, h with
  | 0, h => by cases h; exact rMX0
  | 1, h => by cases h; exact rMX1
  | 2, h => by cases h; exact rMX2
  | 3, h => by cases h; exact rMX3
  | 4, h => by cases h; exact rMX4
  | 5, h => by cases h; exact rMX5
  | 6, h => by cases h; exact rMX6
  | 7, h => by cases h; exact rML
  | 8, h => by cases h; exact rMJ0
  | 9, h => by cases h; exact rMJ1
  | 10, h => by cases h; exact rMJ3
  | 11, h => by cases h; exact rMJ6
  | n + 12, h => by cases h
set_option maxRecDepth 20000 in
theorem rArrI : Cond.arrayClass .int ∈ rTT := rIn1 84 rfl rfl
set_option maxRecDepth 20000 in
theorem rArrB : Cond.arrayClass .byte ∈ rTT := rIn1 111 rfl rfl
