section
-- ===== PART A: goes FIRST, ahead of the names: the tables' words, and 'selects' of the private methods out of them =====
/-- a private method of a class that the tables say can be made, by its rows of tables_1 -/
def lw_okq (q : MethodName × Nat) : Prop := (q.1.cls ≠ "java/lang/invoke/MethodHandle" ∧ q.1.cls ≠ "java/lang/invoke/VarHandle") ∧ Cond.instantiable q.1.cls q.2 ∈ tables_1 ∧ Cond.privateMethod q.1 ∈ tables_1 ∧ Cond.instanceMethod q.1 ∈ tables_1
theorem lw_p0 : lw_okq (⟨"SampleLayers$Text", "next", "()V"⟩, 6) := ⟨⟨by decide +kernel, by decide +kernel⟩, List.mem_of_getElem? (i := 86) (by decide +kernel), List.mem_of_getElem? (i := 229) (by decide +kernel), List.mem_of_getElem? (i := 230) (by decide +kernel)⟩
theorem lw_p1 : lw_okq (⟨"SampleLayers$Text", "readStatement", "(LSampleLayers$Street;)V"⟩, 6) := ⟨⟨by decide +kernel, by decide +kernel⟩, List.mem_of_getElem? (i := 86) (by decide +kernel), List.mem_of_getElem? (i := 236) (by decide +kernel), List.mem_of_getElem? (i := 237) (by decide +kernel)⟩
theorem lw_p2 : lw_okq (⟨"SampleLayers$Text", "kindNamed", "()I"⟩, 6) := ⟨⟨by decide +kernel, by decide +kernel⟩, List.mem_of_getElem? (i := 86) (by decide +kernel), List.mem_of_getElem? (i := 240) (by decide +kernel), List.mem_of_getElem? (i := 241) (by decide +kernel)⟩
theorem lw_p3 : lw_okq (⟨"SampleLayers$Text", "isName", "(Ljava/lang/String;)Z"⟩, 6) := ⟨⟨by decide +kernel, by decide +kernel⟩, List.mem_of_getElem? (i := 86) (by decide +kernel), List.mem_of_getElem? (i := 245) (by decide +kernel), List.mem_of_getElem? (i := 246) (by decide +kernel)⟩
theorem lw_p4 : lw_okq (⟨"SampleLayers$Text", "readThing", "(LSampleLayers$Street;I)V"⟩, 6) := ⟨⟨by decide +kernel, by decide +kernel⟩, List.mem_of_getElem? (i := 86) (by decide +kernel), List.mem_of_getElem? (i := 302) (by decide +kernel), List.mem_of_getElem? (i := 303) (by decide +kernel)⟩
theorem lw_p5 : lw_okq (⟨"SampleLayers$Text", "fail", "()V"⟩, 6) := ⟨⟨by decide +kernel, by decide +kernel⟩, List.mem_of_getElem? (i := 86) (by decide +kernel), List.mem_of_getElem? (i := 306) (by decide +kernel), List.mem_of_getElem? (i := 307) (by decide +kernel)⟩
theorem lw_p6 : lw_okq (⟨"SampleLayers$Text", "readNumber", "(I)I"⟩, 6) := ⟨⟨by decide +kernel, by decide +kernel⟩, List.mem_of_getElem? (i := 86) (by decide +kernel), List.mem_of_getElem? (i := 311) (by decide +kernel), List.mem_of_getElem? (i := 312) (by decide +kernel)⟩
theorem lw_p7 : lw_okq (⟨"SampleLayers$Text", "needEndOfStatement", "()V"⟩, 6) := ⟨⟨by decide +kernel, by decide +kernel⟩, List.mem_of_getElem? (i := 86) (by decide +kernel), List.mem_of_getElem? (i := 317) (by decide +kernel), List.mem_of_getElem? (i := 318) (by decide +kernel)⟩
theorem lw_p8 : lw_okq (⟨"SampleLayers$Text", "settingNamed", "()I"⟩, 6) := ⟨⟨by decide +kernel, by decide +kernel⟩, List.mem_of_getElem? (i := 86) (by decide +kernel), List.mem_of_getElem? (i := 329) (by decide +kernel), List.mem_of_getElem? (i := 330) (by decide +kernel)⟩
theorem lw_p9 : lw_okq (⟨"SampleLayers$Street", "dig", "()V"⟩, 12) := ⟨⟨by decide +kernel, by decide +kernel⟩, List.mem_of_getElem? (i := 24) (by decide +kernel), List.mem_of_getElem? (i := 466) (by decide +kernel), List.mem_of_getElem? (i := 467) (by decide +kernel)⟩
theorem lw_p10 : lw_okq (⟨"SampleLayers$Street", "draw", "()I"⟩, 12) := ⟨⟨by decide +kernel, by decide +kernel⟩, List.mem_of_getElem? (i := 24) (by decide +kernel), List.mem_of_getElem? (i := 494) (by decide +kernel), List.mem_of_getElem? (i := 495) (by decide +kernel)⟩
theorem lw_p11 : lw_okq (⟨"SampleLayers", "opinionBehind", "(I)I"⟩, 10) := ⟨⟨by decide +kernel, by decide +kernel⟩, List.mem_of_getElem? (i := 16) (by decide +kernel), List.mem_of_getElem? (i := 504) (by decide +kernel), List.mem_of_getElem? (i := 505) (by decide +kernel)⟩
theorem lw_p12 : lw_okq (⟨"SampleLayers$Street", "kindsIn", "(I)I"⟩, 12) := ⟨⟨by decide +kernel, by decide +kernel⟩, List.mem_of_getElem? (i := 24) (by decide +kernel), List.mem_of_getElem? (i := 520) (by decide +kernel), List.mem_of_getElem? (i := 521) (by decide +kernel)⟩
theorem lw_p13 : lw_okq (⟨"SampleLayers", "bestChange", "(III)I"⟩, 10) := ⟨⟨by decide +kernel, by decide +kernel⟩, List.mem_of_getElem? (i := 16) (by decide +kernel), List.mem_of_getElem? (i := 548) (by decide +kernel), List.mem_of_getElem? (i := 549) (by decide +kernel)⟩
theorem lw_p14 : lw_okq (⟨"SampleLayers", "changeTried", "(III)V"⟩, 10) := ⟨⟨by decide +kernel, by decide +kernel⟩, List.mem_of_getElem? (i := 16) (by decide +kernel), List.mem_of_getElem? (i := 552) (by decide +kernel), List.mem_of_getElem? (i := 553) (by decide +kernel)⟩
theorem lw_p15 : lw_okq (⟨"SampleLayers", "opinionWithout", "(II)I"⟩, 10) := ⟨⟨by decide +kernel, by decide +kernel⟩, List.mem_of_getElem? (i := 16) (by decide +kernel), List.mem_of_getElem? (i := 572) (by decide +kernel), List.mem_of_getElem? (i := 573) (by decide +kernel)⟩
def lw_privs_1 : List (MethodName × Nat) := [(⟨"SampleLayers$Text", "next", "()V"⟩, 6), (⟨"SampleLayers$Text", "readStatement", "(LSampleLayers$Street;)V"⟩, 6), (⟨"SampleLayers$Text", "kindNamed", "()I"⟩, 6), (⟨"SampleLayers$Text", "isName", "(Ljava/lang/String;)Z"⟩, 6), (⟨"SampleLayers$Text", "readThing", "(LSampleLayers$Street;I)V"⟩, 6), (⟨"SampleLayers$Text", "fail", "()V"⟩, 6), (⟨"SampleLayers$Text", "readNumber", "(I)I"⟩, 6), (⟨"SampleLayers$Text", "needEndOfStatement", "()V"⟩, 6), (⟨"SampleLayers$Text", "settingNamed", "()I"⟩, 6), (⟨"SampleLayers$Street", "dig", "()V"⟩, 12), (⟨"SampleLayers$Street", "draw", "()I"⟩, 12), (⟨"SampleLayers", "opinionBehind", "(I)I"⟩, 10), (⟨"SampleLayers$Street", "kindsIn", "(I)I"⟩, 12), (⟨"SampleLayers", "bestChange", "(III)I"⟩, 10), (⟨"SampleLayers", "changeTried", "(III)V"⟩, 10), (⟨"SampleLayers", "opinionWithout", "(II)I"⟩, 10)]
theorem lw_r1 : ∀ q ∈ lw_privs_1, lw_okq q := List.forall_mem_cons.mpr ⟨lw_p0, List.forall_mem_cons.mpr ⟨lw_p1, List.forall_mem_cons.mpr ⟨lw_p2, List.forall_mem_cons.mpr ⟨lw_p3, List.forall_mem_cons.mpr ⟨lw_p4, List.forall_mem_cons.mpr ⟨lw_p5, List.forall_mem_cons.mpr ⟨lw_p6, List.forall_mem_cons.mpr ⟨lw_p7, List.forall_mem_cons.mpr ⟨lw_p8, List.forall_mem_cons.mpr ⟨lw_p9, List.forall_mem_cons.mpr ⟨lw_p10, List.forall_mem_cons.mpr ⟨lw_p11, List.forall_mem_cons.mpr ⟨lw_p12, List.forall_mem_cons.mpr ⟨lw_p13, List.forall_mem_cons.mpr ⟨lw_p14, List.forall_mem_cons.mpr ⟨lw_p15, fun _ h => absurd h List.not_mem_nil⟩⟩⟩⟩⟩⟩⟩⟩⟩⟩⟩⟩⟩⟩⟩⟩
theorem lw_p16 : lw_okq (⟨"SampleLayers", "fitsWith", "(III)Z"⟩, 10) := ⟨⟨by decide +kernel, by decide +kernel⟩, List.mem_of_getElem? (i := 16) (by decide +kernel), List.mem_of_getElem? (i := 584) (by decide +kernel), List.mem_of_getElem? (i := 585) (by decide +kernel)⟩
theorem lw_p17 : lw_okq (⟨"SampleLayers", "triedPart", "(II)I"⟩, 10) := ⟨⟨by decide +kernel, by decide +kernel⟩, List.mem_of_getElem? (i := 16) (by decide +kernel), List.mem_of_getElem? (i := 615) (by decide +kernel), List.mem_of_getElem? (i := 616) (by decide +kernel)⟩
theorem lw_p18 : lw_okq (⟨"SampleLayers", "hasRow", "(II)Z"⟩, 10) := ⟨⟨by decide +kernel, by decide +kernel⟩, List.mem_of_getElem? (i := 16) (by decide +kernel), List.mem_of_getElem? (i := 623) (by decide +kernel), List.mem_of_getElem? (i := 624) (by decide +kernel)⟩
theorem lw_p19 : lw_okq (⟨"SampleLayers$Acts", "own", "(III)I"⟩, 6) := ⟨⟨by decide +kernel, by decide +kernel⟩, List.mem_of_getElem? (i := 154) (by decide +kernel), List.mem_of_getElem? (i := 706) (by decide +kernel), List.mem_of_getElem? (i := 707) (by decide +kernel)⟩
theorem lw_p20 : lw_okq (⟨"SampleLayers$Acts", "run", "(III)I"⟩, 6) := ⟨⟨by decide +kernel, by decide +kernel⟩, List.mem_of_getElem? (i := 154) (by decide +kernel), List.mem_of_getElem? (i := 717) (by decide +kernel), List.mem_of_getElem? (i := 718) (by decide +kernel)⟩
theorem lw_p21 : lw_okq (⟨"SampleLayers$Acts", "note", "(I)V"⟩, 6) := ⟨⟨by decide +kernel, by decide +kernel⟩, List.mem_of_getElem? (i := 154) (by decide +kernel), List.mem_of_getElem? (i := 721) (by decide +kernel), List.mem_of_getElem? (i := 722) (by decide +kernel)⟩
theorem lw_p22 : lw_okq (⟨"SampleLayers$Acts", "part", "(I)I"⟩, 6) := ⟨⟨by decide +kernel, by decide +kernel⟩, List.mem_of_getElem? (i := 154) (by decide +kernel), List.mem_of_getElem? (i := 725) (by decide +kernel), List.mem_of_getElem? (i := 726) (by decide +kernel)⟩
theorem lw_p23 : lw_okq (⟨"SampleLayers$Acts", "inherited", "(IIII)I"⟩, 6) := ⟨⟨by decide +kernel, by decide +kernel⟩, List.mem_of_getElem? (i := 154) (by decide +kernel), List.mem_of_getElem? (i := 729) (by decide +kernel), List.mem_of_getElem? (i := 730) (by decide +kernel)⟩
theorem lw_p24 : lw_okq (⟨"SampleLayersModel", "begins", "()V"⟩, 27) := ⟨⟨by decide +kernel, by decide +kernel⟩, List.mem_of_getElem? (i := 754) (by decide +kernel), List.mem_of_getElem? (i := 760) (by decide +kernel), List.mem_of_getElem? (i := 761) (by decide +kernel)⟩
theorem lw_p25 : lw_okq (⟨"SampleLayersModel", "nextToken", "()V"⟩, 27) := ⟨⟨by decide +kernel, by decide +kernel⟩, List.mem_of_getElem? (i := 754) (by decide +kernel), List.mem_of_getElem? (i := 862) (by decide +kernel), List.mem_of_getElem? (i := 863) (by decide +kernel)⟩
theorem lw_p26 : lw_okq (⟨"SampleLayersModel", "byteAt", "(I)I"⟩, 27) := ⟨⟨by decide +kernel, by decide +kernel⟩, List.mem_of_getElem? (i := 754) (by decide +kernel), List.mem_of_getElem? (i := 866) (by decide +kernel), List.mem_of_getElem? (i := 867) (by decide +kernel)⟩
theorem lw_p27 : lw_okq (⟨"SampleLayersModel", "itemHere", "()V"⟩, 27) := ⟨⟨by decide +kernel, by decide +kernel⟩, List.mem_of_getElem? (i := 754) (by decide +kernel), List.mem_of_getElem? (i := 876) (by decide +kernel), List.mem_of_getElem? (i := 877) (by decide +kernel)⟩
theorem lw_p28 : lw_okq (⟨"SampleLayersModel", "kindHere", "()I"⟩, 27) := ⟨⟨by decide +kernel, by decide +kernel⟩, List.mem_of_getElem? (i := 754) (by decide +kernel), List.mem_of_getElem? (i := 880) (by decide +kernel), List.mem_of_getElem? (i := 881) (by decide +kernel)⟩
theorem lw_p29 : lw_okq (⟨"SampleLayersModel", "isFive", "(IIIII)Z"⟩, 27) := ⟨⟨by decide +kernel, by decide +kernel⟩, List.mem_of_getElem? (i := 754) (by decide +kernel), List.mem_of_getElem? (i := 884) (by decide +kernel), List.mem_of_getElem? (i := 885) (by decide +kernel)⟩
theorem lw_p30 : lw_okq (⟨"SampleLayersModel", "isName", "(IIIII)Z"⟩, 27) := ⟨⟨by decide +kernel, by decide +kernel⟩, List.mem_of_getElem? (i := 754) (by decide +kernel), List.mem_of_getElem? (i := 888) (by decide +kernel), List.mem_of_getElem? (i := 889) (by decide +kernel)⟩
theorem lw_p31 : lw_okq (⟨"SampleLayersModel", "isSame", "(IIII)Z"⟩, 27) := ⟨⟨by decide +kernel, by decide +kernel⟩, List.mem_of_getElem? (i := 754) (by decide +kernel), List.mem_of_getElem? (i := 892) (by decide +kernel), List.mem_of_getElem? (i := 893) (by decide +kernel)⟩
def lw_privs_2 : List (MethodName × Nat) := [(⟨"SampleLayers", "fitsWith", "(III)Z"⟩, 10), (⟨"SampleLayers", "triedPart", "(II)I"⟩, 10), (⟨"SampleLayers", "hasRow", "(II)Z"⟩, 10), (⟨"SampleLayers$Acts", "own", "(III)I"⟩, 6), (⟨"SampleLayers$Acts", "run", "(III)I"⟩, 6), (⟨"SampleLayers$Acts", "note", "(I)V"⟩, 6), (⟨"SampleLayers$Acts", "part", "(I)I"⟩, 6), (⟨"SampleLayers$Acts", "inherited", "(IIII)I"⟩, 6), (⟨"SampleLayersModel", "begins", "()V"⟩, 27), (⟨"SampleLayersModel", "nextToken", "()V"⟩, 27), (⟨"SampleLayersModel", "byteAt", "(I)I"⟩, 27), (⟨"SampleLayersModel", "itemHere", "()V"⟩, 27), (⟨"SampleLayersModel", "kindHere", "()I"⟩, 27), (⟨"SampleLayersModel", "isFive", "(IIIII)Z"⟩, 27), (⟨"SampleLayersModel", "isName", "(IIIII)Z"⟩, 27), (⟨"SampleLayersModel", "isSame", "(IIII)Z"⟩, 27)]
theorem lw_r2 : ∀ q ∈ lw_privs_2, lw_okq q := List.forall_mem_cons.mpr ⟨lw_p16, List.forall_mem_cons.mpr ⟨lw_p17, List.forall_mem_cons.mpr ⟨lw_p18, List.forall_mem_cons.mpr ⟨lw_p19, List.forall_mem_cons.mpr ⟨lw_p20, List.forall_mem_cons.mpr ⟨lw_p21, List.forall_mem_cons.mpr ⟨lw_p22, List.forall_mem_cons.mpr ⟨lw_p23, List.forall_mem_cons.mpr ⟨lw_p24, List.forall_mem_cons.mpr ⟨lw_p25, List.forall_mem_cons.mpr ⟨lw_p26, List.forall_mem_cons.mpr ⟨lw_p27, List.forall_mem_cons.mpr ⟨lw_p28, List.forall_mem_cons.mpr ⟨lw_p29, List.forall_mem_cons.mpr ⟨lw_p30, List.forall_mem_cons.mpr ⟨lw_p31, fun _ h => absurd h List.not_mem_nil⟩⟩⟩⟩⟩⟩⟩⟩⟩⟩⟩⟩⟩⟩⟩⟩
theorem lw_p32 : lw_okq (⟨"SampleLayersModel", "isFour", "(IIII)Z"⟩, 27) := ⟨⟨by decide +kernel, by decide +kernel⟩, List.mem_of_getElem? (i := 754) (by decide +kernel), List.mem_of_getElem? (i := 896) (by decide +kernel), List.mem_of_getElem? (i := 897) (by decide +kernel)⟩
theorem lw_p33 : lw_okq (⟨"SampleLayersModel", "ownHere", "()I"⟩, 27) := ⟨⟨by decide +kernel, by decide +kernel⟩, List.mem_of_getElem? (i := 754) (by decide +kernel), List.mem_of_getElem? (i := 900) (by decide +kernel), List.mem_of_getElem? (i := 901) (by decide +kernel)⟩
theorem lw_p34 : lw_okq (⟨"SampleLayersModel", "thingHere", "(I)V"⟩, 27) := ⟨⟨by decide +kernel, by decide +kernel⟩, List.mem_of_getElem? (i := 754) (by decide +kernel), List.mem_of_getElem? (i := 904) (by decide +kernel), List.mem_of_getElem? (i := 905) (by decide +kernel)⟩
theorem lw_p35 : lw_okq (⟨"SampleLayersModel", "needs", "(Z)V"⟩, 27) := ⟨⟨by decide +kernel, by decide +kernel⟩, List.mem_of_getElem? (i := 754) (by decide +kernel), List.mem_of_getElem? (i := 908) (by decide +kernel), List.mem_of_getElem? (i := 909) (by decide +kernel)⟩
theorem lw_p36 : lw_okq (⟨"SampleLayersModel", "comes", "(IIII)V"⟩, 27) := ⟨⟨by decide +kernel, by decide +kernel⟩, List.mem_of_getElem? (i := 754) (by decide +kernel), List.mem_of_getElem? (i := 912) (by decide +kernel), List.mem_of_getElem? (i := 913) (by decide +kernel)⟩
theorem lw_p37 : lw_okq (⟨"SampleLayersModel", "lies", "(II)V"⟩, 27) := ⟨⟨by decide +kernel, by decide +kernel⟩, List.mem_of_getElem? (i := 754) (by decide +kernel), List.mem_of_getElem? (i := 916) (by decide +kernel), List.mem_of_getElem? (i := 917) (by decide +kernel)⟩
theorem lw_p38 : lw_okq (⟨"SampleLayersModel", "numberTo", "(II)V"⟩, 27) := ⟨⟨by decide +kernel, by decide +kernel⟩, List.mem_of_getElem? (i := 754) (by decide +kernel), List.mem_of_getElem? (i := 920) (by decide +kernel), List.mem_of_getElem? (i := 921) (by decide +kernel)⟩
theorem lw_p39 : lw_okq (⟨"SampleLayersModel", "perhaps", "(ZII)V"⟩, 27) := ⟨⟨by decide +kernel, by decide +kernel⟩, List.mem_of_getElem? (i := 754) (by decide +kernel), List.mem_of_getElem? (i := 924) (by decide +kernel), List.mem_of_getElem? (i := 925) (by decide +kernel)⟩
theorem lw_p40 : lw_okq (⟨"SampleLayersModel", "becomes", "(II)I"⟩, 27) := ⟨⟨by decide +kernel, by decide +kernel⟩, List.mem_of_getElem? (i := 754) (by decide +kernel), List.mem_of_getElem? (i := 935) (by decide +kernel), List.mem_of_getElem? (i := 936) (by decide +kernel)⟩
theorem lw_p41 : lw_okq (⟨"SampleLayersModel", "isOne", "(I)Z"⟩, 27) := ⟨⟨by decide +kernel, by decide +kernel⟩, List.mem_of_getElem? (i := 754) (by decide +kernel), List.mem_of_getElem? (i := 955) (by decide +kernel), List.mem_of_getElem? (i := 956) (by decide +kernel)⟩
theorem lw_p42 : lw_okq (⟨"SampleLayersModel", "its", "(II)I"⟩, 27) := ⟨⟨by decide +kernel, by decide +kernel⟩, List.mem_of_getElem? (i := 754) (by decide +kernel), List.mem_of_getElem? (i := 960) (by decide +kernel), List.mem_of_getElem? (i := 961) (by decide +kernel)⟩
theorem lw_p43 : lw_okq (⟨"SampleLayersModel", "aboveOf", "(I)I"⟩, 27) := ⟨⟨by decide +kernel, by decide +kernel⟩, List.mem_of_getElem? (i := 754) (by decide +kernel), List.mem_of_getElem? (i := 964) (by decide +kernel), List.mem_of_getElem? (i := 965) (by decide +kernel)⟩
theorem lw_p44 : lw_okq (⟨"SampleLayersModel", "speaks", "(I)I"⟩, 27) := ⟨⟨by decide +kernel, by decide +kernel⟩, List.mem_of_getElem? (i := 754) (by decide +kernel), List.mem_of_getElem? (i := 975) (by decide +kernel), List.mem_of_getElem? (i := 976) (by decide +kernel)⟩
theorem lw_p45 : lw_okq (⟨"SampleLayersModel", "hides", "(I)I"⟩, 27) := ⟨⟨by decide +kernel, by decide +kernel⟩, List.mem_of_getElem? (i := 754) (by decide +kernel), List.mem_of_getElem? (i := 979) (by decide +kernel), List.mem_of_getElem? (i := 980) (by decide +kernel)⟩
theorem lw_p46 : lw_okq (⟨"SampleLayersModel", "lying", "()I"⟩, 27) := ⟨⟨by decide +kernel, by decide +kernel⟩, List.mem_of_getElem? (i := 754) (by decide +kernel), List.mem_of_getElem? (i := 999) (by decide +kernel), List.mem_of_getElem? (i := 1000) (by decide +kernel)⟩
theorem lw_p47 : lw_okq (⟨"SampleLayersModel", "lyingIn", "(I)I"⟩, 27) := ⟨⟨by decide +kernel, by decide +kernel⟩, List.mem_of_getElem? (i := 754) (by decide +kernel), List.mem_of_getElem? (i := 1015) (by decide +kernel), List.mem_of_getElem? (i := 1016) (by decide +kernel)⟩
def lw_privs_3 : List (MethodName × Nat) := [(⟨"SampleLayersModel", "isFour", "(IIII)Z"⟩, 27), (⟨"SampleLayersModel", "ownHere", "()I"⟩, 27), (⟨"SampleLayersModel", "thingHere", "(I)V"⟩, 27), (⟨"SampleLayersModel", "needs", "(Z)V"⟩, 27), (⟨"SampleLayersModel", "comes", "(IIII)V"⟩, 27), (⟨"SampleLayersModel", "lies", "(II)V"⟩, 27), (⟨"SampleLayersModel", "numberTo", "(II)V"⟩, 27), (⟨"SampleLayersModel", "perhaps", "(ZII)V"⟩, 27), (⟨"SampleLayersModel", "becomes", "(II)I"⟩, 27), (⟨"SampleLayersModel", "isOne", "(I)Z"⟩, 27), (⟨"SampleLayersModel", "its", "(II)I"⟩, 27), (⟨"SampleLayersModel", "aboveOf", "(I)I"⟩, 27), (⟨"SampleLayersModel", "speaks", "(I)I"⟩, 27), (⟨"SampleLayersModel", "hides", "(I)I"⟩, 27), (⟨"SampleLayersModel", "lying", "()I"⟩, 27), (⟨"SampleLayersModel", "lyingIn", "(I)I"⟩, 27)]
theorem lw_r3 : ∀ q ∈ lw_privs_3, lw_okq q := List.forall_mem_cons.mpr ⟨lw_p32, List.forall_mem_cons.mpr ⟨lw_p33, List.forall_mem_cons.mpr ⟨lw_p34, List.forall_mem_cons.mpr ⟨lw_p35, List.forall_mem_cons.mpr ⟨lw_p36, List.forall_mem_cons.mpr ⟨lw_p37, List.forall_mem_cons.mpr ⟨lw_p38, List.forall_mem_cons.mpr ⟨lw_p39, List.forall_mem_cons.mpr ⟨lw_p40, List.forall_mem_cons.mpr ⟨lw_p41, List.forall_mem_cons.mpr ⟨lw_p42, List.forall_mem_cons.mpr ⟨lw_p43, List.forall_mem_cons.mpr ⟨lw_p44, List.forall_mem_cons.mpr ⟨lw_p45, List.forall_mem_cons.mpr ⟨lw_p46, List.forall_mem_cons.mpr ⟨lw_p47, fun _ h => absurd h List.not_mem_nil⟩⟩⟩⟩⟩⟩⟩⟩⟩⟩⟩⟩⟩⟩⟩⟩
theorem lw_p48 : lw_okq (⟨"SampleLayersModel", "top", "(I)I"⟩, 27) := ⟨⟨by decide +kernel, by decide +kernel⟩, List.mem_of_getElem? (i := 754) (by decide +kernel), List.mem_of_getElem? (i := 1019) (by decide +kernel), List.mem_of_getElem? (i := 1020) (by decide +kernel)⟩
theorem lw_p49 : lw_okq (⟨"SampleLayersModel", "goes", "(I)V"⟩, 27) := ⟨⟨by decide +kernel, by decide +kernel⟩, List.mem_of_getElem? (i := 754) (by decide +kernel), List.mem_of_getElem? (i := 1028) (by decide +kernel), List.mem_of_getElem? (i := 1029) (by decide +kernel)⟩
theorem lw_p50 : lw_okq (⟨"SampleLayersModel", "goesOn", "()V"⟩, 27) := ⟨⟨by decide +kernel, by decide +kernel⟩, List.mem_of_getElem? (i := 754) (by decide +kernel), List.mem_of_getElem? (i := 1032) (by decide +kernel), List.mem_of_getElem? (i := 1033) (by decide +kernel)⟩
theorem lw_p51 : lw_okq (⟨"SampleLayersModel", "drawn", "()I"⟩, 27) := ⟨⟨by decide +kernel, by decide +kernel⟩, List.mem_of_getElem? (i := 754) (by decide +kernel), List.mem_of_getElem? (i := 1047) (by decide +kernel), List.mem_of_getElem? (i := 1048) (by decide +kernel)⟩
theorem lw_p52 : lw_okq (⟨"SampleLayersModel", "worthOfAll", "()I"⟩, 27) := ⟨⟨by decide +kernel, by decide +kernel⟩, List.mem_of_getElem? (i := 754) (by decide +kernel), List.mem_of_getElem? (i := 1062) (by decide +kernel), List.mem_of_getElem? (i := 1063) (by decide +kernel)⟩
theorem lw_p53 : lw_okq (⟨"SampleLayersModel", "cover", "()I"⟩, 27) := ⟨⟨by decide +kernel, by decide +kernel⟩, List.mem_of_getElem? (i := 754) (by decide +kernel), List.mem_of_getElem? (i := 1066) (by decide +kernel), List.mem_of_getElem? (i := 1067) (by decide +kernel)⟩
theorem lw_p54 : lw_okq (⟨"SampleLayersModel", "kindsIn", "(I)I"⟩, 27) := ⟨⟨by decide +kernel, by decide +kernel⟩, List.mem_of_getElem? (i := 754) (by decide +kernel), List.mem_of_getElem? (i := 1070) (by decide +kernel), List.mem_of_getElem? (i := 1071) (by decide +kernel)⟩
theorem lw_p55 : lw_okq (⟨"SampleLayersModel", "thoughtBehind", "(I)I"⟩, 27) := ⟨⟨by decide +kernel, by decide +kernel⟩, List.mem_of_getElem? (i := 754) (by decide +kernel), List.mem_of_getElem? (i := 1078) (by decide +kernel), List.mem_of_getElem? (i := 1079) (by decide +kernel)⟩
theorem lw_p56 : lw_okq (⟨"SampleLayersModel", "mostBy", "(III)I"⟩, 27) := ⟨⟨by decide +kernel, by decide +kernel⟩, List.mem_of_getElem? (i := 754) (by decide +kernel), List.mem_of_getElem? (i := 1109) (by decide +kernel), List.mem_of_getElem? (i := 1110) (by decide +kernel)⟩
theorem lw_p57 : lw_okq (⟨"SampleLayersModel", "isTold", "(I)Z"⟩, 27) := ⟨⟨by decide +kernel, by decide +kernel⟩, List.mem_of_getElem? (i := 754) (by decide +kernel), List.mem_of_getElem? (i := 1136) (by decide +kernel), List.mem_of_getElem? (i := 1137) (by decide +kernel)⟩
theorem lw_p58 : lw_okq (⟨"SampleLayersModel", "isRow", "(II)Z"⟩, 27) := ⟨⟨by decide +kernel, by decide +kernel⟩, List.mem_of_getElem? (i := 754) (by decide +kernel), List.mem_of_getElem? (i := 1165) (by decide +kernel), List.mem_of_getElem? (i := 1166) (by decide +kernel)⟩
theorem lw_p59 : lw_okq (⟨"SampleLayersModel", "lacks", "(II)I"⟩, 27) := ⟨⟨by decide +kernel, by decide +kernel⟩, List.mem_of_getElem? (i := 754) (by decide +kernel), List.mem_of_getElem? (i := 1190) (by decide +kernel), List.mem_of_getElem? (i := 1191) (by decide +kernel)⟩
theorem lw_p60 : lw_okq (⟨"SampleLayersModel", "heldOn", "(I)I"⟩, 27) := ⟨⟨by decide +kernel, by decide +kernel⟩, List.mem_of_getElem? (i := 754) (by decide +kernel), List.mem_of_getElem? (i := 1211) (by decide +kernel), List.mem_of_getElem? (i := 1212) (by decide +kernel)⟩
theorem lw_p61 : lw_okq (⟨"SampleLayersModel", "sinks", "(I)I"⟩, 27) := ⟨⟨by decide +kernel, by decide +kernel⟩, List.mem_of_getElem? (i := 754) (by decide +kernel), List.mem_of_getElem? (i := 1222) (by decide +kernel), List.mem_of_getElem? (i := 1223) (by decide +kernel)⟩
theorem lw_p62 : lw_okq (⟨"SampleLayersModel", "sinksOfRubbish", "(I)I"⟩, 27) := ⟨⟨by decide +kernel, by decide +kernel⟩, List.mem_of_getElem? (i := 754) (by decide +kernel), List.mem_of_getElem? (i := 1226) (by decide +kernel), List.mem_of_getElem? (i := 1227) (by decide +kernel)⟩
theorem lw_p63 : lw_okq (⟨"SampleLayersModel", "runs", "(I)V"⟩, 27) := ⟨⟨by decide +kernel, by decide +kernel⟩, List.mem_of_getElem? (i := 754) (by decide +kernel), List.mem_of_getElem? (i := 1230) (by decide +kernel), List.mem_of_getElem? (i := 1231) (by decide +kernel)⟩
def lw_privs_4 : List (MethodName × Nat) := [(⟨"SampleLayersModel", "top", "(I)I"⟩, 27), (⟨"SampleLayersModel", "goes", "(I)V"⟩, 27), (⟨"SampleLayersModel", "goesOn", "()V"⟩, 27), (⟨"SampleLayersModel", "drawn", "()I"⟩, 27), (⟨"SampleLayersModel", "worthOfAll", "()I"⟩, 27), (⟨"SampleLayersModel", "cover", "()I"⟩, 27), (⟨"SampleLayersModel", "kindsIn", "(I)I"⟩, 27), (⟨"SampleLayersModel", "thoughtBehind", "(I)I"⟩, 27), (⟨"SampleLayersModel", "mostBy", "(III)I"⟩, 27), (⟨"SampleLayersModel", "isTold", "(I)Z"⟩, 27), (⟨"SampleLayersModel", "isRow", "(II)Z"⟩, 27), (⟨"SampleLayersModel", "lacks", "(II)I"⟩, 27), (⟨"SampleLayersModel", "heldOn", "(I)I"⟩, 27), (⟨"SampleLayersModel", "sinks", "(I)I"⟩, 27), (⟨"SampleLayersModel", "sinksOfRubbish", "(I)I"⟩, 27), (⟨"SampleLayersModel", "runs", "(I)V"⟩, 27)]
theorem lw_r4 : ∀ q ∈ lw_privs_4, lw_okq q := List.forall_mem_cons.mpr ⟨lw_p48, List.forall_mem_cons.mpr ⟨lw_p49, List.forall_mem_cons.mpr ⟨lw_p50, List.forall_mem_cons.mpr ⟨lw_p51, List.forall_mem_cons.mpr ⟨lw_p52, List.forall_mem_cons.mpr ⟨lw_p53, List.forall_mem_cons.mpr ⟨lw_p54, List.forall_mem_cons.mpr ⟨lw_p55, List.forall_mem_cons.mpr ⟨lw_p56, List.forall_mem_cons.mpr ⟨lw_p57, List.forall_mem_cons.mpr ⟨lw_p58, List.forall_mem_cons.mpr ⟨lw_p59, List.forall_mem_cons.mpr ⟨lw_p60, List.forall_mem_cons.mpr ⟨lw_p61, List.forall_mem_cons.mpr ⟨lw_p62, List.forall_mem_cons.mpr ⟨lw_p63, fun _ h => absurd h List.not_mem_nil⟩⟩⟩⟩⟩⟩⟩⟩⟩⟩⟩⟩⟩⟩⟩⟩
theorem lw_p64 : lw_okq (⟨"SampleLayersModel", "sinksPlain", "(I)I"⟩, 27) := ⟨⟨by decide +kernel, by decide +kernel⟩, List.mem_of_getElem? (i := 754) (by decide +kernel), List.mem_of_getElem? (i := 1234) (by decide +kernel), List.mem_of_getElem? (i := 1235) (by decide +kernel)⟩
theorem lw_p65 : lw_okq (⟨"SampleLayersModel", "shows", "(I)I"⟩, 27) := ⟨⟨by decide +kernel, by decide +kernel⟩, List.mem_of_getElem? (i := 754) (by decide +kernel), List.mem_of_getElem? (i := 1238) (by decide +kernel), List.mem_of_getElem? (i := 1239) (by decide +kernel)⟩
theorem lw_p66 : lw_okq (⟨"SampleLayersModel", "showsPlain", "(I)I"⟩, 27) := ⟨⟨by decide +kernel, by decide +kernel⟩, List.mem_of_getElem? (i := 754) (by decide +kernel), List.mem_of_getElem? (i := 1242) (by decide +kernel), List.mem_of_getElem? (i := 1243) (by decide +kernel)⟩
theorem lw_p67 : lw_okq (⟨"SampleLayersModel", "parts", "(I)I"⟩, 27) := ⟨⟨by decide +kernel, by decide +kernel⟩, List.mem_of_getElem? (i := 754) (by decide +kernel), List.mem_of_getElem? (i := 1246) (by decide +kernel), List.mem_of_getElem? (i := 1247) (by decide +kernel)⟩
theorem lw_p68 : lw_okq (⟨"SampleLayersModel", "partsPlain", "(I)I"⟩, 27) := ⟨⟨by decide +kernel, by decide +kernel⟩, List.mem_of_getElem? (i := 754) (by decide +kernel), List.mem_of_getElem? (i := 1250) (by decide +kernel), List.mem_of_getElem? (i := 1251) (by decide +kernel)⟩
theorem lw_p69 : lw_okq (⟨"SampleLayersModel", "asks", "(I)I"⟩, 27) := ⟨⟨by decide +kernel, by decide +kernel⟩, List.mem_of_getElem? (i := 754) (by decide +kernel), List.mem_of_getElem? (i := 1254) (by decide +kernel), List.mem_of_getElem? (i := 1255) (by decide +kernel)⟩
theorem lw_p70 : lw_okq (⟨"SampleLayersModel", "asksPlain", "(I)I"⟩, 27) := ⟨⟨by decide +kernel, by decide +kernel⟩, List.mem_of_getElem? (i := 754) (by decide +kernel), List.mem_of_getElem? (i := 1258) (by decide +kernel), List.mem_of_getElem? (i := 1259) (by decide +kernel)⟩
def lw_privs_5 : List (MethodName × Nat) := [(⟨"SampleLayersModel", "sinksPlain", "(I)I"⟩, 27), (⟨"SampleLayersModel", "shows", "(I)I"⟩, 27), (⟨"SampleLayersModel", "showsPlain", "(I)I"⟩, 27), (⟨"SampleLayersModel", "parts", "(I)I"⟩, 27), (⟨"SampleLayersModel", "partsPlain", "(I)I"⟩, 27), (⟨"SampleLayersModel", "asks", "(I)I"⟩, 27), (⟨"SampleLayersModel", "asksPlain", "(I)I"⟩, 27)]
theorem lw_r5 : ∀ q ∈ lw_privs_5, lw_okq q := List.forall_mem_cons.mpr ⟨lw_p64, List.forall_mem_cons.mpr ⟨lw_p65, List.forall_mem_cons.mpr ⟨lw_p66, List.forall_mem_cons.mpr ⟨lw_p67, List.forall_mem_cons.mpr ⟨lw_p68, List.forall_mem_cons.mpr ⟨lw_p69, List.forall_mem_cons.mpr ⟨lw_p70, fun _ h => absurd h List.not_mem_nil⟩⟩⟩⟩⟩⟩⟩
def lw_privs : List (MethodName × Nat) := lw_privs_1 ++ (lw_privs_2 ++ (lw_privs_3 ++ (lw_privs_4 ++ (lw_privs_5))))
def lw_tbl : List Cond := k2_sels lw_privs ++ tables_1
theorem lw_privs_ok : ∀ q ∈ lw_privs, lw_okq q := by
  show ∀ q ∈ lw_privs_1 ++ (lw_privs_2 ++ (lw_privs_3 ++ (lw_privs_4 ++ (lw_privs_5)))), lw_okq q
  exact List.forall_mem_append.mpr ⟨lw_r1, List.forall_mem_append.mpr ⟨lw_r2, List.forall_mem_append.mpr ⟨lw_r3, List.forall_mem_append.mpr ⟨lw_r4, lw_r5⟩⟩⟩⟩
-- ===== end of PART A; then your names; then what follows =====
end
section
/-! names: the classes of the claim, their fields, methods and links (by program out of the printed names and tables) -/
def RX0 : String := "SampleLayers$Acts"
def TX0 : u_T := fun k => match k with
  | 0 => ("SampleLayers$Acts", "bodies", "[I", true)
  | 1 => ("SampleLayers$Acts", "traceCount", "I", false)
  | 2 => ("SampleLayers$Acts", "numbe\x72", "I", false)
  | 3 => ("SampleLayers$Acts", "kind", "I", false)
  | 4 => ("SampleLayers$Acts", "truth", "I", false)
  | _ => ("SampleLayers$Acts", "isStopped", "Z", false)
def tyX0 : Nat → FieldType := fun k => match k with
  | 0 => .array .int
  | 1 => .int
  | 2 => .int
  | 3 => .int
  | 4 => .int
  | _ => .boolean
theorem nmX0 : ∀ a, a < 6 → ∀ b, b < 6 → a ≠ b → (TX0 a).2.1 ≠ (TX0 b).2.1 := by decide +kernel
theorem tyX0_ok : ∀ k, k < 6 → parseFieldDescriptor (TX0 k).2.2.1 = some (tyX0 k) := by decide +kernel
def RX1 : String := "SampleLayers$Sheets"
def TX1 : u_T := fun k => match k with
  | 0 => ("SampleLayers$Sheets", "sorts", "[I", true)
  | 1 => ("SampleLayers$Sheets", "sizes", "[I", true)
  | _ => ("SampleLayers$Sheets", "items", "[I", true)
def tyX1 : Nat → FieldType := fun k => match k with
  | 0 => .array .int
  | 1 => .array .int
  | _ => .array .int
theorem nmX1 : ∀ a, a < 3 → ∀ b, b < 3 → a ≠ b → (TX1 a).2.1 ≠ (TX1 b).2.1 := by decide +kernel
theorem tyX1_ok : ∀ k, k < 3 → parseFieldDescriptor (TX1 k).2.2.1 = some (tyX1 k) := by decide +kernel
def RX2 : String := "SampleLayers$Shelves"
def TX2 : u_T := fun k => match k with
  | 0 => ("SampleLayers$Shelves", "things", "[I", true)
  | 1 => ("SampleLayers$Shelves", "sorts", "[I", true)
  | _ => ("SampleLayers$Shelves", "sizes", "[I", true)
def tyX2 : Nat → FieldType := fun k => match k with
  | 0 => .array .int
  | 1 => .array .int
  | _ => .array .int
theorem nmX2 : ∀ a, a < 3 → ∀ b, b < 3 → a ≠ b → (TX2 a).2.1 ≠ (TX2 b).2.1 := by decide +kernel
theorem tyX2_ok : ∀ k, k < 3 → parseFieldDescriptor (TX2 k).2.2.1 = some (tyX2 k) := by decide +kernel
def RX3 : String := "SampleLayers$Street"
def TX3 : u_T := fun k => match k with
  | 0 => ("SampleLayers$Street", "kinds", "[I", true)
  | 1 => ("SampleLayers$Street", "worths", "[I", true)
  | 2 => ("SampleLayers$Street", "truths", "[I", true)
  | 3 => ("SampleLayers$Street", "places", "[I", true)
  | 4 => ("SampleLayers$Street", "laws", "[I", true)
  | 5 => ("SampleLayers$Street", "turns", "[I", true)
  | 6 => ("SampleLayers$Street", "count", "I", false)
  | 7 => ("SampleLayers$Street", "nextTurn", "I", false)
  | 8 => ("SampleLayers$Street", "yea\x72", "I", false)
  | 9 => ("SampleLayers$Street", "at", "I", false)
  | 10 => ("SampleLayers$Street", "opinion", "I", false)
  | _ => ("SampleLayers$Street", "z", "I", false)
def tyX3 : Nat → FieldType := fun k => match k with
  | 0 => .array .int
  | 1 => .array .int
  | 2 => .array .int
  | 3 => .array .int
  | 4 => .array .int
  | 5 => .array .int
  | 6 => .int
  | 7 => .int
  | 8 => .int
  | 9 => .int
  | 10 => .int
  | _ => .int
theorem nmX3 : ∀ a, a < 12 → ∀ b, b < 12 → a ≠ b → (TX3 a).2.1 ≠ (TX3 b).2.1 := by decide +kernel
theorem tyX3_ok : ∀ k, k < 12 → parseFieldDescriptor (TX3 k).2.2.1 = some (tyX3 k) := by decide +kernel
def RX4 : String := "SampleLayers$Text"
def TX4 : u_T := fun k => match k with
  | 0 => ("SampleLayers$Text", "bytes", "[B", true)
  | 1 => ("SampleLayers$Text", "size", "I", false)
  | 2 => ("SampleLayers$Text", "sort", "I", false)
  | 3 => ("SampleLayers$Text", "from", "I", false)
  | 4 => ("SampleLayers$Text", "behind", "I", false)
  | _ => ("SampleLayers$Text", "fault", "I", false)
def tyX4 : Nat → FieldType := fun k => match k with
  | 0 => .array .byte
  | 1 => .int
  | 2 => .int
  | 3 => .int
  | 4 => .int
  | _ => .int
theorem nmX4 : ∀ a, a < 6 → ∀ b, b < 6 → a ≠ b → (TX4 a).2.1 ≠ (TX4 b).2.1 := by decide +kernel
theorem tyX4_ok : ∀ k, k < 6 → parseFieldDescriptor (TX4 k).2.2.1 = some (tyX4 k) := by decide +kernel
def RX5 : String := "SampleLayers"
def TX5 : u_T := fun k => match k with
  | 0 => ("SampleLayers", "now", "LSampleLayers$Street;", true)
  | 1 => ("SampleLayers", "tried", "LSampleLayers$Street;", true)
  | 2 => ("SampleLayers", "kept", "LSampleLayers$Street;", true)
  | 3 => ("SampleLayers", "tape", "LSampleLayers$Text;", true)
  | 4 => ("SampleLayers", "sheets", "LSampleLayers$Sheets;", true)
  | 5 => ("SampleLayers", "shelves", "LSampleLayers$Shelves;", true)
  | 6 => ("SampleLayers", "acts", "LSampleLayers$Acts;", true)
  | 7 => ("SampleLayers", "rows", "[I", true)
  | 8 => ("SampleLayers", "rowCount", "I", false)
  | _ => ("SampleLayers", "isKept", "Z", false)
def tyX5 : Nat → FieldType := fun k => match k with
  | 0 => .object "SampleLayers$Street"
  | 1 => .object "SampleLayers$Street"
  | 2 => .object "SampleLayers$Street"
  | 3 => .object "SampleLayers$Text"
  | 4 => .object "SampleLayers$Sheets"
  | 5 => .object "SampleLayers$Shelves"
  | 6 => .object "SampleLayers$Acts"
  | 7 => .array .int
  | 8 => .int
  | _ => .boolean
theorem nmX5 : ∀ a, a < 10 → ∀ b, b < 10 → a ≠ b → (TX5 a).2.1 ≠ (TX5 b).2.1 := by decide +kernel
theorem tyX5_ok : ∀ k, k < 10 → parseFieldDescriptor (TX5 k).2.2.1 = some (tyX5 k) := by decide +kernel
def RX6 : String := "SampleLayersModel"
def TX6 : u_T := fun k => match k with
  | 0 => ("SampleLayersModel", "s", "[I", true)
  | 1 => ("SampleLayersModel", "held", "[I", true)
  | 2 => ("SampleLayersModel", "aside", "[I", true)
  | 3 => ("SampleLayersModel", "before", "[I", true)
  | 4 => ("SampleLayersModel", "unlaid", "[I", true)
  | 5 => ("SampleLayersModel", "isHeld", "Z", false)
  | 6 => ("SampleLayersModel", "tape", "[I", true)
  | 7 => ("SampleLayersModel", "taped", "I", false)
  | 8 => ("SampleLayersModel", "token", "I", false)
  | 9 => ("SampleLayersModel", "from", "I", false)
  | 10 => ("SampleLayersModel", "to", "I", false)
  | 11 => ("SampleLayersModel", "value", "I", false)
  | 12 => ("SampleLayersModel", "isWrong", "Z", false)
  | 13 => ("SampleLayersModel", "rows", "[I", true)
  | 14 => ("SampleLayersModel", "rowN", "I", false)
  | 15 => ("SampleLayersModel", "sortOf", "[I", true)
  | 16 => ("SampleLayersModel", "sizeOf", "[I", true)
  | 17 => ("SampleLayersModel", "numbers", "[I", true)
  | 18 => ("SampleLayersModel", "holdsWhat", "[I", true)
  | 19 => ("SampleLayersModel", "holdsWhich", "[I", true)
  | 20 => ("SampleLayersModel", "holdsMany", "[I", true)
  | 21 => ("SampleLayersModel", "bodies", "[I", true)
  | 22 => ("SampleLayersModel", "ran", "I", false)
  | 23 => ("SampleLayersModel", "actKind", "I", false)
  | 24 => ("SampleLayersModel", "actN", "I", false)
  | 25 => ("SampleLayersModel", "actA", "I", false)
  | _ => ("SampleLayersModel", "isParted", "Z", false)
def tyX6 : Nat → FieldType := fun k => match k with
  | 0 => .array .int
  | 1 => .array .int
  | 2 => .array .int
  | 3 => .array .int
  | 4 => .array .int
  | 5 => .boolean
  | 6 => .array .int
  | 7 => .int
  | 8 => .int
  | 9 => .int
  | 10 => .int
  | 11 => .int
  | 12 => .boolean
  | 13 => .array .int
  | 14 => .int
  | 15 => .array .int
  | 16 => .array .int
  | 17 => .array .int
  | 18 => .array .int
  | 19 => .array .int
  | 20 => .array .int
  | 21 => .array .int
  | 22 => .int
  | 23 => .int
  | 24 => .int
  | 25 => .int
  | _ => .boolean
theorem nmX6 : ∀ a, a < 27 → ∀ b, b < 27 → a ≠ b → (TX6 a).2.1 ≠ (TX6 b).2.1 := by decide +kernel
theorem tyX6_ok : ∀ k, k < 27 → parseFieldDescriptor (TX6 k).2.2.1 = some (tyX6 k) := by decide +kernel
abbrev classes : List vw_C := [(RX0, TX0, 6), (RX1, TX1, 3), (RX2, TX2, 3), (RX3, TX3, 12), (RX4, TX4, 6), (RX5, TX5, 10), (RX6, TX6, 27)]
/-- the classes' names by number: 0 to 6 the system's, 7 the law, 8 on the JDK's -/
def rCn : Nat → String := fun k => match k with
  | 0 => RX0
  | 1 => RX1
  | 2 => RX2
  | 3 => RX3
  | 4 => RX4
  | 5 => RX5
  | 6 => RX6
  | 7 => "SampleLayersLaw"
  | 8 => "java/lang/String"
  | 9 => "java/lang/StringLatin1"
  | 10 => "jdk/internal/util/Preconditions"
  | _ => "java/lang/Intege\x72"
/-- a new object's slots -/
def rBlank : List (List (Option (Option Nat))) := [[some none, none, none, none, none, none], [some none, some none, some none], [some none, some none, some none], [some none, some none, some none, some none, some none, some none, none, none, none, none, none, none], [some none, none, none, none, none, none], [some none, some none, some none, some none, some none, some none, some none, some none, none, none], [some none, some none, some none, some none, some none, none, some none, none, none, none, none, none, none, some none, none, some none, some none, some none, some none, some none, some none, some none, none, none, none, none, none]]
/-! R: what a frame of the claim's code does, as a plain predicate over values, shapes and contents of cells -/
/-- a value: int, long, null or a cell by its number, a constant by its number -/
abbrev rPV : Type := Int32 ⊕ (Int64 ⊕ (Option Nat ⊕ Nat))
abbrev pI (x : Int32) : rPV := Sum.inl x
abbrev pL (x : Int64) : rPV := Sum.inr (Sum.inl x)
abbrev pO (r : Option Nat) : rPV := Sum.inr (Sum.inr (Sum.inl r))
abbrev pR (i : Nat) : rPV := Sum.inr (Sum.inr (Sum.inl (some i)))
abbrev pC (k : Nat) : rPV := Sum.inr (Sum.inr (Sum.inr k))
abbrev rHp : Type := Nat → Nat → Int32
/-- an object (its class's number, its slots: none for a number, some for a reference), an array (of bytes?, its length) -/
abbrev rCs : Type := (Nat × List (Option (Option Nat))) ⊕ (Bool × Nat)
abbrev rSh : Type := List rCs
abbrev rLs : Type := List (Option rPV)
abbrev rPost : Type := Option rPV → rSh → rHp → Prop
/-- a method: number, code, class, is it <init>, answer's type, cells and slots that it makes, locals, arguments -/
abbrev rM : Type := Nat × List (Nat × Instr × Nat) × Nat × Bool × Option FieldType × Nat × Nat × Nat × Nat
/-- the script: its length, its ints -/
abbrev rE : Type := Nat × (Nat → Int32)
def rUp (h : rHp) (i k : Nat) (x : Int32) : rHp := fun a j => if a = i then (if j = k then x else h a j) else h a j
def rCp (h : rHp) (i o sp dp n : Nat) : rHp := fun a j => if a = o then (if dp ≤ j ∧ j < dp + n then h i (sp + (j - dp)) else h a j) else h a j
def rZ (h : rHp) (i : Nat) : rHp := fun a j => if a = i then 0 else h a j
def rLk {α : Type} : List (Nat × α) → Nat → Option α
  | [], _ => none
  | (a, b) :: l, k => cond (Nat.beq a k) (some b) (rLk l k)
def rNth {α : Type} : List α → Nat → Option α
  | [], _ => none
  | a :: _, 0 => some a
  | _ :: l, n + 1 => rNth l n
def rLk2 {α : Type} (t : List (List (Nat × α))) (c k : Nat) : Option α :=
  match rNth t c with
  | none => none
  | some l => rLk l k
def rFet : List (Nat × Instr × Nat) → Nat → Option (Instr × Nat)
  | [], _ => none
  | (a, b) :: l, k => cond (Nat.beq a k) (some b) (rFet l k)
def rKill (ls : rLs) : Nat → rLs
  | 0 => ls
  | i + 1 =>
    match rNth ls i with
    | some (some (.inr (.inl _))) => ls.set i none
    | _ => ls
def rSet1 (ls : rLs) (i : Nat) (v : rPV) : rLs := (rKill ls i).set i (some v)
def rSet2 (ls : rLs) (i : Nat) (x : Int64) : rLs := ((rKill ls i).set i (some (pL x))).set (i + 1) none
def rPop : Nat → List rPV → List rPV → Option (List rPV × List rPV)
  | 0, st, acc => some (acc, st)
  | n + 1, v :: st, acc => rPop n st (v :: acc)
  | _ + 1, [], _ => none
def rPush : Option rPV → List rPV → List rPV
  | none, r => r
  | some v, r => v :: r
def rT (pc : Nat) (off : Int) : Nat := ((pc : Int) + off).toNat
/-- a table's branches, those that go elsewhere than the rest -/
def rTab (G : Int → Prop) (x : Int32) (d : Int) : Int → List Int → Prop
  | _, [] => G d
  | lo, o :: l => cond (decide (o = d)) (rTab G x d (lo + 1) l) ((x = Int32.ofInt lo → G o) ∧ (¬ x = Int32.ofInt lo → rTab G x d (lo + 1) l))
def rSw (G : Int → Prop) (x : Int32) (d : Int) : List (Int × Int) → Prop
  | [] => G d
  | (a, o) :: l => (x = Int32.ofInt a → G o) ∧ (¬ x = Int32.ofInt a → rSw G x d l)
def rUnder : List Int32 := [-1, 0, 0, 1, 2, 0]
def rOwn : List Int32 := [10, 11, 12, 13, 0, 20, 0, 0, 30, 0, 0, 31, 51, 0, 50, 0, 40, 41, 0, 0, 0, 0, 61, 60]
/-- the constant arrays of ints: 0 the script, 1 UNDER, 2 OWN_BODIES -/
def rCA (E : rE) : Nat → Option (Nat × (Nat → Int32))
  | 0 => some E
  | 1 => some (6, fun j => rUnder.getD j 0)
  | 2 => some (24, fun j => rOwn.getD j 0)
  | _ => none
/-- a constant String's number -/
def rSt (c : Nat) : Option Nat := cond (Nat.ble 10 c && Nat.blt c 25) (some (c - 10)) none
/-- .. its bytes' -/
def rSb (c : Nat) : Option Nat := cond (Nat.ble 40 c && Nat.blt c 55) (some (c - 40)) none
def rBk (n k : Nat) (M : rM) (P : Prop) : Prop := cond (Nat.ble n M.2.2.2.2.2.1 && Nat.ble k M.2.2.2.2.2.2.1) P False
def lkF : List (List (Nat × Nat × Nat × Nat)) := [[(11, (0, 0, 2)), (15, (0, 1, 0)), (19, (0, 5, 1)), (23, (0, 2, 0)), (26, (0, 3, 0)), (29, (0, 4, 0))],
  [(9, (1, 0, 2)), (15, (1, 1, 2)), (18, (1, 2, 2))],
  [(9, (2, 0, 2)), (15, (2, 1, 2)), (18, (2, 2, 2))],
  [(9, (3, 0, 2)), (15, (3, 1, 2)), (18, (3, 2, 2)), (21, (3, 3, 2)), (24, (3, 5, 2)), (27, (3, 4, 2)), (30, (3, 11, 0)), (37, (3, 6, 0)), (40, (3, 7, 0)), (43, (3, 8, 0)), (46, (3, 9, 0)), (49, (3, 10, 0))],
  [(11, (4, 0, 2)), (15, (4, 1, 0)), (24, (4, 4, 0)), (27, (4, 5, 0)), (33, (4, 2, 0)), (68, (3, 6, 0)), (85, (3, 9, 0)), (88, (3, 10, 0)), (95, (3, 4, 2)), (125, (4, 3, 0))],
  [(10, (5, 0, 2)), (16, (5, 1, 2)), (19, (5, 2, 2)), (25, (5, 3, 2)), (32, (5, 4, 2)), (39, (5, 5, 2)), (46, (5, 6, 2)), (50, (5, 7, 2)), (54, (5, 8, 0)), (58, (5, 9, 1)), (73, (3, 11, 0)), (80, (3, 6, 0)), (91, (3, 4, 2)), (102, (3, 0, 2)), (105, (3, 1, 2)), (108, (3, 2, 2)), (111, (3, 3, 2)), (139, (3, 9, 0)), (142, (3, 10, 0)), (161, (3, 8, 0)), (184, (1, 0, 2)), (213, (1, 1, 2)), (243, (2, 1, 2)), (244, (2, 2, 2)), (245, (2, 0, 2)), (258, (0, 1, 0)), (261, (0, 0, 2)), (267, (4, 1, 0))],
  [(7, (6, 0, 2)), (13, (6, 1, 2)), (16, (6, 2, 2)), (19, (6, 3, 2)), (22, (6, 4, 2)), (25, (6, 6, 2)), (28, (6, 13, 2)), (31, (6, 15, 2)), (34, (6, 16, 2)), (37, (6, 17, 2)), (40, (6, 18, 2)), (43, (6, 19, 2)), (46, (6, 20, 2)), (49, (6, 21, 2)), (61, (6, 7, 0)), (67, (6, 10, 0)), (70, (6, 9, 0)), (84, (6, 8, 0)), (87, (6, 11, 0)), (90, (6, 12, 1)), (145, (6, 14, 0)), (281, (6, 22, 0)), (287, (6, 24, 0)), (293, (6, 23, 0)), (302, (6, 25, 0)), (308, (6, 26, 1)), (326, (6, 5, 1))],
  [],
  [],
  [],
  [],
  []]
def lkZ : List (List (Nat × Bool)) := [[],
  [],
  [],
  [],
  [],
  [],
  [],
  [],
  [(9, true), (15, false)],
  [],
  [],
  []]
def lkG : List (List (Nat × rPV × Bool)) := [[(43, (pC 1, true)), (50, (pC 2, false))],
  [],
  [],
  [],
  [],
  [(278, (pC 1, false))],
  [],
  [],
  [(38, (pI 1, false)), (1053, (pC 3, false))],
  [],
  [],
  []]
def lkM : List (List (Nat × Nat × Nat)) := [[(3, (5, 0)), (32, (0, 4)), (36, (1, 6)), (40, (0, 7)), (46, (3, 106)), (53, (0, 9)), (57, (0, 8)), (61, (0, 5))],
  [(3, (5, 0))],
  [(3, (5, 0)), (21, (0, 16))],
  [(3, (5, 0)), (34, (0, 21)), (52, (4, 0)), (58, (0, 26)), (62, (0, 28)), (66, (0, 34)), (69, (1, 230)), (74, (0, 29)), (77, (0, 38)), (80, (0, 39)), (83, (0, 30)), (86, (0, 36)), (89, (0, 35)), (92, (3, 108)), (96, (0, 41)), (100, (0, 24))],
  [(3, (5, 0)), (19, (0, 21)), (30, (0, 55)), (36, (0, 46)), (40, (0, 50)), (44, (0, 47)), (48, (0, 51)), (51, (0, 54)), (54, (1, 49)), (58, (0, 52)), (61, (0, 53)), (64, (1, 48)), (73, (0, 57)), (81, (0, 25)), (91, (3, 106)), (99, (3, 109)), (128, (1, 56)), (131, (0, 231)), (136, (0, 232))],
  [(1, (5, 0)), (9, (2, 20)), (24, (2, 42)), (31, (2, 10)), (38, (2, 15)), (45, (2, 0)), (62, (0, 44)), (66, (0, 45)), (70, (0, 43)), (76, (0, 22)), (83, (1, 106)), (87, (1, 109)), (94, (0, 25)), (98, (0, 23)), (114, (0, 29)), (117, (1, 230)), (122, (0, 35)), (125, (0, 36)), (128, (0, 26)), (132, (0, 24)), (135, (0, 27)), (145, (0, 28)), (148, (0, 30)), (151, (0, 37)), (155, (0, 40)), (158, (0, 111)), (164, (0, 31)), (167, (0, 33)), (170, (0, 38)), (173, (1, 107)), (176, (0, 113)), (180, (0, 112)), (187, (0, 115)), (193, (1, 118)), (197, (1, 119)), (203, (1, 120)), (207, (0, 117)), (210, (0, 116)), (216, (0, 13)), (219, (1, 108)), (222, (0, 11)), (226, (0, 12)), (229, (0, 14)), (232, (0, 17)), (235, (0, 18)), (238, (0, 16)), (240, (0, 19)), (248, (1, 110)), (251, (0, 1)), (252, (0, 2)), (255, (0, 3)), (264, (0, 32)), (270, (7, 0)), (275, (6, 0)), (281, (0, 114))],
  [(1, (5, 0)), (52, (0, 122)), (57, (1, 123)), (73, (0, 136)), (77, (1, 134)), (81, (1, 135)), (94, (0, 137)), (97, (0, 139)), (101, (0, 142)), (104, (0, 140)), (108, (0, 141)), (111, (0, 138)), (115, (0, 144)), (119, (0, 153)), (123, (0, 145)), (127, (0, 143)), (131, (0, 147)), (134, (0, 146)), (138, (1, 128)), (142, (0, 148)), (154, (0, 127)), (158, (0, 152)), (163, (1, 124)), (166, (0, 126)), (169, (0, 155)), (172, (1, 131)), (175, (0, 125)), (180, (0, 156)), (183, (0, 157)), (186, (0, 163)), (189, (0, 167)), (192, (0, 168)), (195, (1, 130)), (198, (0, 170)), (203, (0, 171)), (207, (0, 174)), (212, (0, 175)), (215, (0, 178)), (218, (0, 177)), (221, (0, 179)), (224, (0, 181)), (229, (1, 186)), (232, (1, 129)), (235, (0, 188)), (239, (1, 205)), (242, (0, 196)), (247, (1, 194)), (253, (1, 195)), (261, (0, 201)), (265, (0, 209)), (268, (1, 206)), (275, (0, 213)), (278, (1, 132)), (284, (0, 215)), (290, (0, 216)), (296, (0, 217)), (299, (0, 218)), (305, (0, 219)), (311, (0, 221)), (314, (0, 220)), (317, (0, 223)), (320, (0, 222)), (323, (0, 224))],
  [(9, (2, 58)), (12, (2, 121)), (15, (0, 59)), (19, (0, 133)), (20, (0, 60)), (24, (0, 149)), (25, (0, 61)), (29, (0, 150)), (30, (0, 62)), (34, (0, 151)), (35, (0, 63)), (39, (0, 154)), (40, (0, 64)), (43, (0, 158)), (44, (0, 65)), (47, (0, 159)), (48, (0, 66)), (52, (0, 160)), (53, (0, 67)), (56, (0, 161)), (57, (0, 68)), (60, (0, 162)), (61, (0, 69)), (64, (0, 164)), (65, (0, 70)), (68, (0, 165)), (69, (0, 71)), (72, (0, 166)), (73, (0, 72)), (76, (0, 169)), (77, (0, 73)), (80, (0, 172)), (81, (0, 74)), (84, (0, 173)), (85, (0, 75)), (88, (0, 175)), (89, (0, 76)), (92, (0, 176)), (93, (0, 77)), (96, (0, 180)), (97, (0, 78)), (100, (0, 182)), (101, (0, 79)), (104, (0, 183)), (105, (0, 80)), (108, (0, 184)), (109, (0, 81)), (112, (0, 185)), (113, (0, 82)), (116, (0, 187)), (117, (0, 83)), (120, (0, 189)), (121, (0, 84)), (124, (0, 190)), (125, (0, 85)), (128, (0, 191)), (129, (0, 86)), (132, (0, 192)), (133, (0, 87)), (136, (0, 193)), (137, (0, 88)), (140, (0, 197)), (141, (0, 89)), (145, (0, 198)), (146, (0, 90)), (150, (0, 199)), (151, (0, 91)), (154, (0, 200)), (155, (0, 92)), (158, (0, 202)), (159, (0, 93)), (162, (0, 203)), (163, (0, 94)), (166, (0, 204)), (167, (0, 95)), (170, (0, 211)), (171, (0, 96)), (174, (0, 207)), (175, (0, 97)), (178, (0, 208)), (179, (0, 98)), (182, (0, 210)), (183, (0, 99)), (186, (0, 212)), (187, (0, 100)), (190, (0, 214)), (191, (0, 101)), (194, (0, 225)), (195, (0, 102)), (198, (0, 226)), (199, (0, 103)), (202, (0, 227)), (203, (0, 104)), (206, (0, 228)), (207, (0, 105)), (210, (0, 229))],
  [(335, (0, 233)), (492, (0, 234)), (495, (1, 236)), (1059, (1, 237))],
  [(9, (1, 235))],
  [],
  []]
def lkI : List (List (Nat × Int32)) := [[],
  [],
  [],
  [(104, 1103515245)],
  [],
  [],
  [(206, 1103515245)],
  [],
  [],
  [],
  [],
  [(265, 1431655765), (266, 858993459), (267, 252645135)]]
def lkL : List (List (Nat × Int64)) := [[],
  [],
  [],
  [],
  [],
  [(191, (-1)), (201, 100)],
  [(55, 8), (65, 255), (148, 3), (150, 99), (152, 9), (161, 5), (178, 4), (201, 60), (210, 30), (227, 20), (245, (-1)), (251, 100), (257, 10), (259, 2), (271, 13), (273, 6)],
  [(13, 4294967295)],
  [],
  [],
  [],
  []]
def lkS : List (List (Nat × Nat)) := [[],
  [],
  [],
  [],
  [(71, 6), (77, 7), (79, 8), (102, 0), (104, 1), (106, 2), (108, 3), (110, 4), (112, 5), (114, 9), (116, 10), (117, 11), (119, 12), (121, 13), (123, 14)],
  [],
  [],
  [],
  [],
  [],
  [],
  []]
def lkC : List (List (Nat × Nat)) := [[],
  [],
  [],
  [],
  [],
  [(7, 3), (22, 4), (29, 1), (36, 2), (43, 0)],
  [],
  [(7, 5), (10, 6)],
  [],
  [],
  [],
  []]
def rLen : List Nat := [5, 6, 7, 6, 4, 4, 2, 5, 5, 6, 7, 3, 5, 5, 4]
def rByt : List (List Int32) := [[116, 104, 105, 110, 103], [118, 101, 115, 115, 101, 108], [114, 117, 98, 98, 105, 115, 104], [109, 111, 115, 97, 105, 99], [115, 104, 111, 101], [115, 97, 110, 100], [105, 110], [119, 111, 114, 116, 104], [116, 114, 117, 116, 104], [114, 101, 97, 100, 101, 114], [111, 112, 105, 110, 105, 111, 110], [100, 105, 103], [115, 104, 105, 110, 101], [102, 105, 108, 116, 104], [115, 108, 105, 112]]
def pAc_init : List (Nat × Instr × Nat) := [(0, .aload_n 0, 1), (1, .invokespecial 3, 3), (4, .aload_n 0, 1), (5, .bipush 30, 2), (7, .newarray .int, 2), (9, .putfield 11, 3), (12, .return_, 1)]
def pAc_clear : List (Nat × Instr × Nat) := [(0, .aload_n 0, 1), (1, .iconst 0, 1), (2, .putfield 15, 3), (5, .aload_n 0, 1), (6, .iconst 0, 1), (7, .putfield 19, 3), (10, .return_, 1)]
def pAc_holdOne : List (Nat × Instr × Nat) := [(0, .aload_n 0, 1), (1, .iload_n 1, 1), (2, .putfield 23, 3), (5, .aload_n 0, 1), (6, .iload_n 2, 1), (7, .putfield 26, 3), (10, .aload_n 0, 1), (11, .iload_n 3, 1), (12, .putfield 29, 3), (15, .return_, 1)]
def pAc_answer : List (Nat × Instr × Nat) := [(0, .aload_n 0, 1), (1, .iload_n 1, 1), (2, .iload_n 2, 1), (3, .iconst 0, 1), (4, .invokevirtual 32, 3), (7, .istore_n 3, 1), (8, .aload_n 0, 1), (9, .getfield 19, 3), (12, .ifCond .eq 8, 3), (15, .bipush (-15), 2), (17, .goto 4, 3), (20, .iload_n 3, 1), (21, .ireturn, 1)]
def pAc_own : List (Nat × Instr × Nat) := [(0, .aload_n 0, 1), (1, .aload_n 0, 1), (2, .getfield 26, 3), (5, .iload_n 1, 1), (6, .invokestatic 36, 3), (9, .iload_n 2, 1), (10, .iload_n 3, 1), (11, .invokevirtual 40, 3), (14, .ireturn, 1)]
def pAc_inherited : List (Nat × Instr × Nat) := [(0, .aload_n 0, 1), (1, .getstatic 43, 3), (4, .iload_n 1, 1), (5, .iaload, 1), (6, .iload_n 2, 1), (7, .invokestatic 36, 3), (10, .iload_n 3, 1), (11, .iload 4, 2), (13, .invokevirtual 40, 3), (16, .ireturn, 1)]
def pAc_bodyFor : List (Nat × Instr × Nat) := [(0, .iload_n 0, 1), (1, .istore_n 2, 1), (2, .iconst 0, 1), (3, .istore_n 3, 1), (4, .iload_n 3, 1), (5, .bipush 6, 2), (7, .if_icmp .ge 42, 3), (10, .iload_n 2, 1), (11, .iconst 5, 1), (12, .invokestatic 46, 3), (15, .ifCond .eq 34, 3), (18, .getstatic 50, 3), (21, .iload_n 2, 1), (22, .iconst 4, 1), (23, .imul, 1), (24, .iload_n 1, 1), (25, .iadd, 1), (26, .iaload, 1), (27, .istore 4, 2), (29, .iload 4, 2), (31, .ifCond .eq 6, 3), (34, .iload 4, 2), (36, .ireturn, 1), (37, .getstatic 43, 3), (40, .iload_n 2, 1), (41, .iaload, 1), (42, .istore_n 2, 1), (43, .iinc 3 1, 3), (46, .goto (-42), 3), (49, .iconst 0, 1), (50, .ireturn, 1)]
def pAc_run : List (Nat × Instr × Nat) := [(0, .aload_n 0, 1), (1, .getfield 19, 3), (4, .ifCond .ne 9, 3), (7, .iload_n 3, 1), (8, .bipush 40, 2), (10, .if_icmp .le 5, 3), (13, .iconst 0, 1), (14, .ireturn, 1), (15, .aload_n 0, 1), (16, .iload_n 1, 1), (17, .invokevirtual 53, 3), (20, .iload_n 3, 1), (21, .iconst 1, 1), (22, .iadd, 1), (23, .istore 4, 2), (25, .iload_n 1, 1), (26, .tableswitch 413 10 61 #[222, 231, 247, 253, 413, 413, 413, 413, 413, 413, 265, 413, 413, 413, 413, 413, 413, 413, 413, 413, 278, 290, 413, 413, 413, 413, 413, 413, 413, 413, 312, 324, 413, 413, 413, 413, 413, 413, 413, 413, 346, 361, 413, 413, 413, 413, 413, 413, 413, 413, 376, 391], 222), (248, .iload_n 2, 1), (249, .iconst 2, 1), (250, .imul, 1), (251, .aload_n 0, 1), (252, .getfield 23, 3), (255, .iadd, 1), (256, .ireturn, 1), (257, .aload_n 0, 1), (258, .iconst 0, 1), (259, .iload_n 2, 1), (260, .iload 4, 2), (262, .invokevirtual 32, 3), (265, .iconst 3, 1), (266, .imul, 1), (267, .aload_n 0, 1), (268, .getfield 29, 3), (271, .isub, 1), (272, .ireturn, 1), (273, .aload_n 0, 1), (274, .iload_n 2, 1), (275, .invokevirtual 57, 3), (278, .ireturn, 1), (279, .aload_n 0, 1), (280, .iconst 1, 1), (281, .iload_n 2, 1), (282, .iload 4, 2), (284, .invokevirtual 32, 3), (287, .bipush 70, 2), (289, .ixor, 1), (290, .ireturn, 1), (291, .aload_n 0, 1), (292, .iconst 1, 1), (293, .iconst 1, 1), (294, .iload_n 2, 1), (295, .iload 4, 2), (297, .invokevirtual 61, 3), (300, .bipush 8, 2), (302, .iadd, 1), (303, .ireturn, 1), (304, .iconst 0, 1), (305, .aload_n 0, 1), (306, .iconst 2, 1), (307, .iconst 0, 1), (308, .iload_n 2, 1), (309, .iload 4, 2), (311, .invokevirtual 61, 3), (314, .isub, 1), (315, .ireturn, 1), (316, .aload_n 0, 1), (317, .iconst 2, 1), (318, .iconst 3, 1), (319, .iload_n 2, 1), (320, .iload 4, 2), (322, .invokevirtual 61, 3), (325, .aload_n 0, 1), (326, .iconst 2, 1), (327, .aload_n 0, 1), (328, .getfield 23, 3), (331, .iload 4, 2), (333, .invokevirtual 32, 3), (336, .isub, 1), (337, .ireturn, 1), (338, .aload_n 0, 1), (339, .iconst 4, 1), (340, .iconst 0, 1), (341, .iload_n 2, 1), (342, .iload 4, 2), (344, .invokevirtual 61, 3), (347, .iconst 5, 1), (348, .ixor, 1), (349, .ireturn, 1), (350, .aload_n 0, 1), (351, .iconst 4, 1), (352, .iconst 1, 1), (353, .iload_n 2, 1), (354, .iload 4, 2), (356, .invokevirtual 61, 3), (359, .aload_n 0, 1), (360, .iconst 0, 1), (361, .aload_n 0, 1), (362, .getfield 29, 3), (365, .iload 4, 2), (367, .invokevirtual 32, 3), (370, .isub, 1), (371, .ireturn, 1), (372, .aload_n 0, 1), (373, .iconst 3, 1), (374, .iconst 2, 1), (375, .iload_n 2, 1), (376, .bipush 9, 2), (378, .iadd, 1), (379, .iload 4, 2), (381, .invokevirtual 61, 3), (384, .iconst 2, 1), (385, .imul, 1), (386, .ireturn, 1), (387, .aload_n 0, 1), (388, .iconst 3, 1), (389, .iconst 0, 1), (390, .iload_n 2, 1), (391, .iload 4, 2), (393, .invokevirtual 61, 3), (396, .aload_n 0, 1), (397, .getfield 23, 3), (400, .isub, 1), (401, .ireturn, 1), (402, .aload_n 0, 1), (403, .iconst 5, 1), (404, .iconst 3, 1), (405, .iload_n 2, 1), (406, .iload 4, 2), (408, .invokevirtual 61, 3), (411, .aload_n 0, 1), (412, .getfield 29, 3), (415, .iadd, 1), (416, .ireturn, 1), (417, .aload_n 0, 1), (418, .iconst 5, 1), (419, .iconst 2, 1), (420, .iload_n 2, 1), (421, .iload 4, 2), (423, .invokevirtual 61, 3), (426, .aload_n 0, 1), (427, .iconst 0, 1), (428, .aload_n 0, 1), (429, .getfield 23, 3), (432, .iload 4, 2), (434, .invokevirtual 32, 3), (437, .ixor, 1), (438, .ireturn, 1), (439, .iconst 0, 1), (440, .ireturn, 1)]
def pAc_part : List (Nat × Instr × Nat) := [(0, .aload_n 0, 1), (1, .getfield 29, 3), (4, .aload_n 0, 1), (5, .getfield 23, 3), (8, .isub, 1), (9, .istore_n 2, 1), (10, .iload_n 2, 1), (11, .ifCond .ne 10, 3), (14, .aload_n 0, 1), (15, .iconst 1, 1), (16, .putfield 19, 3), (19, .iconst 0, 1), (20, .ireturn, 1), (21, .iload_n 1, 1), (22, .iload_n 2, 1), (23, .idiv, 1), (24, .ireturn, 1)]
def pAc_note : List (Nat × Instr × Nat) := [(0, .aload_n 0, 1), (1, .getfield 15, 3), (4, .bipush 30, 2), (6, .if_icmp .ge 23, 3), (9, .aload_n 0, 1), (10, .getfield 11, 3), (13, .aload_n 0, 1), (14, .getfield 15, 3), (17, .iload_n 1, 1), (18, .iastore, 1), (19, .aload_n 0, 1), (20, .dup, 1), (21, .getfield 15, 3), (24, .iconst 1, 1), (25, .iadd, 1), (26, .putfield 15, 3), (29, .return_, 1)]
def pSe_init : List (Nat × Instr × Nat) := [(0, .aload_n 0, 1), (1, .invokespecial 3, 3), (4, .aload_n 0, 1), (5, .iconst 4, 1), (6, .newarray .int, 2), (8, .putfield 9, 3), (11, .aload_n 0, 1), (12, .iconst 4, 1), (13, .newarray .int, 2), (15, .putfield 15, 3), (18, .aload_n 0, 1), (19, .sipush 160, 3), (22, .newarray .int, 2), (24, .putfield 18, 3), (27, .iconst 0, 1), (28, .istore_n 1, 1), (29, .iload_n 1, 1), (30, .iconst 4, 1), (31, .if_icmp .ge 16, 3), (34, .aload_n 0, 1), (35, .getfield 9, 3), (38, .iload_n 1, 1), (39, .iconst (-1), 1), (40, .iastore, 1), (41, .iinc 1 1, 3), (44, .goto (-15), 3), (47, .return_, 1)]
def pSe_begin : List (Nat × Instr × Nat) := [(0, .aload_n 0, 1), (1, .getfield 9, 3), (4, .iload_n 1, 1), (5, .iload_n 2, 1), (6, .iastore, 1), (7, .aload_n 0, 1), (8, .getfield 15, 3), (11, .iload_n 1, 1), (12, .iload_n 3, 1), (13, .iastore, 1), (14, .iconst 0, 1), (15, .istore 4, 2), (17, .iload 4, 2), (19, .bipush 40, 2), (21, .if_icmp .ge 22, 3), (24, .aload_n 0, 1), (25, .getfield 18, 3), (28, .iload_n 1, 1), (29, .bipush 40, 2), (31, .imul, 1), (32, .iload 4, 2), (34, .iadd, 1), (35, .iconst 0, 1), (36, .iastore, 1), (37, .iinc 4 1, 3), (40, .goto (-23), 3), (43, .return_, 1)]
def pSe_holds : List (Nat × Instr × Nat) := [(0, .aload_n 0, 1), (1, .getfield 9, 3), (4, .iload_n 1, 1), (5, .iaload, 1), (6, .iconst (-1), 1), (7, .if_icmp .eq 21, 3), (10, .iload_n 2, 1), (11, .ifCond .lt 17, 3), (14, .iload_n 2, 1), (15, .aload_n 0, 1), (16, .getfield 15, 3), (19, .iload_n 1, 1), (20, .iaload, 1), (21, .if_icmp .ge 7, 3), (24, .iconst 1, 1), (25, .goto 4, 3), (28, .iconst 0, 1), (29, .ireturn, 1)]
def pSe_number : List (Nat × Instr × Nat) := [(0, .aload_n 0, 1), (1, .getfield 18, 3), (4, .iload_n 1, 1), (5, .bipush 40, 2), (7, .imul, 1), (8, .iload_n 2, 1), (9, .iadd, 1), (10, .iaload, 1), (11, .ireturn, 1)]
def pSe_write : List (Nat × Instr × Nat) := [(0, .iload_n 3, 1), (1, .istore 4, 2), (3, .aload_n 0, 1), (4, .getfield 9, 3), (7, .iload_n 1, 1), (8, .iaload, 1), (9, .ifCond .ne 10, 3), (12, .iload_n 3, 1), (13, .i2b, 1), (14, .istore 4, 2), (16, .goto 17, 3), (19, .aload_n 0, 1), (20, .getfield 9, 3), (23, .iload_n 1, 1), (24, .iaload, 1), (25, .iconst 1, 1), (26, .if_icmp .ne 7, 3), (29, .iload_n 3, 1), (30, .i2s, 1), (31, .istore 4, 2), (33, .aload_n 0, 1), (34, .getfield 18, 3), (37, .iload_n 1, 1), (38, .bipush 40, 2), (40, .imul, 1), (41, .iload_n 2, 1), (42, .iadd, 1), (43, .iload 4, 2), (45, .iastore, 1), (46, .return_, 1)]
def pSf_init : List (Nat × Instr × Nat) := [(0, .aload_n 0, 1), (1, .invokespecial 3, 3), (4, .aload_n 0, 1), (5, .iconst 4, 1), (6, .newarray .int, 2), (8, .putfield 9, 3), (11, .aload_n 0, 1), (12, .iconst 4, 1), (13, .newarray .int, 2), (15, .putfield 15, 3), (18, .aload_n 0, 1), (19, .iconst 4, 1), (20, .newarray .int, 2), (22, .putfield 18, 3), (25, .iconst 0, 1), (26, .istore_n 1, 1), (27, .iload_n 1, 1), (28, .iconst 4, 1), (29, .if_icmp .ge 14, 3), (32, .aload_n 0, 1), (33, .iload_n 1, 1), (34, .invokevirtual 21, 3), (37, .iinc 1 1, 3), (40, .goto (-13), 3), (43, .return_, 1)]
def pSf_clear : List (Nat × Instr × Nat) := [(0, .aload_n 0, 1), (1, .getfield 9, 3), (4, .iload_n 1, 1), (5, .iconst (-1), 1), (6, .iastore, 1), (7, .aload_n 0, 1), (8, .getfield 15, 3), (11, .iload_n 1, 1), (12, .iconst (-1), 1), (13, .iastore, 1), (14, .aload_n 0, 1), (15, .getfield 18, 3), (18, .iload_n 1, 1), (19, .iconst 0, 1), (20, .iastore, 1), (21, .return_, 1)]
def pSf_holdThing : List (Nat × Instr × Nat) := [(0, .aload_n 0, 1), (1, .iload_n 1, 1), (2, .invokevirtual 21, 3), (5, .aload_n 0, 1), (6, .getfield 9, 3), (9, .iload_n 1, 1), (10, .iload_n 2, 1), (11, .iastore, 1), (12, .return_, 1)]
def pSf_holdRow : List (Nat × Instr × Nat) := [(0, .aload_n 0, 1), (1, .iload_n 1, 1), (2, .invokevirtual 21, 3), (5, .aload_n 0, 1), (6, .getfield 15, 3), (9, .iload_n 1, 1), (10, .iload_n 2, 1), (11, .iastore, 1), (12, .aload_n 0, 1), (13, .getfield 18, 3), (16, .iload_n 1, 1), (17, .iload_n 3, 1), (18, .iastore, 1), (19, .return_, 1)]
def pSf_holdsRow : List (Nat × Instr × Nat) := [(0, .aload_n 0, 1), (1, .getfield 15, 3), (4, .iload_n 1, 1), (5, .iaload, 1), (6, .iconst (-1), 1), (7, .if_icmp .eq 7, 3), (10, .iconst 1, 1), (11, .goto 4, 3), (14, .iconst 0, 1), (15, .ireturn, 1)]
def pSt_init : List (Nat × Instr × Nat) := [(0, .aload_n 0, 1), (1, .invokespecial 3, 3), (4, .aload_n 0, 1), (5, .bipush 8, 2), (7, .newarray .int, 2), (9, .putfield 9, 3), (12, .aload_n 0, 1), (13, .bipush 8, 2), (15, .newarray .int, 2), (17, .putfield 15, 3), (20, .aload_n 0, 1), (21, .bipush 8, 2), (23, .newarray .int, 2), (25, .putfield 18, 3), (28, .aload_n 0, 1), (29, .bipush 8, 2), (31, .newarray .int, 2), (33, .putfield 21, 3), (36, .aload_n 0, 1), (37, .bipush 8, 2), (39, .newarray .int, 2), (41, .putfield 24, 3), (44, .aload_n 0, 1), (45, .iconst 4, 1), (46, .newarray .int, 2), (48, .putfield 27, 3), (51, .aload_n 0, 1), (52, .iconst 1, 1), (53, .putfield 30, 3), (56, .aload_n 0, 1), (57, .invokevirtual 34, 3), (60, .return_, 1)]
def pSt_begin : List (Nat × Instr × Nat) := [(0, .aload_n 0, 1), (1, .getfield 27, 3), (4, .iconst 0, 1), (5, .iconst 3, 1), (6, .iastore, 1), (7, .aload_n 0, 1), (8, .getfield 27, 3), (11, .iconst 1, 1), (12, .iconst 2, 1), (13, .iastore, 1), (14, .aload_n 0, 1), (15, .getfield 27, 3), (18, .iconst 2, 1), (19, .iconst 2, 1), (20, .iastore, 1), (21, .aload_n 0, 1), (22, .getfield 27, 3), (25, .iconst 3, 1), (26, .bipush 20, 2), (28, .iastore, 1), (29, .aload_n 0, 1), (30, .iconst 0, 1), (31, .putfield 37, 3), (34, .aload_n 0, 1), (35, .iconst 0, 1), (36, .putfield 40, 3), (39, .aload_n 0, 1), (40, .iconst 0, 1), (41, .putfield 43, 3), (44, .aload_n 0, 1), (45, .iconst 0, 1), (46, .putfield 46, 3), (49, .aload_n 0, 1), (50, .bipush 50, 2), (52, .putfield 49, 3), (55, .return_, 1)]
def pSt_become : List (Nat × Instr × Nat) := [(0, .aload_n 1, 1), (1, .getfield 9, 3), (4, .iconst 0, 1), (5, .aload_n 0, 1), (6, .getfield 9, 3), (9, .iconst 0, 1), (10, .bipush 8, 2), (12, .invokestatic 52, 3), (15, .aload_n 1, 1), (16, .getfield 15, 3), (19, .iconst 0, 1), (20, .aload_n 0, 1), (21, .getfield 15, 3), (24, .iconst 0, 1), (25, .bipush 8, 2), (27, .invokestatic 52, 3), (30, .aload_n 1, 1), (31, .getfield 18, 3), (34, .iconst 0, 1), (35, .aload_n 0, 1), (36, .getfield 18, 3), (39, .iconst 0, 1), (40, .bipush 8, 2), (42, .invokestatic 52, 3), (45, .aload_n 1, 1), (46, .getfield 21, 3), (49, .iconst 0, 1), (50, .aload_n 0, 1), (51, .getfield 21, 3), (54, .iconst 0, 1), (55, .bipush 8, 2), (57, .invokestatic 52, 3), (60, .aload_n 1, 1), (61, .getfield 24, 3), (64, .iconst 0, 1), (65, .aload_n 0, 1), (66, .getfield 24, 3), (69, .iconst 0, 1), (70, .bipush 8, 2), (72, .invokestatic 52, 3), (75, .aload_n 1, 1), (76, .getfield 27, 3), (79, .iconst 0, 1), (80, .aload_n 0, 1), (81, .getfield 27, 3), (84, .iconst 0, 1), (85, .iconst 4, 1), (86, .invokestatic 52, 3), (89, .aload_n 0, 1), (90, .aload_n 1, 1), (91, .getfield 37, 3), (94, .putfield 37, 3), (97, .aload_n 0, 1), (98, .aload_n 1, 1), (99, .getfield 40, 3), (102, .putfield 40, 3), (105, .aload_n 0, 1), (106, .aload_n 1, 1), (107, .getfield 43, 3), (110, .putfield 43, 3), (113, .aload_n 0, 1), (114, .aload_n 1, 1), (115, .getfield 46, 3), (118, .putfield 46, 3), (121, .aload_n 0, 1), (122, .aload_n 1, 1), (123, .getfield 49, 3), (126, .putfield 49, 3), (129, .aload_n 0, 1), (130, .aload_n 1, 1), (131, .getfield 30, 3), (134, .putfield 30, 3), (137, .return_, 1)]
def pSt_has : List (Nat × Instr × Nat) := [(0, .iload_n 1, 1), (1, .ifCond .lt 15, 3), (4, .iload_n 1, 1), (5, .aload_n 0, 1), (6, .getfield 37, 3), (9, .if_icmp .ge 7, 3), (12, .iconst 1, 1), (13, .goto 4, 3), (16, .iconst 0, 1), (17, .ireturn, 1)]
def pSt_lies : List (Nat × Instr × Nat) := [(0, .iload_n 1, 1), (1, .ifCond .lt 26, 3), (4, .iload_n 1, 1), (5, .aload_n 0, 1), (6, .getfield 37, 3), (9, .if_icmp .ge 18, 3), (12, .aload_n 0, 1), (13, .getfield 21, 3), (16, .iload_n 1, 1), (17, .iaload, 1), (18, .bipush 6, 2), (20, .if_icmp .eq 7, 3), (23, .iconst 1, 1), (24, .goto 4, 3), (27, .iconst 0, 1), (28, .ireturn, 1)]
def pSt_add : List (Nat × Instr × Nat) := [(0, .aload_n 0, 1), (1, .getfield 37, 3), (4, .bipush 8, 2), (6, .if_icmp .lt 6, 3), (9, .bipush (-2), 2), (11, .ireturn, 1), (12, .aload_n 0, 1), (13, .getfield 37, 3), (16, .istore 5, 2), (18, .aload_n 0, 1), (19, .dup, 1), (20, .getfield 37, 3), (23, .iconst 1, 1), (24, .iadd, 1), (25, .putfield 37, 3), (28, .aload_n 0, 1), (29, .getfield 9, 3), (32, .iload 5, 2), (34, .iload_n 1, 1), (35, .iastore, 1), (36, .aload_n 0, 1), (37, .getfield 15, 3), (40, .iload 5, 2), (42, .iload_n 2, 1), (43, .iastore, 1), (44, .aload_n 0, 1), (45, .getfield 18, 3), (48, .iload 5, 2), (50, .iload_n 3, 1), (51, .iastore, 1), (52, .aload_n 0, 1), (53, .iload 5, 2), (55, .iload 4, 2), (57, .invokevirtual 58, 3), (60, .iload 5, 2), (62, .ireturn, 1)]
def pSt_layIn : List (Nat × Instr × Nat) := [(0, .aload_n 0, 1), (1, .getfield 21, 3), (4, .iload_n 1, 1), (5, .iload_n 2, 1), (6, .iastore, 1), (7, .aload_n 0, 1), (8, .getfield 24, 3), (11, .iload_n 1, 1), (12, .aload_n 0, 1), (13, .getfield 40, 3), (16, .iastore, 1), (17, .aload_n 0, 1), (18, .dup, 1), (19, .getfield 40, 3), (22, .iconst 1, 1), (23, .iadd, 1), (24, .putfield 40, 3), (27, .return_, 1)]
def pSt_setLying : List (Nat × Instr × Nat) := [(0, .iconst 0, 1), (1, .istore_n 1, 1), (2, .iconst 0, 1), (3, .istore_n 2, 1), (4, .iload_n 2, 1), (5, .aload_n 0, 1), (6, .getfield 37, 3), (9, .if_icmp .ge 26, 3), (12, .aload_n 0, 1), (13, .getfield 21, 3), (16, .iload_n 2, 1), (17, .iaload, 1), (18, .bipush 6, 2), (20, .if_icmp .eq 9, 3), (23, .iload_n 1, 1), (24, .iconst 1, 1), (25, .iload_n 2, 1), (26, .ishl, 1), (27, .ior, 1), (28, .istore_n 1, 1), (29, .iinc 2 1, 3), (32, .goto (-28), 3), (35, .iload_n 1, 1), (36, .ireturn, 1)]
def pSt_setIn : List (Nat × Instr × Nat) := [(0, .iconst 0, 1), (1, .istore_n 2, 1), (2, .iconst 0, 1), (3, .istore_n 3, 1), (4, .iload_n 3, 1), (5, .aload_n 0, 1), (6, .getfield 37, 3), (9, .if_icmp .ge 25, 3), (12, .aload_n 0, 1), (13, .getfield 21, 3), (16, .iload_n 3, 1), (17, .iaload, 1), (18, .iload_n 1, 1), (19, .if_icmp .ne 9, 3), (22, .iload_n 2, 1), (23, .iconst 1, 1), (24, .iload_n 3, 1), (25, .ishl, 1), (26, .ior, 1), (27, .istore_n 2, 1), (28, .iinc 3 1, 3), (31, .goto (-27), 3), (34, .iload_n 2, 1), (35, .ireturn, 1)]
def pSt_setAbove : List (Nat × Instr × Nat) := [(0, .iconst 0, 1), (1, .istore_n 2, 1), (2, .iload_n 1, 1), (3, .ifCond .lt 22, 3), (6, .iload_n 1, 1), (7, .aload_n 0, 1), (8, .getfield 37, 3), (11, .if_icmp .ge 14, 3), (14, .aload_n 0, 1), (15, .getfield 21, 3), (18, .iload_n 1, 1), (19, .iaload, 1), (20, .bipush 6, 2), (22, .if_icmp .ne 5, 3), (25, .iload_n 2, 1), (26, .ireturn, 1), (27, .iconst 0, 1), (28, .istore_n 3, 1), (29, .iload_n 3, 1), (30, .aload_n 0, 1), (31, .getfield 37, 3), (34, .if_icmp .ge 45, 3), (37, .aload_n 0, 1), (38, .getfield 21, 3), (41, .iload_n 3, 1), (42, .iaload, 1), (43, .aload_n 0, 1), (44, .getfield 21, 3), (47, .iload_n 1, 1), (48, .iaload, 1), (49, .if_icmp .ne 24, 3), (52, .aload_n 0, 1), (53, .getfield 24, 3), (56, .iload_n 3, 1), (57, .iaload, 1), (58, .aload_n 0, 1), (59, .getfield 24, 3), (62, .iload_n 1, 1), (63, .iaload, 1), (64, .if_icmp .le 9, 3), (67, .iload_n 2, 1), (68, .iconst 1, 1), (69, .iload_n 3, 1), (70, .ishl, 1), (71, .ior, 1), (72, .istore_n 2, 1), (73, .iinc 3 1, 3), (76, .goto (-47), 3), (79, .iload_n 2, 1), (80, .ireturn, 1)]
def pSt_uppermost : List (Nat × Instr × Nat) := [(0, .bipush 8, 2), (2, .istore_n 2, 1), (3, .iconst (-1), 1), (4, .istore_n 3, 1), (5, .iconst 0, 1), (6, .istore 4, 2), (8, .iload 4, 2), (10, .aload_n 0, 1), (11, .getfield 37, 3), (14, .if_icmp .ge 42, 3), (17, .aload_n 0, 1), (18, .getfield 21, 3), (21, .iload 4, 2), (23, .iaload, 1), (24, .iload_n 1, 1), (25, .if_icmp .ne 25, 3), (28, .aload_n 0, 1), (29, .getfield 24, 3), (32, .iload 4, 2), (34, .iaload, 1), (35, .iload_n 3, 1), (36, .if_icmp .le 14, 3), (39, .iload 4, 2), (41, .istore_n 2, 1), (42, .aload_n 0, 1), (43, .getfield 24, 3), (46, .iload 4, 2), (48, .iaload, 1), (49, .istore_n 3, 1), (50, .iinc 4 1, 3), (53, .goto (-45), 3), (56, .iload_n 2, 1), (57, .ireturn, 1)]
def pSt_worthLying : List (Nat × Instr × Nat) := [(0, .iconst 0, 1), (1, .istore_n 1, 1), (2, .iconst 0, 1), (3, .istore_n 2, 1), (4, .iload_n 2, 1), (5, .aload_n 0, 1), (6, .getfield 37, 3), (9, .if_icmp .ge 29, 3), (12, .aload_n 0, 1), (13, .getfield 21, 3), (16, .iload_n 2, 1), (17, .iaload, 1), (18, .bipush 6, 2), (20, .if_icmp .eq 12, 3), (23, .iload_n 1, 1), (24, .aload_n 0, 1), (25, .getfield 15, 3), (28, .iload_n 2, 1), (29, .iaload, 1), (30, .iadd, 1), (31, .istore_n 1, 1), (32, .iinc 2 1, 3), (35, .goto (-31), 3), (38, .iload_n 1, 1), (39, .ireturn, 1)]
def pSt_pitsInUse : List (Nat × Instr × Nat) := [(0, .iconst 0, 1), (1, .istore_n 1, 1), (2, .iconst 0, 1), (3, .istore_n 2, 1), (4, .iload_n 2, 1), (5, .bipush 6, 2), (7, .if_icmp .ge 20, 3), (10, .aload_n 0, 1), (11, .iload_n 2, 1), (12, .invokevirtual 62, 3), (15, .ifCond .eq 6, 3), (18, .iinc 1 1, 3), (21, .iinc 2 1, 3), (24, .goto (-20), 3), (27, .iload_n 1, 1), (28, .ireturn, 1)]
def pSt_cover : List (Nat × Instr × Nat) := [(0, .aload_n 0, 1), (1, .bipush 63, 2), (3, .invokevirtual 66, 3), (6, .istore_n 1, 1), (7, .iconst 0, 1), (8, .istore_n 2, 1), (9, .bipush 7, 2), (11, .istore_n 3, 1), (12, .iconst 0, 1), (13, .istore 4, 2), (15, .iload 4, 2), (17, .bipush 64, 2), (19, .if_icmp .ge 38, 3), (22, .iload 4, 2), (24, .invokestatic 69, 3), (27, .istore 5, 2), (29, .iload 5, 2), (31, .iload_n 3, 1), (32, .if_icmp .ge 19, 3), (35, .aload_n 0, 1), (36, .iload 4, 2), (38, .invokevirtual 66, 3), (41, .iload_n 1, 1), (42, .if_icmp .ne 9, 3), (45, .iload 4, 2), (47, .istore_n 2, 1), (48, .iload 5, 2), (50, .istore_n 3, 1), (51, .iinc 4 1, 3), (54, .goto (-39), 3), (57, .iload_n 2, 1), (58, .ireturn, 1)]
def pSt_kindsIn : List (Nat × Instr × Nat) := [(0, .iconst 0, 1), (1, .istore_n 2, 1), (2, .iconst 0, 1), (3, .istore_n 3, 1), (4, .iload_n 3, 1), (5, .aload_n 0, 1), (6, .getfield 37, 3), (9, .if_icmp .ge 45, 3), (12, .aload_n 0, 1), (13, .getfield 21, 3), (16, .iload_n 3, 1), (17, .iaload, 1), (18, .bipush 6, 2), (20, .if_icmp .eq 28, 3), (23, .iload_n 1, 1), (24, .aload_n 0, 1), (25, .getfield 21, 3), (28, .iload_n 3, 1), (29, .iaload, 1), (30, .ishr, 1), (31, .iconst 1, 1), (32, .iand, 1), (33, .iconst 1, 1), (34, .if_icmp .ne 14, 3), (37, .iload_n 2, 1), (38, .iconst 1, 1), (39, .aload_n 0, 1), (40, .getfield 9, 3), (43, .iload_n 3, 1), (44, .iaload, 1), (45, .ishl, 1), (46, .ior, 1), (47, .istore_n 2, 1), (48, .iinc 3 1, 3), (51, .goto (-47), 3), (54, .iload_n 2, 1), (55, .ireturn, 1)]
def pSt_speaking : List (Nat × Instr × Nat) := [(0, .aload_n 0, 1), (1, .getfield 15, 3), (4, .iload_n 1, 1), (5, .iaload, 1), (6, .bipush 10, 2), (8, .idiv, 1), (9, .istore_n 2, 1), (10, .aload_n 0, 1), (11, .getfield 9, 3), (14, .iload_n 1, 1), (15, .iaload, 1), (16, .tableswitch 102 1 5 #[36, 56, 45, 65, 81], 36), (52, .iload_n 2, 1), (53, .aload_n 0, 1), (54, .getfield 27, 3), (57, .iconst 1, 1), (58, .iaload, 1), (59, .iadd, 1), (60, .ireturn, 1), (61, .iload_n 2, 1), (62, .aload_n 0, 1), (63, .getfield 27, 3), (66, .iconst 1, 1), (67, .iaload, 1), (68, .iadd, 1), (69, .iconst 2, 1), (70, .imul, 1), (71, .ireturn, 1), (72, .iload_n 2, 1), (73, .aload_n 0, 1), (74, .getfield 27, 3), (77, .iconst 2, 1), (78, .iaload, 1), (79, .isub, 1), (80, .ireturn, 1), (81, .iload_n 2, 1), (82, .aload_n 0, 1), (83, .getfield 27, 3), (86, .iconst 2, 1), (87, .iaload, 1), (88, .isub, 1), (89, .aload_n 0, 1), (90, .getfield 18, 3), (93, .iload_n 1, 1), (94, .iaload, 1), (95, .iadd, 1), (96, .ireturn, 1), (97, .aload_n 0, 1), (98, .getfield 43, 3), (101, .iconst 3, 1), (102, .irem, 1), (103, .ifCond .ne 7, 3), (106, .iload_n 2, 1), (107, .goto 10, 3), (110, .aload_n 0, 1), (111, .getfield 18, 3), (114, .iload_n 1, 1), (115, .iaload, 1), (116, .ineg, 1), (117, .ireturn, 1), (118, .iload_n 2, 1), (119, .ireturn, 1)]
def pSt_hiding : List (Nat × Instr × Nat) := [(0, .aload_n 0, 1), (1, .getfield 9, 3), (4, .iload_n 1, 1), (5, .iaload, 1), (6, .tableswitch 60 1 5 #[34, 45, 36, 47, 49], 34), (40, .iconst 2, 1), (41, .ireturn, 1), (42, .iconst 2, 1), (43, .aload_n 0, 1), (44, .getfield 18, 3), (47, .iload_n 1, 1), (48, .iaload, 1), (49, .iadd, 1), (50, .ireturn, 1), (51, .iconst 0, 1), (52, .ireturn, 1), (53, .iconst 2, 1), (54, .ireturn, 1), (55, .iconst 1, 1), (56, .aload_n 0, 1), (57, .iload_n 1, 1), (58, .invokevirtual 74, 3), (61, .invokestatic 69, 3), (64, .iadd, 1), (65, .ireturn, 1), (66, .iconst 1, 1), (67, .ireturn, 1)]
def pSt_passYears : List (Nat × Instr × Nat) := [(0, .iconst 0, 1), (1, .istore_n 2, 1), (2, .iload_n 2, 1), (3, .iload_n 1, 1), (4, .if_icmp .ge 13, 3), (7, .aload_n 0, 1), (8, .invokevirtual 77, 3), (11, .iinc 2 1, 3), (14, .goto (-12), 3), (17, .return_, 1)]
def pSt_passYear : List (Nat × Instr × Nat) := [(0, .aload_n 0, 1), (1, .invokevirtual 80, 3), (4, .aload_n 0, 1), (5, .aload_n 0, 1), (6, .getfield 46, 3), (9, .iconst 1, 1), (10, .iadd, 1), (11, .bipush 6, 2), (13, .irem, 1), (14, .putfield 46, 3), (17, .aload_n 0, 1), (18, .dup, 1), (19, .getfield 43, 3), (22, .iconst 1, 1), (23, .iadd, 1), (24, .putfield 43, 3), (27, .return_, 1)]
def pSt_dig : List (Nat × Instr × Nat) := [(0, .aload_n 0, 1), (1, .getfield 27, 3), (4, .iconst 0, 1), (5, .iaload, 1), (6, .istore_n 1, 1), (7, .iconst 0, 1), (8, .istore_n 2, 1), (9, .iload_n 2, 1), (10, .bipush 8, 2), (12, .if_icmp .ge 71, 3), (15, .aload_n 0, 1), (16, .aload_n 0, 1), (17, .getfield 46, 3), (20, .invokevirtual 83, 3), (23, .istore_n 3, 1), (24, .iload_n 3, 1), (25, .bipush 8, 2), (27, .if_icmp .ne 4, 3), (30, .return_, 1), (31, .aload_n 0, 1), (32, .iload_n 3, 1), (33, .invokevirtual 86, 3), (36, .istore 4, 2), (38, .iload 4, 2), (40, .iload_n 1, 1), (41, .if_icmp .le 4, 3), (44, .return_, 1), (45, .iload_n 1, 1), (46, .iload 4, 2), (48, .isub, 1), (49, .istore_n 1, 1), (50, .aload_n 0, 1), (51, .aload_n 0, 1), (52, .getfield 49, 3), (55, .aload_n 0, 1), (56, .iload_n 3, 1), (57, .invokevirtual 89, 3), (60, .iadd, 1), (61, .bipush 99, 2), (63, .invokestatic 92, 3), (66, .putfield 49, 3), (69, .aload_n 0, 1), (70, .getfield 21, 3), (73, .iload_n 3, 1), (74, .bipush 6, 2), (76, .iastore, 1), (77, .iinc 2 1, 3), (80, .goto (-71), 3), (83, .return_, 1)]
def pSt_passDrawnYear : List (Nat × Instr × Nat) := [(0, .aload_n 0, 1), (1, .getfield 37, 3), (4, .ifCond .le 49, 3), (7, .aload_n 0, 1), (8, .invokevirtual 96, 3), (11, .aload_n 0, 1), (12, .getfield 37, 3), (15, .irem, 1), (16, .istore_n 1, 1), (17, .aload_n 0, 1), (18, .invokevirtual 96, 3), (21, .bipush 100, 2), (23, .irem, 1), (24, .aload_n 0, 1), (25, .getfield 27, 3), (28, .iconst 3, 1), (29, .iaload, 1), (30, .if_icmp .ge 23, 3), (33, .aload_n 0, 1), (34, .iload_n 1, 1), (35, .invokevirtual 100, 3), (38, .ifCond .eq 15, 3), (41, .aload_n 0, 1), (42, .iload_n 1, 1), (43, .aload_n 0, 1), (44, .invokevirtual 96, 3), (47, .bipush 6, 2), (49, .irem, 1), (50, .invokevirtual 58, 3), (53, .aload_n 0, 1), (54, .invokevirtual 77, 3), (57, .return_, 1)]
def pSt_draw : List (Nat × Instr × Nat) := [(0, .aload_n 0, 1), (1, .aload_n 0, 1), (2, .getfield 30, 3), (5, .ldc 104, 2), (7, .imul, 1), (8, .sipush 12345, 3), (11, .iadd, 1), (12, .putfield 30, 3), (15, .aload_n 0, 1), (16, .getfield 30, 3), (19, .bipush 16, 2), (21, .iushr, 1), (22, .ireturn, 1)]
def pTx_init : List (Nat × Instr × Nat) := [(0, .aload_n 0, 1), (1, .invokespecial 3, 3), (4, .aload_n 0, 1), (5, .sipush 200, 3), (8, .newarray .byte, 2), (10, .putfield 11, 3), (13, .aload_n 0, 1), (14, .iconst 0, 1), (15, .putfield 15, 3), (18, .return_, 1)]
def pTx_clear : List (Nat × Instr × Nat) := [(0, .aload_n 0, 1), (1, .iconst 0, 1), (2, .putfield 15, 3), (5, .return_, 1)]
def pTx_append : List (Nat × Instr × Nat) := [(0, .iload_n 3, 1), (1, .sipush 200, 3), (4, .aload_n 0, 1), (5, .getfield 15, 3), (8, .isub, 1), (9, .if_icmp .le 6, 3), (12, .bipush (-2), 2), (14, .ireturn, 1), (15, .iconst 0, 1), (16, .istore 4, 2), (18, .iload 4, 2), (20, .iload_n 3, 1), (21, .if_icmp .ge 37, 3), (24, .aload_n 0, 1), (25, .getfield 11, 3), (28, .aload_n 0, 1), (29, .getfield 15, 3), (32, .lload_n 1, 1), (33, .bipush 8, 2), (35, .iload 4, 2), (37, .imul, 1), (38, .lushr, 1), (39, .l2i, 1), (40, .i2b, 1), (41, .bastore, 1), (42, .aload_n 0, 1), (43, .dup, 1), (44, .getfield 15, 3), (47, .iconst 1, 1), (48, .iadd, 1), (49, .putfield 15, 3), (52, .iinc 4 1, 3), (55, .goto (-37), 3), (58, .aload_n 0, 1), (59, .getfield 15, 3), (62, .ireturn, 1)]
def pTx_readInto : List (Nat × Instr × Nat) := [(0, .aload_n 1, 1), (1, .invokevirtual 19, 3), (4, .aload_n 0, 1), (5, .iconst 0, 1), (6, .putfield 24, 3), (9, .aload_n 0, 1), (10, .iconst (-1), 1), (11, .putfield 27, 3), (14, .iconst 0, 1), (15, .istore_n 2, 1), (16, .iload_n 2, 1), (17, .sipush 200, 3), (20, .if_icmp .gt 38, 3), (23, .aload_n 0, 1), (24, .getfield 27, 3), (27, .ifCond .ge 31, 3), (30, .aload_n 0, 1), (31, .invokevirtual 30, 3), (34, .aload_n 0, 1), (35, .getfield 33, 3), (38, .iconst 3, 1), (39, .if_icmp .ne 8, 3), (42, .aload_n 0, 1), (43, .getfield 27, 3), (46, .ireturn, 1), (47, .aload_n 0, 1), (48, .aload_n 1, 1), (49, .invokevirtual 36, 3), (52, .iinc 2 1, 3), (55, .goto (-39), 3), (58, .aload_n 0, 1), (59, .getfield 27, 3), (62, .ireturn, 1)]
def pTx_readStatement : List (Nat × Instr × Nat) := [(0, .aload_n 0, 1), (1, .invokevirtual 40, 3), (4, .istore_n 2, 1), (5, .iload_n 2, 1), (6, .ifCond .lt 10, 3), (9, .aload_n 0, 1), (10, .aload_n 1, 1), (11, .iload_n 2, 1), (12, .invokevirtual 44, 3), (15, .return_, 1), (16, .aload_n 0, 1), (17, .invokevirtual 48, 3), (20, .istore_n 3, 1), (21, .iload_n 3, 1), (22, .ifCond .ge 8, 3), (25, .aload_n 0, 1), (26, .invokevirtual 51, 3), (29, .return_, 1), (30, .aload_n 0, 1), (31, .iload_n 3, 1), (32, .invokestatic 54, 3), (35, .invokevirtual 58, 3), (38, .istore 4, 2), (40, .aload_n 0, 1), (41, .invokevirtual 30, 3), (44, .aload_n 0, 1), (45, .invokevirtual 61, 3), (48, .aload_n 0, 1), (49, .getfield 27, 3), (52, .ifCond .ge 10, 3), (55, .aload_n 1, 1), (56, .iload_n 3, 1), (57, .iload 4, 2), (59, .invokestatic 64, 3), (62, .return_, 1)]
def pTx_readThing : List (Nat × Instr × Nat) := [(0, .aload_n 1, 1), (1, .getfield 68, 3), (4, .bipush 8, 2), (6, .if_icmp .lt 8, 3), (9, .aload_n 0, 1), (10, .invokevirtual 51, 3), (13, .return_, 1), (14, .aload_n 0, 1), (15, .invokevirtual 30, 3), (18, .aload_n 0, 1), (19, .ldc 71, 2), (21, .invokevirtual 73, 3), (24, .ifCond .ne 7, 3), (27, .aload_n 0, 1), (28, .invokevirtual 51, 3), (31, .aload_n 0, 1), (32, .iconst 5, 1), (33, .invokevirtual 58, 3), (36, .istore_n 3, 1), (37, .bipush 10, 2), (39, .istore 4, 2), (41, .iconst 0, 1), (42, .istore 5, 2), (44, .aload_n 0, 1), (45, .invokevirtual 30, 3), (48, .aload_n 0, 1), (49, .ldc 77, 2), (51, .invokevirtual 73, 3), (54, .ifCond .eq 15, 3), (57, .aload_n 0, 1), (58, .bipush 99, 2), (60, .invokevirtual 58, 3), (63, .istore 4, 2), (65, .aload_n 0, 1), (66, .invokevirtual 30, 3), (69, .aload_n 0, 1), (70, .ldc 79, 2), (72, .invokevirtual 73, 3), (75, .ifCond .eq 15, 3), (78, .aload_n 0, 1), (79, .bipush 9, 2), (81, .invokevirtual 58, 3), (84, .istore 5, 2), (86, .aload_n 0, 1), (87, .invokevirtual 30, 3), (90, .aload_n 0, 1), (91, .invokevirtual 61, 3), (94, .aload_n 0, 1), (95, .getfield 27, 3), (98, .ifCond .ge 14, 3), (101, .aload_n 1, 1), (102, .iload_n 2, 1), (103, .iload 4, 2), (105, .iload 5, 2), (107, .iload_n 3, 1), (108, .invokevirtual 81, 3), (111, .pop, 1), (112, .return_, 1)]
def pTx_apply : List (Nat × Instr × Nat) := [(0, .iload_n 1, 1), (1, .iconst 4, 1), (2, .if_icmp .ne 11, 3), (5, .aload_n 0, 1), (6, .iload_n 2, 1), (7, .putfield 85, 3), (10, .goto 31, 3), (13, .iload_n 1, 1), (14, .iconst 5, 1), (15, .if_icmp .ne 11, 3), (18, .aload_n 0, 1), (19, .iload_n 2, 1), (20, .putfield 88, 3), (23, .goto 18, 3), (26, .iload_n 1, 1), (27, .iconst 3, 1), (28, .invokestatic 91, 3), (31, .ifCond .eq 10, 3), (34, .aload_n 0, 1), (35, .getfield 95, 3), (38, .iload_n 1, 1), (39, .iload_n 2, 1), (40, .iastore, 1), (41, .return_, 1)]
def pTx_mostOfSetting : List (Nat × Instr × Nat) := [(0, .iload_n 0, 1), (1, .iconst 4, 1), (2, .if_icmp .ne 5, 3), (5, .iconst 5, 1), (6, .ireturn, 1), (7, .iload_n 0, 1), (8, .iconst 5, 1), (9, .if_icmp .ne 8, 3), (12, .bipush 99, 2), (14, .goto 7, 3), (17, .iload_n 0, 1), (18, .invokestatic 99, 3), (21, .ireturn, 1)]
def pTx_kindNamed : List (Nat × Instr × Nat) := [(0, .aload_n 0, 1), (1, .ldc 102, 2), (3, .invokevirtual 73, 3), (6, .ifCond .eq 5, 3), (9, .iconst 0, 1), (10, .ireturn, 1), (11, .aload_n 0, 1), (12, .ldc 104, 2), (14, .invokevirtual 73, 3), (17, .ifCond .eq 5, 3), (20, .iconst 1, 1), (21, .ireturn, 1), (22, .aload_n 0, 1), (23, .ldc 106, 2), (25, .invokevirtual 73, 3), (28, .ifCond .eq 5, 3), (31, .iconst 2, 1), (32, .ireturn, 1), (33, .aload_n 0, 1), (34, .ldc 108, 2), (36, .invokevirtual 73, 3), (39, .ifCond .eq 5, 3), (42, .iconst 3, 1), (43, .ireturn, 1), (44, .aload_n 0, 1), (45, .ldc 110, 2), (47, .invokevirtual 73, 3), (50, .ifCond .eq 5, 3), (53, .iconst 4, 1), (54, .ireturn, 1), (55, .aload_n 0, 1), (56, .ldc 112, 2), (58, .invokevirtual 73, 3), (61, .ifCond .eq 5, 3), (64, .iconst 5, 1), (65, .ireturn, 1), (66, .iconst (-1), 1), (67, .ireturn, 1)]
def pTx_settingNamed : List (Nat × Instr × Nat) := [(0, .aload_n 0, 1), (1, .ldc 114, 2), (3, .invokevirtual 73, 3), (6, .ifCond .eq 5, 3), (9, .iconst 4, 1), (10, .ireturn, 1), (11, .aload_n 0, 1), (12, .ldc 116, 2), (14, .invokevirtual 73, 3), (17, .ifCond .eq 5, 3), (20, .iconst 5, 1), (21, .ireturn, 1), (22, .aload_n 0, 1), (23, .ldc 117, 2), (25, .invokevirtual 73, 3), (28, .ifCond .eq 5, 3), (31, .iconst 0, 1), (32, .ireturn, 1), (33, .aload_n 0, 1), (34, .ldc 119, 2), (36, .invokevirtual 73, 3), (39, .ifCond .eq 5, 3), (42, .iconst 1, 1), (43, .ireturn, 1), (44, .aload_n 0, 1), (45, .ldc 121, 2), (47, .invokevirtual 73, 3), (50, .ifCond .eq 5, 3), (53, .iconst 2, 1), (54, .ireturn, 1), (55, .aload_n 0, 1), (56, .ldc 123, 2), (58, .invokevirtual 73, 3), (61, .ifCond .eq 5, 3), (64, .iconst 3, 1), (65, .ireturn, 1), (66, .iconst (-1), 1), (67, .ireturn, 1)]
def pTx_readNumber : List (Nat × Instr × Nat) := [(0, .aload_n 0, 1), (1, .invokevirtual 30, 3), (4, .aload_n 0, 1), (5, .getfield 33, 3), (8, .iconst 1, 1), (9, .if_icmp .ne 16, 3), (12, .aload_n 0, 1), (13, .getfield 24, 3), (16, .aload_n 0, 1), (17, .getfield 125, 3), (20, .isub, 1), (21, .iconst 3, 1), (22, .if_icmp .le 9, 3), (25, .aload_n 0, 1), (26, .invokevirtual 51, 3), (29, .iconst 0, 1), (30, .ireturn, 1), (31, .iconst 0, 1), (32, .istore_n 2, 1), (33, .aload_n 0, 1), (34, .getfield 125, 3), (37, .istore_n 3, 1), (38, .iload_n 3, 1), (39, .aload_n 0, 1), (40, .getfield 24, 3), (43, .if_icmp .ge 24, 3), (46, .iload_n 2, 1), (47, .bipush 10, 2), (49, .imul, 1), (50, .aload_n 0, 1), (51, .getfield 11, 3), (54, .iload_n 3, 1), (55, .baload, 1), (56, .iadd, 1), (57, .bipush 48, 2), (59, .isub, 1), (60, .istore_n 2, 1), (61, .iinc 3 1, 3), (64, .goto (-26), 3), (67, .iload_n 2, 1), (68, .iload_n 1, 1), (69, .if_icmp .le 9, 3), (72, .aload_n 0, 1), (73, .invokevirtual 51, 3), (76, .iconst 0, 1), (77, .ireturn, 1), (78, .iload_n 2, 1), (79, .ireturn, 1)]
def pTx_needEndOfStatement : List (Nat × Instr × Nat) := [(0, .aload_n 0, 1), (1, .getfield 33, 3), (4, .iconst 2, 1), (5, .if_icmp .ne 17, 3), (8, .aload_n 0, 1), (9, .getfield 11, 3), (12, .aload_n 0, 1), (13, .getfield 125, 3), (16, .baload, 1), (17, .bipush 59, 2), (19, .if_icmp .eq 7, 3), (22, .aload_n 0, 1), (23, .invokevirtual 51, 3), (26, .return_, 1)]
def pTx_fail : List (Nat × Instr × Nat) := [(0, .aload_n 0, 1), (1, .getfield 27, 3), (4, .ifCond .ge 11, 3), (7, .aload_n 0, 1), (8, .aload_n 0, 1), (9, .getfield 125, 3), (12, .putfield 27, 3), (15, .return_, 1)]
def pTx_next : List (Nat × Instr × Nat) := [(0, .aload_n 0, 1), (1, .getfield 24, 3), (4, .aload_n 0, 1), (5, .getfield 15, 3), (8, .if_icmp .ge 30, 3), (11, .aload_n 0, 1), (12, .getfield 11, 3), (15, .aload_n 0, 1), (16, .getfield 24, 3), (19, .baload, 1), (20, .bipush 32, 2), (22, .if_icmp .ne 16, 3), (25, .aload_n 0, 1), (26, .dup, 1), (27, .getfield 24, 3), (30, .iconst 1, 1), (31, .iadd, 1), (32, .putfield 24, 3), (35, .goto (-35), 3), (38, .aload_n 0, 1), (39, .aload_n 0, 1), (40, .getfield 24, 3), (43, .putfield 125, 3), (46, .aload_n 0, 1), (47, .getfield 24, 3), (50, .aload_n 0, 1), (51, .getfield 15, 3), (54, .if_icmp .lt 9, 3), (57, .aload_n 0, 1), (58, .iconst 3, 1), (59, .putfield 33, 3), (62, .return_, 1), (63, .aload_n 0, 1), (64, .aload_n 0, 1), (65, .getfield 11, 3), (68, .aload_n 0, 1), (69, .getfield 24, 3), (72, .baload, 1), (73, .invokestatic 128, 3), (76, .putfield 33, 3), (79, .aload_n 0, 1), (80, .dup, 1), (81, .getfield 24, 3), (84, .iconst 1, 1), (85, .iadd, 1), (86, .putfield 24, 3), (89, .aload_n 0, 1), (90, .getfield 33, 3), (93, .iconst 2, 1), (94, .if_icmp .eq 46, 3), (97, .aload_n 0, 1), (98, .getfield 24, 3), (101, .aload_n 0, 1), (102, .getfield 15, 3), (105, .if_icmp .ge 35, 3), (108, .aload_n 0, 1), (109, .getfield 11, 3), (112, .aload_n 0, 1), (113, .getfield 24, 3), (116, .baload, 1), (117, .invokestatic 128, 3), (120, .aload_n 0, 1), (121, .getfield 33, 3), (124, .if_icmp .ne 16, 3), (127, .aload_n 0, 1), (128, .dup, 1), (129, .getfield 24, 3), (132, .iconst 1, 1), (133, .iadd, 1), (134, .putfield 24, 3), (137, .goto (-48), 3), (140, .return_, 1)]
def pTx_sortOf : List (Nat × Instr × Nat) := [(0, .iload_n 0, 1), (1, .bipush 97, 2), (3, .if_icmp .lt 11, 3), (6, .iload_n 0, 1), (7, .bipush 122, 2), (9, .if_icmp .gt 5, 3), (12, .iconst 0, 1), (13, .ireturn, 1), (14, .iload_n 0, 1), (15, .bipush 48, 2), (17, .if_icmp .lt 13, 3), (20, .iload_n 0, 1), (21, .bipush 57, 2), (23, .if_icmp .gt 7, 3), (26, .iconst 1, 1), (27, .goto 4, 3), (30, .iconst 2, 1), (31, .ireturn, 1)]
def pTx_isName : List (Nat × Instr × Nat) := [(0, .aload_n 0, 1), (1, .getfield 33, 3), (4, .ifCond .ne 19, 3), (7, .aload_n 0, 1), (8, .getfield 24, 3), (11, .aload_n 0, 1), (12, .getfield 125, 3), (15, .isub, 1), (16, .aload_n 1, 1), (17, .invokevirtual 131, 3), (20, .if_icmp .eq 5, 3), (23, .iconst 0, 1), (24, .ireturn, 1), (25, .iconst 0, 1), (26, .istore_n 2, 1), (27, .iload_n 2, 1), (28, .aload_n 1, 1), (29, .invokevirtual 131, 3), (32, .if_icmp .ge 30, 3), (35, .aload_n 0, 1), (36, .getfield 11, 3), (39, .aload_n 0, 1), (40, .getfield 125, 3), (43, .iload_n 2, 1), (44, .iadd, 1), (45, .baload, 1), (46, .aload_n 1, 1), (47, .iload_n 2, 1), (48, .invokevirtual 136, 3), (51, .if_icmp .eq 5, 3), (54, .iconst 0, 1), (55, .ireturn, 1), (56, .iinc 2 1, 3), (59, .goto (-32), 3), (62, .iconst 1, 1), (63, .ireturn, 1)]
def pLa_init : List (Nat × Instr × Nat) := [(0, .aload_n 0, 1), (1, .invokespecial 1, 3), (4, .aload_n 0, 1), (5, .new 7, 3), (8, .dup, 1), (9, .invokespecial 9, 3), (12, .putfield 10, 3), (15, .aload_n 0, 1), (16, .new 7, 3), (19, .dup, 1), (20, .invokespecial 9, 3), (23, .putfield 16, 3), (26, .aload_n 0, 1), (27, .new 7, 3), (30, .dup, 1), (31, .invokespecial 9, 3), (34, .putfield 19, 3), (37, .aload_n 0, 1), (38, .new 22, 3), (41, .dup, 1), (42, .invokespecial 24, 3), (45, .putfield 25, 3), (48, .aload_n 0, 1), (49, .new 29, 3), (52, .dup, 1), (53, .invokespecial 31, 3), (56, .putfield 32, 3), (59, .aload_n 0, 1), (60, .new 36, 3), (63, .dup, 1), (64, .invokespecial 38, 3), (67, .putfield 39, 3), (70, .aload_n 0, 1), (71, .new 43, 3), (74, .dup, 1), (75, .invokespecial 45, 3), (78, .putfield 46, 3), (81, .aload_n 0, 1), (82, .bipush 30, 2), (84, .newarray .int, 2), (86, .putfield 50, 3), (89, .aload_n 0, 1), (90, .iconst 0, 1), (91, .putfield 54, 3), (94, .aload_n 0, 1), (95, .iconst 0, 1), (96, .putfield 58, 3), (99, .return_, 1)]
def pLa_feed : List (Nat × Instr × Nat) := [(0, .iload_n 3, 1), (1, .iconst 1, 1), (2, .if_icmp .lt 9, 3), (5, .iload_n 3, 1), (6, .bipush 8, 2), (8, .if_icmp .le 5, 3), (11, .iconst (-1), 1), (12, .ireturn, 1), (13, .aload_n 0, 1), (14, .getfield 25, 3), (17, .lload_n 1, 1), (18, .iload_n 3, 1), (19, .invokevirtual 62, 3), (22, .ireturn, 1)]
def pLa_street : List (Nat × Instr × Nat) := [(0, .aload_n 0, 1), (1, .getfield 25, 3), (4, .aload_n 0, 1), (5, .getfield 16, 3), (8, .invokevirtual 66, 3), (11, .istore_n 1, 1), (12, .aload_n 0, 1), (13, .getfield 25, 3), (16, .invokevirtual 70, 3), (19, .iload_n 1, 1), (20, .ifCond .lt 8, 3), (23, .bipush (-100), 2), (25, .iload_n 1, 1), (26, .isub, 1), (27, .ireturn, 1), (28, .aload_n 0, 1), (29, .getfield 16, 3), (32, .aload_n 0, 1), (33, .getfield 10, 3), (36, .getfield 73, 3), (39, .putfield 73, 3), (42, .aload_n 0, 1), (43, .getfield 10, 3), (46, .aload_n 0, 1), (47, .getfield 16, 3), (50, .invokevirtual 76, 3), (53, .aload_n 0, 1), (54, .iconst 0, 1), (55, .putfield 54, 3), (58, .aload_n 0, 1), (59, .getfield 10, 3), (62, .getfield 80, 3), (65, .ireturn, 1)]
def pLa_set : List (Nat × Instr × Nat) := [(0, .iload_n 1, 1), (1, .iconst 3, 1), (2, .invokestatic 83, 3), (5, .ifCond .eq 14, 3), (8, .iload_n 2, 1), (9, .iload_n 1, 1), (10, .invokestatic 87, 3), (13, .invokestatic 83, 3), (16, .ifCond .ne 5, 3), (19, .iconst (-1), 1), (20, .ireturn, 1), (21, .aload_n 0, 1), (22, .getfield 10, 3), (25, .getfield 91, 3), (28, .iload_n 1, 1), (29, .iaload, 1), (30, .istore_n 3, 1), (31, .aload_n 0, 1), (32, .getfield 10, 3), (35, .getfield 91, 3), (38, .iload_n 1, 1), (39, .iload_n 2, 1), (40, .iastore, 1), (41, .iload_n 3, 1), (42, .ireturn, 1)]
def pLa_lawOf : List (Nat × Instr × Nat) := [(0, .iload_n 1, 1), (1, .iconst 3, 1), (2, .invokestatic 83, 3), (5, .ifCond .eq 15, 3), (8, .aload_n 0, 1), (9, .getfield 10, 3), (12, .getfield 91, 3), (15, .iload_n 1, 1), (16, .iaload, 1), (17, .goto 4, 3), (20, .iconst (-1), 1), (21, .ireturn, 1)]
def pLa_thing : List (Nat × Instr × Nat) := [(0, .iload_n 1, 1), (1, .iconst 5, 1), (2, .invokestatic 83, 3), (5, .ifCond .eq 30, 3), (8, .iload_n 2, 1), (9, .bipush 99, 2), (11, .invokestatic 83, 3), (14, .ifCond .eq 21, 3), (17, .iload_n 3, 1), (18, .bipush 9, 2), (20, .invokestatic 83, 3), (23, .ifCond .eq 12, 3), (26, .iload 4, 2), (28, .iconst 5, 1), (29, .invokestatic 83, 3), (32, .ifCond .ne 5, 3), (35, .iconst (-1), 1), (36, .ireturn, 1), (37, .aload_n 0, 1), (38, .getfield 10, 3), (41, .getfield 80, 3), (44, .bipush 8, 2), (46, .if_icmp .lt 6, 3), (49, .bipush (-2), 2), (51, .ireturn, 1), (52, .aload_n 0, 1), (53, .getfield 10, 3), (56, .iload_n 1, 1), (57, .iload_n 2, 1), (58, .iload_n 3, 1), (59, .iload 4, 2), (61, .invokevirtual 94, 3), (64, .ireturn, 1)]
def pLa_of : List (Nat × Instr × Nat) := [(0, .aload_n 0, 1), (1, .getfield 10, 3), (4, .iload_n 1, 1), (5, .invokevirtual 98, 3), (8, .ifCond .ne 5, 3), (11, .iconst (-1), 1), (12, .ireturn, 1), (13, .iload_n 2, 1), (14, .tableswitch 86 0 4 #[34, 44, 54, 64, 74], 34), (48, .aload_n 0, 1), (49, .getfield 10, 3), (52, .getfield 102, 3), (55, .iload_n 1, 1), (56, .iaload, 1), (57, .ireturn, 1), (58, .aload_n 0, 1), (59, .getfield 10, 3), (62, .getfield 105, 3), (65, .iload_n 1, 1), (66, .iaload, 1), (67, .ireturn, 1), (68, .aload_n 0, 1), (69, .getfield 10, 3), (72, .getfield 108, 3), (75, .iload_n 1, 1), (76, .iaload, 1), (77, .ireturn, 1), (78, .aload_n 0, 1), (79, .getfield 10, 3), (82, .getfield 111, 3), (85, .iload_n 1, 1), (86, .iaload, 1), (87, .ireturn, 1), (88, .aload_n 0, 1), (89, .getfield 10, 3), (92, .iload_n 1, 1), (93, .invokevirtual 114, 3), (96, .invokestatic 117, 3), (99, .ireturn, 1), (100, .iconst (-1), 1), (101, .ireturn, 1)]
def pLa_does : List (Nat × Instr × Nat) := [(0, .aload_n 0, 1), (1, .getfield 10, 3), (4, .iload_n 1, 1), (5, .invokevirtual 98, 3), (8, .ifCond .eq 11, 3), (11, .iload_n 2, 1), (12, .iconst 1, 1), (13, .invokestatic 83, 3), (16, .ifCond .ne 5, 3), (19, .iconst (-1), 1), (20, .ireturn, 1), (21, .sipush 1000, 3), (24, .iload_n 2, 1), (25, .ifCond .ne 14, 3), (28, .aload_n 0, 1), (29, .getfield 10, 3), (32, .iload_n 1, 1), (33, .invokevirtual 122, 3), (36, .goto 11, 3), (39, .aload_n 0, 1), (40, .getfield 10, 3), (43, .iload_n 1, 1), (44, .invokevirtual 125, 3), (47, .iadd, 1), (48, .ireturn, 1)]
def pLa_mind : List (Nat × Instr × Nat) := [(0, .aload_n 0, 1), (1, .getfield 10, 3), (4, .iload_n 1, 1), (5, .invokevirtual 98, 3), (8, .ifCond .eq 20, 3), (11, .iload_n 2, 1), (12, .iconst 5, 1), (13, .invokestatic 83, 3), (16, .ifCond .eq 12, 3), (19, .iload_n 3, 1), (20, .bipush 9, 2), (22, .invokestatic 83, 3), (25, .ifCond .ne 5, 3), (28, .iconst (-1), 1), (29, .ireturn, 1), (30, .aload_n 0, 1), (31, .getfield 10, 3), (34, .getfield 102, 3), (37, .iload_n 1, 1), (38, .iaload, 1), (39, .istore 4, 2), (41, .aload_n 0, 1), (42, .getfield 10, 3), (45, .getfield 102, 3), (48, .iload_n 1, 1), (49, .iload_n 2, 1), (50, .iastore, 1), (51, .aload_n 0, 1), (52, .getfield 10, 3), (55, .getfield 108, 3), (58, .iload_n 1, 1), (59, .iload_n 3, 1), (60, .iastore, 1), (61, .iload 4, 2), (63, .ireturn, 1)]
def pLa_value : List (Nat × Instr × Nat) := [(0, .aload_n 0, 1), (1, .getfield 10, 3), (4, .iload_n 1, 1), (5, .invokevirtual 98, 3), (8, .ifCond .eq 12, 3), (11, .iload_n 2, 1), (12, .bipush 99, 2), (14, .invokestatic 83, 3), (17, .ifCond .ne 5, 3), (20, .iconst (-1), 1), (21, .ireturn, 1), (22, .aload_n 0, 1), (23, .getfield 10, 3), (26, .getfield 105, 3), (29, .iload_n 1, 1), (30, .iaload, 1), (31, .istore_n 3, 1), (32, .aload_n 0, 1), (33, .getfield 10, 3), (36, .getfield 105, 3), (39, .iload_n 1, 1), (40, .iload_n 2, 1), (41, .iastore, 1), (42, .iload_n 3, 1), (43, .ireturn, 1)]
def pLa_lay : List (Nat × Instr × Nat) := [(0, .aload_n 0, 1), (1, .getfield 10, 3), (4, .iload_n 1, 1), (5, .invokevirtual 98, 3), (8, .ifCond .eq 11, 3), (11, .iload_n 2, 1), (12, .iconst 5, 1), (13, .invokestatic 83, 3), (16, .ifCond .ne 5, 3), (19, .iconst (-1), 1), (20, .ireturn, 1), (21, .aload_n 0, 1), (22, .getfield 10, 3), (25, .getfield 111, 3), (28, .iload_n 1, 1), (29, .iaload, 1), (30, .istore_n 3, 1), (31, .aload_n 0, 1), (32, .getfield 10, 3), (35, .iload_n 1, 1), (36, .iload_n 2, 1), (37, .invokevirtual 128, 3), (40, .iload_n 3, 1), (41, .ireturn, 1)]
def pLa_take : List (Nat × Instr × Nat) := [(0, .aload_n 0, 1), (1, .getfield 10, 3), (4, .iload_n 1, 1), (5, .invokevirtual 98, 3), (8, .ifCond .ne 5, 3), (11, .iconst (-1), 1), (12, .ireturn, 1), (13, .aload_n 0, 1), (14, .getfield 10, 3), (17, .iload_n 1, 1), (18, .invokevirtual 132, 3), (21, .ifCond .ne 6, 3), (24, .bipush (-3), 2), (26, .ireturn, 1), (27, .aload_n 0, 1), (28, .getfield 10, 3), (31, .getfield 111, 3), (34, .iload_n 1, 1), (35, .bipush 6, 2), (37, .iastore, 1), (38, .aload_n 0, 1), (39, .getfield 10, 3), (42, .invokevirtual 135, 3), (45, .invokestatic 117, 3), (48, .ireturn, 1)]
def pLa_bring : List (Nat × Instr × Nat) := [(0, .iload_n 1, 1), (1, .iconst 5, 1), (2, .invokestatic 83, 3), (5, .ifCond .ne 5, 3), (8, .iconst (-1), 1), (9, .ireturn, 1), (10, .aload_n 0, 1), (11, .getfield 10, 3), (14, .getfield 139, 3), (17, .istore_n 2, 1), (18, .aload_n 0, 1), (19, .getfield 10, 3), (22, .iload_n 1, 1), (23, .putfield 139, 3), (26, .iload_n 2, 1), (27, .ireturn, 1)]
def pLa_think : List (Nat × Instr × Nat) := [(0, .iload_n 1, 1), (1, .bipush 99, 2), (3, .invokestatic 83, 3), (6, .ifCond .ne 5, 3), (9, .iconst (-1), 1), (10, .ireturn, 1), (11, .aload_n 0, 1), (12, .getfield 10, 3), (15, .getfield 142, 3), (18, .istore_n 2, 1), (19, .aload_n 0, 1), (20, .getfield 10, 3), (23, .iload_n 1, 1), (24, .putfield 142, 3), (27, .iload_n 2, 1), (28, .ireturn, 1)]
def pLa_pit : List (Nat × Instr × Nat) := [(0, .iload_n 1, 1), (1, .iconst 5, 1), (2, .invokestatic 83, 3), (5, .ifCond .eq 11, 3), (8, .iload_n 2, 1), (9, .iconst 1, 1), (10, .invokestatic 83, 3), (13, .ifCond .ne 5, 3), (16, .iconst (-1), 1), (17, .ireturn, 1), (18, .iload_n 2, 1), (19, .ifCond .ne 14, 3), (22, .aload_n 0, 1), (23, .getfield 10, 3), (26, .iload_n 1, 1), (27, .invokevirtual 145, 3), (30, .goto 11, 3), (33, .aload_n 0, 1), (34, .getfield 10, 3), (37, .iload_n 1, 1), (38, .invokevirtual 148, 3), (41, .ireturn, 1)]
def pLa_years : List (Nat × Instr × Nat) := [(0, .iload_n 1, 1), (1, .iconst 1, 1), (2, .if_icmp .lt 9, 3), (5, .iload_n 1, 1), (6, .bipush 60, 2), (8, .if_icmp .le 5, 3), (11, .iconst (-1), 1), (12, .ireturn, 1), (13, .aload_n 0, 1), (14, .getfield 10, 3), (17, .iload_n 1, 1), (18, .invokevirtual 151, 3), (21, .aload_n 0, 1), (22, .getfield 10, 3), (25, .getfield 142, 3), (28, .ireturn, 1)]
def pLa_seed : List (Nat × Instr × Nat) := [(0, .aload_n 0, 1), (1, .getfield 10, 3), (4, .getfield 73, 3), (7, .istore_n 2, 1), (8, .aload_n 0, 1), (9, .getfield 10, 3), (12, .iload_n 1, 1), (13, .putfield 73, 3), (16, .iload_n 2, 1), (17, .ireturn, 1)]
def pLa_year : List (Nat × Instr × Nat) := [(0, .aload_n 0, 1), (1, .getfield 10, 3), (4, .invokevirtual 155, 3), (7, .aload_n 0, 1), (8, .getfield 10, 3), (11, .getfield 142, 3), (14, .ireturn, 1)]
def pLa_luck : List (Nat × Instr × Nat) := [(0, .iload_n 1, 1), (1, .iconst 1, 1), (2, .if_icmp .lt 9, 3), (5, .iload_n 1, 1), (6, .bipush 30, 2), (8, .if_icmp .le 5, 3), (11, .iconst (-1), 1), (12, .ireturn, 1), (13, .aload_n 0, 1), (14, .iconst 1, 1), (15, .invokevirtual 158, 3), (18, .istore_n 2, 1), (19, .aload_n 0, 1), (20, .getfield 10, 3), (23, .getfield 73, 3), (26, .istore_n 3, 1), (27, .iconst 0, 1), (28, .istore 4, 2), (30, .iconst 0, 1), (31, .istore 5, 2), (33, .iload 5, 2), (35, .iload_n 1, 1), (36, .if_icmp .ge 57, 3), (39, .aload_n 0, 1), (40, .getfield 16, 3), (43, .aload_n 0, 1), (44, .getfield 10, 3), (47, .invokevirtual 76, 3), (50, .aload_n 0, 1), (51, .getfield 16, 3), (54, .iload_n 3, 1), (55, .putfield 73, 3), (58, .aload_n 0, 1), (59, .getfield 16, 3), (62, .invokevirtual 155, 3), (65, .aload_n 0, 1), (66, .getfield 16, 3), (69, .getfield 73, 3), (72, .istore_n 3, 1), (73, .aload_n 0, 1), (74, .getfield 16, 3), (77, .getfield 142, 3), (80, .iload_n 2, 1), (81, .if_icmp .le 6, 3), (84, .iinc 4 1, 3), (87, .iinc 5 1, 3), (90, .goto (-57), 3), (93, .iload 4, 2), (95, .ireturn, 1)]
def pLa_state : List (Nat × Instr × Nat) := [(0, .iload_n 1, 1), (1, .tableswitch 87 0 5 #[39, 47, 55, 63, 71, 79], 39), (40, .aload_n 0, 1), (41, .getfield 10, 3), (44, .getfield 161, 3), (47, .ireturn, 1), (48, .aload_n 0, 1), (49, .getfield 10, 3), (52, .getfield 142, 3), (55, .ireturn, 1), (56, .aload_n 0, 1), (57, .getfield 10, 3), (60, .getfield 139, 3), (63, .ireturn, 1), (64, .aload_n 0, 1), (65, .getfield 10, 3), (68, .invokevirtual 135, 3), (71, .ireturn, 1), (72, .aload_n 0, 1), (73, .getfield 10, 3), (76, .invokevirtual 164, 3), (79, .ireturn, 1), (80, .aload_n 0, 1), (81, .getfield 10, 3), (84, .invokevirtual 167, 3), (87, .ireturn, 1), (88, .iconst (-1), 1), (89, .ireturn, 1)]
def pLa_thought : List (Nat × Instr × Nat) := [(0, .iload_n 1, 1), (1, .bipush 60, 2), (3, .invokestatic 83, 3), (6, .ifCond .eq 11, 3), (9, .aload_n 0, 1), (10, .iload_n 1, 1), (11, .invokevirtual 158, 3), (14, .goto 4, 3), (17, .iconst (-1), 1), (18, .ireturn, 1)]
def pLa_dug : List (Nat × Instr × Nat) := [(0, .aload_n 0, 1), (1, .getfield 10, 3), (4, .iload_n 1, 1), (5, .invokevirtual 98, 3), (8, .ifCond .ne 5, 3), (11, .iconst (-1), 1), (12, .ireturn, 1), (13, .aload_n 0, 1), (14, .getfield 16, 3), (17, .aload_n 0, 1), (18, .getfield 10, 3), (21, .invokevirtual 76, 3), (24, .iconst 0, 1), (25, .istore_n 2, 1), (26, .iload_n 2, 1), (27, .bipush 60, 2), (29, .if_icmp .gt 29, 3), (32, .aload_n 0, 1), (33, .getfield 16, 3), (36, .iload_n 1, 1), (37, .invokevirtual 132, 3), (40, .ifCond .ne 5, 3), (43, .iload_n 2, 1), (44, .ireturn, 1), (45, .aload_n 0, 1), (46, .getfield 16, 3), (49, .invokevirtual 170, 3), (52, .iinc 2 1, 3), (55, .goto (-29), 3), (58, .bipush (-3), 2), (60, .ireturn, 1)]
def pLa_empty : List (Nat × Instr × Nat) := [(0, .aload_n 0, 1), (1, .getfield 16, 3), (4, .aload_n 0, 1), (5, .getfield 10, 3), (8, .invokevirtual 76, 3), (11, .iconst 0, 1), (12, .istore_n 1, 1), (13, .iload_n 1, 1), (14, .bipush 60, 2), (16, .if_icmp .gt 28, 3), (19, .aload_n 0, 1), (20, .getfield 16, 3), (23, .invokevirtual 135, 3), (26, .ifCond .ne 5, 3), (29, .iload_n 1, 1), (30, .ireturn, 1), (31, .aload_n 0, 1), (32, .getfield 16, 3), (35, .invokevirtual 170, 3), (38, .iinc 1 1, 3), (41, .goto (-28), 3), (44, .bipush (-3), 2), (46, .ireturn, 1)]
def pLa_praised : List (Nat × Instr × Nat) := [(0, .iload_n 1, 1), (1, .bipush 99, 2), (3, .invokestatic 83, 3), (6, .ifCond .ne 5, 3), (9, .iconst (-1), 1), (10, .ireturn, 1), (11, .aload_n 0, 1), (12, .getfield 16, 3), (15, .aload_n 0, 1), (16, .getfield 10, 3), (19, .invokevirtual 76, 3), (22, .iconst 0, 1), (23, .istore_n 2, 1), (24, .iload_n 2, 1), (25, .bipush 60, 2), (27, .if_icmp .gt 29, 3), (30, .aload_n 0, 1), (31, .getfield 16, 3), (34, .getfield 142, 3), (37, .iload_n 1, 1), (38, .if_icmp .lt 5, 3), (41, .iload_n 2, 1), (42, .ireturn, 1), (43, .aload_n 0, 1), (44, .getfield 16, 3), (47, .invokevirtual 170, 3), (50, .iinc 2 1, 3), (53, .goto (-29), 3), (56, .bipush (-3), 2), (58, .ireturn, 1)]
def pLa_pitFor : List (Nat × Instr × Nat) := [(0, .aload_n 0, 1), (1, .getfield 10, 3), (4, .iload_n 1, 1), (5, .invokevirtual 98, 3), (8, .ifCond .eq 10, 3), (11, .iload_n 2, 1), (12, .invokestatic 173, 3), (15, .ifCond .ne 5, 3), (18, .iconst (-1), 1), (19, .ireturn, 1), (20, .aload_n 0, 1), (21, .getfield 10, 3), (24, .iload_n 1, 1), (25, .invokevirtual 132, 3), (28, .ifCond .eq 13, 3), (31, .aload_n 0, 1), (32, .iconst 0, 1), (33, .iload_n 1, 1), (34, .iload_n 2, 1), (35, .invokevirtual 176, 3), (38, .goto 5, 3), (41, .bipush (-3), 2), (43, .ireturn, 1)]
def pLa_kindFor : List (Nat × Instr × Nat) := [(0, .aload_n 0, 1), (1, .getfield 10, 3), (4, .iload_n 1, 1), (5, .invokevirtual 98, 3), (8, .ifCond .eq 10, 3), (11, .iload_n 2, 1), (12, .invokestatic 173, 3), (15, .ifCond .ne 5, 3), (18, .iconst (-1), 1), (19, .ireturn, 1), (20, .aload_n 0, 1), (21, .getfield 10, 3), (24, .iload_n 1, 1), (25, .invokevirtual 132, 3), (28, .ifCond .eq 13, 3), (31, .aload_n 0, 1), (32, .iconst 1, 1), (33, .iload_n 1, 1), (34, .iload_n 2, 1), (35, .invokevirtual 176, 3), (38, .goto 5, 3), (41, .bipush (-3), 2), (43, .ireturn, 1)]
def pLa_worthFor : List (Nat × Instr × Nat) := [(0, .aload_n 0, 1), (1, .getfield 10, 3), (4, .iload_n 1, 1), (5, .invokevirtual 98, 3), (8, .ifCond .eq 19, 3), (11, .iload_n 2, 1), (12, .invokestatic 173, 3), (15, .ifCond .eq 12, 3), (18, .iload_n 3, 1), (19, .bipush 99, 2), (21, .invokestatic 83, 3), (24, .ifCond .ne 5, 3), (27, .iconst (-1), 1), (28, .ireturn, 1), (29, .aload_n 0, 1), (30, .getfield 10, 3), (33, .iload_n 1, 1), (34, .invokevirtual 132, 3), (37, .ifCond .ne 6, 3), (40, .bipush (-3), 2), (42, .ireturn, 1), (43, .iconst 0, 1), (44, .istore 4, 2), (46, .iload 4, 2), (48, .bipush 99, 2), (50, .if_icmp .gt 53, 3), (53, .aload_n 0, 1), (54, .getfield 16, 3), (57, .aload_n 0, 1), (58, .getfield 10, 3), (61, .invokevirtual 76, 3), (64, .aload_n 0, 1), (65, .getfield 16, 3), (68, .getfield 105, 3), (71, .iload_n 1, 1), (72, .iload 4, 2), (74, .iastore, 1), (75, .aload_n 0, 1), (76, .getfield 16, 3), (79, .iload_n 2, 1), (80, .invokevirtual 151, 3), (83, .aload_n 0, 1), (84, .getfield 16, 3), (87, .getfield 142, 3), (90, .iload_n 3, 1), (91, .if_icmp .lt 6, 3), (94, .iload 4, 2), (96, .ireturn, 1), (97, .iinc 4 1, 3), (100, .goto (-54), 3), (103, .bipush (-3), 2), (105, .ireturn, 1)]
def pLa_beginFor : List (Nat × Instr × Nat) := [(0, .iload_n 1, 1), (1, .invokestatic 173, 3), (4, .ifCond .eq 13, 3), (7, .aload_n 0, 1), (8, .iconst 2, 1), (9, .iconst 0, 1), (10, .iload_n 1, 1), (11, .invokevirtual 176, 3), (14, .goto 4, 3), (17, .iconst (-1), 1), (18, .ireturn, 1)]
def pLa_awayFor : List (Nat × Instr × Nat) := [(0, .iload_n 1, 1), (1, .invokestatic 173, 3), (4, .ifCond .eq 12, 3), (7, .iload_n 2, 1), (8, .bipush 99, 2), (10, .invokestatic 83, 3), (13, .ifCond .ne 5, 3), (16, .iconst (-1), 1), (17, .ireturn, 1), (18, .aload_n 0, 1), (19, .getfield 10, 3), (22, .invokevirtual 135, 3), (25, .istore_n 3, 1), (26, .bipush (-3), 2), (28, .istore 4, 2), (30, .bipush 9, 2), (32, .istore 5, 2), (34, .iconst 0, 1), (35, .istore 6, 2), (37, .iload 6, 2), (39, .iload_n 3, 1), (40, .if_icmp .gt 51, 3), (43, .iload 6, 2), (45, .invokestatic 117, 3), (48, .istore 7, 2), (50, .iload 6, 2), (52, .iload_n 3, 1), (53, .iconst (-1), 1), (54, .ixor, 1), (55, .iand, 1), (56, .ifCond .ne 29, 3), (59, .iload 7, 2), (61, .iload 5, 2), (63, .if_icmp .ge 22, 3), (66, .aload_n 0, 1), (67, .iload 6, 2), (69, .iload_n 1, 1), (70, .invokevirtual 180, 3), (73, .iload_n 2, 1), (74, .if_icmp .lt 11, 3), (77, .iload 6, 2), (79, .istore 4, 2), (81, .iload 7, 2), (83, .istore 5, 2), (85, .iinc 6 1, 3), (88, .goto (-51), 3), (91, .iload 4, 2), (93, .ireturn, 1)]
def pLa_above : List (Nat × Instr × Nat) := [(0, .aload_n 0, 1), (1, .getfield 10, 3), (4, .iload_n 1, 1), (5, .invokevirtual 98, 3), (8, .ifCond .eq 14, 3), (11, .aload_n 0, 1), (12, .getfield 10, 3), (15, .iload_n 1, 1), (16, .invokevirtual 114, 3), (19, .goto 4, 3), (22, .iconst (-1), 1), (23, .ireturn, 1)]
def pLa_fits : List (Nat × Instr × Nat) := [(0, .iload_n 1, 1), (1, .iconst 3, 1), (2, .invokestatic 83, 3), (5, .ifCond .eq 22, 3), (8, .aload_n 0, 1), (9, .getfield 10, 3), (12, .iload_n 2, 1), (13, .invokevirtual 98, 3), (16, .ifCond .eq 11, 3), (19, .iload_n 3, 1), (20, .iconst 1, 1), (21, .invokestatic 83, 3), (24, .ifCond .ne 5, 3), (27, .iconst (-1), 1), (28, .ireturn, 1), (29, .aload_n 0, 1), (30, .getfield 32, 3), (33, .getfield 184, 3), (36, .iload_n 1, 1), (37, .iaload, 1), (38, .iconst (-1), 1), (39, .if_icmp .ne 6, 3), (42, .bipush (-11), 2), (44, .ireturn, 1), (45, .iconst 0, 1), (46, .istore 4, 2), (48, .bipush (-3), 2), (50, .istore 5, 2), (52, .bipush 99, 2), (54, .istore 6, 2), (56, .iload 6, 2), (58, .ifCond .lt 27, 3), (61, .aload_n 0, 1), (62, .iload_n 1, 1), (63, .iload_n 2, 1), (64, .iload 6, 2), (66, .invokevirtual 187, 3), (69, .ifCond .eq 10, 3), (72, .iinc 4 1, 3), (75, .iload 6, 2), (77, .istore 5, 2), (79, .iinc 6 (-1), 3), (82, .goto (-26), 3), (85, .iload_n 3, 1), (86, .ifCond .ne 8, 3), (89, .iload 4, 2), (91, .goto 5, 3), (94, .iload 5, 2), (96, .ireturn, 1)]
def pLa_odds : List (Nat × Instr × Nat) := [(0, .iload_n 1, 1), (1, .bipush 8, 2), (3, .invokestatic 83, 3), (6, .ifCond .eq 19, 3), (9, .iload_n 2, 1), (10, .iload_n 1, 1), (11, .invokestatic 83, 3), (14, .ifCond .eq 11, 3), (17, .iload_n 3, 1), (18, .iconst 1, 1), (19, .invokestatic 83, 3), (22, .ifCond .ne 7, 3), (25, .ldc2_w 191, 3), (28, .lreturn, 1), (29, .aload_n 0, 1), (30, .getfield 10, 3), (33, .getfield 91, 3), (36, .iconst 3, 1), (37, .iaload, 1), (38, .i2l, 1), (39, .lstore 4, 2), (41, .iload_n 1, 1), (42, .iload_n 2, 1), (43, .invokestatic 193, 3), (46, .lload 4, 2), (48, .iload_n 2, 1), (49, .invokestatic 197, 3), (52, .lmul, 1), (53, .ldc2_w 201, 3), (56, .lload 4, 2), (58, .lsub, 1), (59, .iload_n 1, 1), (60, .iload_n 2, 1), (61, .isub, 1), (62, .invokestatic 197, 3), (65, .lmul, 1), (66, .lstore 6, 2), (68, .lload 6, 2), (70, .ldc2_w 201, 3), (73, .iload_n 1, 1), (74, .invokestatic 197, 3), (77, .iload_n 3, 1), (78, .invokestatic 203, 3), (81, .lreturn, 1)]
def pLa_hope : List (Nat × Instr × Nat) := [(0, .iload_n 1, 1), (1, .bipush 99, 2), (3, .invokestatic 83, 3), (6, .ifCond .eq 11, 3), (9, .iload_n 2, 1), (10, .iconst 1, 1), (11, .invokestatic 83, 3), (14, .ifCond .ne 7, 3), (17, .ldc2_w 191, 3), (20, .lreturn, 1), (21, .iload_n 1, 1), (22, .i2l, 1), (23, .aload_n 0, 1), (24, .getfield 10, 3), (27, .getfield 91, 3), (30, .iconst 3, 1), (31, .iaload, 1), (32, .i2l, 1), (33, .lmul, 1), (34, .ldc2_w 201, 3), (37, .iload_n 2, 1), (38, .invokestatic 203, 3), (41, .lreturn, 1)]
def pLa_prove : List (Nat × Instr × Nat) := [(0, .aload_n 0, 1), (1, .getfield 10, 3), (4, .iload_n 1, 1), (5, .invokevirtual 98, 3), (8, .ifCond .eq 14, 3), (11, .iload_n 2, 1), (12, .iconst 1, 1), (13, .if_icmp .lt 9, 3), (16, .iload_n 2, 1), (17, .bipush 10, 2), (19, .if_icmp .le 5, 3), (22, .iconst (-1), 1), (23, .ireturn, 1), (24, .aload_n 0, 1), (25, .getfield 16, 3), (28, .aload_n 0, 1), (29, .getfield 10, 3), (32, .invokevirtual 76, 3), (35, .iconst 0, 1), (36, .istore_n 3, 1), (37, .iload_n 3, 1), (38, .iload_n 2, 1), (39, .if_icmp .ge 49, 3), (42, .aload_n 0, 1), (43, .getfield 16, 3), (46, .invokevirtual 170, 3), (49, .iconst 0, 1), (50, .istore 4, 2), (52, .iload 4, 2), (54, .iconst 3, 1), (55, .if_icmp .ge 27, 3), (58, .aload_n 0, 1), (59, .getfield 50, 3), (62, .iload_n 3, 1), (63, .iconst 3, 1), (64, .imul, 1), (65, .iload 4, 2), (67, .iadd, 1), (68, .aload_n 0, 1), (69, .iload_n 1, 1), (70, .iload 4, 2), (72, .invokevirtual 207, 3), (75, .iastore, 1), (76, .iinc 4 1, 3), (79, .goto (-27), 3), (82, .iinc 3 1, 3), (85, .goto (-48), 3), (88, .aload_n 0, 1), (89, .iload_n 2, 1), (90, .putfield 54, 3), (93, .iload_n 2, 1), (94, .ireturn, 1)]
def pLa_row : List (Nat × Instr × Nat) := [(0, .aload_n 0, 1), (1, .iload_n 1, 1), (2, .iload_n 2, 1), (3, .invokevirtual 210, 3), (6, .ifCond .eq 16, 3), (9, .aload_n 0, 1), (10, .getfield 50, 3), (13, .iload_n 1, 1), (14, .iconst 3, 1), (15, .imul, 1), (16, .iload_n 2, 1), (17, .iadd, 1), (18, .iaload, 1), (19, .goto 5, 3), (22, .bipush (-9), 2), (24, .ireturn, 1)]
def pLa_alterRow : List (Nat × Instr × Nat) := [(0, .aload_n 0, 1), (1, .iload_n 1, 1), (2, .iload_n 2, 1), (3, .invokevirtual 210, 3), (6, .ifCond .ne 6, 3), (9, .bipush (-9), 2), (11, .ireturn, 1), (12, .aload_n 0, 1), (13, .getfield 50, 3), (16, .iload_n 1, 1), (17, .iconst 3, 1), (18, .imul, 1), (19, .iload_n 2, 1), (20, .iadd, 1), (21, .iaload, 1), (22, .istore 4, 2), (24, .aload_n 0, 1), (25, .getfield 50, 3), (28, .iload_n 1, 1), (29, .iconst 3, 1), (30, .imul, 1), (31, .iload_n 2, 1), (32, .iadd, 1), (33, .iload_n 3, 1), (34, .iastore, 1), (35, .iload 4, 2), (37, .ireturn, 1)]
def pLa_judge : List (Nat × Instr × Nat) := [(0, .aload_n 0, 1), (1, .getfield 10, 3), (4, .iload_n 1, 1), (5, .invokevirtual 98, 3), (8, .ifCond .ne 5, 3), (11, .iconst (-1), 1), (12, .ireturn, 1), (13, .aload_n 0, 1), (14, .getfield 16, 3), (17, .aload_n 0, 1), (18, .getfield 10, 3), (21, .invokevirtual 76, 3), (24, .iconst 0, 1), (25, .istore_n 2, 1), (26, .iload_n 2, 1), (27, .aload_n 0, 1), (28, .getfield 54, 3), (31, .if_icmp .ge 52, 3), (34, .aload_n 0, 1), (35, .getfield 16, 3), (38, .invokevirtual 170, 3), (41, .iconst 0, 1), (42, .istore_n 3, 1), (43, .iload_n 3, 1), (44, .iconst 3, 1), (45, .if_icmp .ge 32, 3), (48, .aload_n 0, 1), (49, .getfield 50, 3), (52, .iload_n 2, 1), (53, .iconst 3, 1), (54, .imul, 1), (55, .iload_n 3, 1), (56, .iadd, 1), (57, .iaload, 1), (58, .aload_n 0, 1), (59, .iload_n 1, 1), (60, .iload_n 3, 1), (61, .invokevirtual 207, 3), (64, .if_icmp .eq 7, 3), (67, .iload_n 2, 1), (68, .iconst 1, 1), (69, .iadd, 1), (70, .ireturn, 1), (71, .iinc 3 1, 3), (74, .goto (-31), 3), (77, .iinc 2 1, 3), (80, .goto (-54), 3), (83, .iconst 0, 1), (84, .ireturn, 1)]
def pLa_minds : List (Nat × Instr × Nat) := [(0, .iload_n 1, 1), (1, .iconst 3, 1), (2, .invokestatic 83, 3), (5, .ifCond .eq 31, 3), (8, .aload_n 0, 1), (9, .getfield 10, 3), (12, .iload_n 3, 1), (13, .invokevirtual 98, 3), (16, .ifCond .eq 20, 3), (19, .iload 4, 2), (21, .aload_n 0, 1), (22, .getfield 10, 3), (25, .getfield 80, 3), (28, .iload_n 3, 1), (29, .isub, 1), (30, .invokestatic 83, 3), (33, .ifCond .ne 5, 3), (36, .iconst (-1), 1), (37, .ireturn, 1), (38, .aload_n 0, 1), (39, .getfield 32, 3), (42, .getfield 184, 3), (45, .iload_n 1, 1), (46, .iaload, 1), (47, .iconst (-1), 1), (48, .if_icmp .ne 6, 3), (51, .bipush (-11), 2), (53, .ireturn, 1), (54, .aload_n 0, 1), (55, .getfield 32, 3), (58, .getfield 184, 3), (61, .iload_n 1, 1), (62, .iaload, 1), (63, .ifCond .eq 6, 3), (66, .bipush (-13), 2), (68, .ireturn, 1), (69, .aload_n 0, 1), (70, .getfield 32, 3), (73, .getfield 213, 3), (76, .iload_n 1, 1), (77, .iaload, 1), (78, .istore 5, 2), (80, .iload_n 2, 1), (81, .iload 5, 2), (83, .invokestatic 83, 3), (86, .ifCond .eq 12, 3), (89, .iload 4, 2), (91, .iload 5, 2), (93, .iload_n 2, 1), (94, .isub, 1), (95, .if_icmp .le 6, 3), (98, .bipush (-12), 2), (100, .ireturn, 1), (101, .iconst 0, 1), (102, .istore 6, 2), (104, .iload 6, 2), (106, .iload 4, 2), (108, .if_icmp .ge 38, 3), (111, .aload_n 0, 1), (112, .getfield 10, 3), (115, .getfield 105, 3), (118, .iload_n 3, 1), (119, .iload 6, 2), (121, .iadd, 1), (122, .aload_n 0, 1), (123, .getfield 32, 3), (126, .iload_n 1, 1), (127, .iload_n 2, 1), (128, .iload 6, 2), (130, .iadd, 1), (131, .invokevirtual 216, 3), (134, .bipush 99, 2), (136, .invokestatic 219, 3), (139, .iastore, 1), (140, .iinc 6 1, 3), (143, .goto (-39), 3), (146, .iload 4, 2), (148, .ireturn, 1)]
def pLa_sheet : List (Nat × Instr × Nat) := [(0, .iload_n 1, 1), (1, .iconst 3, 1), (2, .invokestatic 83, 3), (5, .ifCond .eq 13, 3), (8, .iload_n 2, 1), (9, .iconst (-1), 1), (10, .if_icmp .lt 8, 3), (13, .iload_n 2, 1), (14, .iconst 3, 1), (15, .if_icmp .le 5, 3), (18, .iconst (-1), 1), (19, .ireturn, 1), (20, .iload_n 2, 1), (21, .iconst (-1), 1), (22, .if_icmp .ne 15, 3), (25, .aload_n 0, 1), (26, .getfield 32, 3), (29, .getfield 184, 3), (32, .iload_n 1, 1), (33, .iconst (-1), 1), (34, .iastore, 1), (35, .iconst 1, 1), (36, .ireturn, 1), (37, .iload_n 3, 1), (38, .bipush 40, 2), (40, .if_icmp .le 5, 3), (43, .iconst (-1), 1), (44, .ireturn, 1), (45, .iload_n 3, 1), (46, .ifCond .ge 6, 3), (49, .bipush (-14), 2), (51, .ireturn, 1), (52, .aload_n 0, 1), (53, .getfield 32, 3), (56, .iload_n 1, 1), (57, .iload_n 2, 1), (58, .iload_n 3, 1), (59, .invokevirtual 222, 3), (62, .iconst 1, 1), (63, .ireturn, 1)]
def pLa_put : List (Nat × Instr × Nat) := [(0, .iload_n 1, 1), (1, .iconst 3, 1), (2, .invokestatic 83, 3), (5, .ifCond .ne 5, 3), (8, .iconst (-1), 1), (9, .ireturn, 1), (10, .aload_n 0, 1), (11, .getfield 32, 3), (14, .getfield 184, 3), (17, .iload_n 1, 1), (18, .iaload, 1), (19, .iconst (-1), 1), (20, .if_icmp .ne 6, 3), (23, .bipush (-11), 2), (25, .ireturn, 1), (26, .aload_n 0, 1), (27, .getfield 32, 3), (30, .iload_n 1, 1), (31, .iload_n 2, 1), (32, .invokevirtual 226, 3), (35, .ifCond .ne 6, 3), (38, .bipush (-12), 2), (40, .ireturn, 1), (41, .aload_n 0, 1), (42, .getfield 32, 3), (45, .iload_n 1, 1), (46, .iload_n 2, 1), (47, .iload_n 3, 1), (48, .invokevirtual 229, 3), (51, .iconst 1, 1), (52, .ireturn, 1)]
def pLa_item : List (Nat × Instr × Nat) := [(0, .iload_n 1, 1), (1, .iconst 3, 1), (2, .invokestatic 83, 3), (5, .ifCond .eq 11, 3), (8, .iload_n 2, 1), (9, .iconst 3, 1), (10, .invokestatic 83, 3), (13, .ifCond .ne 5, 3), (16, .iconst (-1), 1), (17, .ireturn, 1), (18, .aload_n 0, 1), (19, .getfield 32, 3), (22, .getfield 184, 3), (25, .iload_n 1, 1), (26, .iaload, 1), (27, .iconst (-1), 1), (28, .if_icmp .ne 6, 3), (31, .bipush (-11), 2), (33, .ireturn, 1), (34, .aload_n 0, 1), (35, .getfield 32, 3), (38, .getfield 184, 3), (41, .iload_n 1, 1), (42, .iaload, 1), (43, .iload_n 2, 1), (44, .if_icmp .eq 6, 3), (47, .bipush (-13), 2), (49, .ireturn, 1), (50, .aload_n 0, 1), (51, .getfield 32, 3), (54, .iload_n 1, 1), (55, .iload_n 3, 1), (56, .invokevirtual 226, 3), (59, .ifCond .eq 15, 3), (62, .aload_n 0, 1), (63, .getfield 32, 3), (66, .iload_n 1, 1), (67, .iload_n 3, 1), (68, .invokevirtual 216, 3), (71, .goto 5, 3), (74, .bipush (-12), 2), (76, .ireturn, 1)]
def pLa_shelf : List (Nat × Instr × Nat) := [(0, .iload_n 1, 1), (1, .iconst 3, 1), (2, .invokestatic 83, 3), (5, .ifCond .ne 5, 3), (8, .iconst (-1), 1), (9, .ireturn, 1), (10, .iload_n 2, 1), (11, .tableswitch 97 0 2 #[25, 49, 87], 25), (36, .aload_n 0, 1), (37, .getfield 10, 3), (40, .iload_n 3, 1), (41, .invokevirtual 98, 3), (44, .ifCond .ne 5, 3), (47, .iconst (-1), 1), (48, .ireturn, 1), (49, .aload_n 0, 1), (50, .getfield 39, 3), (53, .iload_n 1, 1), (54, .iload_n 3, 1), (55, .invokevirtual 232, 3), (58, .iconst 1, 1), (59, .ireturn, 1), (60, .iload_n 3, 1), (61, .iconst 3, 1), (62, .invokestatic 83, 3), (65, .ifCond .ne 5, 3), (68, .iconst (-1), 1), (69, .ireturn, 1), (70, .aload_n 0, 1), (71, .getfield 39, 3), (74, .iload_n 1, 1), (75, .aload_n 0, 1), (76, .getfield 32, 3), (79, .getfield 184, 3), (82, .iload_n 3, 1), (83, .iaload, 1), (84, .aload_n 0, 1), (85, .getfield 32, 3), (88, .getfield 213, 3), (91, .iload_n 3, 1), (92, .iaload, 1), (93, .invokevirtual 235, 3), (96, .iconst 1, 1), (97, .ireturn, 1), (98, .aload_n 0, 1), (99, .getfield 39, 3), (102, .iload_n 1, 1), (103, .invokevirtual 238, 3), (106, .iconst 1, 1), (107, .ireturn, 1), (108, .iconst (-1), 1), (109, .ireturn, 1)]
def pLa_taken : List (Nat × Instr × Nat) := [(0, .iload_n 2, 1), (1, .iconst 5, 1), (2, .invokestatic 83, 3), (5, .istore_n 3, 1), (6, .iload_n 2, 1), (7, .bipush 10, 2), (9, .if_icmp .lt 13, 3), (12, .iload_n 2, 1), (13, .bipush 13, 2), (15, .if_icmp .gt 7, 3), (18, .iconst 1, 1), (19, .goto 4, 3), (22, .iconst 0, 1), (23, .istore 4, 2), (25, .iload_n 1, 1), (26, .iconst 3, 1), (27, .invokestatic 83, 3), (30, .ifCond .eq 12, 3), (33, .iload_n 3, 1), (34, .ifCond .ne 10, 3), (37, .iload 4, 2), (39, .ifCond .ne 5, 3), (42, .iconst (-1), 1), (43, .ireturn, 1), (44, .aload_n 0, 1), (45, .getfield 39, 3), (48, .iload_n 1, 1), (49, .invokevirtual 240, 3), (52, .ifCond .eq 39, 3), (55, .iload 4, 2), (57, .ifCond .eq 31, 3), (60, .aload_n 0, 1), (61, .getfield 39, 3), (64, .getfield 243, 3), (67, .iload_n 1, 1), (68, .iaload, 1), (69, .iload_n 2, 1), (70, .bipush 10, 2), (72, .isub, 1), (73, .if_icmp .ne 15, 3), (76, .aload_n 0, 1), (77, .getfield 39, 3), (80, .getfield 244, 3), (83, .iload_n 1, 1), (84, .iaload, 1), (85, .goto 5, 3), (88, .bipush (-13), 2), (90, .ireturn, 1), (91, .aload_n 0, 1), (92, .getfield 39, 3), (95, .getfield 245, 3), (98, .iload_n 1, 1), (99, .iaload, 1), (100, .istore 5, 2), (102, .aload_n 0, 1), (103, .getfield 10, 3), (106, .iload 5, 2), (108, .invokevirtual 98, 3), (111, .ifCond .ne 6, 3), (114, .bipush (-11), 2), (116, .ireturn, 1), (117, .iload_n 3, 1), (118, .ifCond .eq 25, 3), (121, .aload_n 0, 1), (122, .getfield 10, 3), (125, .getfield 102, 3), (128, .iload 5, 2), (130, .iaload, 1), (131, .iload_n 2, 1), (132, .invokestatic 248, 3), (135, .ifCond .eq 8, 3), (138, .iload 5, 2), (140, .goto 5, 3), (143, .bipush (-13), 2), (145, .ireturn, 1)]
def pLa_act : List (Nat × Instr × Nat) := [(0, .aload_n 0, 1), (1, .getfield 46, 3), (4, .invokevirtual 251, 3), (7, .iload_n 1, 1), (8, .iconst 3, 1), (9, .invokestatic 83, 3), (12, .ifCond .eq 22, 3), (15, .iload_n 2, 1), (16, .iconst 3, 1), (17, .invokestatic 83, 3), (20, .ifCond .eq 14, 3), (23, .aload_n 0, 1), (24, .getfield 39, 3), (27, .iload_n 1, 1), (28, .invokevirtual 240, 3), (31, .ifCond .eq 5, 3), (34, .iconst 0, 1), (35, .ireturn, 1), (36, .aload_n 0, 1), (37, .getfield 39, 3), (40, .getfield 245, 3), (43, .iload_n 1, 1), (44, .iaload, 1), (45, .istore 4, 2), (47, .aload_n 0, 1), (48, .getfield 10, 3), (51, .iload 4, 2), (53, .invokevirtual 98, 3), (56, .ifCond .ne 5, 3), (59, .iconst 0, 1), (60, .ireturn, 1), (61, .aload_n 0, 1), (62, .getfield 46, 3), (65, .iload 4, 2), (67, .aload_n 0, 1), (68, .getfield 10, 3), (71, .getfield 102, 3), (74, .iload 4, 2), (76, .iaload, 1), (77, .aload_n 0, 1), (78, .getfield 10, 3), (81, .getfield 108, 3), (84, .iload 4, 2), (86, .iaload, 1), (87, .invokevirtual 252, 3), (90, .aload_n 0, 1), (91, .getfield 46, 3), (94, .iload_n 2, 1), (95, .iload_n 3, 1), (96, .invokevirtual 255, 3), (99, .ireturn, 1)]
def pLa_trace : List (Nat × Instr × Nat) := [(0, .iload_n 1, 1), (1, .ifCond .lt 26, 3), (4, .iload_n 1, 1), (5, .aload_n 0, 1), (6, .getfield 46, 3), (9, .getfield 258, 3), (12, .if_icmp .ge 15, 3), (15, .aload_n 0, 1), (16, .getfield 46, 3), (19, .getfield 261, 3), (22, .iload_n 1, 1), (23, .iaload, 1), (24, .goto 5, 3), (27, .bipush (-3), 2), (29, .ireturn, 1)]
def pLa_many : List (Nat × Instr × Nat) := [(0, .iload_n 1, 1), (1, .tableswitch 110 0 6 #[43, 51, 62, 81, 89, 94, 102], 43), (44, .aload_n 0, 1), (45, .getfield 10, 3), (48, .getfield 80, 3), (51, .ireturn, 1), (52, .aload_n 0, 1), (53, .getfield 10, 3), (56, .invokevirtual 135, 3), (59, .invokestatic 117, 3), (62, .ireturn, 1), (63, .aload_n 0, 1), (64, .getfield 10, 3), (67, .getfield 80, 3), (70, .aload_n 0, 1), (71, .getfield 10, 3), (74, .invokevirtual 135, 3), (77, .invokestatic 117, 3), (80, .isub, 1), (81, .ireturn, 1), (82, .aload_n 0, 1), (83, .getfield 10, 3), (86, .invokevirtual 264, 3), (89, .ireturn, 1), (90, .aload_n 0, 1), (91, .getfield 54, 3), (94, .ireturn, 1), (95, .aload_n 0, 1), (96, .getfield 25, 3), (99, .getfield 267, 3), (102, .ireturn, 1), (103, .aload_n 0, 1), (104, .getfield 46, 3), (107, .getfield 258, 3), (110, .ireturn, 1), (111, .iconst (-1), 1), (112, .ireturn, 1)]
def pLa_keep : List (Nat × Instr × Nat) := [(0, .aload_n 0, 1), (1, .getfield 19, 3), (4, .aload_n 0, 1), (5, .getfield 10, 3), (8, .invokevirtual 76, 3), (11, .aload_n 0, 1), (12, .iconst 1, 1), (13, .putfield 58, 3), (16, .iconst 1, 1), (17, .ireturn, 1)]
def pLa_again : List (Nat × Instr × Nat) := [(0, .aload_n 0, 1), (1, .getfield 58, 3), (4, .ifCond .ne 6, 3), (7, .bipush (-3), 2), (9, .ireturn, 1), (10, .aload_n 0, 1), (11, .getfield 10, 3), (14, .aload_n 0, 1), (15, .getfield 19, 3), (18, .invokevirtual 76, 3), (21, .aload_n 0, 1), (22, .getfield 10, 3), (25, .getfield 80, 3), (28, .ireturn, 1)]
def pLa_within : List (Nat × Instr × Nat) := [(0, .iload_n 0, 1), (1, .ifCond .lt 12, 3), (4, .iload_n 0, 1), (5, .iload_n 1, 1), (6, .if_icmp .gt 7, 3), (9, .iconst 1, 1), (10, .goto 4, 3), (13, .iconst 0, 1), (14, .ireturn, 1)]
def pLa_isNear : List (Nat × Instr × Nat) := [(0, .iload_n 0, 1), (1, .iconst 1, 1), (2, .if_icmp .lt 13, 3), (5, .iload_n 0, 1), (6, .bipush 20, 2), (8, .if_icmp .gt 7, 3), (11, .iconst 1, 1), (12, .goto 4, 3), (15, .iconst 0, 1), (16, .ireturn, 1)]
def pLa_held : List (Nat × Instr × Nat) := [(0, .iconst 0, 1), (1, .iload_n 1, 1), (2, .iload_n 0, 1), (3, .invokestatic 270, 3), (6, .invokestatic 275, 3), (9, .ireturn, 1)]
def pLa_mostOfLaw : List (Nat × Instr × Nat) := [(0, .iload_n 0, 1), (1, .iconst 3, 1), (2, .if_icmp .ne 8, 3), (5, .bipush 99, 2), (7, .goto 5, 3), (10, .bipush 9, 2), (12, .ireturn, 1)]
def pLa_isUnder : List (Nat × Instr × Nat) := [(0, .iload_n 0, 1), (1, .istore_n 2, 1), (2, .iconst 0, 1), (3, .istore_n 3, 1), (4, .iload_n 3, 1), (5, .bipush 6, 2), (7, .if_icmp .ge 30, 3), (10, .iload_n 2, 1), (11, .iconst 5, 1), (12, .invokestatic 83, 3), (15, .ifCond .eq 22, 3), (18, .iload_n 2, 1), (19, .iload_n 1, 1), (20, .if_icmp .ne 5, 3), (23, .iconst 1, 1), (24, .ireturn, 1), (25, .getstatic 278, 3), (28, .iload_n 2, 1), (29, .iaload, 1), (30, .istore_n 2, 1), (31, .iinc 3 1, 3), (34, .goto (-30), 3), (37, .iconst 0, 1), (38, .ireturn, 1)]
def pLa_opinionBehind : List (Nat × Instr × Nat) := [(0, .aload_n 0, 1), (1, .getfield 16, 3), (4, .aload_n 0, 1), (5, .getfield 10, 3), (8, .invokevirtual 76, 3), (11, .aload_n 0, 1), (12, .getfield 16, 3), (15, .iload_n 1, 1), (16, .invokevirtual 151, 3), (19, .aload_n 0, 1), (20, .getfield 16, 3), (23, .getfield 142, 3), (26, .ireturn, 1)]
def pLa_opinionWithout : List (Nat × Instr × Nat) := [(0, .aload_n 0, 1), (1, .getfield 16, 3), (4, .aload_n 0, 1), (5, .getfield 10, 3), (8, .invokevirtual 76, 3), (11, .iconst 0, 1), (12, .istore_n 3, 1), (13, .iload_n 3, 1), (14, .aload_n 0, 1), (15, .getfield 16, 3), (18, .getfield 80, 3), (21, .if_icmp .ge 29, 3), (24, .iload_n 1, 1), (25, .iload_n 3, 1), (26, .ishr, 1), (27, .iconst 1, 1), (28, .iand, 1), (29, .iconst 1, 1), (30, .if_icmp .ne 14, 3), (33, .aload_n 0, 1), (34, .getfield 16, 3), (37, .getfield 111, 3), (40, .iload_n 3, 1), (41, .bipush 6, 2), (43, .iastore, 1), (44, .iinc 3 1, 3), (47, .goto (-34), 3), (50, .aload_n 0, 1), (51, .getfield 16, 3), (54, .iload_n 2, 1), (55, .invokevirtual 151, 3), (58, .aload_n 0, 1), (59, .getfield 16, 3), (62, .getfield 142, 3), (65, .ireturn, 1)]
def pLa_bestChange : List (Nat × Instr × Nat) := [(0, .iconst 0, 1), (1, .istore 4, 2), (3, .iconst (-1), 1), (4, .istore 5, 2), (6, .iconst 0, 1), (7, .istore 6, 2), (9, .iload 6, 2), (11, .bipush 6, 2), (13, .if_icmp .ge 61, 3), (16, .aload_n 0, 1), (17, .getfield 16, 3), (20, .aload_n 0, 1), (21, .getfield 10, 3), (24, .invokevirtual 76, 3), (27, .aload_n 0, 1), (28, .iload_n 1, 1), (29, .iload_n 2, 1), (30, .iload 6, 2), (32, .invokevirtual 281, 3), (35, .aload_n 0, 1), (36, .getfield 16, 3), (39, .iload_n 3, 1), (40, .invokevirtual 151, 3), (43, .aload_n 0, 1), (44, .getfield 16, 3), (47, .getfield 142, 3), (50, .iload 5, 2), (52, .if_icmp .le 16, 3), (55, .aload_n 0, 1), (56, .getfield 16, 3), (59, .getfield 142, 3), (62, .istore 5, 2), (64, .iload 6, 2), (66, .istore 4, 2), (68, .iinc 6 1, 3), (71, .goto (-62), 3), (74, .iload 4, 2), (76, .ireturn, 1)]
def pLa_changeTried : List (Nat × Instr × Nat) := [(0, .iload_n 1, 1), (1, .lookupswitch 52 #[(0, 27), (1, 39)], 27), (28, .aload_n 0, 1), (29, .getfield 16, 3), (32, .iload_n 2, 1), (33, .iload_n 3, 1), (34, .invokevirtual 128, 3), (37, .goto 24, 3), (40, .aload_n 0, 1), (41, .getfield 16, 3), (44, .getfield 102, 3), (47, .iload_n 2, 1), (48, .iload_n 3, 1), (49, .iastore, 1), (50, .goto 11, 3), (53, .aload_n 0, 1), (54, .getfield 16, 3), (57, .iload_n 3, 1), (58, .putfield 139, 3), (61, .return_, 1)]
def pLa_fitsWith : List (Nat × Instr × Nat) := [(0, .aload_n 0, 1), (1, .getfield 16, 3), (4, .aload_n 0, 1), (5, .getfield 10, 3), (8, .invokevirtual 76, 3), (11, .aload_n 0, 1), (12, .getfield 16, 3), (15, .getfield 105, 3), (18, .iload_n 2, 1), (19, .iload_n 3, 1), (20, .iastore, 1), (21, .iconst 0, 1), (22, .istore 4, 2), (24, .iload 4, 2), (26, .aload_n 0, 1), (27, .getfield 32, 3), (30, .getfield 213, 3), (33, .iload_n 1, 1), (34, .iaload, 1), (35, .if_icmp .ge 48, 3), (38, .aload_n 0, 1), (39, .getfield 16, 3), (42, .invokevirtual 170, 3), (45, .aload_n 0, 1), (46, .getfield 32, 3), (49, .iload_n 1, 1), (50, .iload 4, 2), (52, .invokevirtual 216, 3), (55, .istore 5, 2), (57, .iload 5, 2), (59, .iconst (-1), 1), (60, .if_icmp .eq 17, 3), (63, .iload 5, 2), (65, .aload_n 0, 1), (66, .getfield 16, 3), (69, .getfield 142, 3), (72, .if_icmp .eq 5, 3), (75, .iconst 0, 1), (76, .ireturn, 1), (77, .iinc 4 1, 3), (80, .goto (-56), 3), (83, .iconst 1, 1), (84, .ireturn, 1)]
def pLa_hasRow : List (Nat × Instr × Nat) := [(0, .iload_n 1, 1), (1, .ifCond .lt 23, 3), (4, .iload_n 1, 1), (5, .aload_n 0, 1), (6, .getfield 54, 3), (9, .if_icmp .ge 15, 3), (12, .iload_n 2, 1), (13, .iconst 2, 1), (14, .invokestatic 83, 3), (17, .ifCond .eq 7, 3), (20, .iconst 1, 1), (21, .goto 4, 3), (24, .iconst 0, 1), (25, .ireturn, 1)]
def pLa_triedPart : List (Nat × Instr × Nat) := [(0, .iload_n 2, 1), (1, .lookupswitch 52 #[(0, 27), (1, 44)], 27), (28, .aload_n 0, 1), (29, .getfield 16, 3), (32, .iload_n 1, 1), (33, .invokevirtual 132, 3), (36, .ifCond .eq 7, 3), (39, .iconst 1, 1), (40, .goto 4, 3), (43, .iconst 0, 1), (44, .ireturn, 1), (45, .aload_n 0, 1), (46, .getfield 16, 3), (49, .getfield 142, 3), (52, .ireturn, 1), (53, .aload_n 0, 1), (54, .getfield 16, 3), (57, .getfield 139, 3), (60, .ireturn, 1)]
def pLa_ways : List (Nat × Instr × Nat) := [(0, .lconst 1, 1), (1, .lstore_n 2, 1), (2, .iconst 1, 1), (3, .istore 4, 2), (5, .iload 4, 2), (7, .iload_n 1, 1), (8, .if_icmp .gt 23, 3), (11, .lload_n 2, 1), (12, .iload_n 0, 1), (13, .iload_n 1, 1), (14, .isub, 1), (15, .iload 4, 2), (17, .iadd, 1), (18, .i2l, 1), (19, .lmul, 1), (20, .iload 4, 2), (22, .i2l, 1), (23, .ldiv, 1), (24, .lstore_n 2, 1), (25, .iinc 4 1, 3), (28, .goto (-23), 3), (31, .lload_n 2, 1), (32, .lreturn, 1)]
def pLa_power : List (Nat × Instr × Nat) := [(0, .lconst 1, 1), (1, .lstore_n 3, 1), (2, .iconst 0, 1), (3, .istore 5, 2), (5, .iload 5, 2), (7, .iload_n 2, 1), (8, .if_icmp .ge 13, 3), (11, .lload_n 3, 1), (12, .lload_n 0, 1), (13, .lmul, 1), (14, .lstore_n 3, 1), (15, .iinc 5 1, 3), (18, .goto (-13), 3), (21, .lload_n 3, 1), (22, .lreturn, 1)]
def pLa_partOf : List (Nat × Instr × Nat) := [(0, .lload_n 2, 1), (1, .lstore 5, 2), (3, .lload_n 0, 1), (4, .lstore 7, 2), (6, .iconst 0, 1), (7, .istore 9, 2), (9, .iload 9, 2), (11, .sipush 1000, 3), (14, .if_icmp .ge 31, 3), (17, .lload 7, 2), (19, .lconst 0, 1), (20, .lcmp, 1), (21, .ifCond .eq 24, 3), (24, .lload 5, 2), (26, .lload 7, 2), (28, .lrem, 1), (29, .lstore 10, 2), (31, .lload 7, 2), (33, .lstore 5, 2), (35, .lload 10, 2), (37, .lstore 7, 2), (39, .iinc 9 1, 3), (42, .goto (-33), 3), (45, .lload 5, 2), (47, .lconst 0, 1), (48, .lcmp, 1), (49, .ifCond .ne 7, 3), (52, .ldc2_w 191, 3), (55, .lreturn, 1), (56, .iload 4, 2), (58, .ifCond .ne 7, 3), (61, .lload_n 0, 1), (62, .goto 4, 3), (65, .lload_n 2, 1), (66, .lload 5, 2), (68, .ldiv, 1), (69, .lreturn, 1)]
def pMo_init : List (Nat × Instr × Nat) := [(0, .aload_n 0, 1), (1, .invokespecial 1, 3), (4, .aload_n 0, 1), (5, .bipush 50, 2), (7, .newarray .int, 2), (9, .putfield 7, 3), (12, .aload_n 0, 1), (13, .bipush 50, 2), (15, .newarray .int, 2), (17, .putfield 13, 3), (20, .aload_n 0, 1), (21, .bipush 50, 2), (23, .newarray .int, 2), (25, .putfield 16, 3), (28, .aload_n 0, 1), (29, .bipush 50, 2), (31, .newarray .int, 2), (33, .putfield 19, 3), (36, .aload_n 0, 1), (37, .bipush 50, 2), (39, .newarray .int, 2), (41, .putfield 22, 3), (44, .aload_n 0, 1), (45, .sipush 200, 3), (48, .newarray .int, 2), (50, .putfield 25, 3), (53, .aload_n 0, 1), (54, .bipush 30, 2), (56, .newarray .int, 2), (58, .putfield 28, 3), (61, .aload_n 0, 1), (62, .iconst 4, 1), (63, .newarray .int, 2), (65, .dup, 1), (66, .iconst 0, 1), (67, .iconst (-1), 1), (68, .iastore, 1), (69, .dup, 1), (70, .iconst 1, 1), (71, .iconst (-1), 1), (72, .iastore, 1), (73, .dup, 1), (74, .iconst 2, 1), (75, .iconst (-1), 1), (76, .iastore, 1), (77, .dup, 1), (78, .iconst 3, 1), (79, .iconst (-1), 1), (80, .iastore, 1), (81, .putfield 31, 3), (84, .aload_n 0, 1), (85, .iconst 4, 1), (86, .newarray .int, 2), (88, .putfield 34, 3), (91, .aload_n 0, 1), (92, .sipush 160, 3), (95, .newarray .int, 2), (97, .putfield 37, 3), (100, .aload_n 0, 1), (101, .iconst 4, 1), (102, .newarray .int, 2), (104, .putfield 40, 3), (107, .aload_n 0, 1), (108, .iconst 4, 1), (109, .newarray .int, 2), (111, .putfield 43, 3), (114, .aload_n 0, 1), (115, .iconst 4, 1), (116, .newarray .int, 2), (118, .putfield 46, 3), (121, .aload_n 0, 1), (122, .bipush 30, 2), (124, .newarray .int, 2), (126, .putfield 49, 3), (129, .aload_n 0, 1), (130, .invokevirtual 52, 3), (133, .aload_n 0, 1), (134, .getfield 7, 3), (137, .iconst 2, 1), (138, .iconst 1, 1), (139, .iastore, 1), (140, .return_, 1)]
def pMo_begins : List (Nat × Instr × Nat) := [(0, .aload_n 0, 1), (1, .getfield 7, 3), (4, .iconst 2, 1), (5, .iaload, 1), (6, .istore_n 1, 1), (7, .iconst 0, 1), (8, .istore_n 2, 1), (9, .iload_n 2, 1), (10, .bipush 50, 2), (12, .if_icmp .ge 16, 3), (15, .aload_n 0, 1), (16, .getfield 7, 3), (19, .iload_n 2, 1), (20, .iconst 0, 1), (21, .iastore, 1), (22, .iinc 2 1, 3), (25, .goto (-16), 3), (28, .aload_n 0, 1), (29, .getfield 7, 3), (32, .iconst 2, 1), (33, .iload_n 1, 1), (34, .iastore, 1), (35, .aload_n 0, 1), (36, .getfield 7, 3), (39, .iconst 4, 1), (40, .bipush 50, 2), (42, .iastore, 1), (43, .aload_n 0, 1), (44, .getfield 7, 3), (47, .iconst 5, 1), (48, .iconst 3, 1), (49, .iastore, 1), (50, .aload_n 0, 1), (51, .getfield 7, 3), (54, .bipush 6, 2), (56, .iconst 2, 1), (57, .iastore, 1), (58, .aload_n 0, 1), (59, .getfield 7, 3), (62, .bipush 7, 2), (64, .iconst 2, 1), (65, .iastore, 1), (66, .aload_n 0, 1), (67, .getfield 7, 3), (70, .bipush 8, 2), (72, .bipush 20, 2), (74, .iastore, 1), (75, .return_, 1)]
def pMo_isIn : List (Nat × Instr × Nat) := [(0, .lload_n 0, 1), (1, .lload_n 2, 1), (2, .lcmp, 1), (3, .ifCond .lt 14, 3), (6, .lload_n 0, 1), (7, .lload 4, 2), (9, .lcmp, 1), (10, .ifCond .gt 7, 3), (13, .iconst 1, 1), (14, .goto 4, 3), (17, .iconst 0, 1), (18, .ireturn, 1)]
def pMo_isPit : List (Nat × Instr × Nat) := [(0, .iload_n 0, 1), (1, .ifCond .lt 13, 3), (4, .iload_n 0, 1), (5, .bipush 6, 2), (7, .if_icmp .ge 7, 3), (10, .iconst 1, 1), (11, .goto 4, 3), (14, .iconst 0, 1), (15, .ireturn, 1)]
def pMo_isOne : List (Nat × Instr × Nat) := [(0, .iload_n 1, 1), (1, .ifCond .lt 17, 3), (4, .iload_n 1, 1), (5, .aload_n 0, 1), (6, .getfield 7, 3), (9, .iconst 0, 1), (10, .iaload, 1), (11, .if_icmp .ge 7, 3), (14, .iconst 1, 1), (15, .goto 4, 3), (18, .iconst 0, 1), (19, .ireturn, 1)]
def pMo_its : List (Nat × Instr × Nat) := [(0, .aload_n 0, 1), (1, .getfield 7, 3), (4, .bipush 10, 2), (6, .iconst 5, 1), (7, .iload_n 1, 1), (8, .imul, 1), (9, .iadd, 1), (10, .iload_n 2, 1), (11, .iadd, 1), (12, .iaload, 1), (13, .ireturn, 1)]
def pMo_becomes : List (Nat × Instr × Nat) := [(0, .aload_n 0, 1), (1, .getfield 7, 3), (4, .iload_n 1, 1), (5, .iaload, 1), (6, .istore_n 3, 1), (7, .aload_n 0, 1), (8, .getfield 7, 3), (11, .iload_n 1, 1), (12, .iload_n 2, 1), (13, .iastore, 1), (14, .iload_n 3, 1), (15, .ireturn, 1)]
def pMo_copyRow : List (Nat × Instr × Nat) := [(0, .iconst 0, 1), (1, .istore_n 2, 1), (2, .iload_n 2, 1), (3, .bipush 50, 2), (5, .if_icmp .ge 15, 3), (8, .aload_n 1, 1), (9, .iload_n 2, 1), (10, .aload_n 0, 1), (11, .iload_n 2, 1), (12, .iaload, 1), (13, .iastore, 1), (14, .iinc 2 1, 3), (17, .goto (-15), 3), (20, .return_, 1)]
def pMo_greatest : List (Nat × Instr × Nat) := [(0, .iload_n 0, 1), (1, .iload_n 1, 1), (2, .if_icmp .le 7, 3), (5, .iload_n 0, 1), (6, .goto 4, 3), (9, .iload_n 1, 1), (10, .ireturn, 1)]
def pMo_within : List (Nat × Instr × Nat) := [(0, .iload_n 0, 1), (1, .ifCond .ge 7, 3), (4, .iconst 0, 1), (5, .goto 15, 3), (8, .iload_n 0, 1), (9, .bipush 99, 2), (11, .if_icmp .le 8, 3), (14, .bipush 99, 2), (16, .goto 4, 3), (19, .iload_n 0, 1), (20, .ireturn, 1)]
def pMo_size : List (Nat × Instr × Nat) := [(0, .iconst 0, 1), (1, .istore_n 1, 1), (2, .iload_n 0, 1), (3, .istore_n 2, 1), (4, .iload_n 2, 1), (5, .ifCond .eq 15, 3), (8, .iinc 1 1, 3), (11, .iload_n 2, 1), (12, .iload_n 2, 1), (13, .iconst 1, 1), (14, .isub, 1), (15, .iand, 1), (16, .istore_n 2, 1), (17, .goto (-13), 3), (20, .iload_n 1, 1), (21, .ireturn, 1)]
def pMo_isUnder : List (Nat × Instr × Nat) := [(0, .iload_n 1, 1), (1, .ifCond .eq 28, 3), (4, .iload_n 0, 1), (5, .iload_n 1, 1), (6, .if_icmp .eq 23, 3), (9, .iload_n 1, 1), (10, .iconst 1, 1), (11, .if_icmp .ne 8, 3), (14, .iload_n 0, 1), (15, .iconst 3, 1), (16, .if_icmp .eq 13, 3), (19, .iload_n 1, 1), (20, .iconst 2, 1), (21, .if_icmp .ne 12, 3), (24, .iload_n 0, 1), (25, .iconst 4, 1), (26, .if_icmp .ne 7, 3), (29, .iconst 1, 1), (30, .goto 4, 3), (33, .iconst 0, 1), (34, .ireturn, 1)]
def pMo_feed : List (Nat × Instr × Nat) := [(0, .iload_n 3, 1), (1, .i2l, 1), (2, .lconst 1, 1), (3, .ldc2_w 55, 3), (6, .invokestatic 57, 3), (9, .ifCond .ne 5, 3), (12, .iconst (-1), 1), (13, .ireturn, 1), (14, .aload_n 0, 1), (15, .getfield 61, 3), (18, .iload_n 3, 1), (19, .iadd, 1), (20, .sipush 200, 3), (23, .if_icmp .le 6, 3), (26, .bipush (-2), 2), (28, .ireturn, 1), (29, .iconst 0, 1), (30, .istore 4, 2), (32, .iload 4, 2), (34, .iload_n 3, 1), (35, .if_icmp .ge 40, 3), (38, .aload_n 0, 1), (39, .getfield 25, 3), (42, .aload_n 0, 1), (43, .getfield 61, 3), (46, .lload_n 1, 1), (47, .bipush 8, 2), (49, .iload 4, 2), (51, .imul, 1), (52, .lshr, 1), (53, .ldc2_w 65, 3), (56, .land, 1), (57, .l2i, 1), (58, .iastore, 1), (59, .aload_n 0, 1), (60, .dup, 1), (61, .getfield 61, 3), (64, .iconst 1, 1), (65, .iadd, 1), (66, .putfield 61, 3), (69, .iinc 4 1, 3), (72, .goto (-40), 3), (75, .aload_n 0, 1), (76, .getfield 61, 3), (79, .ireturn, 1)]
def pMo_isAlpha : List (Nat × Instr × Nat) := [(0, .iload_n 0, 1), (1, .bipush 97, 2), (3, .if_icmp .lt 13, 3), (6, .iload_n 0, 1), (7, .bipush 122, 2), (9, .if_icmp .gt 7, 3), (12, .iconst 1, 1), (13, .goto 4, 3), (16, .iconst 0, 1), (17, .ireturn, 1)]
def pMo_isDigit : List (Nat × Instr × Nat) := [(0, .iload_n 0, 1), (1, .bipush 48, 2), (3, .if_icmp .lt 13, 3), (6, .iload_n 0, 1), (7, .bipush 57, 2), (9, .if_icmp .gt 7, 3), (12, .iconst 1, 1), (13, .goto 4, 3), (16, .iconst 0, 1), (17, .ireturn, 1)]
def pMo_byteAt : List (Nat × Instr × Nat) := [(0, .iload_n 1, 1), (1, .aload_n 0, 1), (2, .getfield 61, 3), (5, .if_icmp .ge 12, 3), (8, .aload_n 0, 1), (9, .getfield 25, 3), (12, .iload_n 1, 1), (13, .iaload, 1), (14, .goto 4, 3), (17, .iconst (-1), 1), (18, .ireturn, 1)]
def pMo_nextToken : List (Nat × Instr × Nat) := [(0, .aload_n 0, 1), (1, .aload_n 0, 1), (2, .getfield 67, 3), (5, .putfield 70, 3), (8, .aload_n 0, 1), (9, .aload_n 0, 1), (10, .getfield 70, 3), (13, .invokevirtual 73, 3), (16, .bipush 32, 2), (18, .if_icmp .ne 16, 3), (21, .aload_n 0, 1), (22, .dup, 1), (23, .getfield 70, 3), (26, .iconst 1, 1), (27, .iadd, 1), (28, .putfield 70, 3), (31, .goto (-23), 3), (34, .aload_n 0, 1), (35, .aload_n 0, 1), (36, .getfield 70, 3), (39, .putfield 67, 3), (42, .aload_n 0, 1), (43, .aload_n 0, 1), (44, .getfield 70, 3), (47, .invokevirtual 73, 3), (50, .istore_n 1, 1), (51, .aload_n 0, 1), (52, .iload_n 1, 1), (53, .ifCond .ge 7, 3), (56, .iconst 0, 1), (57, .goto 26, 3), (60, .iload_n 1, 1), (61, .invokestatic 77, 3), (64, .ifCond .eq 7, 3), (67, .iconst 1, 1), (68, .goto 15, 3), (71, .iload_n 1, 1), (72, .invokestatic 81, 3), (75, .ifCond .eq 7, 3), (78, .iconst 2, 1), (79, .goto 4, 3), (82, .iconst 3, 1), (83, .putfield 84, 3), (86, .aload_n 0, 1), (87, .iconst 0, 1), (88, .putfield 87, 3), (91, .aload_n 0, 1), (92, .getfield 84, 3), (95, .iconst 1, 1), (96, .if_icmp .ne 30, 3), (99, .aload_n 0, 1), (100, .aload_n 0, 1), (101, .getfield 67, 3), (104, .invokevirtual 73, 3), (107, .invokestatic 77, 3), (110, .ifCond .eq 16, 3), (113, .aload_n 0, 1), (114, .dup, 1), (115, .getfield 67, 3), (118, .iconst 1, 1), (119, .iadd, 1), (120, .putfield 67, 3), (123, .goto (-32), 3), (126, .aload_n 0, 1), (127, .getfield 84, 3), (130, .iconst 2, 1), (131, .if_icmp .ne 70, 3), (134, .aload_n 0, 1), (135, .aload_n 0, 1), (136, .getfield 67, 3), (139, .invokevirtual 73, 3), (142, .invokestatic 81, 3), (145, .ifCond .eq 56, 3), (148, .aload_n 0, 1), (149, .aload_n 0, 1), (150, .getfield 87, 3), (153, .sipush 999, 3), (156, .if_icmp .le 10, 3), (159, .aload_n 0, 1), (160, .getfield 87, 3), (163, .goto 22, 3), (166, .bipush 10, 2), (168, .aload_n 0, 1), (169, .getfield 87, 3), (172, .imul, 1), (173, .aload_n 0, 1), (174, .aload_n 0, 1), (175, .getfield 67, 3), (178, .invokevirtual 73, 3), (181, .iadd, 1), (182, .bipush 48, 2), (184, .isub, 1), (185, .putfield 87, 3), (188, .aload_n 0, 1), (189, .dup, 1), (190, .getfield 67, 3), (193, .iconst 1, 1), (194, .iadd, 1), (195, .putfield 67, 3), (198, .goto (-72), 3), (201, .aload_n 0, 1), (202, .dup, 1), (203, .getfield 67, 3), (206, .aload_n 0, 1), (207, .getfield 84, 3), (210, .iconst 2, 1), (211, .if_icmp .le 7, 3), (214, .iconst 1, 1), (215, .goto 4, 3), (218, .iconst 0, 1), (219, .iadd, 1), (220, .putfield 67, 3), (223, .return_, 1)]
def pMo_needs : List (Nat × Instr × Nat) := [(0, .aload_n 0, 1), (1, .aload_n 0, 1), (2, .getfield 90, 3), (5, .ifCond .ne 7, 3), (8, .iload_n 1, 1), (9, .ifCond .ne 7, 3), (12, .iconst 1, 1), (13, .goto 4, 3), (16, .iconst 0, 1), (17, .putfield 90, 3), (20, .aload_n 0, 1), (21, .getfield 90, 3), (24, .ifCond .ne 7, 3), (27, .aload_n 0, 1), (28, .invokevirtual 94, 3), (31, .return_, 1)]
def pMo_isName : List (Nat × Instr × Nat) := [(0, .aload_n 0, 1), (1, .getfield 84, 3), (4, .iconst 1, 1), (5, .if_icmp .ne 76, 3), (8, .aload_n 0, 1), (9, .getfield 67, 3), (12, .aload_n 0, 1), (13, .getfield 70, 3), (16, .isub, 1), (17, .iload_n 1, 1), (18, .if_icmp .ne 63, 3), (21, .aload_n 0, 1), (22, .aload_n 0, 1), (23, .getfield 70, 3), (26, .invokevirtual 73, 3), (29, .iload_n 2, 1), (30, .if_icmp .ne 51, 3), (33, .aload_n 0, 1), (34, .aload_n 0, 1), (35, .getfield 70, 3), (38, .iconst 1, 1), (39, .iadd, 1), (40, .invokevirtual 73, 3), (43, .iload_n 3, 1), (44, .if_icmp .ne 37, 3), (47, .aload_n 0, 1), (48, .aload_n 0, 1), (49, .getfield 70, 3), (52, .iconst 2, 1), (53, .iadd, 1), (54, .invokevirtual 73, 3), (57, .iload 4, 2), (59, .if_icmp .ne 22, 3), (62, .aload_n 0, 1), (63, .aload_n 0, 1), (64, .getfield 67, 3), (67, .iconst 1, 1), (68, .isub, 1), (69, .invokevirtual 73, 3), (72, .iload 5, 2), (74, .if_icmp .ne 7, 3), (77, .iconst 1, 1), (78, .goto 4, 3), (81, .iconst 0, 1), (82, .ireturn, 1)]
def pMo_isSame : List (Nat × Instr × Nat) := [(0, .aload_n 0, 1), (1, .aload_n 0, 1), (2, .getfield 70, 3), (5, .iload_n 1, 1), (6, .iadd, 1), (7, .invokevirtual 73, 3), (10, .iload_n 2, 1), (11, .if_icmp .ne 40, 3), (14, .aload_n 0, 1), (15, .aload_n 0, 1), (16, .getfield 70, 3), (19, .iload_n 1, 1), (20, .iadd, 1), (21, .iconst 1, 1), (22, .iadd, 1), (23, .invokevirtual 73, 3), (26, .iload_n 3, 1), (27, .if_icmp .ne 24, 3), (30, .aload_n 0, 1), (31, .aload_n 0, 1), (32, .getfield 70, 3), (35, .iload_n 1, 1), (36, .iadd, 1), (37, .iconst 2, 1), (38, .iadd, 1), (39, .invokevirtual 73, 3), (42, .iload 4, 2), (44, .if_icmp .ne 7, 3), (47, .iconst 1, 1), (48, .goto 4, 3), (51, .iconst 0, 1), (52, .ireturn, 1)]
def pMo_isFour : List (Nat × Instr × Nat) := [(0, .aload_n 0, 1), (1, .iconst 4, 1), (2, .iload_n 1, 1), (3, .iload_n 2, 1), (4, .iload_n 3, 1), (5, .iload 4, 2), (7, .invokevirtual 97, 3), (10, .ireturn, 1)]
def pMo_isFive : List (Nat × Instr × Nat) := [(0, .aload_n 0, 1), (1, .iconst 5, 1), (2, .iload_n 1, 1), (3, .iload_n 2, 1), (4, .iload_n 3, 1), (5, .iload 5, 2), (7, .invokevirtual 97, 3), (10, .ifCond .eq 22, 3), (13, .aload_n 0, 1), (14, .aload_n 0, 1), (15, .getfield 70, 3), (18, .iconst 3, 1), (19, .iadd, 1), (20, .invokevirtual 73, 3), (23, .iload 4, 2), (25, .if_icmp .ne 7, 3), (28, .iconst 1, 1), (29, .goto 4, 3), (32, .iconst 0, 1), (33, .ireturn, 1)]
def pMo_kindHere : List (Nat × Instr × Nat) := [(0, .aload_n 0, 1), (1, .bipush 116, 2), (3, .bipush 104, 2), (5, .bipush 105, 2), (7, .bipush 110, 2), (9, .bipush 103, 2), (11, .invokevirtual 101, 3), (14, .ifCond .eq 5, 3), (17, .iconst 0, 1), (18, .ireturn, 1), (19, .aload_n 0, 1), (20, .bipush 6, 2), (22, .bipush 118, 2), (24, .bipush 101, 2), (26, .bipush 115, 2), (28, .bipush 108, 2), (30, .invokevirtual 97, 3), (33, .ifCond .eq 19, 3), (36, .aload_n 0, 1), (37, .iconst 2, 1), (38, .bipush 115, 2), (40, .bipush 115, 2), (42, .bipush 101, 2), (44, .invokevirtual 104, 3), (47, .ifCond .eq 5, 3), (50, .iconst 1, 1), (51, .ireturn, 1), (52, .aload_n 0, 1), (53, .bipush 7, 2), (55, .bipush 114, 2), (57, .bipush 117, 2), (59, .bipush 98, 2), (61, .bipush 104, 2), (63, .invokevirtual 97, 3), (66, .ifCond .eq 19, 3), (69, .aload_n 0, 1), (70, .iconst 3, 1), (71, .bipush 98, 2), (73, .bipush 105, 2), (75, .bipush 115, 2), (77, .invokevirtual 104, 3), (80, .ifCond .eq 5, 3), (83, .iconst 2, 1), (84, .ireturn, 1), (85, .aload_n 0, 1), (86, .bipush 6, 2), (88, .bipush 109, 2), (90, .bipush 111, 2), (92, .bipush 115, 2), (94, .bipush 99, 2), (96, .invokevirtual 97, 3), (99, .ifCond .eq 19, 3), (102, .aload_n 0, 1), (103, .iconst 2, 1), (104, .bipush 115, 2), (106, .bipush 97, 2), (108, .bipush 105, 2), (110, .invokevirtual 104, 3), (113, .ifCond .eq 5, 3), (116, .iconst 3, 1), (117, .ireturn, 1), (118, .aload_n 0, 1), (119, .bipush 115, 2), (121, .bipush 104, 2), (123, .bipush 111, 2), (125, .bipush 101, 2), (127, .invokevirtual 108, 3), (130, .ifCond .eq 5, 3), (133, .iconst 4, 1), (134, .ireturn, 1), (135, .aload_n 0, 1), (136, .bipush 115, 2), (138, .bipush 97, 2), (140, .bipush 110, 2), (142, .bipush 100, 2), (144, .invokevirtual 108, 3), (147, .ifCond .eq 7, 3), (150, .iconst 5, 1), (151, .goto 4, 3), (154, .iconst (-1), 1), (155, .ireturn, 1)]
def pMo_numberTo : List (Nat × Instr × Nat) := [(0, .aload_n 0, 1), (1, .getfield 84, 3), (4, .iconst 2, 1), (5, .if_icmp .ne 28, 3), (8, .aload_n 0, 1), (9, .getfield 67, 3), (12, .aload_n 0, 1), (13, .getfield 70, 3), (16, .isub, 1), (17, .iconst 3, 1), (18, .if_icmp .gt 15, 3), (21, .aload_n 0, 1), (22, .getfield 87, 3), (25, .iload_n 2, 1), (26, .if_icmp .gt 7, 3), (29, .iconst 1, 1), (30, .goto 4, 3), (33, .iconst 0, 1), (34, .istore_n 3, 1), (35, .iload_n 3, 1), (36, .ifCond .eq 20, 3), (39, .aload_n 0, 1), (40, .getfield 90, 3), (43, .ifCond .ne 13, 3), (46, .aload_n 0, 1), (47, .getfield 7, 3), (50, .iload_n 1, 1), (51, .aload_n 0, 1), (52, .getfield 87, 3), (55, .iastore, 1), (56, .aload_n 0, 1), (57, .iload_n 3, 1), (58, .invokevirtual 111, 3), (61, .return_, 1)]
def pMo_perhaps : List (Nat × Instr × Nat) := [(0, .aload_n 0, 1), (1, .getfield 90, 3), (4, .ifCond .ne 17, 3), (7, .iload_n 1, 1), (8, .ifCond .eq 13, 3), (11, .aload_n 0, 1), (12, .invokevirtual 94, 3), (15, .aload_n 0, 1), (16, .iload_n 2, 1), (17, .iload_n 3, 1), (18, .invokevirtual 115, 3), (21, .return_, 1)]
def pMo_thingHere : List (Nat × Instr × Nat) := [(0, .bipush 10, 2), (2, .iconst 5, 1), (3, .aload_n 0, 1), (4, .getfield 7, 3), (7, .iconst 0, 1), (8, .iaload, 1), (9, .imul, 1), (10, .iadd, 1), (11, .istore_n 2, 1), (12, .aload_n 0, 1), (13, .aload_n 0, 1), (14, .getfield 7, 3), (17, .iconst 0, 1), (18, .iaload, 1), (19, .bipush 8, 2), (21, .if_icmp .ge 7, 3), (24, .iconst 1, 1), (25, .goto 4, 3), (28, .iconst 0, 1), (29, .invokevirtual 111, 3), (32, .aload_n 0, 1), (33, .aload_n 0, 1), (34, .getfield 84, 3), (37, .iconst 1, 1), (38, .if_icmp .ne 48, 3), (41, .aload_n 0, 1), (42, .getfield 67, 3), (45, .aload_n 0, 1), (46, .getfield 70, 3), (49, .isub, 1), (50, .iconst 2, 1), (51, .if_icmp .ne 35, 3), (54, .aload_n 0, 1), (55, .aload_n 0, 1), (56, .getfield 70, 3), (59, .invokevirtual 73, 3), (62, .bipush 105, 2), (64, .if_icmp .ne 22, 3), (67, .aload_n 0, 1), (68, .aload_n 0, 1), (69, .getfield 70, 3), (72, .iconst 1, 1), (73, .iadd, 1), (74, .invokevirtual 73, 3), (77, .bipush 110, 2), (79, .if_icmp .ne 7, 3), (82, .iconst 1, 1), (83, .goto 4, 3), (86, .iconst 0, 1), (87, .invokevirtual 111, 3), (90, .aload_n 0, 1), (91, .getfield 90, 3), (94, .ifCond .ne 12, 3), (97, .aload_n 0, 1), (98, .iload_n 1, 1), (99, .bipush 10, 2), (101, .iconst 0, 1), (102, .iconst 0, 1), (103, .invokevirtual 119, 3), (106, .aload_n 0, 1), (107, .aload_n 0, 1), (108, .getfield 90, 3), (111, .ifCond .eq 7, 3), (114, .iconst 0, 1), (115, .goto 6, 3), (118, .iload_n 2, 1), (119, .iconst 3, 1), (120, .iadd, 1), (121, .iconst 5, 1), (122, .invokevirtual 115, 3), (125, .aload_n 0, 1), (126, .aload_n 0, 1), (127, .bipush 119, 2), (129, .bipush 111, 2), (131, .bipush 114, 2), (133, .bipush 116, 2), (135, .bipush 104, 2), (137, .invokevirtual 101, 3), (140, .iload_n 2, 1), (141, .iconst 1, 1), (142, .iadd, 1), (143, .bipush 99, 2), (145, .invokevirtual 123, 3), (148, .aload_n 0, 1), (149, .aload_n 0, 1), (150, .bipush 116, 2), (152, .bipush 114, 2), (154, .bipush 117, 2), (156, .bipush 116, 2), (158, .bipush 104, 2), (160, .invokevirtual 101, 3), (163, .iload_n 2, 1), (164, .iconst 2, 1), (165, .iadd, 1), (166, .bipush 9, 2), (168, .invokevirtual 123, 3), (171, .return_, 1)]
def pMo_ownHere : List (Nat × Instr × Nat) := [(0, .aload_n 0, 1), (1, .bipush 6, 2), (3, .bipush 114, 2), (5, .bipush 101, 2), (7, .bipush 97, 2), (9, .bipush 114, 2), (11, .invokevirtual 97, 3), (14, .ifCond .eq 19, 3), (17, .aload_n 0, 1), (18, .iconst 2, 1), (19, .bipush 97, 2), (21, .bipush 100, 2), (23, .bipush 101, 2), (25, .invokevirtual 104, 3), (28, .ifCond .eq 5, 3), (31, .iconst 3, 1), (32, .ireturn, 1), (33, .aload_n 0, 1), (34, .bipush 7, 2), (36, .bipush 111, 2), (38, .bipush 112, 2), (40, .bipush 105, 2), (42, .bipush 110, 2), (44, .invokevirtual 97, 3), (47, .ifCond .eq 19, 3), (50, .aload_n 0, 1), (51, .iconst 3, 1), (52, .bipush 110, 2), (54, .bipush 105, 2), (56, .bipush 111, 2), (58, .invokevirtual 104, 3), (61, .ifCond .eq 5, 3), (64, .iconst 4, 1), (65, .ireturn, 1), (66, .aload_n 0, 1), (67, .iconst 3, 1), (68, .bipush 100, 2), (70, .bipush 105, 2), (72, .bipush 103, 2), (74, .bipush 103, 2), (76, .invokevirtual 97, 3), (79, .ifCond .eq 5, 3), (82, .iconst 5, 1), (83, .ireturn, 1), (84, .aload_n 0, 1), (85, .bipush 115, 2), (87, .bipush 104, 2), (89, .bipush 105, 2), (91, .bipush 110, 2), (93, .bipush 101, 2), (95, .invokevirtual 101, 3), (98, .ifCond .eq 6, 3), (101, .bipush 6, 2), (103, .ireturn, 1), (104, .aload_n 0, 1), (105, .bipush 102, 2), (107, .bipush 105, 2), (109, .bipush 108, 2), (111, .bipush 116, 2), (113, .bipush 104, 2), (115, .invokevirtual 101, 3), (118, .ifCond .eq 6, 3), (121, .bipush 7, 2), (123, .ireturn, 1), (124, .aload_n 0, 1), (125, .bipush 115, 2), (127, .bipush 108, 2), (129, .bipush 105, 2), (131, .bipush 112, 2), (133, .invokevirtual 108, 3), (136, .ifCond .eq 8, 3), (139, .bipush 8, 2), (141, .goto 4, 3), (144, .iconst (-1), 1), (145, .ireturn, 1)]
def pMo_itemHere : List (Nat × Instr × Nat) := [(0, .aload_n 0, 1), (1, .invokevirtual 127, 3), (4, .istore_n 1, 1), (5, .aload_n 0, 1), (6, .invokevirtual 131, 3), (9, .istore_n 2, 1), (10, .iload_n 1, 1), (11, .ifCond .lt 11, 3), (14, .aload_n 0, 1), (15, .iload_n 1, 1), (16, .invokevirtual 134, 3), (19, .goto 51, 3), (22, .iload_n 2, 1), (23, .ifCond .lt 42, 3), (26, .aload_n 0, 1), (27, .invokevirtual 94, 3), (30, .aload_n 0, 1), (31, .iload_n 2, 1), (32, .iload_n 2, 1), (33, .iconst 3, 1), (34, .if_icmp .ne 7, 3), (37, .iconst 5, 1), (38, .goto 21, 3), (41, .iload_n 2, 1), (42, .iconst 4, 1), (43, .if_icmp .eq 9, 3), (46, .iload_n 2, 1), (47, .bipush 8, 2), (49, .if_icmp .ne 8, 3), (52, .bipush 99, 2), (54, .goto 5, 3), (57, .bipush 9, 2), (59, .invokevirtual 115, 3), (62, .goto 8, 3), (65, .aload_n 0, 1), (66, .iconst 0, 1), (67, .invokevirtual 111, 3), (70, .aload_n 0, 1), (71, .aload_n 0, 1), (72, .getfield 84, 3), (75, .iconst 3, 1), (76, .if_icmp .ne 20, 3), (79, .aload_n 0, 1), (80, .aload_n 0, 1), (81, .getfield 70, 3), (84, .invokevirtual 73, 3), (87, .bipush 59, 2), (89, .if_icmp .ne 7, 3), (92, .iconst 1, 1), (93, .goto 4, 3), (96, .iconst 0, 1), (97, .invokevirtual 111, 3), (100, .return_, 1)]
def pMo_street : List (Nat × Instr × Nat) := [(0, .aload_n 0, 1), (1, .getfield 7, 3), (4, .aload_n 0, 1), (5, .getfield 19, 3), (8, .invokestatic 138, 3), (11, .aload_n 0, 1), (12, .invokevirtual 52, 3), (15, .aload_n 0, 1), (16, .iconst 0, 1), (17, .putfield 67, 3), (20, .aload_n 0, 1), (21, .iconst 0, 1), (22, .putfield 90, 3), (25, .aload_n 0, 1), (26, .invokevirtual 94, 3), (29, .aload_n 0, 1), (30, .getfield 90, 3), (33, .ifCond .ne 17, 3), (36, .aload_n 0, 1), (37, .getfield 84, 3), (40, .ifCond .eq 10, 3), (43, .aload_n 0, 1), (44, .invokevirtual 142, 3), (47, .goto (-18), 3), (50, .aload_n 0, 1), (51, .iconst 0, 1), (52, .putfield 61, 3), (55, .aload_n 0, 1), (56, .getfield 90, 3), (59, .ifCond .eq 22, 3), (62, .aload_n 0, 1), (63, .getfield 19, 3), (66, .aload_n 0, 1), (67, .getfield 7, 3), (70, .invokestatic 138, 3), (73, .bipush (-100), 2), (75, .aload_n 0, 1), (76, .getfield 70, 3), (79, .isub, 1), (80, .ireturn, 1), (81, .aload_n 0, 1), (82, .iconst 0, 1), (83, .putfield 145, 3), (86, .aload_n 0, 1), (87, .getfield 7, 3), (90, .iconst 0, 1), (91, .iaload, 1), (92, .ireturn, 1)]
def pMo_set : List (Nat × Instr × Nat) := [(0, .iload_n 1, 1), (1, .i2l, 1), (2, .lconst 0, 1), (3, .ldc2_w 148, 3), (6, .invokestatic 57, 3), (9, .ifCond .eq 37, 3), (12, .iload_n 2, 1), (13, .i2l, 1), (14, .lconst 0, 1), (15, .iload_n 1, 1), (16, .iconst 3, 1), (17, .if_icmp .ne 9, 3), (20, .ldc2_w 150, 3), (23, .goto 6, 3), (26, .ldc2_w 152, 3), (29, .invokestatic 57, 3), (32, .ifCond .eq 14, 3), (35, .aload_n 0, 1), (36, .iconst 5, 1), (37, .iload_n 1, 1), (38, .iadd, 1), (39, .iload_n 2, 1), (40, .invokevirtual 154, 3), (43, .goto 4, 3), (46, .iconst (-1), 1), (47, .ireturn, 1)]
def pMo_lawOf : List (Nat × Instr × Nat) := [(0, .iload_n 1, 1), (1, .i2l, 1), (2, .lconst 0, 1), (3, .ldc2_w 148, 3), (6, .invokestatic 57, 3), (9, .ifCond .eq 14, 3), (12, .aload_n 0, 1), (13, .getfield 7, 3), (16, .iconst 5, 1), (17, .iload_n 1, 1), (18, .iadd, 1), (19, .iaload, 1), (20, .goto 4, 3), (23, .iconst (-1), 1), (24, .ireturn, 1)]
def pMo_lies : List (Nat × Instr × Nat) := [(0, .aload_n 0, 1), (1, .getfield 7, 3), (4, .bipush 9, 2), (6, .dup2, 1), (7, .iaload, 1), (8, .iconst 1, 1), (9, .iadd, 1), (10, .iastore, 1), (11, .aload_n 0, 1), (12, .getfield 7, 3), (15, .bipush 10, 2), (17, .iconst 5, 1), (18, .iload_n 1, 1), (19, .imul, 1), (20, .iadd, 1), (21, .iconst 3, 1), (22, .iadd, 1), (23, .iload_n 2, 1), (24, .iastore, 1), (25, .aload_n 0, 1), (26, .getfield 7, 3), (29, .bipush 10, 2), (31, .iconst 5, 1), (32, .iload_n 1, 1), (33, .imul, 1), (34, .iadd, 1), (35, .iconst 4, 1), (36, .iadd, 1), (37, .aload_n 0, 1), (38, .getfield 7, 3), (41, .bipush 9, 2), (43, .iaload, 1), (44, .iastore, 1), (45, .return_, 1)]
def pMo_comes : List (Nat × Instr × Nat) := [(0, .bipush 10, 2), (2, .iconst 5, 1), (3, .aload_n 0, 1), (4, .getfield 7, 3), (7, .iconst 0, 1), (8, .iaload, 1), (9, .imul, 1), (10, .iadd, 1), (11, .istore 5, 2), (13, .aload_n 0, 1), (14, .getfield 7, 3), (17, .iload 5, 2), (19, .iload_n 1, 1), (20, .iastore, 1), (21, .aload_n 0, 1), (22, .getfield 7, 3), (25, .iload 5, 2), (27, .iconst 1, 1), (28, .iadd, 1), (29, .iload_n 2, 1), (30, .iastore, 1), (31, .aload_n 0, 1), (32, .getfield 7, 3), (35, .iload 5, 2), (37, .iconst 2, 1), (38, .iadd, 1), (39, .iload_n 3, 1), (40, .iastore, 1), (41, .aload_n 0, 1), (42, .aload_n 0, 1), (43, .getfield 7, 3), (46, .iconst 0, 1), (47, .iaload, 1), (48, .iload 4, 2), (50, .invokevirtual 158, 3), (53, .aload_n 0, 1), (54, .getfield 7, 3), (57, .iconst 0, 1), (58, .dup2, 1), (59, .iaload, 1), (60, .iconst 1, 1), (61, .iadd, 1), (62, .iastore, 1), (63, .return_, 1)]
def pMo_thing : List (Nat × Instr × Nat) := [(0, .iload_n 1, 1), (1, .i2l, 1), (2, .lconst 0, 1), (3, .ldc2_w 161, 3), (6, .invokestatic 57, 3), (9, .ifCond .eq 35, 3), (12, .iload_n 2, 1), (13, .i2l, 1), (14, .lconst 0, 1), (15, .ldc2_w 150, 3), (18, .invokestatic 57, 3), (21, .ifCond .eq 23, 3), (24, .iload_n 3, 1), (25, .i2l, 1), (26, .lconst 0, 1), (27, .ldc2_w 152, 3), (30, .invokestatic 57, 3), (33, .ifCond .eq 11, 3), (36, .iload 4, 2), (38, .invokestatic 163, 3), (41, .ifCond .ne 5, 3), (44, .iconst (-1), 1), (45, .ireturn, 1), (46, .aload_n 0, 1), (47, .getfield 7, 3), (50, .iconst 0, 1), (51, .iaload, 1), (52, .bipush 8, 2), (54, .if_icmp .ne 6, 3), (57, .bipush (-2), 2), (59, .ireturn, 1), (60, .aload_n 0, 1), (61, .iload_n 1, 1), (62, .iload_n 2, 1), (63, .iload_n 3, 1), (64, .iload 4, 2), (66, .invokevirtual 119, 3), (69, .aload_n 0, 1), (70, .getfield 7, 3), (73, .iconst 0, 1), (74, .iaload, 1), (75, .iconst 1, 1), (76, .isub, 1), (77, .ireturn, 1)]
def pMo_aboveOf : List (Nat × Instr × Nat) := [(0, .iconst 0, 1), (1, .istore_n 2, 1), (2, .iconst 0, 1), (3, .istore_n 3, 1), (4, .iload_n 3, 1), (5, .aload_n 0, 1), (6, .getfield 7, 3), (9, .iconst 0, 1), (10, .iaload, 1), (11, .if_icmp .ge 60, 3), (14, .iload_n 2, 1), (15, .aload_n 0, 1), (16, .iload_n 1, 1), (17, .iconst 3, 1), (18, .invokevirtual 166, 3), (21, .bipush 6, 2), (23, .if_icmp .eq 39, 3), (26, .aload_n 0, 1), (27, .iload_n 3, 1), (28, .iconst 3, 1), (29, .invokevirtual 166, 3), (32, .aload_n 0, 1), (33, .iload_n 1, 1), (34, .iconst 3, 1), (35, .invokevirtual 166, 3), (38, .if_icmp .ne 24, 3), (41, .aload_n 0, 1), (42, .iload_n 3, 1), (43, .iconst 4, 1), (44, .invokevirtual 166, 3), (47, .aload_n 0, 1), (48, .iload_n 1, 1), (49, .iconst 4, 1), (50, .invokevirtual 166, 3), (53, .if_icmp .le 9, 3), (56, .iconst 1, 1), (57, .iload_n 3, 1), (58, .ishl, 1), (59, .goto 4, 3), (62, .iconst 0, 1), (63, .ior, 1), (64, .istore_n 2, 1), (65, .iinc 3 1, 3), (68, .goto (-64), 3), (71, .iload_n 2, 1), (72, .ireturn, 1)]
def pMo_speaks : List (Nat × Instr × Nat) := [(0, .aload_n 0, 1), (1, .iload_n 1, 1), (2, .iconst 1, 1), (3, .invokevirtual 166, 3), (6, .bipush 10, 2), (8, .idiv, 1), (9, .istore_n 2, 1), (10, .aload_n 0, 1), (11, .iload_n 1, 1), (12, .iconst 0, 1), (13, .invokevirtual 166, 3), (16, .tableswitch 109 1 5 #[36, 46, 56, 68, 85], 36), (52, .iload_n 2, 1), (53, .aload_n 0, 1), (54, .getfield 7, 3), (57, .bipush 6, 2), (59, .iaload, 1), (60, .iadd, 1), (61, .ireturn, 1), (62, .iload_n 2, 1), (63, .aload_n 0, 1), (64, .getfield 7, 3), (67, .bipush 7, 2), (69, .iaload, 1), (70, .isub, 1), (71, .ireturn, 1), (72, .iconst 2, 1), (73, .iload_n 2, 1), (74, .aload_n 0, 1), (75, .getfield 7, 3), (78, .bipush 6, 2), (80, .iaload, 1), (81, .iadd, 1), (82, .imul, 1), (83, .ireturn, 1), (84, .iload_n 2, 1), (85, .aload_n 0, 1), (86, .getfield 7, 3), (89, .bipush 7, 2), (91, .iaload, 1), (92, .isub, 1), (93, .aload_n 0, 1), (94, .iload_n 1, 1), (95, .iconst 2, 1), (96, .invokevirtual 166, 3), (99, .iadd, 1), (100, .ireturn, 1), (101, .aload_n 0, 1), (102, .getfield 7, 3), (105, .iconst 1, 1), (106, .iaload, 1), (107, .iconst 3, 1), (108, .irem, 1), (109, .ifCond .ne 7, 3), (112, .iload_n 2, 1), (113, .goto 11, 3), (116, .iconst 0, 1), (117, .aload_n 0, 1), (118, .iload_n 1, 1), (119, .iconst 2, 1), (120, .invokevirtual 166, 3), (123, .isub, 1), (124, .ireturn, 1), (125, .iload_n 2, 1), (126, .ireturn, 1)]
def pMo_hides : List (Nat × Instr × Nat) := [(0, .aload_n 0, 1), (1, .iload_n 1, 1), (2, .iconst 0, 1), (3, .invokevirtual 166, 3), (6, .tableswitch 58 1 5 #[34, 36, 38, 34, 47], 34), (40, .iconst 2, 1), (41, .ireturn, 1), (42, .iconst 0, 1), (43, .ireturn, 1), (44, .iconst 2, 1), (45, .aload_n 0, 1), (46, .iload_n 1, 1), (47, .iconst 2, 1), (48, .invokevirtual 166, 3), (51, .iadd, 1), (52, .ireturn, 1), (53, .iconst 1, 1), (54, .aload_n 0, 1), (55, .iload_n 1, 1), (56, .invokevirtual 169, 3), (59, .invokestatic 172, 3), (62, .iadd, 1), (63, .ireturn, 1), (64, .iconst 1, 1), (65, .ireturn, 1)]
def pMo_of : List (Nat × Instr × Nat) := [(0, .aload_n 0, 1), (1, .iload_n 1, 1), (2, .invokevirtual 175, 3), (5, .ifCond .eq 15, 3), (8, .iload_n 2, 1), (9, .i2l, 1), (10, .lconst 0, 1), (11, .ldc2_w 178, 3), (14, .invokestatic 57, 3), (17, .ifCond .ne 5, 3), (20, .iconst (-1), 1), (21, .ireturn, 1), (22, .iload_n 2, 1), (23, .iconst 4, 1), (24, .if_icmp .ge 12, 3), (27, .aload_n 0, 1), (28, .iload_n 1, 1), (29, .iload_n 2, 1), (30, .invokevirtual 166, 3), (33, .goto 11, 3), (36, .aload_n 0, 1), (37, .iload_n 1, 1), (38, .invokevirtual 169, 3), (41, .invokestatic 172, 3), (44, .ireturn, 1)]
def pMo_does : List (Nat × Instr × Nat) := [(0, .aload_n 0, 1), (1, .iload_n 1, 1), (2, .invokevirtual 175, 3), (5, .ifCond .eq 13, 3), (8, .iload_n 2, 1), (9, .i2l, 1), (10, .lconst 0, 1), (11, .lconst 1, 1), (12, .invokestatic 57, 3), (15, .ifCond .ne 5, 3), (18, .iconst (-1), 1), (19, .ireturn, 1), (20, .sipush 1000, 3), (23, .iload_n 2, 1), (24, .ifCond .ne 11, 3), (27, .aload_n 0, 1), (28, .iload_n 1, 1), (29, .invokevirtual 180, 3), (32, .goto 8, 3), (35, .aload_n 0, 1), (36, .iload_n 1, 1), (37, .invokevirtual 183, 3), (40, .iadd, 1), (41, .ireturn, 1)]
def pMo_mind : List (Nat × Instr × Nat) := [(0, .aload_n 0, 1), (1, .iload_n 1, 1), (2, .invokevirtual 175, 3), (5, .ifCond .eq 27, 3), (8, .iload_n 2, 1), (9, .i2l, 1), (10, .lconst 0, 1), (11, .ldc2_w 161, 3), (14, .invokestatic 57, 3), (17, .ifCond .eq 15, 3), (20, .iload_n 3, 1), (21, .i2l, 1), (22, .lconst 0, 1), (23, .ldc2_w 152, 3), (26, .invokestatic 57, 3), (29, .ifCond .ne 5, 3), (32, .iconst (-1), 1), (33, .ireturn, 1), (34, .aload_n 0, 1), (35, .getfield 7, 3), (38, .bipush 10, 2), (40, .iconst 5, 1), (41, .iload_n 1, 1), (42, .imul, 1), (43, .iadd, 1), (44, .iconst 2, 1), (45, .iadd, 1), (46, .iload_n 3, 1), (47, .iastore, 1), (48, .aload_n 0, 1), (49, .bipush 10, 2), (51, .iconst 5, 1), (52, .iload_n 1, 1), (53, .imul, 1), (54, .iadd, 1), (55, .iload_n 2, 1), (56, .invokevirtual 154, 3), (59, .ireturn, 1)]
def pMo_value : List (Nat × Instr × Nat) := [(0, .aload_n 0, 1), (1, .iload_n 1, 1), (2, .invokevirtual 175, 3), (5, .ifCond .eq 31, 3), (8, .iload_n 2, 1), (9, .i2l, 1), (10, .lconst 0, 1), (11, .ldc2_w 150, 3), (14, .invokestatic 57, 3), (17, .ifCond .eq 19, 3), (20, .aload_n 0, 1), (21, .bipush 10, 2), (23, .iconst 5, 1), (24, .iload_n 1, 1), (25, .imul, 1), (26, .iadd, 1), (27, .iconst 1, 1), (28, .iadd, 1), (29, .iload_n 2, 1), (30, .invokevirtual 154, 3), (33, .goto 4, 3), (36, .iconst (-1), 1), (37, .ireturn, 1)]
def pMo_lay : List (Nat × Instr × Nat) := [(0, .aload_n 0, 1), (1, .iload_n 1, 1), (2, .invokevirtual 175, 3), (5, .ifCond .eq 10, 3), (8, .iload_n 2, 1), (9, .invokestatic 163, 3), (12, .ifCond .ne 5, 3), (15, .iconst (-1), 1), (16, .ireturn, 1), (17, .aload_n 0, 1), (18, .iload_n 1, 1), (19, .iconst 3, 1), (20, .invokevirtual 166, 3), (23, .istore_n 3, 1), (24, .aload_n 0, 1), (25, .iload_n 1, 1), (26, .iload_n 2, 1), (27, .invokevirtual 158, 3), (30, .iload_n 3, 1), (31, .ireturn, 1)]
def pMo_lying : List (Nat × Instr × Nat) := [(0, .iconst 0, 1), (1, .istore_n 1, 1), (2, .iconst 0, 1), (3, .istore_n 2, 1), (4, .iload_n 2, 1), (5, .aload_n 0, 1), (6, .getfield 7, 3), (9, .iconst 0, 1), (10, .iaload, 1), (11, .if_icmp .ge 30, 3), (14, .iload_n 1, 1), (15, .aload_n 0, 1), (16, .iload_n 2, 1), (17, .iconst 3, 1), (18, .invokevirtual 166, 3), (21, .bipush 6, 2), (23, .if_icmp .eq 9, 3), (26, .iconst 1, 1), (27, .iload_n 2, 1), (28, .ishl, 1), (29, .goto 4, 3), (32, .iconst 0, 1), (33, .ior, 1), (34, .istore_n 1, 1), (35, .iinc 2 1, 3), (38, .goto (-34), 3), (41, .iload_n 1, 1), (42, .ireturn, 1)]
def pMo_take : List (Nat × Instr × Nat) := [(0, .aload_n 0, 1), (1, .iload_n 1, 1), (2, .invokevirtual 175, 3), (5, .ifCond .ne 5, 3), (8, .iconst (-1), 1), (9, .ireturn, 1), (10, .aload_n 0, 1), (11, .iload_n 1, 1), (12, .iconst 3, 1), (13, .invokevirtual 166, 3), (16, .bipush 6, 2), (18, .if_icmp .ne 6, 3), (21, .bipush (-3), 2), (23, .ireturn, 1), (24, .aload_n 0, 1), (25, .getfield 7, 3), (28, .bipush 10, 2), (30, .iconst 5, 1), (31, .iload_n 1, 1), (32, .imul, 1), (33, .iadd, 1), (34, .iconst 3, 1), (35, .iadd, 1), (36, .bipush 6, 2), (38, .iastore, 1), (39, .aload_n 0, 1), (40, .invokevirtual 186, 3), (43, .invokestatic 172, 3), (46, .ireturn, 1)]
def pMo_bring : List (Nat × Instr × Nat) := [(0, .iload_n 1, 1), (1, .invokestatic 163, 3), (4, .ifCond .eq 12, 3), (7, .aload_n 0, 1), (8, .iconst 3, 1), (9, .iload_n 1, 1), (10, .invokevirtual 154, 3), (13, .goto 4, 3), (16, .iconst (-1), 1), (17, .ireturn, 1)]
def pMo_think : List (Nat × Instr × Nat) := [(0, .iload_n 1, 1), (1, .i2l, 1), (2, .lconst 0, 1), (3, .ldc2_w 150, 3), (6, .invokestatic 57, 3), (9, .ifCond .eq 12, 3), (12, .aload_n 0, 1), (13, .iconst 4, 1), (14, .iload_n 1, 1), (15, .invokevirtual 154, 3), (18, .goto 4, 3), (21, .iconst (-1), 1), (22, .ireturn, 1)]
def pMo_lyingIn : List (Nat × Instr × Nat) := [(0, .iconst 0, 1), (1, .istore_n 2, 1), (2, .iconst 0, 1), (3, .istore_n 3, 1), (4, .iload_n 3, 1), (5, .aload_n 0, 1), (6, .getfield 7, 3), (9, .iconst 0, 1), (10, .iaload, 1), (11, .if_icmp .ge 29, 3), (14, .iload_n 2, 1), (15, .aload_n 0, 1), (16, .iload_n 3, 1), (17, .iconst 3, 1), (18, .invokevirtual 166, 3), (21, .iload_n 1, 1), (22, .if_icmp .ne 9, 3), (25, .iconst 1, 1), (26, .iload_n 3, 1), (27, .ishl, 1), (28, .goto 4, 3), (31, .iconst 0, 1), (32, .ior, 1), (33, .istore_n 2, 1), (34, .iinc 3 1, 3), (37, .goto (-33), 3), (40, .iload_n 2, 1), (41, .ireturn, 1)]
def pMo_top : List (Nat × Instr × Nat) := [(0, .bipush 8, 2), (2, .istore_n 2, 1), (3, .iconst 0, 1), (4, .istore_n 3, 1), (5, .iload_n 3, 1), (6, .aload_n 0, 1), (7, .getfield 7, 3), (10, .iconst 0, 1), (11, .iaload, 1), (12, .if_icmp .ge 46, 3), (15, .aload_n 0, 1), (16, .iload_n 3, 1), (17, .iconst 3, 1), (18, .invokevirtual 166, 3), (21, .iload_n 1, 1), (22, .if_icmp .ne 28, 3), (25, .iload_n 2, 1), (26, .bipush 8, 2), (28, .if_icmp .eq 18, 3), (31, .aload_n 0, 1), (32, .iload_n 3, 1), (33, .iconst 4, 1), (34, .invokevirtual 166, 3), (37, .aload_n 0, 1), (38, .iload_n 2, 1), (39, .iconst 4, 1), (40, .invokevirtual 166, 3), (43, .if_icmp .le 7, 3), (46, .iload_n 3, 1), (47, .goto 4, 3), (50, .iload_n 2, 1), (51, .istore_n 2, 1), (52, .iinc 3 1, 3), (55, .goto (-50), 3), (58, .iload_n 2, 1), (59, .ireturn, 1)]
def pMo_pit : List (Nat × Instr × Nat) := [(0, .iload_n 1, 1), (1, .invokestatic 163, 3), (4, .ifCond .eq 13, 3), (7, .iload_n 2, 1), (8, .i2l, 1), (9, .lconst 0, 1), (10, .lconst 1, 1), (11, .invokestatic 57, 3), (14, .ifCond .ne 5, 3), (17, .iconst (-1), 1), (18, .ireturn, 1), (19, .iload_n 2, 1), (20, .ifCond .ne 11, 3), (23, .aload_n 0, 1), (24, .iload_n 1, 1), (25, .invokevirtual 189, 3), (28, .goto 8, 3), (31, .aload_n 0, 1), (32, .iload_n 1, 1), (33, .invokevirtual 192, 3), (36, .ireturn, 1)]
def pMo_goesOn : List (Nat × Instr × Nat) := [(0, .aload_n 0, 1), (1, .getfield 7, 3), (4, .iconst 5, 1), (5, .iaload, 1), (6, .istore_n 1, 1), (7, .aload_n 0, 1), (8, .aload_n 0, 1), (9, .getfield 7, 3), (12, .iconst 3, 1), (13, .iaload, 1), (14, .invokevirtual 192, 3), (17, .istore_n 2, 1), (18, .iload_n 2, 1), (19, .bipush 8, 2), (21, .if_icmp .ge 70, 3), (24, .aload_n 0, 1), (25, .iload_n 2, 1), (26, .invokevirtual 183, 3), (29, .iload_n 1, 1), (30, .if_icmp .gt 61, 3), (33, .iload_n 1, 1), (34, .aload_n 0, 1), (35, .iload_n 2, 1), (36, .invokevirtual 183, 3), (39, .isub, 1), (40, .istore_n 1, 1), (41, .aload_n 0, 1), (42, .getfield 7, 3), (45, .iconst 4, 1), (46, .aload_n 0, 1), (47, .getfield 7, 3), (50, .iconst 4, 1), (51, .iaload, 1), (52, .aload_n 0, 1), (53, .iload_n 2, 1), (54, .invokevirtual 180, 3), (57, .iadd, 1), (58, .invokestatic 195, 3), (61, .iastore, 1), (62, .aload_n 0, 1), (63, .getfield 7, 3), (66, .bipush 10, 2), (68, .iconst 5, 1), (69, .iload_n 2, 1), (70, .imul, 1), (71, .iadd, 1), (72, .iconst 3, 1), (73, .iadd, 1), (74, .bipush 6, 2), (76, .iastore, 1), (77, .aload_n 0, 1), (78, .aload_n 0, 1), (79, .getfield 7, 3), (82, .iconst 3, 1), (83, .iaload, 1), (84, .invokevirtual 192, 3), (87, .istore_n 2, 1), (88, .goto (-70), 3), (91, .aload_n 0, 1), (92, .getfield 7, 3), (95, .iconst 3, 1), (96, .aload_n 0, 1), (97, .getfield 7, 3), (100, .iconst 3, 1), (101, .iaload, 1), (102, .iconst 1, 1), (103, .iadd, 1), (104, .bipush 6, 2), (106, .irem, 1), (107, .iastore, 1), (108, .aload_n 0, 1), (109, .getfield 7, 3), (112, .iconst 1, 1), (113, .dup2, 1), (114, .iaload, 1), (115, .iconst 1, 1), (116, .iadd, 1), (117, .iastore, 1), (118, .return_, 1)]
def pMo_goes : List (Nat × Instr × Nat) := [(0, .iconst 0, 1), (1, .istore_n 2, 1), (2, .iload_n 2, 1), (3, .iload_n 1, 1), (4, .if_icmp .ge 13, 3), (7, .aload_n 0, 1), (8, .invokevirtual 198, 3), (11, .iinc 2 1, 3), (14, .goto (-12), 3), (17, .return_, 1)]
def pMo_years : List (Nat × Instr × Nat) := [(0, .iload_n 1, 1), (1, .i2l, 1), (2, .lconst 1, 1), (3, .ldc2_w 201, 3), (6, .invokestatic 57, 3), (9, .ifCond .ne 5, 3), (12, .iconst (-1), 1), (13, .ireturn, 1), (14, .aload_n 0, 1), (15, .iload_n 1, 1), (16, .invokevirtual 203, 3), (19, .aload_n 0, 1), (20, .getfield 7, 3), (23, .iconst 4, 1), (24, .iaload, 1), (25, .ireturn, 1)]
def pMo_seed : List (Nat × Instr × Nat) := [(0, .aload_n 0, 1), (1, .iconst 2, 1), (2, .iload_n 1, 1), (3, .invokevirtual 154, 3), (6, .ireturn, 1)]
def pMo_drawn : List (Nat × Instr × Nat) := [(0, .aload_n 0, 1), (1, .getfield 7, 3), (4, .iconst 2, 1), (5, .aload_n 0, 1), (6, .getfield 7, 3), (9, .iconst 2, 1), (10, .iaload, 1), (11, .ldc 206, 2), (13, .imul, 1), (14, .sipush 12345, 3), (17, .iadd, 1), (18, .iastore, 1), (19, .aload_n 0, 1), (20, .getfield 7, 3), (23, .iconst 2, 1), (24, .iaload, 1), (25, .bipush 16, 2), (27, .iushr, 1), (28, .ireturn, 1)]
def pMo_year : List (Nat × Instr × Nat) := [(0, .aload_n 0, 1), (1, .getfield 7, 3), (4, .iconst 0, 1), (5, .iaload, 1), (6, .ifCond .le 55, 3), (9, .aload_n 0, 1), (10, .invokevirtual 207, 3), (13, .aload_n 0, 1), (14, .getfield 7, 3), (17, .iconst 0, 1), (18, .iaload, 1), (19, .irem, 1), (20, .istore_n 1, 1), (21, .aload_n 0, 1), (22, .invokevirtual 207, 3), (25, .bipush 100, 2), (27, .irem, 1), (28, .aload_n 0, 1), (29, .getfield 7, 3), (32, .bipush 8, 2), (34, .iaload, 1), (35, .if_icmp .ge 26, 3), (38, .aload_n 0, 1), (39, .iload_n 1, 1), (40, .iconst 3, 1), (41, .invokevirtual 166, 3), (44, .bipush 6, 2), (46, .if_icmp .eq 15, 3), (49, .aload_n 0, 1), (50, .iload_n 1, 1), (51, .aload_n 0, 1), (52, .invokevirtual 207, 3), (55, .bipush 6, 2), (57, .irem, 1), (58, .invokevirtual 158, 3), (61, .aload_n 0, 1), (62, .invokevirtual 198, 3), (65, .aload_n 0, 1), (66, .getfield 7, 3), (69, .iconst 4, 1), (70, .iaload, 1), (71, .ireturn, 1)]
def pMo_luck : List (Nat × Instr × Nat) := [(0, .iload_n 1, 1), (1, .i2l, 1), (2, .lconst 1, 1), (3, .ldc2_w 210, 3), (6, .invokestatic 57, 3), (9, .ifCond .ne 5, 3), (12, .iconst (-1), 1), (13, .ireturn, 1), (14, .aload_n 0, 1), (15, .getfield 7, 3), (18, .aload_n 0, 1), (19, .getfield 16, 3), (22, .invokestatic 138, 3), (25, .aload_n 0, 1), (26, .invokevirtual 198, 3), (29, .aload_n 0, 1), (30, .getfield 7, 3), (33, .iconst 4, 1), (34, .iaload, 1), (35, .istore_n 2, 1), (36, .aload_n 0, 1), (37, .getfield 16, 3), (40, .iconst 2, 1), (41, .iaload, 1), (42, .istore_n 3, 1), (43, .iconst 0, 1), (44, .istore 4, 2), (46, .iconst 0, 1), (47, .istore 5, 2), (49, .iload 5, 2), (51, .iload_n 1, 1), (52, .if_icmp .ge 52, 3), (55, .aload_n 0, 1), (56, .getfield 16, 3), (59, .aload_n 0, 1), (60, .getfield 7, 3), (63, .invokestatic 138, 3), (66, .aload_n 0, 1), (67, .getfield 7, 3), (70, .iconst 2, 1), (71, .iload_n 3, 1), (72, .iastore, 1), (73, .iload 4, 2), (75, .aload_n 0, 1), (76, .invokevirtual 212, 3), (79, .iload_n 2, 1), (80, .if_icmp .le 7, 3), (83, .iconst 1, 1), (84, .goto 4, 3), (87, .iconst 0, 1), (88, .iadd, 1), (89, .istore 4, 2), (91, .aload_n 0, 1), (92, .getfield 7, 3), (95, .iconst 2, 1), (96, .iaload, 1), (97, .istore_n 3, 1), (98, .iinc 5 1, 3), (101, .goto (-52), 3), (104, .aload_n 0, 1), (105, .getfield 16, 3), (108, .aload_n 0, 1), (109, .getfield 7, 3), (112, .invokestatic 138, 3), (115, .iload 4, 2), (117, .ireturn, 1)]
def pMo_worthOfAll : List (Nat × Instr × Nat) := [(0, .iconst 0, 1), (1, .istore_n 1, 1), (2, .iconst 0, 1), (3, .istore_n 2, 1), (4, .iload_n 2, 1), (5, .aload_n 0, 1), (6, .getfield 7, 3), (9, .iconst 0, 1), (10, .iaload, 1), (11, .if_icmp .ge 33, 3), (14, .iload_n 1, 1), (15, .aload_n 0, 1), (16, .iload_n 2, 1), (17, .iconst 3, 1), (18, .invokevirtual 166, 3), (21, .bipush 6, 2), (23, .if_icmp .eq 12, 3), (26, .aload_n 0, 1), (27, .iload_n 2, 1), (28, .iconst 1, 1), (29, .invokevirtual 166, 3), (32, .goto 4, 3), (35, .iconst 0, 1), (36, .iadd, 1), (37, .istore_n 1, 1), (38, .iinc 2 1, 3), (41, .goto (-37), 3), (44, .iload_n 1, 1), (45, .ireturn, 1)]
def pMo_kindsIn : List (Nat × Instr × Nat) := [(0, .iconst 0, 1), (1, .istore_n 2, 1), (2, .iconst 0, 1), (3, .istore_n 3, 1), (4, .iload_n 3, 1), (5, .aload_n 0, 1), (6, .getfield 7, 3), (9, .iconst 0, 1), (10, .iaload, 1), (11, .if_icmp .ge 49, 3), (14, .iload_n 2, 1), (15, .aload_n 0, 1), (16, .iload_n 3, 1), (17, .iconst 3, 1), (18, .invokevirtual 166, 3), (21, .bipush 6, 2), (23, .if_icmp .eq 28, 3), (26, .iload_n 1, 1), (27, .aload_n 0, 1), (28, .iload_n 3, 1), (29, .iconst 3, 1), (30, .invokevirtual 166, 3), (33, .ishr, 1), (34, .iconst 1, 1), (35, .iand, 1), (36, .iconst 1, 1), (37, .if_icmp .ne 14, 3), (40, .iconst 1, 1), (41, .aload_n 0, 1), (42, .iload_n 3, 1), (43, .iconst 0, 1), (44, .invokevirtual 166, 3), (47, .ishl, 1), (48, .goto 4, 3), (51, .iconst 0, 1), (52, .ior, 1), (53, .istore_n 2, 1), (54, .iinc 3 1, 3), (57, .goto (-53), 3), (60, .iload_n 2, 1), (61, .ireturn, 1)]
def pMo_cover : List (Nat × Instr × Nat) := [(0, .aload_n 0, 1), (1, .bipush 63, 2), (3, .invokevirtual 215, 3), (6, .istore_n 1, 1), (7, .bipush 63, 2), (9, .istore_n 2, 1), (10, .bipush 63, 2), (12, .istore_n 3, 1), (13, .iload_n 3, 1), (14, .ifCond .lt 35, 3), (17, .aload_n 0, 1), (18, .iload_n 3, 1), (19, .invokevirtual 215, 3), (22, .iload_n 1, 1), (23, .if_icmp .ne 18, 3), (26, .iload_n 3, 1), (27, .invokestatic 172, 3), (30, .iload_n 2, 1), (31, .invokestatic 172, 3), (34, .if_icmp .gt 7, 3), (37, .iload_n 3, 1), (38, .goto 4, 3), (41, .iload_n 2, 1), (42, .istore_n 2, 1), (43, .iinc 3 (-1), 3), (46, .goto (-33), 3), (49, .iload_n 2, 1), (50, .ireturn, 1)]
def pMo_state : List (Nat × Instr × Nat) := [(0, .iload_n 1, 1), (1, .tableswitch 75 0 5 #[39, 46, 53, 60, 65, 70], 39), (40, .aload_n 0, 1), (41, .getfield 7, 3), (44, .iconst 1, 1), (45, .iaload, 1), (46, .ireturn, 1), (47, .aload_n 0, 1), (48, .getfield 7, 3), (51, .iconst 4, 1), (52, .iaload, 1), (53, .ireturn, 1), (54, .aload_n 0, 1), (55, .getfield 7, 3), (58, .iconst 3, 1), (59, .iaload, 1), (60, .ireturn, 1), (61, .aload_n 0, 1), (62, .invokevirtual 186, 3), (65, .ireturn, 1), (66, .aload_n 0, 1), (67, .invokevirtual 218, 3), (70, .ireturn, 1), (71, .aload_n 0, 1), (72, .invokevirtual 221, 3), (75, .ireturn, 1), (76, .iconst (-1), 1), (77, .ireturn, 1)]
def pMo_thoughtBehind : List (Nat × Instr × Nat) := [(0, .aload_n 0, 1), (1, .getfield 7, 3), (4, .aload_n 0, 1), (5, .getfield 16, 3), (8, .invokestatic 138, 3), (11, .aload_n 0, 1), (12, .iload_n 1, 1), (13, .invokevirtual 203, 3), (16, .aload_n 0, 1), (17, .getfield 7, 3), (20, .iconst 4, 1), (21, .iaload, 1), (22, .istore_n 2, 1), (23, .aload_n 0, 1), (24, .getfield 16, 3), (27, .aload_n 0, 1), (28, .getfield 7, 3), (31, .invokestatic 138, 3), (34, .iload_n 2, 1), (35, .ireturn, 1)]
def pMo_thought : List (Nat × Instr × Nat) := [(0, .iload_n 1, 1), (1, .i2l, 1), (2, .lconst 0, 1), (3, .ldc2_w 201, 3), (6, .invokestatic 57, 3), (9, .ifCond .eq 11, 3), (12, .aload_n 0, 1), (13, .iload_n 1, 1), (14, .invokevirtual 224, 3), (17, .goto 4, 3), (20, .iconst (-1), 1), (21, .ireturn, 1)]
def pMo_dug : List (Nat × Instr × Nat) := [(0, .aload_n 0, 1), (1, .iload_n 1, 1), (2, .invokevirtual 175, 3), (5, .ifCond .ne 5, 3), (8, .iconst (-1), 1), (9, .ireturn, 1), (10, .aload_n 0, 1), (11, .getfield 7, 3), (14, .aload_n 0, 1), (15, .getfield 16, 3), (18, .invokestatic 138, 3), (21, .iconst 0, 1), (22, .istore_n 2, 1), (23, .iload_n 2, 1), (24, .bipush 60, 2), (26, .if_icmp .gt 24, 3), (29, .aload_n 0, 1), (30, .iload_n 1, 1), (31, .iconst 3, 1), (32, .invokevirtual 166, 3), (35, .bipush 6, 2), (37, .if_icmp .eq 13, 3), (40, .aload_n 0, 1), (41, .invokevirtual 198, 3), (44, .iinc 2 1, 3), (47, .goto (-24), 3), (50, .aload_n 0, 1), (51, .getfield 16, 3), (54, .aload_n 0, 1), (55, .getfield 7, 3), (58, .invokestatic 138, 3), (61, .iload_n 2, 1), (62, .bipush 60, 2), (64, .if_icmp .gt 7, 3), (67, .iload_n 2, 1), (68, .goto 5, 3), (71, .bipush (-3), 2), (73, .ireturn, 1)]
def pMo_empty : List (Nat × Instr × Nat) := [(0, .aload_n 0, 1), (1, .getfield 7, 3), (4, .aload_n 0, 1), (5, .getfield 16, 3), (8, .invokestatic 138, 3), (11, .iconst 0, 1), (12, .istore_n 1, 1), (13, .iload_n 1, 1), (14, .bipush 60, 2), (16, .if_icmp .gt 20, 3), (19, .aload_n 0, 1), (20, .invokevirtual 186, 3), (23, .ifCond .eq 13, 3), (26, .aload_n 0, 1), (27, .invokevirtual 198, 3), (30, .iinc 1 1, 3), (33, .goto (-20), 3), (36, .aload_n 0, 1), (37, .getfield 16, 3), (40, .aload_n 0, 1), (41, .getfield 7, 3), (44, .invokestatic 138, 3), (47, .iload_n 1, 1), (48, .bipush 60, 2), (50, .if_icmp .gt 7, 3), (53, .iload_n 1, 1), (54, .goto 5, 3), (57, .bipush (-3), 2), (59, .ireturn, 1)]
def pMo_praised : List (Nat × Instr × Nat) := [(0, .iload_n 1, 1), (1, .i2l, 1), (2, .lconst 0, 1), (3, .ldc2_w 150, 3), (6, .invokestatic 57, 3), (9, .ifCond .ne 5, 3), (12, .iconst (-1), 1), (13, .ireturn, 1), (14, .aload_n 0, 1), (15, .getfield 7, 3), (18, .aload_n 0, 1), (19, .getfield 16, 3), (22, .invokestatic 138, 3), (25, .iconst 0, 1), (26, .istore_n 2, 1), (27, .iload_n 2, 1), (28, .bipush 60, 2), (30, .if_icmp .gt 23, 3), (33, .aload_n 0, 1), (34, .getfield 7, 3), (37, .iconst 4, 1), (38, .iaload, 1), (39, .iload_n 1, 1), (40, .if_icmp .ge 13, 3), (43, .aload_n 0, 1), (44, .invokevirtual 198, 3), (47, .iinc 2 1, 3), (50, .goto (-23), 3), (53, .aload_n 0, 1), (54, .getfield 16, 3), (57, .aload_n 0, 1), (58, .getfield 7, 3), (61, .invokestatic 138, 3), (64, .iload_n 2, 1), (65, .bipush 60, 2), (67, .if_icmp .gt 7, 3), (70, .iload_n 2, 1), (71, .goto 5, 3), (74, .bipush (-3), 2), (76, .ireturn, 1)]
def pMo_isShort : List (Nat × Instr × Nat) := [(0, .iload_n 0, 1), (1, .i2l, 1), (2, .lconst 1, 1), (3, .ldc2_w 227, 3), (6, .invokestatic 57, 3), (9, .ireturn, 1)]
def pMo_pitFor : List (Nat × Instr × Nat) := [(0, .aload_n 0, 1), (1, .iload_n 1, 1), (2, .invokevirtual 175, 3), (5, .ifCond .eq 10, 3), (8, .iload_n 2, 1), (9, .invokestatic 229, 3), (12, .ifCond .ne 5, 3), (15, .iconst (-1), 1), (16, .ireturn, 1), (17, .aload_n 0, 1), (18, .iload_n 1, 1), (19, .iconst 3, 1), (20, .invokevirtual 166, 3), (23, .bipush 6, 2), (25, .if_icmp .ne 6, 3), (28, .bipush (-3), 2), (30, .ireturn, 1), (31, .aload_n 0, 1), (32, .getfield 7, 3), (35, .aload_n 0, 1), (36, .getfield 22, 3), (39, .invokestatic 138, 3), (42, .iconst 0, 1), (43, .istore_n 3, 1), (44, .iconst (-1), 1), (45, .istore 4, 2), (47, .iconst 0, 1), (48, .istore 5, 2), (50, .iload 5, 2), (52, .bipush 6, 2), (54, .if_icmp .ge 57, 3), (57, .aload_n 0, 1), (58, .iload_n 1, 1), (59, .iload 5, 2), (61, .invokevirtual 158, 3), (64, .aload_n 0, 1), (65, .iload_n 2, 1), (66, .invokevirtual 224, 3), (69, .istore 6, 2), (71, .aload_n 0, 1), (72, .getfield 22, 3), (75, .aload_n 0, 1), (76, .getfield 7, 3), (79, .invokestatic 138, 3), (82, .iload 6, 2), (84, .iload 4, 2), (86, .if_icmp .le 8, 3), (89, .iload 5, 2), (91, .goto 4, 3), (94, .iload_n 3, 1), (95, .istore_n 3, 1), (96, .iload 4, 2), (98, .iload 6, 2), (100, .invokestatic 232, 3), (103, .istore 4, 2), (105, .iinc 5 1, 3), (108, .goto (-58), 3), (111, .iload_n 3, 1), (112, .ireturn, 1)]
def pMo_mostBy : List (Nat × Instr × Nat) := [(0, .aload_n 0, 1), (1, .getfield 7, 3), (4, .iload_n 1, 1), (5, .iaload, 1), (6, .istore 4, 2), (8, .iconst 0, 1), (9, .istore 5, 2), (11, .iconst (-1), 1), (12, .istore 6, 2), (14, .iconst 0, 1), (15, .istore 7, 2), (17, .iload 7, 2), (19, .iload_n 2, 1), (20, .if_icmp .gt 49, 3), (23, .aload_n 0, 1), (24, .getfield 7, 3), (27, .iload_n 1, 1), (28, .iload 7, 2), (30, .iastore, 1), (31, .aload_n 0, 1), (32, .iload_n 3, 1), (33, .invokevirtual 224, 3), (36, .istore 8, 2), (38, .iload 8, 2), (40, .iload 6, 2), (42, .if_icmp .le 8, 3), (45, .iload 7, 2), (47, .goto 5, 3), (50, .iload 5, 2), (52, .istore 5, 2), (54, .iload 6, 2), (56, .iload 8, 2), (58, .invokestatic 232, 3), (61, .istore 6, 2), (63, .iinc 7 1, 3), (66, .goto (-49), 3), (69, .aload_n 0, 1), (70, .getfield 7, 3), (73, .iload_n 1, 1), (74, .iload 4, 2), (76, .iastore, 1), (77, .iload 5, 2), (79, .ireturn, 1)]
def pMo_kindFor : List (Nat × Instr × Nat) := [(0, .aload_n 0, 1), (1, .iload_n 1, 1), (2, .invokevirtual 175, 3), (5, .ifCond .eq 10, 3), (8, .iload_n 2, 1), (9, .invokestatic 229, 3), (12, .ifCond .ne 5, 3), (15, .iconst (-1), 1), (16, .ireturn, 1), (17, .aload_n 0, 1), (18, .iload_n 1, 1), (19, .iconst 3, 1), (20, .invokevirtual 166, 3), (23, .bipush 6, 2), (25, .if_icmp .ne 8, 3), (28, .bipush (-3), 2), (30, .goto 15, 3), (33, .aload_n 0, 1), (34, .bipush 10, 2), (36, .iconst 5, 1), (37, .iload_n 1, 1), (38, .imul, 1), (39, .iadd, 1), (40, .iconst 5, 1), (41, .iload_n 2, 1), (42, .invokevirtual 235, 3), (45, .ireturn, 1)]
def pMo_worthFor : List (Nat × Instr × Nat) := [(0, .aload_n 0, 1), (1, .iload_n 1, 1), (2, .invokevirtual 175, 3), (5, .ifCond .eq 22, 3), (8, .iload_n 2, 1), (9, .invokestatic 229, 3), (12, .ifCond .eq 15, 3), (15, .iload_n 3, 1), (16, .i2l, 1), (17, .lconst 0, 1), (18, .ldc2_w 150, 3), (21, .invokestatic 57, 3), (24, .ifCond .ne 5, 3), (27, .iconst (-1), 1), (28, .ireturn, 1), (29, .bipush 10, 2), (31, .iconst 5, 1), (32, .iload_n 1, 1), (33, .imul, 1), (34, .iadd, 1), (35, .iconst 1, 1), (36, .iadd, 1), (37, .istore 4, 2), (39, .aload_n 0, 1), (40, .getfield 7, 3), (43, .iload 4, 2), (45, .iaload, 1), (46, .istore 5, 2), (48, .bipush (-3), 2), (50, .istore 6, 2), (52, .iconst 0, 1), (53, .istore 7, 2), (55, .iload 7, 2), (57, .bipush 99, 2), (59, .if_icmp .gt 52, 3), (62, .iload 6, 2), (64, .ifCond .ge 47, 3), (67, .aload_n 0, 1), (68, .iload_n 1, 1), (69, .iconst 3, 1), (70, .invokevirtual 166, 3), (73, .bipush 6, 2), (75, .if_icmp .eq 36, 3), (78, .aload_n 0, 1), (79, .getfield 7, 3), (82, .iload 4, 2), (84, .iload 7, 2), (86, .iastore, 1), (87, .aload_n 0, 1), (88, .iload_n 2, 1), (89, .invokevirtual 224, 3), (92, .iload_n 3, 1), (93, .if_icmp .lt 8, 3), (96, .iload 7, 2), (98, .goto 5, 3), (101, .bipush (-3), 2), (103, .istore 6, 2), (105, .iinc 7 1, 3), (108, .goto (-53), 3), (111, .aload_n 0, 1), (112, .getfield 7, 3), (115, .iload 4, 2), (117, .iload 5, 2), (119, .iastore, 1), (120, .iload 6, 2), (122, .ireturn, 1)]
def pMo_beginFor : List (Nat × Instr × Nat) := [(0, .iload_n 1, 1), (1, .invokestatic 229, 3), (4, .ifCond .eq 13, 3), (7, .aload_n 0, 1), (8, .iconst 3, 1), (9, .iconst 5, 1), (10, .iload_n 1, 1), (11, .invokevirtual 235, 3), (14, .goto 4, 3), (17, .iconst (-1), 1), (18, .ireturn, 1)]
def pMo_awayFor : List (Nat × Instr × Nat) := [(0, .iload_n 1, 1), (1, .invokestatic 229, 3), (4, .ifCond .eq 15, 3), (7, .iload_n 2, 1), (8, .i2l, 1), (9, .lconst 0, 1), (10, .ldc2_w 150, 3), (13, .invokestatic 57, 3), (16, .ifCond .ne 5, 3), (19, .iconst (-1), 1), (20, .ireturn, 1), (21, .aload_n 0, 1), (22, .getfield 7, 3), (25, .aload_n 0, 1), (26, .getfield 22, 3), (29, .invokestatic 138, 3), (32, .aload_n 0, 1), (33, .invokevirtual 186, 3), (36, .istore_n 3, 1), (37, .bipush (-3), 2), (39, .istore 4, 2), (41, .iconst 0, 1), (42, .istore 5, 2), (44, .iload 5, 2), (46, .iconst 1, 1), (47, .aload_n 0, 1), (48, .getfield 7, 3), (51, .iconst 0, 1), (52, .iaload, 1), (53, .ishl, 1), (54, .if_icmp .ge 122, 3), (57, .iload 5, 2), (59, .iload_n 3, 1), (60, .iconst (-1), 1), (61, .ixor, 1), (62, .iand, 1), (63, .ifCond .ne 107, 3), (66, .iload 4, 2), (68, .ifCond .lt 16, 3), (71, .iload 5, 2), (73, .invokestatic 172, 3), (76, .iload 4, 2), (78, .invokestatic 172, 3), (81, .if_icmp .ge 89, 3), (84, .iconst 0, 1), (85, .istore 6, 2), (87, .iload 6, 2), (89, .aload_n 0, 1), (90, .getfield 7, 3), (93, .iconst 0, 1), (94, .iaload, 1), (95, .if_icmp .ge 46, 3), (98, .aload_n 0, 1), (99, .getfield 7, 3), (102, .bipush 10, 2), (104, .iconst 5, 1), (105, .iload 6, 2), (107, .imul, 1), (108, .iadd, 1), (109, .iconst 3, 1), (110, .iadd, 1), (111, .iload 5, 2), (113, .iload 6, 2), (115, .ishr, 1), (116, .iconst 1, 1), (117, .iand, 1), (118, .iconst 1, 1), (119, .if_icmp .ne 8, 3), (122, .bipush 6, 2), (124, .goto 10, 3), (127, .aload_n 0, 1), (128, .iload 6, 2), (130, .iconst 3, 1), (131, .invokevirtual 166, 3), (134, .iastore, 1), (135, .iinc 6 1, 3), (138, .goto (-51), 3), (141, .aload_n 0, 1), (142, .iload_n 1, 1), (143, .invokevirtual 224, 3), (146, .iload_n 2, 1), (147, .if_icmp .lt 8, 3), (150, .iload 5, 2), (152, .goto 5, 3), (155, .iload 4, 2), (157, .istore 4, 2), (159, .aload_n 0, 1), (160, .getfield 22, 3), (163, .aload_n 0, 1), (164, .getfield 7, 3), (167, .invokestatic 138, 3), (170, .iinc 5 1, 3), (173, .goto (-129), 3), (176, .iload 4, 2), (178, .ireturn, 1)]
def pMo_above : List (Nat × Instr × Nat) := [(0, .aload_n 0, 1), (1, .iload_n 1, 1), (2, .invokevirtual 175, 3), (5, .ifCond .eq 11, 3), (8, .aload_n 0, 1), (9, .iload_n 1, 1), (10, .invokevirtual 169, 3), (13, .goto 4, 3), (16, .iconst (-1), 1), (17, .ireturn, 1)]
def pMo_product : List (Nat × Instr × Nat) := [(0, .lconst 1, 1), (1, .lstore_n 1, 1), (2, .iconst 2, 1), (3, .istore_n 3, 1), (4, .iload_n 3, 1), (5, .iload_n 0, 1), (6, .if_icmp .gt 14, 3), (9, .lload_n 1, 1), (10, .iload_n 3, 1), (11, .i2l, 1), (12, .lmul, 1), (13, .lstore_n 1, 1), (14, .iinc 3 1, 3), (17, .goto (-13), 3), (20, .lload_n 1, 1), (21, .lreturn, 1)]
def pMo_partOf : List (Nat × Instr × Nat) := [(0, .lload_n 2, 1), (1, .lstore 5, 2), (3, .lload_n 0, 1), (4, .lstore 7, 2), (6, .lload 7, 2), (8, .lconst 0, 1), (9, .lcmp, 1), (10, .ifCond .eq 21, 3), (13, .lload 5, 2), (15, .lload 7, 2), (17, .lrem, 1), (18, .lstore 9, 2), (20, .lload 7, 2), (22, .lstore 5, 2), (24, .lload 9, 2), (26, .lstore 7, 2), (28, .goto (-22), 3), (31, .iload 4, 2), (33, .ifCond .ne 10, 3), (36, .lload_n 0, 1), (37, .lload 5, 2), (39, .ldiv, 1), (40, .goto 7, 3), (43, .lload_n 2, 1), (44, .lload 5, 2), (46, .ldiv, 1), (47, .lreturn, 1)]
def pMo_isTold : List (Nat × Instr × Nat) := [(0, .aload_n 0, 1), (1, .getfield 7, 3), (4, .aload_n 0, 1), (5, .getfield 16, 3), (8, .invokestatic 138, 3), (11, .iconst 1, 1), (12, .istore_n 2, 1), (13, .iconst 0, 1), (14, .istore_n 3, 1), (15, .iload_n 3, 1), (16, .aload_n 0, 1), (17, .getfield 34, 3), (20, .iload_n 1, 1), (21, .iaload, 1), (22, .if_icmp .ge 58, 3), (25, .iload_n 2, 1), (26, .ifCond .eq 54, 3), (29, .aload_n 0, 1), (30, .invokevirtual 198, 3), (33, .aload_n 0, 1), (34, .getfield 37, 3), (37, .bipush 40, 2), (39, .iload_n 1, 1), (40, .imul, 1), (41, .iload_n 3, 1), (42, .iadd, 1), (43, .iaload, 1), (44, .iconst (-1), 1), (45, .if_icmp .eq 23, 3), (48, .aload_n 0, 1), (49, .getfield 37, 3), (52, .bipush 40, 2), (54, .iload_n 1, 1), (55, .imul, 1), (56, .iload_n 3, 1), (57, .iadd, 1), (58, .iaload, 1), (59, .aload_n 0, 1), (60, .getfield 7, 3), (63, .iconst 4, 1), (64, .iaload, 1), (65, .if_icmp .ne 7, 3), (68, .iconst 1, 1), (69, .goto 4, 3), (72, .iconst 0, 1), (73, .istore_n 2, 1), (74, .iinc 3 1, 3), (77, .goto (-62), 3), (80, .aload_n 0, 1), (81, .getfield 16, 3), (84, .aload_n 0, 1), (85, .getfield 7, 3), (88, .invokestatic 138, 3), (91, .iload_n 2, 1), (92, .ireturn, 1)]
def pMo_fits : List (Nat × Instr × Nat) := [(0, .iload_n 1, 1), (1, .invokestatic 239, 3), (4, .ifCond .eq 21, 3), (7, .aload_n 0, 1), (8, .iload_n 2, 1), (9, .invokevirtual 175, 3), (12, .ifCond .eq 13, 3), (15, .iload_n 3, 1), (16, .i2l, 1), (17, .lconst 0, 1), (18, .lconst 1, 1), (19, .invokestatic 57, 3), (22, .ifCond .ne 5, 3), (25, .iconst (-1), 1), (26, .ireturn, 1), (27, .aload_n 0, 1), (28, .getfield 31, 3), (31, .iload_n 1, 1), (32, .iaload, 1), (33, .ifCond .ge 6, 3), (36, .bipush (-11), 2), (38, .ireturn, 1), (39, .bipush 10, 2), (41, .iconst 5, 1), (42, .iload_n 2, 1), (43, .imul, 1), (44, .iadd, 1), (45, .iconst 1, 1), (46, .iadd, 1), (47, .istore 4, 2), (49, .aload_n 0, 1), (50, .getfield 7, 3), (53, .iload 4, 2), (55, .iaload, 1), (56, .istore 5, 2), (58, .iconst 0, 1), (59, .istore 6, 2), (61, .bipush (-3), 2), (63, .istore 7, 2), (65, .bipush 99, 2), (67, .istore 8, 2), (69, .iload 8, 2), (71, .ifCond .lt 54, 3), (74, .aload_n 0, 1), (75, .getfield 7, 3), (78, .iload 4, 2), (80, .iload 8, 2), (82, .iastore, 1), (83, .aload_n 0, 1), (84, .iload_n 1, 1), (85, .invokevirtual 242, 3), (88, .istore 9, 2), (90, .iload 6, 2), (92, .iload 9, 2), (94, .ifCond .eq 7, 3), (97, .iconst 1, 1), (98, .goto 4, 3), (101, .iconst 0, 1), (102, .iadd, 1), (103, .istore 6, 2), (105, .iload 9, 2), (107, .ifCond .eq 8, 3), (110, .iload 8, 2), (112, .goto 5, 3), (115, .iload 7, 2), (117, .istore 7, 2), (119, .iinc 8 (-1), 3), (122, .goto (-53), 3), (125, .aload_n 0, 1), (126, .getfield 7, 3), (129, .iload 4, 2), (131, .iload 5, 2), (133, .iastore, 1), (134, .iload_n 3, 1), (135, .ifCond .ne 8, 3), (138, .iload 6, 2), (140, .goto 5, 3), (143, .iload 7, 2), (145, .ireturn, 1)]
def pMo_odds : List (Nat × Instr × Nat) := [(0, .iload_n 1, 1), (1, .i2l, 1), (2, .lconst 0, 1), (3, .ldc2_w 55, 3), (6, .invokestatic 57, 3), (9, .ifCond .eq 24, 3), (12, .iload_n 2, 1), (13, .i2l, 1), (14, .lconst 0, 1), (15, .iload_n 1, 1), (16, .i2l, 1), (17, .invokestatic 57, 3), (20, .ifCond .eq 13, 3), (23, .iload_n 3, 1), (24, .i2l, 1), (25, .lconst 0, 1), (26, .lconst 1, 1), (27, .invokestatic 57, 3), (30, .ifCond .ne 7, 3), (33, .ldc2_w 245, 3), (36, .lreturn, 1), (37, .iload_n 1, 1), (38, .invokestatic 247, 3), (41, .iload_n 2, 1), (42, .invokestatic 247, 3), (45, .ldiv, 1), (46, .iload_n 1, 1), (47, .iload_n 2, 1), (48, .isub, 1), (49, .invokestatic 247, 3), (52, .ldiv, 1), (53, .lstore 4, 2), (55, .lconst 1, 1), (56, .lstore 6, 2), (58, .iconst 0, 1), (59, .istore 8, 2), (61, .iload 8, 2), (63, .iload_n 1, 1), (64, .if_icmp .ge 50, 3), (67, .lload 4, 2), (69, .iload 8, 2), (71, .iload_n 2, 1), (72, .if_icmp .ge 14, 3), (75, .aload_n 0, 1), (76, .getfield 7, 3), (79, .bipush 8, 2), (81, .iaload, 1), (82, .i2l, 1), (83, .goto 14, 3), (86, .bipush 100, 2), (88, .aload_n 0, 1), (89, .getfield 7, 3), (92, .bipush 8, 2), (94, .iaload, 1), (95, .isub, 1), (96, .i2l, 1), (97, .lmul, 1), (98, .lstore 4, 2), (100, .lload 6, 2), (102, .ldc2_w 251, 3), (105, .lmul, 1), (106, .lstore 6, 2), (108, .iinc 8 1, 3), (111, .goto (-50), 3), (114, .lload 4, 2), (116, .lload 6, 2), (118, .iload_n 3, 1), (119, .invokestatic 253, 3), (122, .lreturn, 1)]
def pMo_hope : List (Nat × Instr × Nat) := [(0, .iload_n 1, 1), (1, .i2l, 1), (2, .lconst 0, 1), (3, .ldc2_w 150, 3), (6, .invokestatic 57, 3), (9, .ifCond .eq 34, 3), (12, .iload_n 2, 1), (13, .i2l, 1), (14, .lconst 0, 1), (15, .lconst 1, 1), (16, .invokestatic 57, 3), (19, .ifCond .eq 24, 3), (22, .iload_n 1, 1), (23, .i2l, 1), (24, .aload_n 0, 1), (25, .getfield 7, 3), (28, .bipush 8, 2), (30, .iaload, 1), (31, .i2l, 1), (32, .lmul, 1), (33, .ldc2_w 251, 3), (36, .iload_n 2, 1), (37, .invokestatic 253, 3), (40, .goto 6, 3), (43, .ldc2_w 245, 3), (46, .lreturn, 1)]
def pMo_prove : List (Nat × Instr × Nat) := [(0, .aload_n 0, 1), (1, .iload_n 1, 1), (2, .invokevirtual 175, 3), (5, .ifCond .eq 15, 3), (8, .iload_n 2, 1), (9, .i2l, 1), (10, .lconst 1, 1), (11, .ldc2_w 257, 3), (14, .invokestatic 57, 3), (17, .ifCond .ne 5, 3), (20, .iconst (-1), 1), (21, .ireturn, 1), (22, .aload_n 0, 1), (23, .getfield 7, 3), (26, .aload_n 0, 1), (27, .getfield 16, 3), (30, .invokestatic 138, 3), (33, .iconst 0, 1), (34, .istore_n 3, 1), (35, .iload_n 3, 1), (36, .iload_n 2, 1), (37, .if_icmp .ge 69, 3), (40, .aload_n 0, 1), (41, .invokevirtual 198, 3), (44, .aload_n 0, 1), (45, .getfield 28, 3), (48, .iconst 3, 1), (49, .iload_n 3, 1), (50, .imul, 1), (51, .aload_n 0, 1), (52, .iload_n 1, 1), (53, .iconst 3, 1), (54, .invokevirtual 166, 3), (57, .bipush 6, 2), (59, .if_icmp .eq 7, 3), (62, .iconst 1, 1), (63, .goto 4, 3), (66, .iconst 0, 1), (67, .iastore, 1), (68, .aload_n 0, 1), (69, .getfield 28, 3), (72, .iconst 3, 1), (73, .iload_n 3, 1), (74, .imul, 1), (75, .iconst 1, 1), (76, .iadd, 1), (77, .aload_n 0, 1), (78, .getfield 7, 3), (81, .iconst 4, 1), (82, .iaload, 1), (83, .iastore, 1), (84, .aload_n 0, 1), (85, .getfield 28, 3), (88, .iconst 3, 1), (89, .iload_n 3, 1), (90, .imul, 1), (91, .iconst 2, 1), (92, .iadd, 1), (93, .aload_n 0, 1), (94, .getfield 7, 3), (97, .iconst 3, 1), (98, .iaload, 1), (99, .iastore, 1), (100, .iinc 3 1, 3), (103, .goto (-68), 3), (106, .aload_n 0, 1), (107, .getfield 16, 3), (110, .aload_n 0, 1), (111, .getfield 7, 3), (114, .invokestatic 138, 3), (117, .aload_n 0, 1), (118, .iload_n 2, 1), (119, .putfield 145, 3), (122, .iload_n 2, 1), (123, .ireturn, 1)]
def pMo_isRow : List (Nat × Instr × Nat) := [(0, .iload_n 1, 1), (1, .i2l, 1), (2, .lconst 0, 1), (3, .aload_n 0, 1), (4, .getfield 145, 3), (7, .iconst 1, 1), (8, .isub, 1), (9, .i2l, 1), (10, .invokestatic 57, 3), (13, .ifCond .eq 19, 3), (16, .iload_n 2, 1), (17, .i2l, 1), (18, .lconst 0, 1), (19, .ldc2_w 259, 3), (22, .invokestatic 57, 3), (25, .ifCond .eq 7, 3), (28, .iconst 1, 1), (29, .goto 4, 3), (32, .iconst 0, 1), (33, .ireturn, 1)]
def pMo_row : List (Nat × Instr × Nat) := [(0, .aload_n 0, 1), (1, .iload_n 1, 1), (2, .iload_n 2, 1), (3, .invokevirtual 261, 3), (6, .ifCond .eq 16, 3), (9, .aload_n 0, 1), (10, .getfield 28, 3), (13, .iconst 3, 1), (14, .iload_n 1, 1), (15, .imul, 1), (16, .iload_n 2, 1), (17, .iadd, 1), (18, .iaload, 1), (19, .goto 5, 3), (22, .bipush (-9), 2), (24, .ireturn, 1)]
def pMo_alterRow : List (Nat × Instr × Nat) := [(0, .aload_n 0, 1), (1, .iload_n 1, 1), (2, .iload_n 2, 1), (3, .invokevirtual 261, 3), (6, .ifCond .ne 6, 3), (9, .bipush (-9), 2), (11, .ireturn, 1), (12, .aload_n 0, 1), (13, .getfield 28, 3), (16, .iconst 3, 1), (17, .iload_n 1, 1), (18, .imul, 1), (19, .iload_n 2, 1), (20, .iadd, 1), (21, .iaload, 1), (22, .istore 4, 2), (24, .aload_n 0, 1), (25, .getfield 28, 3), (28, .iconst 3, 1), (29, .iload_n 1, 1), (30, .imul, 1), (31, .iload_n 2, 1), (32, .iadd, 1), (33, .iload_n 3, 1), (34, .iastore, 1), (35, .iload 4, 2), (37, .ireturn, 1)]
def pMo_judge : List (Nat × Instr × Nat) := [(0, .aload_n 0, 1), (1, .iload_n 1, 1), (2, .invokevirtual 175, 3), (5, .ifCond .ne 5, 3), (8, .iconst (-1), 1), (9, .ireturn, 1), (10, .aload_n 0, 1), (11, .getfield 7, 3), (14, .aload_n 0, 1), (15, .getfield 16, 3), (18, .invokestatic 138, 3), (21, .iconst 0, 1), (22, .istore_n 2, 1), (23, .iconst 1, 1), (24, .istore_n 3, 1), (25, .iload_n 2, 1), (26, .aload_n 0, 1), (27, .getfield 145, 3), (30, .if_icmp .ge 88, 3), (33, .iload_n 3, 1), (34, .ifCond .eq 84, 3), (37, .aload_n 0, 1), (38, .invokevirtual 198, 3), (41, .aload_n 0, 1), (42, .getfield 28, 3), (45, .iconst 3, 1), (46, .iload_n 2, 1), (47, .imul, 1), (48, .iaload, 1), (49, .aload_n 0, 1), (50, .iload_n 1, 1), (51, .iconst 3, 1), (52, .invokevirtual 166, 3), (55, .bipush 6, 2), (57, .if_icmp .eq 7, 3), (60, .iconst 1, 1), (61, .goto 4, 3), (64, .iconst 0, 1), (65, .if_icmp .ne 45, 3), (68, .aload_n 0, 1), (69, .getfield 28, 3), (72, .iconst 3, 1), (73, .iload_n 2, 1), (74, .imul, 1), (75, .iconst 1, 1), (76, .iadd, 1), (77, .iaload, 1), (78, .aload_n 0, 1), (79, .getfield 7, 3), (82, .iconst 4, 1), (83, .iaload, 1), (84, .if_icmp .ne 26, 3), (87, .aload_n 0, 1), (88, .getfield 28, 3), (91, .iconst 3, 1), (92, .iload_n 2, 1), (93, .imul, 1), (94, .iconst 2, 1), (95, .iadd, 1), (96, .iaload, 1), (97, .aload_n 0, 1), (98, .getfield 7, 3), (101, .iconst 3, 1), (102, .iaload, 1), (103, .if_icmp .ne 7, 3), (106, .iconst 1, 1), (107, .goto 4, 3), (110, .iconst 0, 1), (111, .istore_n 3, 1), (112, .iinc 2 1, 3), (115, .goto (-90), 3), (118, .aload_n 0, 1), (119, .getfield 16, 3), (122, .aload_n 0, 1), (123, .getfield 7, 3), (126, .invokestatic 138, 3), (129, .iload_n 3, 1), (130, .ifCond .eq 7, 3), (133, .iconst 0, 1), (134, .goto 4, 3), (137, .iload_n 2, 1), (138, .ireturn, 1)]
def pMo_isSheet : List (Nat × Instr × Nat) := [(0, .iload_n 0, 1), (1, .i2l, 1), (2, .lconst 0, 1), (3, .ldc2_w 148, 3), (6, .invokestatic 57, 3), (9, .ireturn, 1)]
def pMo_isShelf : List (Nat × Instr × Nat) := [(0, .iload_n 0, 1), (1, .i2l, 1), (2, .lconst 0, 1), (3, .ldc2_w 148, 3), (6, .invokestatic 57, 3), (9, .ireturn, 1)]
def pMo_sheet : List (Nat × Instr × Nat) := [(0, .iload_n 1, 1), (1, .invokestatic 239, 3), (4, .ifCond .eq 27, 3), (7, .iload_n 2, 1), (8, .i2l, 1), (9, .ldc2_w 245, 3), (12, .ldc2_w 148, 3), (15, .invokestatic 57, 3), (18, .ifCond .eq 13, 3), (21, .iload_n 2, 1), (22, .ifCond .lt 11, 3), (25, .iload_n 3, 1), (26, .bipush 40, 2), (28, .if_icmp .le 5, 3), (31, .iconst (-1), 1), (32, .ireturn, 1), (33, .iload_n 2, 1), (34, .ifCond .lt 10, 3), (37, .iload_n 3, 1), (38, .ifCond .ge 6, 3), (41, .bipush (-14), 2), (43, .ireturn, 1), (44, .aload_n 0, 1), (45, .getfield 31, 3), (48, .iload_n 1, 1), (49, .iload_n 2, 1), (50, .iastore, 1), (51, .aload_n 0, 1), (52, .getfield 34, 3), (55, .iload_n 1, 1), (56, .iload_n 2, 1), (57, .ifCond .ge 7, 3), (60, .iconst 0, 1), (61, .goto 4, 3), (64, .iload_n 3, 1), (65, .iastore, 1), (66, .iconst 0, 1), (67, .istore 4, 2), (69, .iload 4, 2), (71, .bipush 40, 2), (73, .if_icmp .ge 22, 3), (76, .aload_n 0, 1), (77, .getfield 37, 3), (80, .bipush 40, 2), (82, .iload_n 1, 1), (83, .imul, 1), (84, .iload 4, 2), (86, .iadd, 1), (87, .iconst 0, 1), (88, .iastore, 1), (89, .iinc 4 1, 3), (92, .goto (-23), 3), (95, .iconst 1, 1), (96, .ireturn, 1)]
def pMo_put : List (Nat × Instr × Nat) := [(0, .iload_n 1, 1), (1, .invokestatic 239, 3), (4, .ifCond .ne 5, 3), (7, .iconst (-1), 1), (8, .ireturn, 1), (9, .aload_n 0, 1), (10, .getfield 31, 3), (13, .iload_n 1, 1), (14, .iaload, 1), (15, .ifCond .ge 6, 3), (18, .bipush (-11), 2), (20, .ireturn, 1), (21, .iload_n 2, 1), (22, .i2l, 1), (23, .lconst 0, 1), (24, .aload_n 0, 1), (25, .getfield 34, 3), (28, .iload_n 1, 1), (29, .iaload, 1), (30, .iconst 1, 1), (31, .isub, 1), (32, .i2l, 1), (33, .invokestatic 57, 3), (36, .ifCond .ne 6, 3), (39, .bipush (-12), 2), (41, .ireturn, 1), (42, .aload_n 0, 1), (43, .getfield 37, 3), (46, .bipush 40, 2), (48, .iload_n 1, 1), (49, .imul, 1), (50, .iload_n 2, 1), (51, .iadd, 1), (52, .aload_n 0, 1), (53, .getfield 31, 3), (56, .iload_n 1, 1), (57, .iaload, 1), (58, .ifCond .ne 8, 3), (61, .iload_n 3, 1), (62, .i2b, 1), (63, .goto 19, 3), (66, .aload_n 0, 1), (67, .getfield 31, 3), (70, .iload_n 1, 1), (71, .iaload, 1), (72, .iconst 1, 1), (73, .if_icmp .ne 8, 3), (76, .iload_n 3, 1), (77, .i2s, 1), (78, .goto 4, 3), (81, .iload_n 3, 1), (82, .iastore, 1), (83, .iconst 1, 1), (84, .ireturn, 1)]
def pMo_lacks : List (Nat × Instr × Nat) := [(0, .aload_n 0, 1), (1, .getfield 31, 3), (4, .iload_n 1, 1), (5, .iaload, 1), (6, .ifCond .ge 8, 3), (9, .bipush (-11), 2), (11, .goto 19, 3), (14, .aload_n 0, 1), (15, .getfield 31, 3), (18, .iload_n 1, 1), (19, .iaload, 1), (20, .iload_n 2, 1), (21, .if_icmp .eq 8, 3), (24, .bipush (-13), 2), (26, .goto 4, 3), (29, .iconst 0, 1), (30, .ireturn, 1)]
def pMo_item : List (Nat × Instr × Nat) := [(0, .iload_n 1, 1), (1, .invokestatic 239, 3), (4, .ifCond .eq 15, 3), (7, .iload_n 2, 1), (8, .i2l, 1), (9, .lconst 0, 1), (10, .ldc2_w 148, 3), (13, .invokestatic 57, 3), (16, .ifCond .ne 5, 3), (19, .iconst (-1), 1), (20, .ireturn, 1), (21, .aload_n 0, 1), (22, .iload_n 1, 1), (23, .iload_n 2, 1), (24, .invokevirtual 265, 3), (27, .ifCond .eq 10, 3), (30, .aload_n 0, 1), (31, .iload_n 1, 1), (32, .iload_n 2, 1), (33, .invokevirtual 265, 3), (36, .ireturn, 1), (37, .iload_n 3, 1), (38, .i2l, 1), (39, .lconst 0, 1), (40, .aload_n 0, 1), (41, .getfield 34, 3), (44, .iload_n 1, 1), (45, .iaload, 1), (46, .iconst 1, 1), (47, .isub, 1), (48, .i2l, 1), (49, .invokestatic 57, 3), (52, .ifCond .eq 17, 3), (55, .aload_n 0, 1), (56, .getfield 37, 3), (59, .bipush 40, 2), (61, .iload_n 1, 1), (62, .imul, 1), (63, .iload_n 3, 1), (64, .iadd, 1), (65, .iaload, 1), (66, .goto 5, 3), (69, .bipush (-12), 2), (71, .ireturn, 1)]
def pMo_minds : List (Nat × Instr × Nat) := [(0, .iload_n 1, 1), (1, .invokestatic 239, 3), (4, .ifCond .eq 37, 3), (7, .aload_n 0, 1), (8, .iload_n 3, 1), (9, .invokevirtual 175, 3), (12, .ifCond .eq 29, 3), (15, .iload 4, 2), (17, .i2l, 1), (18, .lconst 0, 1), (19, .ldc2_w 55, 3), (22, .invokestatic 57, 3), (25, .ifCond .eq 16, 3), (28, .iload_n 3, 1), (29, .iload 4, 2), (31, .iadd, 1), (32, .aload_n 0, 1), (33, .getfield 7, 3), (36, .iconst 0, 1), (37, .iaload, 1), (38, .if_icmp .le 5, 3), (41, .iconst (-1), 1), (42, .ireturn, 1), (43, .aload_n 0, 1), (44, .iload_n 1, 1), (45, .iconst 0, 1), (46, .invokevirtual 265, 3), (49, .ifCond .eq 10, 3), (52, .aload_n 0, 1), (53, .iload_n 1, 1), (54, .iconst 0, 1), (55, .invokevirtual 265, 3), (58, .ireturn, 1), (59, .iload_n 2, 1), (60, .i2l, 1), (61, .lconst 0, 1), (62, .aload_n 0, 1), (63, .getfield 34, 3), (66, .iload_n 1, 1), (67, .iaload, 1), (68, .i2l, 1), (69, .invokestatic 57, 3), (72, .ifCond .eq 20, 3), (75, .iload_n 2, 1), (76, .i2l, 1), (77, .iload 4, 2), (79, .i2l, 1), (80, .ladd, 1), (81, .aload_n 0, 1), (82, .getfield 34, 3), (85, .iload_n 1, 1), (86, .iaload, 1), (87, .i2l, 1), (88, .lcmp, 1), (89, .ifCond .le 6, 3), (92, .bipush (-12), 2), (94, .ireturn, 1), (95, .iconst 0, 1), (96, .istore 5, 2), (98, .iload 5, 2), (100, .iload 4, 2), (102, .if_icmp .ge 42, 3), (105, .aload_n 0, 1), (106, .getfield 7, 3), (109, .bipush 10, 2), (111, .iconst 5, 1), (112, .iload_n 3, 1), (113, .iload 5, 2), (115, .iadd, 1), (116, .imul, 1), (117, .iadd, 1), (118, .iconst 1, 1), (119, .iadd, 1), (120, .aload_n 0, 1), (121, .getfield 37, 3), (124, .bipush 40, 2), (126, .iload_n 1, 1), (127, .imul, 1), (128, .iload_n 2, 1), (129, .iadd, 1), (130, .iload 5, 2), (132, .iadd, 1), (133, .iaload, 1), (134, .invokestatic 195, 3), (137, .iastore, 1), (138, .iinc 5 1, 3), (141, .goto (-43), 3), (144, .iload 4, 2), (146, .ireturn, 1)]
def pMo_shelf : List (Nat × Instr × Nat) := [(0, .iload_n 1, 1), (1, .invokestatic 268, 3), (4, .ifCond .eq 39, 3), (7, .iload_n 2, 1), (8, .i2l, 1), (9, .lconst 0, 1), (10, .ldc2_w 259, 3), (13, .invokestatic 57, 3), (16, .ifCond .eq 27, 3), (19, .iload_n 2, 1), (20, .ifCond .ne 11, 3), (23, .aload_n 0, 1), (24, .iload_n 3, 1), (25, .invokevirtual 175, 3), (28, .ifCond .eq 15, 3), (31, .iload_n 2, 1), (32, .iconst 1, 1), (33, .if_icmp .ne 12, 3), (36, .iload_n 3, 1), (37, .invokestatic 239, 3), (40, .ifCond .ne 5, 3), (43, .iconst (-1), 1), (44, .ireturn, 1), (45, .iload_n 2, 1), (46, .iconst 1, 1), (47, .if_icmp .ne 16, 3), (50, .aload_n 0, 1), (51, .getfield 31, 3), (54, .iload_n 3, 1), (55, .iaload, 1), (56, .ifCond .lt 7, 3), (59, .iconst 1, 1), (60, .goto 4, 3), (63, .iconst 0, 1), (64, .istore 4, 2), (66, .aload_n 0, 1), (67, .getfield 40, 3), (70, .iload_n 1, 1), (71, .iload_n 2, 1), (72, .ifCond .ne 7, 3), (75, .iconst 1, 1), (76, .goto 13, 3), (79, .iload 4, 2), (81, .ifCond .eq 7, 3), (84, .iconst 2, 1), (85, .goto 4, 3), (88, .iconst 0, 1), (89, .iastore, 1), (90, .aload_n 0, 1), (91, .getfield 43, 3), (94, .iload_n 1, 1), (95, .iload_n 2, 1), (96, .ifCond .ne 7, 3), (99, .iload_n 3, 1), (100, .goto 18, 3), (103, .iload 4, 2), (105, .ifCond .eq 12, 3), (108, .aload_n 0, 1), (109, .getfield 31, 3), (112, .iload_n 3, 1), (113, .iaload, 1), (114, .goto 4, 3), (117, .iconst 0, 1), (118, .iastore, 1), (119, .aload_n 0, 1), (120, .getfield 46, 3), (123, .iload_n 1, 1), (124, .iload 4, 2), (126, .ifCond .eq 12, 3), (129, .aload_n 0, 1), (130, .getfield 34, 3), (133, .iload_n 3, 1), (134, .iaload, 1), (135, .goto 4, 3), (138, .iconst 0, 1), (139, .iastore, 1), (140, .iconst 1, 1), (141, .ireturn, 1)]
def pMo_heldOn : List (Nat × Instr × Nat) := [(0, .aload_n 0, 1), (1, .getfield 40, 3), (4, .iload_n 1, 1), (5, .iaload, 1), (6, .iconst 1, 1), (7, .if_icmp .ne 20, 3), (10, .aload_n 0, 1), (11, .aload_n 0, 1), (12, .getfield 43, 3), (15, .iload_n 1, 1), (16, .iaload, 1), (17, .invokevirtual 175, 3), (20, .ifCond .ne 7, 3), (23, .iconst 0, 1), (24, .goto 9, 3), (27, .aload_n 0, 1), (28, .getfield 40, 3), (31, .iload_n 1, 1), (32, .iaload, 1), (33, .ireturn, 1)]
def pMo_taken : List (Nat × Instr × Nat) := [(0, .iload_n 1, 1), (1, .invokestatic 268, 3), (4, .ifCond .eq 29, 3), (7, .iload_n 2, 1), (8, .i2l, 1), (9, .lconst 0, 1), (10, .ldc2_w 271, 3), (13, .invokestatic 57, 3), (16, .ifCond .eq 17, 3), (19, .iload_n 2, 1), (20, .i2l, 1), (21, .ldc2_w 273, 3), (24, .ldc2_w 152, 3), (27, .invokestatic 57, 3), (30, .ifCond .eq 5, 3), (33, .iconst (-1), 1), (34, .ireturn, 1), (35, .aload_n 0, 1), (36, .iload_n 1, 1), (37, .invokevirtual 275, 3), (40, .istore_n 3, 1), (41, .iload_n 3, 1), (42, .ifCond .ne 6, 3), (45, .bipush (-11), 2), (47, .ireturn, 1), (48, .iload_n 2, 1), (49, .bipush 10, 2), (51, .if_icmp .ge 38, 3), (54, .iload_n 3, 1), (55, .iconst 1, 1), (56, .if_icmp .ne 30, 3), (59, .aload_n 0, 1), (60, .aload_n 0, 1), (61, .getfield 43, 3), (64, .iload_n 1, 1), (65, .iaload, 1), (66, .iconst 0, 1), (67, .invokevirtual 166, 3), (70, .iload_n 2, 1), (71, .invokestatic 278, 3), (74, .ifCond .eq 12, 3), (77, .aload_n 0, 1), (78, .getfield 43, 3), (81, .iload_n 1, 1), (82, .iaload, 1), (83, .goto 5, 3), (86, .bipush (-13), 2), (88, .ireturn, 1), (89, .iload_n 3, 1), (90, .iconst 2, 1), (91, .if_icmp .ne 25, 3), (94, .aload_n 0, 1), (95, .getfield 43, 3), (98, .iload_n 1, 1), (99, .iaload, 1), (100, .iload_n 2, 1), (101, .bipush 10, 2), (103, .isub, 1), (104, .if_icmp .ne 12, 3), (107, .aload_n 0, 1), (108, .getfield 46, 3), (111, .iload_n 1, 1), (112, .iaload, 1), (113, .goto 5, 3), (116, .bipush (-13), 2), (118, .ireturn, 1)]
def pMo_runs : List (Nat × Instr × Nat) := [(0, .aload_n 0, 1), (1, .getfield 281, 3), (4, .bipush 30, 2), (6, .if_icmp .ge 23, 3), (9, .aload_n 0, 1), (10, .getfield 49, 3), (13, .aload_n 0, 1), (14, .getfield 281, 3), (17, .iload_n 1, 1), (18, .iastore, 1), (19, .aload_n 0, 1), (20, .dup, 1), (21, .getfield 281, 3), (24, .iconst 1, 1), (25, .iadd, 1), (26, .putfield 281, 3), (29, .return_, 1)]
def pMo_sinksPlain : List (Nat × Instr × Nat) := [(0, .aload_n 0, 1), (1, .bipush 10, 2), (3, .invokevirtual 284, 3), (6, .iload_n 1, 1), (7, .iconst 2, 1), (8, .imul, 1), (9, .aload_n 0, 1), (10, .getfield 287, 3), (13, .iadd, 1), (14, .ireturn, 1)]
def pMo_sinksOfRubbish : List (Nat × Instr × Nat) := [(0, .aload_n 0, 1), (1, .bipush 30, 2), (3, .invokevirtual 284, 3), (6, .iconst 0, 1), (7, .aload_n 0, 1), (8, .iload_n 1, 1), (9, .invokevirtual 290, 3), (12, .isub, 1), (13, .ireturn, 1)]
def pMo_sinks : List (Nat × Instr × Nat) := [(0, .aload_n 0, 1), (1, .getfield 293, 3), (4, .tableswitch 65 2 4 #[28, 48, 34], 28), (32, .aload_n 0, 1), (33, .iload_n 1, 1), (34, .invokevirtual 296, 3), (37, .ireturn, 1), (38, .aload_n 0, 1), (39, .bipush 40, 2), (41, .invokevirtual 284, 3), (44, .aload_n 0, 1), (45, .iload_n 1, 1), (46, .invokevirtual 296, 3), (49, .iconst 5, 1), (50, .ixor, 1), (51, .ireturn, 1), (52, .aload_n 0, 1), (53, .bipush 51, 2), (55, .invokevirtual 284, 3), (58, .aload_n 0, 1), (59, .iload_n 1, 1), (60, .invokevirtual 290, 3), (63, .aload_n 0, 1), (64, .getfield 287, 3), (67, .isub, 1), (68, .ireturn, 1), (69, .aload_n 0, 1), (70, .iload_n 1, 1), (71, .invokevirtual 290, 3), (74, .ireturn, 1)]
def pMo_showsPlain : List (Nat × Instr × Nat) := [(0, .aload_n 0, 1), (1, .bipush 11, 2), (3, .invokevirtual 284, 3), (6, .aload_n 0, 1), (7, .iload_n 1, 1), (8, .invokevirtual 299, 3), (11, .iconst 3, 1), (12, .imul, 1), (13, .aload_n 0, 1), (14, .getfield 302, 3), (17, .isub, 1), (18, .ireturn, 1)]
def pMo_shows : List (Nat × Instr × Nat) := [(0, .aload_n 0, 1), (1, .getfield 293, 3), (4, .iconst 1, 1), (5, .if_icmp .eq 11, 3), (8, .aload_n 0, 1), (9, .getfield 293, 3), (12, .iconst 3, 1), (13, .if_icmp .ne 18, 3), (16, .aload_n 0, 1), (17, .bipush 20, 2), (19, .invokevirtual 284, 3), (22, .aload_n 0, 1), (23, .iload_n 1, 1), (24, .invokevirtual 305, 3), (27, .bipush 8, 2), (29, .iadd, 1), (30, .ireturn, 1), (31, .aload_n 0, 1), (32, .getfield 293, 3), (35, .iconst 4, 1), (36, .if_icmp .ne 26, 3), (39, .aload_n 0, 1), (40, .bipush 41, 2), (42, .invokevirtual 284, 3), (45, .aload_n 0, 1), (46, .iload_n 1, 1), (47, .invokevirtual 305, 3), (50, .istore_n 2, 1), (51, .iload_n 2, 1), (52, .aload_n 0, 1), (53, .aload_n 0, 1), (54, .getfield 302, 3), (57, .invokevirtual 299, 3), (60, .isub, 1), (61, .ireturn, 1), (62, .aload_n 0, 1), (63, .iload_n 1, 1), (64, .invokevirtual 305, 3), (67, .ireturn, 1)]
def pMo_partsPlain : List (Nat × Instr × Nat) := [(0, .aload_n 0, 1), (1, .bipush 12, 2), (3, .invokevirtual 284, 3), (6, .aload_n 0, 1), (7, .aload_n 0, 1), (8, .getfield 308, 3), (11, .ifCond .ne 14, 3), (14, .aload_n 0, 1), (15, .getfield 287, 3), (18, .aload_n 0, 1), (19, .getfield 302, 3), (22, .if_icmp .ne 7, 3), (25, .iconst 1, 1), (26, .goto 4, 3), (29, .iconst 0, 1), (30, .putfield 308, 3), (33, .aload_n 0, 1), (34, .getfield 308, 3), (37, .ifCond .eq 7, 3), (40, .iconst 0, 1), (41, .goto 14, 3), (44, .iload_n 1, 1), (45, .aload_n 0, 1), (46, .getfield 302, 3), (49, .aload_n 0, 1), (50, .getfield 287, 3), (53, .isub, 1), (54, .idiv, 1), (55, .ireturn, 1)]
def pMo_parts : List (Nat × Instr × Nat) := [(0, .aload_n 0, 1), (1, .getfield 293, 3), (4, .iconst 3, 1), (5, .if_icmp .ne 20, 3), (8, .aload_n 0, 1), (9, .bipush 50, 2), (11, .invokevirtual 284, 3), (14, .aload_n 0, 1), (15, .iload_n 1, 1), (16, .bipush 9, 2), (18, .iadd, 1), (19, .invokevirtual 311, 3), (22, .iconst 2, 1), (23, .imul, 1), (24, .ireturn, 1), (25, .aload_n 0, 1), (26, .getfield 293, 3), (29, .iconst 5, 1), (30, .if_icmp .ne 37, 3), (33, .aload_n 0, 1), (34, .bipush 61, 2), (36, .invokevirtual 284, 3), (39, .aload_n 0, 1), (40, .iload_n 1, 1), (41, .invokevirtual 311, 3), (44, .istore_n 2, 1), (45, .aload_n 0, 1), (46, .getfield 308, 3), (49, .ifCond .eq 7, 3), (52, .iconst 0, 1), (53, .goto 13, 3), (56, .iload_n 2, 1), (57, .aload_n 0, 1), (58, .aload_n 0, 1), (59, .getfield 287, 3), (62, .invokevirtual 299, 3), (65, .ixor, 1), (66, .ireturn, 1), (67, .aload_n 0, 1), (68, .iload_n 1, 1), (69, .invokevirtual 311, 3), (72, .ireturn, 1)]
def pMo_asksPlain : List (Nat × Instr × Nat) := [(0, .aload_n 0, 1), (1, .bipush 13, 2), (3, .invokevirtual 284, 3), (6, .aload_n 0, 1), (7, .iload_n 1, 1), (8, .invokevirtual 314, 3), (11, .bipush 70, 2), (13, .ixor, 1), (14, .ireturn, 1)]
def pMo_asks : List (Nat × Instr × Nat) := [(0, .aload_n 0, 1), (1, .getfield 293, 3), (4, .iconst 2, 1), (5, .if_icmp .eq 11, 3), (8, .aload_n 0, 1), (9, .getfield 293, 3), (12, .iconst 4, 1), (13, .if_icmp .ne 26, 3), (16, .aload_n 0, 1), (17, .bipush 31, 2), (19, .invokevirtual 284, 3), (22, .aload_n 0, 1), (23, .iload_n 1, 1), (24, .invokevirtual 317, 3), (27, .istore_n 2, 1), (28, .iload_n 2, 1), (29, .aload_n 0, 1), (30, .aload_n 0, 1), (31, .getfield 287, 3), (34, .invokevirtual 320, 3), (37, .isub, 1), (38, .ireturn, 1), (39, .aload_n 0, 1), (40, .getfield 293, 3), (43, .iconst 5, 1), (44, .if_icmp .ne 20, 3), (47, .aload_n 0, 1), (48, .bipush 60, 2), (50, .invokevirtual 284, 3), (53, .aload_n 0, 1), (54, .iload_n 1, 1), (55, .invokevirtual 317, 3), (58, .aload_n 0, 1), (59, .getfield 302, 3), (62, .iadd, 1), (63, .ireturn, 1), (64, .aload_n 0, 1), (65, .iload_n 1, 1), (66, .invokevirtual 317, 3), (69, .ireturn, 1)]
def pMo_act : List (Nat × Instr × Nat) := [(0, .aload_n 0, 1), (1, .iconst 0, 1), (2, .putfield 281, 3), (5, .iload_n 1, 1), (6, .invokestatic 268, 3), (9, .ifCond .eq 24, 3), (12, .iload_n 2, 1), (13, .i2l, 1), (14, .lconst 0, 1), (15, .ldc2_w 148, 3), (18, .invokestatic 57, 3), (21, .ifCond .eq 12, 3), (24, .aload_n 0, 1), (25, .iload_n 1, 1), (26, .invokevirtual 275, 3), (29, .iconst 1, 1), (30, .if_icmp .eq 5, 3), (33, .iconst 0, 1), (34, .ireturn, 1), (35, .aload_n 0, 1), (36, .iconst 0, 1), (37, .putfield 308, 3), (40, .aload_n 0, 1), (41, .aload_n 0, 1), (42, .aload_n 0, 1), (43, .getfield 43, 3), (46, .iload_n 1, 1), (47, .iaload, 1), (48, .iconst 0, 1), (49, .invokevirtual 166, 3), (52, .putfield 293, 3), (55, .aload_n 0, 1), (56, .aload_n 0, 1), (57, .getfield 43, 3), (60, .iload_n 1, 1), (61, .iaload, 1), (62, .putfield 287, 3), (65, .aload_n 0, 1), (66, .aload_n 0, 1), (67, .aload_n 0, 1), (68, .getfield 43, 3), (71, .iload_n 1, 1), (72, .iaload, 1), (73, .iconst 2, 1), (74, .invokevirtual 166, 3), (77, .putfield 302, 3), (80, .iload_n 2, 1), (81, .ifCond .ne 11, 3), (84, .aload_n 0, 1), (85, .iload_n 3, 1), (86, .invokevirtual 299, 3), (89, .goto 34, 3), (92, .iload_n 2, 1), (93, .iconst 1, 1), (94, .if_icmp .ne 11, 3), (97, .aload_n 0, 1), (98, .iload_n 3, 1), (99, .invokevirtual 314, 3), (102, .goto 21, 3), (105, .iload_n 2, 1), (106, .iconst 2, 1), (107, .if_icmp .ne 11, 3), (110, .aload_n 0, 1), (111, .iload_n 3, 1), (112, .invokevirtual 320, 3), (115, .goto 8, 3), (118, .aload_n 0, 1), (119, .iload_n 3, 1), (120, .invokevirtual 323, 3), (123, .istore 4, 2), (125, .aload_n 0, 1), (126, .getfield 308, 3), (129, .ifCond .eq 8, 3), (132, .bipush (-15), 2), (134, .goto 5, 3), (137, .iload 4, 2), (139, .ireturn, 1)]
def pMo_trace : List (Nat × Instr × Nat) := [(0, .iload_n 1, 1), (1, .i2l, 1), (2, .lconst 0, 1), (3, .aload_n 0, 1), (4, .getfield 281, 3), (7, .iconst 1, 1), (8, .isub, 1), (9, .i2l, 1), (10, .invokestatic 57, 3), (13, .ifCond .eq 12, 3), (16, .aload_n 0, 1), (17, .getfield 49, 3), (20, .iload_n 1, 1), (21, .iaload, 1), (22, .goto 5, 3), (25, .bipush (-3), 2), (27, .ireturn, 1)]
def pMo_many : List (Nat × Instr × Nat) := [(0, .iconst 0, 1), (1, .istore_n 2, 1), (2, .iload_n 1, 1), (3, .tableswitch 118 0 6 #[41, 48, 56, 71, 103, 108, 113], 41), (44, .aload_n 0, 1), (45, .getfield 7, 3), (48, .iconst 0, 1), (49, .iaload, 1), (50, .ireturn, 1), (51, .aload_n 0, 1), (52, .invokevirtual 186, 3), (55, .invokestatic 172, 3), (58, .ireturn, 1), (59, .aload_n 0, 1), (60, .getfield 7, 3), (63, .iconst 0, 1), (64, .iaload, 1), (65, .aload_n 0, 1), (66, .invokevirtual 186, 3), (69, .invokestatic 172, 3), (72, .isub, 1), (73, .ireturn, 1), (74, .iconst 0, 1), (75, .istore_n 3, 1), (76, .iload_n 3, 1), (77, .bipush 6, 2), (79, .if_icmp .ge 25, 3), (82, .iload_n 2, 1), (83, .aload_n 0, 1), (84, .iload_n 3, 1), (85, .invokevirtual 189, 3), (88, .ifCond .ne 7, 3), (91, .iconst 0, 1), (92, .goto 4, 3), (95, .iconst 1, 1), (96, .iadd, 1), (97, .istore_n 2, 1), (98, .iinc 3 1, 3), (101, .goto (-25), 3), (104, .iload_n 2, 1), (105, .ireturn, 1), (106, .aload_n 0, 1), (107, .getfield 145, 3), (110, .ireturn, 1), (111, .aload_n 0, 1), (112, .getfield 61, 3), (115, .ireturn, 1), (116, .aload_n 0, 1), (117, .getfield 281, 3), (120, .ireturn, 1), (121, .iconst (-1), 1), (122, .ireturn, 1)]
def pMo_keep : List (Nat × Instr × Nat) := [(0, .iconst 0, 1), (1, .istore_n 1, 1), (2, .iload_n 1, 1), (3, .bipush 50, 2), (5, .if_icmp .ge 21, 3), (8, .aload_n 0, 1), (9, .getfield 13, 3), (12, .iload_n 1, 1), (13, .aload_n 0, 1), (14, .getfield 7, 3), (17, .iload_n 1, 1), (18, .iaload, 1), (19, .iastore, 1), (20, .iinc 1 1, 3), (23, .goto (-21), 3), (26, .aload_n 0, 1), (27, .iconst 1, 1), (28, .putfield 326, 3), (31, .iconst 1, 1), (32, .ireturn, 1)]
def pMo_again : List (Nat × Instr × Nat) := [(0, .aload_n 0, 1), (1, .getfield 326, 3), (4, .ifCond .ne 6, 3), (7, .bipush (-3), 2), (9, .ireturn, 1), (10, .iconst 0, 1), (11, .istore_n 1, 1), (12, .iload_n 1, 1), (13, .bipush 50, 2), (15, .if_icmp .ge 21, 3), (18, .aload_n 0, 1), (19, .getfield 7, 3), (22, .iload_n 1, 1), (23, .aload_n 0, 1), (24, .getfield 13, 3), (27, .iload_n 1, 1), (28, .iaload, 1), (29, .iastore, 1), (30, .iinc 1 1, 3), (33, .goto (-21), 3), (36, .aload_n 0, 1), (37, .getfield 7, 3), (40, .iconst 0, 1), (41, .iaload, 1), (42, .ireturn, 1)]
def pJi_bitCount : List (Nat × Instr × Nat) := [(0, .iload_n 0, 1), (1, .iload_n 0, 1), (2, .iconst 1, 1), (3, .iushr, 1), (4, .ldc_w 265, 3), (7, .iand, 1), (8, .isub, 1), (9, .istore_n 0, 1), (10, .iload_n 0, 1), (11, .ldc_w 266, 3), (14, .iand, 1), (15, .iload_n 0, 1), (16, .iconst 2, 1), (17, .iushr, 1), (18, .ldc_w 266, 3), (21, .iand, 1), (22, .iadd, 1), (23, .istore_n 0, 1), (24, .iload_n 0, 1), (25, .iload_n 0, 1), (26, .iconst 4, 1), (27, .iushr, 1), (28, .iadd, 1), (29, .ldc_w 267, 3), (32, .iand, 1), (33, .istore_n 0, 1), (34, .iload_n 0, 1), (35, .iload_n 0, 1), (36, .bipush 8, 2), (38, .iushr, 1), (39, .iadd, 1), (40, .istore_n 0, 1), (41, .iload_n 0, 1), (42, .iload_n 0, 1), (43, .bipush 16, 2), (45, .iushr, 1), (46, .iadd, 1), (47, .istore_n 0, 1), (48, .iload_n 0, 1), (49, .bipush 63, 2), (51, .iand, 1), (52, .ireturn, 1)]
def pJs_length : List (Nat × Instr × Nat) := [(0, .aload_n 0, 1), (1, .getfield 9, 3), (4, .arraylength, 1), (5, .aload_n 0, 1), (6, .invokevirtual 335, 3), (9, .ishr, 1), (10, .ireturn, 1)]
def pJs_charAt : List (Nat × Instr × Nat) := [(0, .aload_n 0, 1), (1, .invokevirtual 492, 3), (4, .ifCond .eq 12, 3), (7, .aload_n 0, 1), (8, .getfield 9, 3), (11, .iload_n 1, 1), (12, .invokestatic 495, 3), (15, .ireturn, 1), (16, .aload_n 0, 1), (17, .getfield 9, 3), (20, .iload_n 1, 1), (21, .invokestatic 498, 3), (24, .ireturn, 1)]
def pJs_coder : List (Nat × Instr × Nat) := [(0, .getstatic 38, 3), (3, .ifCond .eq 10, 3), (6, .aload_n 0, 1), (7, .getfield 15, 3), (10, .goto 4, 3), (13, .iconst 1, 1), (14, .ireturn, 1)]
def pJs_isLatin1 : List (Nat × Instr × Nat) := [(0, .getstatic 38, 3), (3, .ifCond .eq 14, 3), (6, .aload_n 0, 1), (7, .getfield 15, 3), (10, .ifCond .ne 7, 3), (13, .iconst 1, 1), (14, .goto 4, 3), (17, .iconst 0, 1), (18, .ireturn, 1)]
def pJs_checkIndex : List (Nat × Instr × Nat) := [(0, .iload_n 0, 1), (1, .iload_n 1, 1), (2, .getstatic 1053, 3), (5, .invokestatic 1059, 3), (8, .pop, 1), (9, .return_, 1)]
def pJl_charAt : List (Nat × Instr × Nat) := [(0, .iload_n 1, 1), (1, .aload_n 0, 1), (2, .arraylength, 1), (3, .invokestatic 9, 3), (6, .aload_n 0, 1), (7, .iload_n 1, 1), (8, .baload, 1), (9, .sipush 255, 3), (12, .iand, 1), (13, .i2c, 1), (14, .ireturn, 1)]
def pJp_checkIndex : List (Nat × Instr × Nat) := [(0, .iload_n 0, 1), (1, .ifCond .lt 8, 3), (4, .iload_n 0, 1), (5, .iload_n 1, 1), (6, .if_icmp .lt 10, 3), (9, .aload_n 2, 1), (10, .iload_n 0, 1), (11, .iload_n 1, 1), (12, .invokestatic 95, 3), (15, .athrow, 1), (16, .iload_n 0, 1), (17, .ireturn, 1)]
def pLw_law : List (Nat × Instr × Nat) := [(0, .new 7, 3), (3, .dup, 1), (4, .invokespecial 9, 3), (7, .astore_n 1, 1), (8, .new 10, 3), (11, .dup, 1), (12, .invokespecial 12, 3), (15, .astore_n 2, 1), (16, .iconst 0, 1), (17, .istore_n 3, 1), (18, .iload_n 3, 1), (19, .aload_n 0, 1), (20, .arraylength, 1), (21, .iconst 5, 1), (22, .isub, 1), (23, .if_icmp .gt 1682, 3), (26, .aload_n 0, 1), (27, .iload_n 3, 1), (28, .iaload, 1), (29, .bipush 63, 2), (31, .iand, 1), (32, .tableswitch 1667 0 46 #[204, 267, 280, 313, 336, 389, 422, 455, 498, 531, 564, 587, 610, 633, 666, 689, 712, 725, 748, 771, 794, 817, 830, 853, 886, 919, 962, 985, 1018, 1041, 1084, 1128, 1162, 1195, 1228, 1271, 1294, 1347, 1390, 1433, 1476, 1519, 1552, 1595, 1618, 1641, 1654], 204), (236, .aload_n 1, 1), (237, .aload_n 0, 1), (238, .iload_n 3, 1), (239, .iconst 1, 1), (240, .iadd, 1), (241, .iaload, 1), (242, .i2l, 1), (243, .bipush 32, 2), (245, .lshl, 1), (246, .aload_n 0, 1), (247, .iload_n 3, 1), (248, .iconst 2, 1), (249, .iadd, 1), (250, .iaload, 1), (251, .i2l, 1), (252, .ldc2_w 13, 3), (255, .land, 1), (256, .lor, 1), (257, .aload_n 0, 1), (258, .iload_n 3, 1), (259, .iconst 3, 1), (260, .iadd, 1), (261, .iaload, 1), (262, .invokevirtual 15, 3), (265, .aload_n 2, 1), (266, .aload_n 0, 1), (267, .iload_n 3, 1), (268, .iconst 1, 1), (269, .iadd, 1), (270, .iaload, 1), (271, .i2l, 1), (272, .bipush 32, 2), (274, .lshl, 1), (275, .aload_n 0, 1), (276, .iload_n 3, 1), (277, .iconst 2, 1), (278, .iadd, 1), (279, .iaload, 1), (280, .i2l, 1), (281, .ldc2_w 13, 3), (284, .land, 1), (285, .lor, 1), (286, .aload_n 0, 1), (287, .iload_n 3, 1), (288, .iconst 3, 1), (289, .iadd, 1), (290, .iaload, 1), (291, .invokevirtual 19, 3), (294, .if_icmp .eq 1405, 3), (297, .iconst 0, 1), (298, .ireturn, 1), (299, .aload_n 1, 1), (300, .invokevirtual 20, 3), (303, .aload_n 2, 1), (304, .invokevirtual 24, 3), (307, .if_icmp .eq 1392, 3), (310, .iconst 0, 1), (311, .ireturn, 1), (312, .aload_n 1, 1), (313, .aload_n 0, 1), (314, .iload_n 3, 1), (315, .iconst 1, 1), (316, .iadd, 1), (317, .iaload, 1), (318, .aload_n 0, 1), (319, .iload_n 3, 1), (320, .iconst 2, 1), (321, .iadd, 1), (322, .iaload, 1), (323, .invokevirtual 25, 3), (326, .aload_n 2, 1), (327, .aload_n 0, 1), (328, .iload_n 3, 1), (329, .iconst 1, 1), (330, .iadd, 1), (331, .iaload, 1), (332, .aload_n 0, 1), (333, .iload_n 3, 1), (334, .iconst 2, 1), (335, .iadd, 1), (336, .iaload, 1), (337, .invokevirtual 29, 3), (340, .if_icmp .eq 1359, 3), (343, .iconst 0, 1), (344, .ireturn, 1), (345, .aload_n 1, 1), (346, .aload_n 0, 1), (347, .iload_n 3, 1), (348, .iconst 1, 1), (349, .iadd, 1), (350, .iaload, 1), (351, .invokevirtual 30, 3), (354, .aload_n 2, 1), (355, .aload_n 0, 1), (356, .iload_n 3, 1), (357, .iconst 1, 1), (358, .iadd, 1), (359, .iaload, 1), (360, .invokevirtual 34, 3), (363, .if_icmp .eq 1336, 3), (366, .iconst 0, 1), (367, .ireturn, 1), (368, .aload_n 1, 1), (369, .aload_n 0, 1), (370, .iload_n 3, 1), (371, .iconst 1, 1), (372, .iadd, 1), (373, .iaload, 1), (374, .aload_n 0, 1), (375, .iload_n 3, 1), (376, .iconst 2, 1), (377, .iadd, 1), (378, .iaload, 1), (379, .aload_n 0, 1), (380, .iload_n 3, 1), (381, .iconst 3, 1), (382, .iadd, 1), (383, .iaload, 1), (384, .aload_n 0, 1), (385, .iload_n 3, 1), (386, .iconst 4, 1), (387, .iadd, 1), (388, .iaload, 1), (389, .invokevirtual 35, 3), (392, .aload_n 2, 1), (393, .aload_n 0, 1), (394, .iload_n 3, 1), (395, .iconst 1, 1), (396, .iadd, 1), (397, .iaload, 1), (398, .aload_n 0, 1), (399, .iload_n 3, 1), (400, .iconst 2, 1), (401, .iadd, 1), (402, .iaload, 1), (403, .aload_n 0, 1), (404, .iload_n 3, 1), (405, .iconst 3, 1), (406, .iadd, 1), (407, .iaload, 1), (408, .aload_n 0, 1), (409, .iload_n 3, 1), (410, .iconst 4, 1), (411, .iadd, 1), (412, .iaload, 1), (413, .invokevirtual 39, 3), (416, .if_icmp .eq 1283, 3), (419, .iconst 0, 1), (420, .ireturn, 1), (421, .aload_n 1, 1), (422, .aload_n 0, 1), (423, .iload_n 3, 1), (424, .iconst 1, 1), (425, .iadd, 1), (426, .iaload, 1), (427, .aload_n 0, 1), (428, .iload_n 3, 1), (429, .iconst 2, 1), (430, .iadd, 1), (431, .iaload, 1), (432, .invokevirtual 40, 3), (435, .aload_n 2, 1), (436, .aload_n 0, 1), (437, .iload_n 3, 1), (438, .iconst 1, 1), (439, .iadd, 1), (440, .iaload, 1), (441, .aload_n 0, 1), (442, .iload_n 3, 1), (443, .iconst 2, 1), (444, .iadd, 1), (445, .iaload, 1), (446, .invokevirtual 43, 3), (449, .if_icmp .eq 1250, 3), (452, .iconst 0, 1), (453, .ireturn, 1), (454, .aload_n 1, 1), (455, .aload_n 0, 1), (456, .iload_n 3, 1), (457, .iconst 1, 1), (458, .iadd, 1), (459, .iaload, 1), (460, .aload_n 0, 1), (461, .iload_n 3, 1), (462, .iconst 2, 1), (463, .iadd, 1), (464, .iaload, 1), (465, .invokevirtual 44, 3), (468, .aload_n 2, 1), (469, .aload_n 0, 1), (470, .iload_n 3, 1), (471, .iconst 1, 1), (472, .iadd, 1), (473, .iaload, 1), (474, .aload_n 0, 1), (475, .iload_n 3, 1), (476, .iconst 2, 1), (477, .iadd, 1), (478, .iaload, 1), (479, .invokevirtual 47, 3), (482, .if_icmp .eq 1217, 3), (485, .iconst 0, 1), (486, .ireturn, 1), (487, .aload_n 1, 1), (488, .aload_n 0, 1), (489, .iload_n 3, 1), (490, .iconst 1, 1), (491, .iadd, 1), (492, .iaload, 1), (493, .aload_n 0, 1), (494, .iload_n 3, 1), (495, .iconst 2, 1), (496, .iadd, 1), (497, .iaload, 1), (498, .aload_n 0, 1), (499, .iload_n 3, 1), (500, .iconst 3, 1), (501, .iadd, 1), (502, .iaload, 1), (503, .invokevirtual 48, 3), (506, .aload_n 2, 1), (507, .aload_n 0, 1), (508, .iload_n 3, 1), (509, .iconst 1, 1), (510, .iadd, 1), (511, .iaload, 1), (512, .aload_n 0, 1), (513, .iload_n 3, 1), (514, .iconst 2, 1), (515, .iadd, 1), (516, .iaload, 1), (517, .aload_n 0, 1), (518, .iload_n 3, 1), (519, .iconst 3, 1), (520, .iadd, 1), (521, .iaload, 1), (522, .invokevirtual 52, 3), (525, .if_icmp .eq 1174, 3), (528, .iconst 0, 1), (529, .ireturn, 1), (530, .aload_n 1, 1), (531, .aload_n 0, 1), (532, .iload_n 3, 1), (533, .iconst 1, 1), (534, .iadd, 1), (535, .iaload, 1), (536, .aload_n 0, 1), (537, .iload_n 3, 1), (538, .iconst 2, 1), (539, .iadd, 1), (540, .iaload, 1), (541, .invokevirtual 53, 3), (544, .aload_n 2, 1), (545, .aload_n 0, 1), (546, .iload_n 3, 1), (547, .iconst 1, 1), (548, .iadd, 1), (549, .iaload, 1), (550, .aload_n 0, 1), (551, .iload_n 3, 1), (552, .iconst 2, 1), (553, .iadd, 1), (554, .iaload, 1), (555, .invokevirtual 56, 3), (558, .if_icmp .eq 1141, 3), (561, .iconst 0, 1), (562, .ireturn, 1), (563, .aload_n 1, 1), (564, .aload_n 0, 1), (565, .iload_n 3, 1), (566, .iconst 1, 1), (567, .iadd, 1), (568, .iaload, 1), (569, .aload_n 0, 1), (570, .iload_n 3, 1), (571, .iconst 2, 1), (572, .iadd, 1), (573, .iaload, 1), (574, .invokevirtual 57, 3), (577, .aload_n 2, 1), (578, .aload_n 0, 1), (579, .iload_n 3, 1), (580, .iconst 1, 1), (581, .iadd, 1), (582, .iaload, 1), (583, .aload_n 0, 1), (584, .iload_n 3, 1), (585, .iconst 2, 1), (586, .iadd, 1), (587, .iaload, 1), (588, .invokevirtual 60, 3), (591, .if_icmp .eq 1108, 3), (594, .iconst 0, 1), (595, .ireturn, 1), (596, .aload_n 1, 1), (597, .aload_n 0, 1), (598, .iload_n 3, 1), (599, .iconst 1, 1), (600, .iadd, 1), (601, .iaload, 1), (602, .invokevirtual 61, 3), (605, .aload_n 2, 1), (606, .aload_n 0, 1), (607, .iload_n 3, 1), (608, .iconst 1, 1), (609, .iadd, 1), (610, .iaload, 1), (611, .invokevirtual 64, 3), (614, .if_icmp .eq 1085, 3), (617, .iconst 0, 1), (618, .ireturn, 1), (619, .aload_n 1, 1), (620, .aload_n 0, 1), (621, .iload_n 3, 1), (622, .iconst 1, 1), (623, .iadd, 1), (624, .iaload, 1), (625, .invokevirtual 65, 3), (628, .aload_n 2, 1), (629, .aload_n 0, 1), (630, .iload_n 3, 1), (631, .iconst 1, 1), (632, .iadd, 1), (633, .iaload, 1), (634, .invokevirtual 68, 3), (637, .if_icmp .eq 1062, 3), (640, .iconst 0, 1), (641, .ireturn, 1), (642, .aload_n 1, 1), (643, .aload_n 0, 1), (644, .iload_n 3, 1), (645, .iconst 1, 1), (646, .iadd, 1), (647, .iaload, 1), (648, .invokevirtual 69, 3), (651, .aload_n 2, 1), (652, .aload_n 0, 1), (653, .iload_n 3, 1), (654, .iconst 1, 1), (655, .iadd, 1), (656, .iaload, 1), (657, .invokevirtual 72, 3), (660, .if_icmp .eq 1039, 3), (663, .iconst 0, 1), (664, .ireturn, 1), (665, .aload_n 1, 1), (666, .aload_n 0, 1), (667, .iload_n 3, 1), (668, .iconst 1, 1), (669, .iadd, 1), (670, .iaload, 1), (671, .aload_n 0, 1), (672, .iload_n 3, 1), (673, .iconst 2, 1), (674, .iadd, 1), (675, .iaload, 1), (676, .invokevirtual 73, 3), (679, .aload_n 2, 1), (680, .aload_n 0, 1), (681, .iload_n 3, 1), (682, .iconst 1, 1), (683, .iadd, 1), (684, .iaload, 1), (685, .aload_n 0, 1), (686, .iload_n 3, 1), (687, .iconst 2, 1), (688, .iadd, 1), (689, .iaload, 1), (690, .invokevirtual 76, 3), (693, .if_icmp .eq 1006, 3), (696, .iconst 0, 1), (697, .ireturn, 1), (698, .aload_n 1, 1), (699, .aload_n 0, 1), (700, .iload_n 3, 1), (701, .iconst 1, 1), (702, .iadd, 1), (703, .iaload, 1), (704, .invokevirtual 77, 3), (707, .aload_n 2, 1), (708, .aload_n 0, 1), (709, .iload_n 3, 1), (710, .iconst 1, 1), (711, .iadd, 1), (712, .iaload, 1), (713, .invokevirtual 80, 3), (716, .if_icmp .eq 983, 3), (719, .iconst 0, 1), (720, .ireturn, 1), (721, .aload_n 1, 1), (722, .aload_n 0, 1), (723, .iload_n 3, 1), (724, .iconst 1, 1), (725, .iadd, 1), (726, .iaload, 1), (727, .invokevirtual 81, 3), (730, .aload_n 2, 1), (731, .aload_n 0, 1), (732, .iload_n 3, 1), (733, .iconst 1, 1), (734, .iadd, 1), (735, .iaload, 1), (736, .invokevirtual 84, 3), (739, .if_icmp .eq 960, 3), (742, .iconst 0, 1), (743, .ireturn, 1), (744, .aload_n 1, 1), (745, .invokevirtual 85, 3), (748, .aload_n 2, 1), (749, .invokevirtual 88, 3), (752, .if_icmp .eq 947, 3), (755, .iconst 0, 1), (756, .ireturn, 1), (757, .aload_n 1, 1), (758, .aload_n 0, 1), (759, .iload_n 3, 1), (760, .iconst 1, 1), (761, .iadd, 1), (762, .iaload, 1), (763, .invokevirtual 89, 3), (766, .aload_n 2, 1), (767, .aload_n 0, 1), (768, .iload_n 3, 1), (769, .iconst 1, 1), (770, .iadd, 1), (771, .iaload, 1), (772, .invokevirtual 92, 3), (775, .if_icmp .eq 924, 3), (778, .iconst 0, 1), (779, .ireturn, 1), (780, .aload_n 1, 1), (781, .aload_n 0, 1), (782, .iload_n 3, 1), (783, .iconst 1, 1), (784, .iadd, 1), (785, .iaload, 1), (786, .invokevirtual 93, 3), (789, .aload_n 2, 1), (790, .aload_n 0, 1), (791, .iload_n 3, 1), (792, .iconst 1, 1), (793, .iadd, 1), (794, .iaload, 1), (795, .invokevirtual 96, 3), (798, .if_icmp .eq 901, 3), (801, .iconst 0, 1), (802, .ireturn, 1), (803, .aload_n 1, 1), (804, .aload_n 0, 1), (805, .iload_n 3, 1), (806, .iconst 1, 1), (807, .iadd, 1), (808, .iaload, 1), (809, .invokevirtual 97, 3), (812, .aload_n 2, 1), (813, .aload_n 0, 1), (814, .iload_n 3, 1), (815, .iconst 1, 1), (816, .iadd, 1), (817, .iaload, 1), (818, .invokevirtual 100, 3), (821, .if_icmp .eq 878, 3), (824, .iconst 0, 1), (825, .ireturn, 1), (826, .aload_n 1, 1), (827, .aload_n 0, 1), (828, .iload_n 3, 1), (829, .iconst 1, 1), (830, .iadd, 1), (831, .iaload, 1), (832, .invokevirtual 101, 3), (835, .aload_n 2, 1), (836, .aload_n 0, 1), (837, .iload_n 3, 1), (838, .iconst 1, 1), (839, .iadd, 1), (840, .iaload, 1), (841, .invokevirtual 104, 3), (844, .if_icmp .eq 855, 3), (847, .iconst 0, 1), (848, .ireturn, 1), (849, .aload_n 1, 1), (850, .invokevirtual 105, 3), (853, .aload_n 2, 1), (854, .invokevirtual 108, 3), (857, .if_icmp .eq 842, 3), (860, .iconst 0, 1), (861, .ireturn, 1), (862, .aload_n 1, 1), (863, .aload_n 0, 1), (864, .iload_n 3, 1), (865, .iconst 1, 1), (866, .iadd, 1), (867, .iaload, 1), (868, .invokevirtual 109, 3), (871, .aload_n 2, 1), (872, .aload_n 0, 1), (873, .iload_n 3, 1), (874, .iconst 1, 1), (875, .iadd, 1), (876, .iaload, 1), (877, .invokevirtual 112, 3), (880, .if_icmp .eq 819, 3), (883, .iconst 0, 1), (884, .ireturn, 1), (885, .aload_n 1, 1), (886, .aload_n 0, 1), (887, .iload_n 3, 1), (888, .iconst 1, 1), (889, .iadd, 1), (890, .iaload, 1), (891, .aload_n 0, 1), (892, .iload_n 3, 1), (893, .iconst 2, 1), (894, .iadd, 1), (895, .iaload, 1), (896, .invokevirtual 113, 3), (899, .aload_n 2, 1), (900, .aload_n 0, 1), (901, .iload_n 3, 1), (902, .iconst 1, 1), (903, .iadd, 1), (904, .iaload, 1), (905, .aload_n 0, 1), (906, .iload_n 3, 1), (907, .iconst 2, 1), (908, .iadd, 1), (909, .iaload, 1), (910, .invokevirtual 116, 3), (913, .if_icmp .eq 786, 3), (916, .iconst 0, 1), (917, .ireturn, 1), (918, .aload_n 1, 1), (919, .aload_n 0, 1), (920, .iload_n 3, 1), (921, .iconst 1, 1), (922, .iadd, 1), (923, .iaload, 1), (924, .aload_n 0, 1), (925, .iload_n 3, 1), (926, .iconst 2, 1), (927, .iadd, 1), (928, .iaload, 1), (929, .invokevirtual 117, 3), (932, .aload_n 2, 1), (933, .aload_n 0, 1), (934, .iload_n 3, 1), (935, .iconst 1, 1), (936, .iadd, 1), (937, .iaload, 1), (938, .aload_n 0, 1), (939, .iload_n 3, 1), (940, .iconst 2, 1), (941, .iadd, 1), (942, .iaload, 1), (943, .invokevirtual 120, 3), (946, .if_icmp .eq 753, 3), (949, .iconst 0, 1), (950, .ireturn, 1), (951, .aload_n 1, 1), (952, .aload_n 0, 1), (953, .iload_n 3, 1), (954, .iconst 1, 1), (955, .iadd, 1), (956, .iaload, 1), (957, .aload_n 0, 1), (958, .iload_n 3, 1), (959, .iconst 2, 1), (960, .iadd, 1), (961, .iaload, 1), (962, .aload_n 0, 1), (963, .iload_n 3, 1), (964, .iconst 3, 1), (965, .iadd, 1), (966, .iaload, 1), (967, .invokevirtual 121, 3), (970, .aload_n 2, 1), (971, .aload_n 0, 1), (972, .iload_n 3, 1), (973, .iconst 1, 1), (974, .iadd, 1), (975, .iaload, 1), (976, .aload_n 0, 1), (977, .iload_n 3, 1), (978, .iconst 2, 1), (979, .iadd, 1), (980, .iaload, 1), (981, .aload_n 0, 1), (982, .iload_n 3, 1), (983, .iconst 3, 1), (984, .iadd, 1), (985, .iaload, 1), (986, .invokevirtual 124, 3), (989, .if_icmp .eq 710, 3), (992, .iconst 0, 1), (993, .ireturn, 1), (994, .aload_n 1, 1), (995, .aload_n 0, 1), (996, .iload_n 3, 1), (997, .iconst 1, 1), (998, .iadd, 1), (999, .iaload, 1), (1000, .invokevirtual 125, 3), (1003, .aload_n 2, 1), (1004, .aload_n 0, 1), (1005, .iload_n 3, 1), (1006, .iconst 1, 1), (1007, .iadd, 1), (1008, .iaload, 1), (1009, .invokevirtual 128, 3), (1012, .if_icmp .eq 687, 3), (1015, .iconst 0, 1), (1016, .ireturn, 1), (1017, .aload_n 1, 1), (1018, .aload_n 0, 1), (1019, .iload_n 3, 1), (1020, .iconst 1, 1), (1021, .iadd, 1), (1022, .iaload, 1), (1023, .aload_n 0, 1), (1024, .iload_n 3, 1), (1025, .iconst 2, 1), (1026, .iadd, 1), (1027, .iaload, 1), (1028, .invokevirtual 129, 3), (1031, .aload_n 2, 1), (1032, .aload_n 0, 1), (1033, .iload_n 3, 1), (1034, .iconst 1, 1), (1035, .iadd, 1), (1036, .iaload, 1), (1037, .aload_n 0, 1), (1038, .iload_n 3, 1), (1039, .iconst 2, 1), (1040, .iadd, 1), (1041, .iaload, 1), (1042, .invokevirtual 132, 3), (1045, .if_icmp .eq 654, 3), (1048, .iconst 0, 1), (1049, .ireturn, 1), (1050, .aload_n 1, 1), (1051, .aload_n 0, 1), (1052, .iload_n 3, 1), (1053, .iconst 1, 1), (1054, .iadd, 1), (1055, .iaload, 1), (1056, .invokevirtual 133, 3), (1059, .aload_n 2, 1), (1060, .aload_n 0, 1), (1061, .iload_n 3, 1), (1062, .iconst 1, 1), (1063, .iadd, 1), (1064, .iaload, 1), (1065, .invokevirtual 136, 3), (1068, .if_icmp .eq 631, 3), (1071, .iconst 0, 1), (1072, .ireturn, 1), (1073, .aload_n 1, 1), (1074, .aload_n 0, 1), (1075, .iload_n 3, 1), (1076, .iconst 1, 1), (1077, .iadd, 1), (1078, .iaload, 1), (1079, .aload_n 0, 1), (1080, .iload_n 3, 1), (1081, .iconst 2, 1), (1082, .iadd, 1), (1083, .iaload, 1), (1084, .aload_n 0, 1), (1085, .iload_n 3, 1), (1086, .iconst 3, 1), (1087, .iadd, 1), (1088, .iaload, 1), (1089, .invokevirtual 137, 3), (1092, .aload_n 2, 1), (1093, .aload_n 0, 1), (1094, .iload_n 3, 1), (1095, .iconst 1, 1), (1096, .iadd, 1), (1097, .iaload, 1), (1098, .aload_n 0, 1), (1099, .iload_n 3, 1), (1100, .iconst 2, 1), (1101, .iadd, 1), (1102, .iaload, 1), (1103, .aload_n 0, 1), (1104, .iload_n 3, 1), (1105, .iconst 3, 1), (1106, .iadd, 1), (1107, .iaload, 1), (1108, .invokevirtual 140, 3), (1111, .if_icmp .eq 588, 3), (1114, .iconst 0, 1), (1115, .ireturn, 1), (1116, .aload_n 1, 1), (1117, .aload_n 0, 1), (1118, .iload_n 3, 1), (1119, .iconst 1, 1), (1120, .iadd, 1), (1121, .iaload, 1), (1122, .aload_n 0, 1), (1123, .iload_n 3, 1), (1124, .iconst 2, 1), (1125, .iadd, 1), (1126, .iaload, 1), (1127, .aload_n 0, 1), (1128, .iload_n 3, 1), (1129, .iconst 3, 1), (1130, .iadd, 1), (1131, .iaload, 1), (1132, .invokevirtual 141, 3), (1135, .aload_n 2, 1), (1136, .aload_n 0, 1), (1137, .iload_n 3, 1), (1138, .iconst 1, 1), (1139, .iadd, 1), (1140, .iaload, 1), (1141, .aload_n 0, 1), (1142, .iload_n 3, 1), (1143, .iconst 2, 1), (1144, .iadd, 1), (1145, .iaload, 1), (1146, .aload_n 0, 1), (1147, .iload_n 3, 1), (1148, .iconst 3, 1), (1149, .iadd, 1), (1150, .iaload, 1), (1151, .invokevirtual 145, 3), (1154, .lcmp, 1), (1155, .ifCond .eq 544, 3), (1158, .iconst 0, 1), (1159, .ireturn, 1), (1160, .aload_n 1, 1), (1161, .aload_n 0, 1), (1162, .iload_n 3, 1), (1163, .iconst 1, 1), (1164, .iadd, 1), (1165, .iaload, 1), (1166, .aload_n 0, 1), (1167, .iload_n 3, 1), (1168, .iconst 2, 1), (1169, .iadd, 1), (1170, .iaload, 1), (1171, .invokevirtual 146, 3), (1174, .aload_n 2, 1), (1175, .aload_n 0, 1), (1176, .iload_n 3, 1), (1177, .iconst 1, 1), (1178, .iadd, 1), (1179, .iaload, 1), (1180, .aload_n 0, 1), (1181, .iload_n 3, 1), (1182, .iconst 2, 1), (1183, .iadd, 1), (1184, .iaload, 1), (1185, .invokevirtual 150, 3), (1188, .lcmp, 1), (1189, .ifCond .eq 510, 3), (1192, .iconst 0, 1), (1193, .ireturn, 1), (1194, .aload_n 1, 1), (1195, .aload_n 0, 1), (1196, .iload_n 3, 1), (1197, .iconst 1, 1), (1198, .iadd, 1), (1199, .iaload, 1), (1200, .aload_n 0, 1), (1201, .iload_n 3, 1), (1202, .iconst 2, 1), (1203, .iadd, 1), (1204, .iaload, 1), (1205, .invokevirtual 151, 3), (1208, .aload_n 2, 1), (1209, .aload_n 0, 1), (1210, .iload_n 3, 1), (1211, .iconst 1, 1), (1212, .iadd, 1), (1213, .iaload, 1), (1214, .aload_n 0, 1), (1215, .iload_n 3, 1), (1216, .iconst 2, 1), (1217, .iadd, 1), (1218, .iaload, 1), (1219, .invokevirtual 154, 3), (1222, .if_icmp .eq 477, 3), (1225, .iconst 0, 1), (1226, .ireturn, 1), (1227, .aload_n 1, 1), (1228, .aload_n 0, 1), (1229, .iload_n 3, 1), (1230, .iconst 1, 1), (1231, .iadd, 1), (1232, .iaload, 1), (1233, .aload_n 0, 1), (1234, .iload_n 3, 1), (1235, .iconst 2, 1), (1236, .iadd, 1), (1237, .iaload, 1), (1238, .invokevirtual 155, 3), (1241, .aload_n 2, 1), (1242, .aload_n 0, 1), (1243, .iload_n 3, 1), (1244, .iconst 1, 1), (1245, .iadd, 1), (1246, .iaload, 1), (1247, .aload_n 0, 1), (1248, .iload_n 3, 1), (1249, .iconst 2, 1), (1250, .iadd, 1), (1251, .iaload, 1), (1252, .invokevirtual 158, 3), (1255, .if_icmp .eq 444, 3), (1258, .iconst 0, 1), (1259, .ireturn, 1), (1260, .aload_n 1, 1), (1261, .aload_n 0, 1), (1262, .iload_n 3, 1), (1263, .iconst 1, 1), (1264, .iadd, 1), (1265, .iaload, 1), (1266, .aload_n 0, 1), (1267, .iload_n 3, 1), (1268, .iconst 2, 1), (1269, .iadd, 1), (1270, .iaload, 1), (1271, .aload_n 0, 1), (1272, .iload_n 3, 1), (1273, .iconst 3, 1), (1274, .iadd, 1), (1275, .iaload, 1), (1276, .invokevirtual 159, 3), (1279, .aload_n 2, 1), (1280, .aload_n 0, 1), (1281, .iload_n 3, 1), (1282, .iconst 1, 1), (1283, .iadd, 1), (1284, .iaload, 1), (1285, .aload_n 0, 1), (1286, .iload_n 3, 1), (1287, .iconst 2, 1), (1288, .iadd, 1), (1289, .iaload, 1), (1290, .aload_n 0, 1), (1291, .iload_n 3, 1), (1292, .iconst 3, 1), (1293, .iadd, 1), (1294, .iaload, 1), (1295, .invokevirtual 162, 3), (1298, .if_icmp .eq 401, 3), (1301, .iconst 0, 1), (1302, .ireturn, 1), (1303, .aload_n 1, 1), (1304, .aload_n 0, 1), (1305, .iload_n 3, 1), (1306, .iconst 1, 1), (1307, .iadd, 1), (1308, .iaload, 1), (1309, .invokevirtual 163, 3), (1312, .aload_n 2, 1), (1313, .aload_n 0, 1), (1314, .iload_n 3, 1), (1315, .iconst 1, 1), (1316, .iadd, 1), (1317, .iaload, 1), (1318, .invokevirtual 166, 3), (1321, .if_icmp .eq 378, 3), (1324, .iconst 0, 1), (1325, .ireturn, 1), (1326, .aload_n 1, 1), (1327, .aload_n 0, 1), (1328, .iload_n 3, 1), (1329, .iconst 1, 1), (1330, .iadd, 1), (1331, .iaload, 1), (1332, .aload_n 0, 1), (1333, .iload_n 3, 1), (1334, .iconst 2, 1), (1335, .iadd, 1), (1336, .iaload, 1), (1337, .aload_n 0, 1), (1338, .iload_n 3, 1), (1339, .iconst 3, 1), (1340, .iadd, 1), (1341, .iaload, 1), (1342, .aload_n 0, 1), (1343, .iload_n 3, 1), (1344, .iconst 4, 1), (1345, .iadd, 1), (1346, .iaload, 1), (1347, .invokevirtual 167, 3), (1350, .aload_n 2, 1), (1351, .aload_n 0, 1), (1352, .iload_n 3, 1), (1353, .iconst 1, 1), (1354, .iadd, 1), (1355, .iaload, 1), (1356, .aload_n 0, 1), (1357, .iload_n 3, 1), (1358, .iconst 2, 1), (1359, .iadd, 1), (1360, .iaload, 1), (1361, .aload_n 0, 1), (1362, .iload_n 3, 1), (1363, .iconst 3, 1), (1364, .iadd, 1), (1365, .iaload, 1), (1366, .aload_n 0, 1), (1367, .iload_n 3, 1), (1368, .iconst 4, 1), (1369, .iadd, 1), (1370, .iaload, 1), (1371, .invokevirtual 170, 3), (1374, .if_icmp .eq 325, 3), (1377, .iconst 0, 1), (1378, .ireturn, 1), (1379, .aload_n 1, 1), (1380, .aload_n 0, 1), (1381, .iload_n 3, 1), (1382, .iconst 1, 1), (1383, .iadd, 1), (1384, .iaload, 1), (1385, .aload_n 0, 1), (1386, .iload_n 3, 1), (1387, .iconst 2, 1), (1388, .iadd, 1), (1389, .iaload, 1), (1390, .aload_n 0, 1), (1391, .iload_n 3, 1), (1392, .iconst 3, 1), (1393, .iadd, 1), (1394, .iaload, 1), (1395, .invokevirtual 171, 3), (1398, .aload_n 2, 1), (1399, .aload_n 0, 1), (1400, .iload_n 3, 1), (1401, .iconst 1, 1), (1402, .iadd, 1), (1403, .iaload, 1), (1404, .aload_n 0, 1), (1405, .iload_n 3, 1), (1406, .iconst 2, 1), (1407, .iadd, 1), (1408, .iaload, 1), (1409, .aload_n 0, 1), (1410, .iload_n 3, 1), (1411, .iconst 3, 1), (1412, .iadd, 1), (1413, .iaload, 1), (1414, .invokevirtual 174, 3), (1417, .if_icmp .eq 282, 3), (1420, .iconst 0, 1), (1421, .ireturn, 1), (1422, .aload_n 1, 1), (1423, .aload_n 0, 1), (1424, .iload_n 3, 1), (1425, .iconst 1, 1), (1426, .iadd, 1), (1427, .iaload, 1), (1428, .aload_n 0, 1), (1429, .iload_n 3, 1), (1430, .iconst 2, 1), (1431, .iadd, 1), (1432, .iaload, 1), (1433, .aload_n 0, 1), (1434, .iload_n 3, 1), (1435, .iconst 3, 1), (1436, .iadd, 1), (1437, .iaload, 1), (1438, .invokevirtual 175, 3), (1441, .aload_n 2, 1), (1442, .aload_n 0, 1), (1443, .iload_n 3, 1), (1444, .iconst 1, 1), (1445, .iadd, 1), (1446, .iaload, 1), (1447, .aload_n 0, 1), (1448, .iload_n 3, 1), (1449, .iconst 2, 1), (1450, .iadd, 1), (1451, .iaload, 1), (1452, .aload_n 0, 1), (1453, .iload_n 3, 1), (1454, .iconst 3, 1), (1455, .iadd, 1), (1456, .iaload, 1), (1457, .invokevirtual 178, 3), (1460, .if_icmp .eq 239, 3), (1463, .iconst 0, 1), (1464, .ireturn, 1), (1465, .aload_n 1, 1), (1466, .aload_n 0, 1), (1467, .iload_n 3, 1), (1468, .iconst 1, 1), (1469, .iadd, 1), (1470, .iaload, 1), (1471, .aload_n 0, 1), (1472, .iload_n 3, 1), (1473, .iconst 2, 1), (1474, .iadd, 1), (1475, .iaload, 1), (1476, .aload_n 0, 1), (1477, .iload_n 3, 1), (1478, .iconst 3, 1), (1479, .iadd, 1), (1480, .iaload, 1), (1481, .invokevirtual 179, 3), (1484, .aload_n 2, 1), (1485, .aload_n 0, 1), (1486, .iload_n 3, 1), (1487, .iconst 1, 1), (1488, .iadd, 1), (1489, .iaload, 1), (1490, .aload_n 0, 1), (1491, .iload_n 3, 1), (1492, .iconst 2, 1), (1493, .iadd, 1), (1494, .iaload, 1), (1495, .aload_n 0, 1), (1496, .iload_n 3, 1), (1497, .iconst 3, 1), (1498, .iadd, 1), (1499, .iaload, 1), (1500, .invokevirtual 182, 3), (1503, .if_icmp .eq 196, 3), (1506, .iconst 0, 1), (1507, .ireturn, 1), (1508, .aload_n 1, 1), (1509, .aload_n 0, 1), (1510, .iload_n 3, 1), (1511, .iconst 1, 1), (1512, .iadd, 1), (1513, .iaload, 1), (1514, .aload_n 0, 1), (1515, .iload_n 3, 1), (1516, .iconst 2, 1), (1517, .iadd, 1), (1518, .iaload, 1), (1519, .aload_n 0, 1), (1520, .iload_n 3, 1), (1521, .iconst 3, 1), (1522, .iadd, 1), (1523, .iaload, 1), (1524, .invokevirtual 183, 3), (1527, .aload_n 2, 1), (1528, .aload_n 0, 1), (1529, .iload_n 3, 1), (1530, .iconst 1, 1), (1531, .iadd, 1), (1532, .iaload, 1), (1533, .aload_n 0, 1), (1534, .iload_n 3, 1), (1535, .iconst 2, 1), (1536, .iadd, 1), (1537, .iaload, 1), (1538, .aload_n 0, 1), (1539, .iload_n 3, 1), (1540, .iconst 3, 1), (1541, .iadd, 1), (1542, .iaload, 1), (1543, .invokevirtual 186, 3), (1546, .if_icmp .eq 153, 3), (1549, .iconst 0, 1), (1550, .ireturn, 1), (1551, .aload_n 1, 1), (1552, .aload_n 0, 1), (1553, .iload_n 3, 1), (1554, .iconst 1, 1), (1555, .iadd, 1), (1556, .iaload, 1), (1557, .aload_n 0, 1), (1558, .iload_n 3, 1), (1559, .iconst 2, 1), (1560, .iadd, 1), (1561, .iaload, 1), (1562, .invokevirtual 187, 3), (1565, .aload_n 2, 1), (1566, .aload_n 0, 1), (1567, .iload_n 3, 1), (1568, .iconst 1, 1), (1569, .iadd, 1), (1570, .iaload, 1), (1571, .aload_n 0, 1), (1572, .iload_n 3, 1), (1573, .iconst 2, 1), (1574, .iadd, 1), (1575, .iaload, 1), (1576, .invokevirtual 190, 3), (1579, .if_icmp .eq 120, 3), (1582, .iconst 0, 1), (1583, .ireturn, 1), (1584, .aload_n 1, 1), (1585, .aload_n 0, 1), (1586, .iload_n 3, 1), (1587, .iconst 1, 1), (1588, .iadd, 1), (1589, .iaload, 1), (1590, .aload_n 0, 1), (1591, .iload_n 3, 1), (1592, .iconst 2, 1), (1593, .iadd, 1), (1594, .iaload, 1), (1595, .aload_n 0, 1), (1596, .iload_n 3, 1), (1597, .iconst 3, 1), (1598, .iadd, 1), (1599, .iaload, 1), (1600, .invokevirtual 191, 3), (1603, .aload_n 2, 1), (1604, .aload_n 0, 1), (1605, .iload_n 3, 1), (1606, .iconst 1, 1), (1607, .iadd, 1), (1608, .iaload, 1), (1609, .aload_n 0, 1), (1610, .iload_n 3, 1), (1611, .iconst 2, 1), (1612, .iadd, 1), (1613, .iaload, 1), (1614, .aload_n 0, 1), (1615, .iload_n 3, 1), (1616, .iconst 3, 1), (1617, .iadd, 1), (1618, .iaload, 1), (1619, .invokevirtual 194, 3), (1622, .if_icmp .eq 77, 3), (1625, .iconst 0, 1), (1626, .ireturn, 1), (1627, .aload_n 1, 1), (1628, .aload_n 0, 1), (1629, .iload_n 3, 1), (1630, .iconst 1, 1), (1631, .iadd, 1), (1632, .iaload, 1), (1633, .invokevirtual 195, 3), (1636, .aload_n 2, 1), (1637, .aload_n 0, 1), (1638, .iload_n 3, 1), (1639, .iconst 1, 1), (1640, .iadd, 1), (1641, .iaload, 1), (1642, .invokevirtual 198, 3), (1645, .if_icmp .eq 54, 3), (1648, .iconst 0, 1), (1649, .ireturn, 1), (1650, .aload_n 1, 1), (1651, .aload_n 0, 1), (1652, .iload_n 3, 1), (1653, .iconst 1, 1), (1654, .iadd, 1), (1655, .iaload, 1), (1656, .invokevirtual 199, 3), (1659, .aload_n 2, 1), (1660, .aload_n 0, 1), (1661, .iload_n 3, 1), (1662, .iconst 1, 1), (1663, .iadd, 1), (1664, .iaload, 1), (1665, .invokevirtual 202, 3), (1668, .if_icmp .eq 31, 3), (1671, .iconst 0, 1), (1672, .ireturn, 1), (1673, .aload_n 1, 1), (1674, .invokevirtual 203, 3), (1677, .aload_n 2, 1), (1678, .invokevirtual 206, 3), (1681, .if_icmp .eq 18, 3), (1684, .iconst 0, 1), (1685, .ireturn, 1), (1686, .aload_n 1, 1), (1687, .invokevirtual 207, 3), (1690, .aload_n 2, 1), (1691, .invokevirtual 210, 3), (1694, .if_icmp .eq 5, 3), (1697, .iconst 0, 1), (1698, .ireturn, 1), (1699, .iinc 3 5, 3), (1702, .goto (-1684), 3), (1705, .iconst 1, 1), (1706, .ireturn, 1)]
def mAc_init : rM := (0, pAc_init, 0, true, none, 1, 30, 1, 1)
def mAc_clear : rM := (1, pAc_clear, 0, false, none, 0, 0, 1, 1)
def mAc_holdOne : rM := (2, pAc_holdOne, 0, false, none, 0, 0, 4, 4)
def mAc_answer : rM := (3, pAc_answer, 0, false, (some .int), 0, 0, 4, 3)
def mAc_own : rM := (4, pAc_own, 0, false, (some .int), 0, 0, 4, 4)
def mAc_inherited : rM := (5, pAc_inherited, 0, false, (some .int), 0, 0, 5, 5)
def mAc_bodyFor : rM := (6, pAc_bodyFor, 0, false, (some .int), 0, 0, 5, 2)
def mAc_run : rM := (7, pAc_run, 0, false, (some .int), 0, 0, 5, 4)
def mAc_part : rM := (8, pAc_part, 0, false, (some .int), 0, 0, 3, 2)
def mAc_note : rM := (9, pAc_note, 0, false, none, 0, 0, 2, 2)
def mSe_init : rM := (10, pSe_init, 1, true, none, 3, 168, 2, 1)
def mSe_begin : rM := (11, pSe_begin, 1, false, none, 0, 0, 5, 4)
def mSe_holds : rM := (12, pSe_holds, 1, false, (some .boolean), 0, 0, 3, 3)
def mSe_number : rM := (13, pSe_number, 1, false, (some .int), 0, 0, 3, 3)
def mSe_write : rM := (14, pSe_write, 1, false, none, 0, 0, 5, 4)
def mSf_init : rM := (15, pSf_init, 2, true, none, 3, 12, 2, 1)
def mSf_clear : rM := (16, pSf_clear, 2, false, none, 0, 0, 2, 2)
def mSf_holdThing : rM := (17, pSf_holdThing, 2, false, none, 0, 0, 3, 3)
def mSf_holdRow : rM := (18, pSf_holdRow, 2, false, none, 0, 0, 4, 4)
def mSf_holdsRow : rM := (19, pSf_holdsRow, 2, false, (some .boolean), 0, 0, 2, 2)
def mSt_init : rM := (20, pSt_init, 3, true, none, 6, 44, 1, 1)
def mSt_begin : rM := (21, pSt_begin, 3, false, none, 0, 0, 1, 1)
def mSt_become : rM := (22, pSt_become, 3, false, none, 0, 0, 2, 2)
def mSt_has : rM := (23, pSt_has, 3, false, (some .boolean), 0, 0, 2, 2)
def mSt_lies : rM := (24, pSt_lies, 3, false, (some .boolean), 0, 0, 2, 2)
def mSt_add : rM := (25, pSt_add, 3, false, (some .int), 0, 0, 6, 5)
def mSt_layIn : rM := (26, pSt_layIn, 3, false, none, 0, 0, 3, 3)
def mSt_setLying : rM := (27, pSt_setLying, 3, false, (some .int), 0, 0, 3, 1)
def mSt_setIn : rM := (28, pSt_setIn, 3, false, (some .int), 0, 0, 4, 2)
def mSt_setAbove : rM := (29, pSt_setAbove, 3, false, (some .int), 0, 0, 4, 2)
def mSt_uppermost : rM := (30, pSt_uppermost, 3, false, (some .int), 0, 0, 5, 2)
def mSt_worthLying : rM := (31, pSt_worthLying, 3, false, (some .int), 0, 0, 3, 1)
def mSt_pitsInUse : rM := (32, pSt_pitsInUse, 3, false, (some .int), 0, 0, 3, 1)
def mSt_cover : rM := (33, pSt_cover, 3, false, (some .int), 0, 0, 6, 1)
def mSt_kindsIn : rM := (34, pSt_kindsIn, 3, false, (some .int), 0, 0, 4, 2)
def mSt_speaking : rM := (35, pSt_speaking, 3, false, (some .int), 0, 0, 3, 2)
def mSt_hiding : rM := (36, pSt_hiding, 3, false, (some .int), 0, 0, 2, 2)
def mSt_passYears : rM := (37, pSt_passYears, 3, false, none, 0, 0, 3, 2)
def mSt_passYear : rM := (38, pSt_passYear, 3, false, none, 0, 0, 1, 1)
def mSt_dig : rM := (39, pSt_dig, 3, false, none, 0, 0, 5, 1)
def mSt_passDrawnYear : rM := (40, pSt_passDrawnYear, 3, false, none, 0, 0, 2, 1)
def mSt_draw : rM := (41, pSt_draw, 3, false, (some .int), 0, 0, 1, 1)
def mTx_init : rM := (42, pTx_init, 4, true, none, 1, 200, 1, 1)
def mTx_clear : rM := (43, pTx_clear, 4, false, none, 0, 0, 1, 1)
def mTx_append : rM := (44, pTx_append, 4, false, (some .int), 0, 0, 5, 3)
def mTx_readInto : rM := (45, pTx_readInto, 4, false, (some .int), 0, 0, 3, 2)
def mTx_readStatement : rM := (46, pTx_readStatement, 4, false, none, 0, 0, 5, 2)
def mTx_readThing : rM := (47, pTx_readThing, 4, false, none, 0, 0, 6, 3)
def mTx_apply : rM := (48, pTx_apply, 4, false, none, 0, 0, 3, 3)
def mTx_mostOfSetting : rM := (49, pTx_mostOfSetting, 4, false, (some .int), 0, 0, 1, 1)
def mTx_kindNamed : rM := (50, pTx_kindNamed, 4, false, (some .int), 0, 0, 1, 1)
def mTx_settingNamed : rM := (51, pTx_settingNamed, 4, false, (some .int), 0, 0, 1, 1)
def mTx_readNumber : rM := (52, pTx_readNumber, 4, false, (some .int), 0, 0, 4, 2)
def mTx_needEndOfStatement : rM := (53, pTx_needEndOfStatement, 4, false, none, 0, 0, 1, 1)
def mTx_fail : rM := (54, pTx_fail, 4, false, none, 0, 0, 1, 1)
def mTx_next : rM := (55, pTx_next, 4, false, none, 0, 0, 1, 1)
def mTx_sortOf : rM := (56, pTx_sortOf, 4, false, (some .int), 0, 0, 1, 1)
def mTx_isName : rM := (57, pTx_isName, 4, false, (some .boolean), 0, 0, 3, 2)
def mLa_init : rM := (58, pLa_init, 5, true, none, 34, 626, 1, 1)
def mLa_feed : rM := (59, pLa_feed, 5, false, (some .int), 0, 0, 4, 3)
def mLa_street : rM := (60, pLa_street, 5, false, (some .int), 0, 0, 2, 1)
def mLa_set : rM := (61, pLa_set, 5, false, (some .int), 0, 0, 4, 3)
def mLa_lawOf : rM := (62, pLa_lawOf, 5, false, (some .int), 0, 0, 2, 2)
def mLa_thing : rM := (63, pLa_thing, 5, false, (some .int), 0, 0, 5, 5)
def mLa_of : rM := (64, pLa_of, 5, false, (some .int), 0, 0, 3, 3)
def mLa_does : rM := (65, pLa_does, 5, false, (some .int), 0, 0, 3, 3)
def mLa_mind : rM := (66, pLa_mind, 5, false, (some .int), 0, 0, 5, 4)
def mLa_value : rM := (67, pLa_value, 5, false, (some .int), 0, 0, 4, 3)
def mLa_lay : rM := (68, pLa_lay, 5, false, (some .int), 0, 0, 4, 3)
def mLa_take : rM := (69, pLa_take, 5, false, (some .int), 0, 0, 2, 2)
def mLa_bring : rM := (70, pLa_bring, 5, false, (some .int), 0, 0, 3, 2)
def mLa_think : rM := (71, pLa_think, 5, false, (some .int), 0, 0, 3, 2)
def mLa_pit : rM := (72, pLa_pit, 5, false, (some .int), 0, 0, 3, 3)
def mLa_years : rM := (73, pLa_years, 5, false, (some .int), 0, 0, 2, 2)
def mLa_seed : rM := (74, pLa_seed, 5, false, (some .int), 0, 0, 3, 2)
def mLa_year : rM := (75, pLa_year, 5, false, (some .int), 0, 0, 1, 1)
def mLa_luck : rM := (76, pLa_luck, 5, false, (some .int), 0, 0, 6, 2)
def mLa_state : rM := (77, pLa_state, 5, false, (some .int), 0, 0, 2, 2)
def mLa_thought : rM := (78, pLa_thought, 5, false, (some .int), 0, 0, 2, 2)
def mLa_dug : rM := (79, pLa_dug, 5, false, (some .int), 0, 0, 3, 2)
def mLa_empty : rM := (80, pLa_empty, 5, false, (some .int), 0, 0, 2, 1)
def mLa_praised : rM := (81, pLa_praised, 5, false, (some .int), 0, 0, 3, 2)
def mLa_pitFor : rM := (82, pLa_pitFor, 5, false, (some .int), 0, 0, 3, 3)
def mLa_kindFor : rM := (83, pLa_kindFor, 5, false, (some .int), 0, 0, 3, 3)
def mLa_worthFor : rM := (84, pLa_worthFor, 5, false, (some .int), 0, 0, 5, 4)
def mLa_beginFor : rM := (85, pLa_beginFor, 5, false, (some .int), 0, 0, 2, 2)
def mLa_awayFor : rM := (86, pLa_awayFor, 5, false, (some .int), 0, 0, 8, 3)
def mLa_above : rM := (87, pLa_above, 5, false, (some .int), 0, 0, 2, 2)
def mLa_fits : rM := (88, pLa_fits, 5, false, (some .int), 0, 0, 7, 4)
def mLa_odds : rM := (89, pLa_odds, 5, false, (some .long), 0, 0, 8, 4)
def mLa_hope : rM := (90, pLa_hope, 5, false, (some .long), 0, 0, 3, 3)
def mLa_prove : rM := (91, pLa_prove, 5, false, (some .int), 0, 0, 5, 3)
def mLa_row : rM := (92, pLa_row, 5, false, (some .int), 0, 0, 3, 3)
def mLa_alterRow : rM := (93, pLa_alterRow, 5, false, (some .int), 0, 0, 5, 4)
def mLa_judge : rM := (94, pLa_judge, 5, false, (some .int), 0, 0, 4, 2)
def mLa_minds : rM := (95, pLa_minds, 5, false, (some .int), 0, 0, 7, 5)
def mLa_sheet : rM := (96, pLa_sheet, 5, false, (some .int), 0, 0, 4, 4)
def mLa_put : rM := (97, pLa_put, 5, false, (some .int), 0, 0, 4, 4)
def mLa_item : rM := (98, pLa_item, 5, false, (some .int), 0, 0, 4, 4)
def mLa_shelf : rM := (99, pLa_shelf, 5, false, (some .int), 0, 0, 4, 4)
def mLa_taken : rM := (100, pLa_taken, 5, false, (some .int), 0, 0, 6, 3)
def mLa_act : rM := (101, pLa_act, 5, false, (some .int), 0, 0, 5, 4)
def mLa_trace : rM := (102, pLa_trace, 5, false, (some .int), 0, 0, 2, 2)
def mLa_many : rM := (103, pLa_many, 5, false, (some .int), 0, 0, 2, 2)
def mLa_keep : rM := (104, pLa_keep, 5, false, (some .int), 0, 0, 1, 1)
def mLa_again : rM := (105, pLa_again, 5, false, (some .int), 0, 0, 1, 1)
def mLa_within : rM := (106, pLa_within, 5, false, (some .boolean), 0, 0, 2, 2)
def mLa_isNear : rM := (107, pLa_isNear, 5, false, (some .boolean), 0, 0, 1, 1)
def mLa_held : rM := (108, pLa_held, 5, false, (some .int), 0, 0, 2, 2)
def mLa_mostOfLaw : rM := (109, pLa_mostOfLaw, 5, false, (some .int), 0, 0, 1, 1)
def mLa_isUnder : rM := (110, pLa_isUnder, 5, false, (some .boolean), 0, 0, 4, 2)
def mLa_opinionBehind : rM := (111, pLa_opinionBehind, 5, false, (some .int), 0, 0, 2, 2)
def mLa_opinionWithout : rM := (112, pLa_opinionWithout, 5, false, (some .int), 0, 0, 4, 3)
def mLa_bestChange : rM := (113, pLa_bestChange, 5, false, (some .int), 0, 0, 7, 4)
def mLa_changeTried : rM := (114, pLa_changeTried, 5, false, none, 0, 0, 4, 4)
def mLa_fitsWith : rM := (115, pLa_fitsWith, 5, false, (some .boolean), 0, 0, 6, 4)
def mLa_hasRow : rM := (116, pLa_hasRow, 5, false, (some .boolean), 0, 0, 3, 3)
def mLa_triedPart : rM := (117, pLa_triedPart, 5, false, (some .int), 0, 0, 3, 3)
def mLa_ways : rM := (118, pLa_ways, 5, false, (some .long), 0, 0, 5, 2)
def mLa_power : rM := (119, pLa_power, 5, false, (some .long), 0, 0, 6, 2)
def mLa_partOf : rM := (120, pLa_partOf, 5, false, (some .long), 0, 0, 12, 3)
def mMo_init : rM := (121, pMo_init, 6, true, none, 14, 690, 1, 1)
def mMo_begins : rM := (122, pMo_begins, 6, false, none, 0, 0, 3, 1)
def mMo_isIn : rM := (123, pMo_isIn, 6, false, (some .boolean), 0, 0, 6, 3)
def mMo_isPit : rM := (124, pMo_isPit, 6, false, (some .boolean), 0, 0, 1, 1)
def mMo_isOne : rM := (125, pMo_isOne, 6, false, (some .boolean), 0, 0, 2, 2)
def mMo_its : rM := (126, pMo_its, 6, false, (some .int), 0, 0, 3, 3)
def mMo_becomes : rM := (127, pMo_becomes, 6, false, (some .int), 0, 0, 4, 3)
def mMo_copyRow : rM := (128, pMo_copyRow, 6, false, none, 0, 0, 3, 2)
def mMo_greatest : rM := (129, pMo_greatest, 6, false, (some .int), 0, 0, 2, 2)
def mMo_within : rM := (130, pMo_within, 6, false, (some .int), 0, 0, 1, 1)
def mMo_size : rM := (131, pMo_size, 6, false, (some .int), 0, 0, 3, 1)
def mMo_isUnder : rM := (132, pMo_isUnder, 6, false, (some .boolean), 0, 0, 2, 2)
def mMo_feed : rM := (133, pMo_feed, 6, false, (some .int), 0, 0, 5, 3)
def mMo_isAlpha : rM := (134, pMo_isAlpha, 6, false, (some .boolean), 0, 0, 1, 1)
def mMo_isDigit : rM := (135, pMo_isDigit, 6, false, (some .boolean), 0, 0, 1, 1)
def mMo_byteAt : rM := (136, pMo_byteAt, 6, false, (some .int), 0, 0, 2, 2)
def mMo_nextToken : rM := (137, pMo_nextToken, 6, false, none, 0, 0, 2, 1)
def mMo_needs : rM := (138, pMo_needs, 6, false, none, 0, 0, 2, 2)
def mMo_isName : rM := (139, pMo_isName, 6, false, (some .boolean), 0, 0, 6, 6)
def mMo_isSame : rM := (140, pMo_isSame, 6, false, (some .boolean), 0, 0, 5, 5)
def mMo_isFour : rM := (141, pMo_isFour, 6, false, (some .boolean), 0, 0, 5, 5)
def mMo_isFive : rM := (142, pMo_isFive, 6, false, (some .boolean), 0, 0, 6, 6)
def mMo_kindHere : rM := (143, pMo_kindHere, 6, false, (some .int), 0, 0, 1, 1)
def mMo_numberTo : rM := (144, pMo_numberTo, 6, false, none, 0, 0, 4, 3)
def mMo_perhaps : rM := (145, pMo_perhaps, 6, false, none, 0, 0, 4, 4)
def mMo_thingHere : rM := (146, pMo_thingHere, 6, false, none, 0, 0, 3, 2)
def mMo_ownHere : rM := (147, pMo_ownHere, 6, false, (some .int), 0, 0, 1, 1)
def mMo_itemHere : rM := (148, pMo_itemHere, 6, false, none, 0, 0, 3, 1)
def mMo_street : rM := (149, pMo_street, 6, false, (some .int), 0, 0, 1, 1)
def mMo_set : rM := (150, pMo_set, 6, false, (some .int), 0, 0, 3, 3)
def mMo_lawOf : rM := (151, pMo_lawOf, 6, false, (some .int), 0, 0, 2, 2)
def mMo_lies : rM := (152, pMo_lies, 6, false, none, 0, 0, 3, 3)
def mMo_comes : rM := (153, pMo_comes, 6, false, none, 0, 0, 6, 5)
def mMo_thing : rM := (154, pMo_thing, 6, false, (some .int), 0, 0, 5, 5)
def mMo_aboveOf : rM := (155, pMo_aboveOf, 6, false, (some .int), 0, 0, 4, 2)
def mMo_speaks : rM := (156, pMo_speaks, 6, false, (some .int), 0, 0, 3, 2)
def mMo_hides : rM := (157, pMo_hides, 6, false, (some .int), 0, 0, 2, 2)
def mMo_of : rM := (158, pMo_of, 6, false, (some .int), 0, 0, 3, 3)
def mMo_does : rM := (159, pMo_does, 6, false, (some .int), 0, 0, 3, 3)
def mMo_mind : rM := (160, pMo_mind, 6, false, (some .int), 0, 0, 4, 4)
def mMo_value : rM := (161, pMo_value, 6, false, (some .int), 0, 0, 3, 3)
def mMo_lay : rM := (162, pMo_lay, 6, false, (some .int), 0, 0, 4, 3)
def mMo_lying : rM := (163, pMo_lying, 6, false, (some .int), 0, 0, 3, 1)
def mMo_take : rM := (164, pMo_take, 6, false, (some .int), 0, 0, 2, 2)
def mMo_bring : rM := (165, pMo_bring, 6, false, (some .int), 0, 0, 2, 2)
def mMo_think : rM := (166, pMo_think, 6, false, (some .int), 0, 0, 2, 2)
def mMo_lyingIn : rM := (167, pMo_lyingIn, 6, false, (some .int), 0, 0, 4, 2)
def mMo_top : rM := (168, pMo_top, 6, false, (some .int), 0, 0, 4, 2)
def mMo_pit : rM := (169, pMo_pit, 6, false, (some .int), 0, 0, 3, 3)
def mMo_goesOn : rM := (170, pMo_goesOn, 6, false, none, 0, 0, 3, 1)
def mMo_goes : rM := (171, pMo_goes, 6, false, none, 0, 0, 3, 2)
def mMo_years : rM := (172, pMo_years, 6, false, (some .int), 0, 0, 2, 2)
def mMo_seed : rM := (173, pMo_seed, 6, false, (some .int), 0, 0, 2, 2)
def mMo_drawn : rM := (174, pMo_drawn, 6, false, (some .int), 0, 0, 1, 1)
def mMo_year : rM := (175, pMo_year, 6, false, (some .int), 0, 0, 2, 1)
def mMo_luck : rM := (176, pMo_luck, 6, false, (some .int), 0, 0, 6, 2)
def mMo_worthOfAll : rM := (177, pMo_worthOfAll, 6, false, (some .int), 0, 0, 3, 1)
def mMo_kindsIn : rM := (178, pMo_kindsIn, 6, false, (some .int), 0, 0, 4, 2)
def mMo_cover : rM := (179, pMo_cover, 6, false, (some .int), 0, 0, 4, 1)
def mMo_state : rM := (180, pMo_state, 6, false, (some .int), 0, 0, 2, 2)
def mMo_thoughtBehind : rM := (181, pMo_thoughtBehind, 6, false, (some .int), 0, 0, 3, 2)
def mMo_thought : rM := (182, pMo_thought, 6, false, (some .int), 0, 0, 2, 2)
def mMo_dug : rM := (183, pMo_dug, 6, false, (some .int), 0, 0, 3, 2)
def mMo_empty : rM := (184, pMo_empty, 6, false, (some .int), 0, 0, 2, 1)
def mMo_praised : rM := (185, pMo_praised, 6, false, (some .int), 0, 0, 3, 2)
def mMo_isShort : rM := (186, pMo_isShort, 6, false, (some .boolean), 0, 0, 1, 1)
def mMo_pitFor : rM := (187, pMo_pitFor, 6, false, (some .int), 0, 0, 7, 3)
def mMo_mostBy : rM := (188, pMo_mostBy, 6, false, (some .int), 0, 0, 9, 4)
def mMo_kindFor : rM := (189, pMo_kindFor, 6, false, (some .int), 0, 0, 3, 3)
def mMo_worthFor : rM := (190, pMo_worthFor, 6, false, (some .int), 0, 0, 8, 4)
def mMo_beginFor : rM := (191, pMo_beginFor, 6, false, (some .int), 0, 0, 2, 2)
def mMo_awayFor : rM := (192, pMo_awayFor, 6, false, (some .int), 0, 0, 7, 3)
def mMo_above : rM := (193, pMo_above, 6, false, (some .int), 0, 0, 2, 2)
def mMo_product : rM := (194, pMo_product, 6, false, (some .long), 0, 0, 4, 1)
def mMo_partOf : rM := (195, pMo_partOf, 6, false, (some .long), 0, 0, 11, 3)
def mMo_isTold : rM := (196, pMo_isTold, 6, false, (some .boolean), 0, 0, 4, 2)
def mMo_fits : rM := (197, pMo_fits, 6, false, (some .int), 0, 0, 10, 4)
def mMo_odds : rM := (198, pMo_odds, 6, false, (some .long), 0, 0, 9, 4)
def mMo_hope : rM := (199, pMo_hope, 6, false, (some .long), 0, 0, 3, 3)
def mMo_prove : rM := (200, pMo_prove, 6, false, (some .int), 0, 0, 4, 3)
def mMo_isRow : rM := (201, pMo_isRow, 6, false, (some .boolean), 0, 0, 3, 3)
def mMo_row : rM := (202, pMo_row, 6, false, (some .int), 0, 0, 3, 3)
def mMo_alterRow : rM := (203, pMo_alterRow, 6, false, (some .int), 0, 0, 5, 4)
def mMo_judge : rM := (204, pMo_judge, 6, false, (some .int), 0, 0, 4, 2)
def mMo_isSheet : rM := (205, pMo_isSheet, 6, false, (some .boolean), 0, 0, 1, 1)
def mMo_isShelf : rM := (206, pMo_isShelf, 6, false, (some .boolean), 0, 0, 1, 1)
def mMo_sheet : rM := (207, pMo_sheet, 6, false, (some .int), 0, 0, 5, 4)
def mMo_put : rM := (208, pMo_put, 6, false, (some .int), 0, 0, 4, 4)
def mMo_lacks : rM := (209, pMo_lacks, 6, false, (some .int), 0, 0, 3, 3)
def mMo_item : rM := (210, pMo_item, 6, false, (some .int), 0, 0, 4, 4)
def mMo_minds : rM := (211, pMo_minds, 6, false, (some .int), 0, 0, 6, 5)
def mMo_shelf : rM := (212, pMo_shelf, 6, false, (some .int), 0, 0, 5, 4)
def mMo_heldOn : rM := (213, pMo_heldOn, 6, false, (some .int), 0, 0, 2, 2)
def mMo_taken : rM := (214, pMo_taken, 6, false, (some .int), 0, 0, 4, 3)
def mMo_runs : rM := (215, pMo_runs, 6, false, none, 0, 0, 2, 2)
def mMo_sinksPlain : rM := (216, pMo_sinksPlain, 6, false, (some .int), 0, 0, 2, 2)
def mMo_sinksOfRubbish : rM := (217, pMo_sinksOfRubbish, 6, false, (some .int), 0, 0, 2, 2)
def mMo_sinks : rM := (218, pMo_sinks, 6, false, (some .int), 0, 0, 2, 2)
def mMo_showsPlain : rM := (219, pMo_showsPlain, 6, false, (some .int), 0, 0, 2, 2)
def mMo_shows : rM := (220, pMo_shows, 6, false, (some .int), 0, 0, 3, 2)
def mMo_partsPlain : rM := (221, pMo_partsPlain, 6, false, (some .int), 0, 0, 2, 2)
def mMo_parts : rM := (222, pMo_parts, 6, false, (some .int), 0, 0, 3, 2)
def mMo_asksPlain : rM := (223, pMo_asksPlain, 6, false, (some .int), 0, 0, 2, 2)
def mMo_asks : rM := (224, pMo_asks, 6, false, (some .int), 0, 0, 3, 2)
def mMo_act : rM := (225, pMo_act, 6, false, (some .int), 0, 0, 5, 4)
def mMo_trace : rM := (226, pMo_trace, 6, false, (some .int), 0, 0, 2, 2)
def mMo_many : rM := (227, pMo_many, 6, false, (some .int), 0, 0, 4, 2)
def mMo_keep : rM := (228, pMo_keep, 6, false, (some .int), 0, 0, 2, 1)
def mMo_again : rM := (229, pMo_again, 6, false, (some .int), 0, 0, 2, 1)
def mJi_bitCount : rM := (230, pJi_bitCount, 11, false, (some .int), 0, 0, 1, 1)
def mJs_length : rM := (231, pJs_length, 8, false, (some .int), 0, 0, 1, 1)
def mJs_charAt : rM := (232, pJs_charAt, 8, false, (some .char), 0, 0, 2, 2)
def mJs_coder : rM := (233, pJs_coder, 8, false, (some .byte), 0, 0, 1, 1)
def mJs_isLatin1 : rM := (234, pJs_isLatin1, 8, false, (some .boolean), 0, 0, 1, 1)
def mJs_checkIndex : rM := (235, pJs_checkIndex, 8, false, none, 0, 0, 2, 2)
def mJl_charAt : rM := (236, pJl_charAt, 9, false, (some .char), 0, 0, 2, 2)
def mJp_checkIndex : rM := (237, pJp_checkIndex, 10, false, (some .int), 0, 0, 3, 3)
def mLw_law : rM := (238, pLw_law, 7, false, (some .boolean), 50, 1353, 4, 1)
def rMs : List rM := [mAc_init, mAc_clear, mAc_holdOne, mAc_answer, mAc_own, mAc_inherited, mAc_bodyFor, mAc_run, mAc_part, mAc_note, mSe_init, mSe_begin, mSe_holds, mSe_number, mSe_write, mSf_init, mSf_clear, mSf_holdThing, mSf_holdRow, mSf_holdsRow, mSt_init, mSt_begin, mSt_become, mSt_has, mSt_lies, mSt_add, mSt_layIn, mSt_setLying, mSt_setIn, mSt_setAbove, mSt_uppermost, mSt_worthLying, mSt_pitsInUse, mSt_cover, mSt_kindsIn, mSt_speaking, mSt_hiding, mSt_passYears, mSt_passYear, mSt_dig, mSt_passDrawnYear, mSt_draw, mTx_init, mTx_clear, mTx_append, mTx_readInto, mTx_readStatement, mTx_readThing, mTx_apply, mTx_mostOfSetting, mTx_kindNamed, mTx_settingNamed, mTx_readNumber, mTx_needEndOfStatement, mTx_fail, mTx_next, mTx_sortOf, mTx_isName, mLa_init, mLa_feed, mLa_street, mLa_set, mLa_lawOf, mLa_thing, mLa_of, mLa_does, mLa_mind, mLa_value, mLa_lay, mLa_take, mLa_bring, mLa_think, mLa_pit, mLa_years, mLa_seed, mLa_year, mLa_luck, mLa_state, mLa_thought, mLa_dug, mLa_empty, mLa_praised, mLa_pitFor, mLa_kindFor, mLa_worthFor, mLa_beginFor, mLa_awayFor, mLa_above, mLa_fits, mLa_odds, mLa_hope, mLa_prove, mLa_row, mLa_alterRow, mLa_judge, mLa_minds, mLa_sheet, mLa_put, mLa_item, mLa_shelf, mLa_taken, mLa_act, mLa_trace, mLa_many, mLa_keep, mLa_again, mLa_within, mLa_isNear, mLa_held, mLa_mostOfLaw, mLa_isUnder, mLa_opinionBehind, mLa_opinionWithout, mLa_bestChange, mLa_changeTried, mLa_fitsWith, mLa_hasRow, mLa_triedPart, mLa_ways, mLa_power, mLa_partOf, mMo_init, mMo_begins, mMo_isIn, mMo_isPit, mMo_isOne, mMo_its, mMo_becomes, mMo_copyRow, mMo_greatest, mMo_within, mMo_size, mMo_isUnder, mMo_feed, mMo_isAlpha, mMo_isDigit, mMo_byteAt, mMo_nextToken, mMo_needs, mMo_isName, mMo_isSame, mMo_isFour, mMo_isFive, mMo_kindHere, mMo_numberTo, mMo_perhaps, mMo_thingHere, mMo_ownHere, mMo_itemHere, mMo_street, mMo_set, mMo_lawOf, mMo_lies, mMo_comes, mMo_thing, mMo_aboveOf, mMo_speaks, mMo_hides, mMo_of, mMo_does, mMo_mind, mMo_value, mMo_lay, mMo_lying, mMo_take, mMo_bring, mMo_think, mMo_lyingIn, mMo_top, mMo_pit, mMo_goesOn, mMo_goes, mMo_years, mMo_seed, mMo_drawn, mMo_year, mMo_luck, mMo_worthOfAll, mMo_kindsIn, mMo_cover, mMo_state, mMo_thoughtBehind, mMo_thought, mMo_dug, mMo_empty, mMo_praised, mMo_isShort, mMo_pitFor, mMo_mostBy, mMo_kindFor, mMo_worthFor, mMo_beginFor, mMo_awayFor, mMo_above, mMo_product, mMo_partOf, mMo_isTold, mMo_fits, mMo_odds, mMo_hope, mMo_prove, mMo_isRow, mMo_row, mMo_alterRow, mMo_judge, mMo_isSheet, mMo_isShelf, mMo_sheet, mMo_put, mMo_lacks, mMo_item, mMo_minds, mMo_shelf, mMo_heldOn, mMo_taken, mMo_runs, mMo_sinksPlain, mMo_sinksOfRubbish, mMo_sinks, mMo_showsPlain, mMo_shows, mMo_partsPlain, mMo_parts, mMo_asksPlain, mMo_asks, mMo_act, mMo_trace, mMo_many, mMo_keep, mMo_again, mJi_bitCount, mJs_length, mJs_charAt, mJs_coder, mJs_isLatin1, mJs_checkIndex, mJl_charAt, mJp_checkIndex, mLw_law]
/-- a call: of which kind (0 virtual, 1 static, 2 <init>, 3 static of a nest mate), which method: is the receiver one for it -/
def rRecv (kd : Nat) (M' : rM) (as : List rPV) (sh : rSh) : Bool :=
  match kd with
  | 0 =>
    match as with
    | .inr (.inr (.inl (some a))) :: _ =>
      match rNth sh a with
      | some (.inl (cj, _)) => Nat.beq cj M'.2.2.1
      | _ => false
    | .inr (.inr (.inr c)) :: _ =>
      match rSt c with
      | some _ => Nat.beq 8 M'.2.2.1
      | none => false
    | _ => false
  | 2 =>
    match as with
    | .inr (.inr (.inl (some _))) :: _ => true
    | _ => false
  | _ => true
/-- what a caller asks of a call: an int, a long, nothing (the cells' shapes stay); of an <init>: nothing -/
def rPi (sh : rSh) (f : Int32 → rHp → Prop) : rPost := fun v sh' h' => sh' = sh ∧ match v with
  | some (.inl x) => f x h'
  | _ => False
def rPl (sh : rSh) (f : Int64 → rHp → Prop) : rPost := fun v sh' h' => sh' = sh ∧ match v with
  | some (.inr (.inl x)) => f x h'
  | _ => False
def rPn (sh : rSh) (f : rHp → Prop) : rPost := fun v sh' h' => sh' = sh ∧ match v with
  | none => f h'
  | _ => False
def rPc (f : rSh → rHp → Prop) : rPost := fun v sh' h' => match v with
  | none => f sh' h'
  | _ => False
def rAsk (K : rM → List rPV → rSh → rHp → rPost → Prop) (M' : rM) (as : List rPV) (sh : rSh) (h : rHp) (X : List rPV → rSh → rHp → Nat → Nat → Prop) (r : List rPV) (n k : Nat) : Prop :=
  match M'.2.2.2.1 with
  | true => K M' as sh h (rPc (fun sh' h' => sh'.length = sh.length + M'.2.2.2.2.2.1 ∧ X r sh' h' (n + M'.2.2.2.2.2.1) (k + M'.2.2.2.2.2.2.1)))
  | false => cond (Nat.beq M'.2.2.2.2.2.1 0) (
    match M'.2.2.2.2.1 with
    | none => K M' as sh h (rPn sh (fun h' => X r sh h' n (k + M'.2.2.2.2.2.2.1)))
    | some .long => K M' as sh h (rPl sh (fun x h' => X (pL x :: r) sh h' n (k + M'.2.2.2.2.2.2.1)))
    | some .int => K M' as sh h (rPi sh (fun x h' => X (pI x :: r) sh h' n (k + M'.2.2.2.2.2.2.1)))
    | some .boolean => K M' as sh h (rPi sh (fun x h' => X (pI x :: r) sh h' n (k + M'.2.2.2.2.2.2.1)))
    | some .byte => K M' as sh h (rPi sh (fun x h' => X (pI x :: r) sh h' n (k + M'.2.2.2.2.2.2.1)))
    | some .char => K M' as sh h (rPi sh (fun x h' => X (pI x :: r) sh h' n (k + M'.2.2.2.2.2.2.1)))
    | _ => False) False
def rInv (K : rM → List rPV → rSh → rHp → rPost → Prop) (M : rM) (X : rLs → List rPV → rSh → rHp → Nat → Nat → Prop) (kd : Nat) (M' : rM) (ls : rLs) (st : List rPV) (sh : rSh) (h : rHp) (n k : Nat) : Prop :=
  match rPop M'.2.2.2.2.2.2.2.2 st [] with
  | none => False
  | some (as, r) => cond (Nat.ble r.length 4 && rRecv kd M' as sh) (rBk (n + M'.2.2.2.2.2.1) (k + M'.2.2.2.2.2.2.1) M (rAsk K M' as sh h (X ls) r n k)) False
/-! the forms of stacks, locals and cells that an instruction asks for -/
def sI (st : List rPV) (f : Int32 → List rPV → Prop) : Prop := match st with
  | .inl x :: r => f x r
  | _ => False
def sL (st : List rPV) (f : Int64 → List rPV → Prop) : Prop := match st with
  | .inr (.inl x) :: r => f x r
  | _ => False
def sR (st : List rPV) (f : Nat → List rPV → Prop) : Prop := match st with
  | .inr (.inr (.inl (some a))) :: r => f a r
  | _ => False
/-- a cell or a constant -/
def sRC (st : List rPV) (f g : Nat → List rPV → Prop) : Prop := match st with
  | .inr (.inr (.inl (some a))) :: r => f a r
  | .inr (.inr (.inr c)) :: r => g c r
  | _ => False
/-- a value of one slot -/
def sV (st : List rPV) (f : rPV → List rPV → Prop) : Prop := match st with
  | .inl x :: r => f (.inl x) r
  | .inr (.inr x) :: r => f (.inr (.inr x)) r
  | _ => False
def sN (st : List rPV) (P : Prop) : Prop := match st with
  | [] => P
  | _ => False
def lI (ls : rLs) (j : Nat) (f : Int32 → Prop) : Prop := match rNth ls j with
  | some (some (.inl x)) => f x
  | _ => False
def lL (ls : rLs) (j : Nat) (f : Int64 → Prop) : Prop := match rNth ls j with
  | some (some (.inr (.inl x))) => f x
  | _ => False
def lRC (ls : rLs) (j : Nat) (f g : Nat → Prop) : Prop := match rNth ls j with
  | some (some (.inr (.inr (.inl (some a))))) => f a
  | some (some (.inr (.inr (.inr c)))) => cond (Nat.beq c 3) False (g c)
  | _ => False
def oM {α : Type} (o : Option α) (f : α → Prop) : Prop := match o with
  | some v => f v
  | none => False
def oE {α : Type} (o : Option α) (f : α → Prop) (P : Prop) : Prop := match o with
  | some v => f v
  | none => P
def fO (sh : rSh) (a ci : Nat) (f : List (Option (Option Nat)) → Prop) : Prop := match rNth sh a with
  | some (.inl (cj, sl)) => cond (Nat.beq ci cj) (f sl) False
  | _ => False
def fA (sh : rSh) (a : Nat) (f g : Nat → Prop) : Prop := match rNth sh a with
  | some (.inr (false, m)) => f m
  | some (.inr (true, m)) => g m
  | _ => False
/-- a slot: a number, or a reference -/
def fS (sl : List (Option (Option Nat))) (j : Nat) (P : Prop) (g : Option Nat → Prop) : Prop := match rNth sl j with
  | some none => P
  | some (some o) => g o
  | none => False
def bB (b : Bool) (P : Prop) : Prop := cond b P False
/-- one instruction -/
def rStI (E : rE) (K : rM → List rPV → rSh → rHp → rPost → Prop) (M : rM) (Post : rPost) (X : Nat → rLs → List rPV → rSh → rHp → Nat → Nat → Prop) (pc : Nat) (ls : rLs) (st : List rPV) (sh : rSh) (h : rHp) (n k : Nat) : Instr → Prop
  | .iconst z => X (pc + 1) ls (pI (Int32.ofInt z) :: st) sh h n k
  | .bipush z => X (pc + 2) ls (pI (Int8.ofInt z).toInt32 :: st) sh h n k
  | .sipush z => X (pc + 3) ls (pI (Int16.ofInt z).toInt32 :: st) sh h n k
  | .lconst z => X (pc + 1) ls (pL (Int64.ofNat (z : Nat)) :: st) sh h n k
  | .ldc x => oE (rLk2 lkI M.2.2.1 x) (fun v => X (pc + 2) ls (pI v :: st) sh h n k) (oM (rLk2 lkS M.2.2.1 x) (fun c => X (pc + 2) ls (pC (c + 10) :: st) sh h n k))
  | .ldc_w x => oM (rLk2 lkI M.2.2.1 x) (fun v => X (pc + 3) ls (pI v :: st) sh h n k)
  | .ldc2_w x => oM (rLk2 lkL M.2.2.1 x) (fun v => X (pc + 3) ls (pL v :: st) sh h n k)
  | .iload_n j => lI ls (j : Nat) (fun x => X (pc + 1) ls (pI x :: st) sh h n k)
  | .iload j => lI ls j (fun x => X (pc + 2) ls (pI x :: st) sh h n k)
  | .lload_n j => lL ls (j : Nat) (fun x => X (pc + 1) ls (pL x :: st) sh h n k)
  | .lload j => lL ls j (fun x => X (pc + 2) ls (pL x :: st) sh h n k)
  | .aload_n j => lRC ls (j : Nat) (fun a => X (pc + 1) ls (pR a :: st) sh h n k) (fun c => X (pc + 1) ls (pC c :: st) sh h n k)
  | .istore_n j => sI st (fun x r => bB (Nat.blt (j : Nat) ls.length) (X (pc + 1) (rSet1 ls (j : Nat) (pI x)) r sh h n k))
  | .istore j => sI st (fun x r => bB (Nat.blt j ls.length) (X (pc + 2) (rSet1 ls j (pI x)) r sh h n k))
  | .lstore_n j => sL st (fun x r => bB (Nat.blt ((j : Nat) + 1) ls.length) (X (pc + 1) (rSet2 ls (j : Nat) x) r sh h n k))
  | .lstore j => sL st (fun x r => bB (Nat.blt (j + 1) ls.length) (X (pc + 2) (rSet2 ls j x) r sh h n k))
  | .astore_n j => sR st (fun a r => bB (Nat.blt (j : Nat) ls.length) (X (pc + 1) (rSet1 ls (j : Nat) (pR a)) r sh h n k))
  | .iinc j z => lI ls j (fun x => bB (Nat.blt j ls.length) (X (pc + 3) (rSet1 ls j (pI (x + Int32.ofInt z))) st sh h n k))
  | .iadd => sI st (fun y r => sI r (fun x r => X (pc + 1) ls (pI (x + y) :: r) sh h n k))
  | .isub => sI st (fun y r => sI r (fun x r => X (pc + 1) ls (pI (x - y) :: r) sh h n k))
  | .imul => sI st (fun y r => sI r (fun x r => X (pc + 1) ls (pI (x * y) :: r) sh h n k))
  | .iand => sI st (fun y r => sI r (fun x r => X (pc + 1) ls (pI (x &&& y) :: r) sh h n k))
  | .ior => sI st (fun y r => sI r (fun x r => X (pc + 1) ls (pI (x ||| y) :: r) sh h n k))
  | .ixor => sI st (fun y r => sI r (fun x r => X (pc + 1) ls (pI (x ^^^ y) :: r) sh h n k))
  | .ishl => sI st (fun y r => sI r (fun x r => X (pc + 1) ls (pI (x <<< (y &&& 31)) :: r) sh h n k))
  | .ishr => sI st (fun y r => sI r (fun x r => X (pc + 1) ls (pI (x >>> (y &&& 31)) :: r) sh h n k))
  | .idiv => sI st (fun y r => sI r (fun x r => ¬ y = 0 ∧ X (pc + 1) ls (pI (x / y) :: r) sh h n k))
  | .irem => sI st (fun y r => sI r (fun x r => ¬ y = 0 ∧ X (pc + 1) ls (pI (x - x / y * y) :: r) sh h n k))
  | .ineg => sI st (fun x r => X (pc + 1) ls (pI (-x) :: r) sh h n k)
  | .iushr => sI st (fun y r => sI r (fun x r => X (pc + 1) ls (pI (x.toUInt32 >>> (y.toUInt32 &&& Int32.toUInt32 31)).toInt32 :: r) sh h n k))
  | .ladd => sL st (fun y r => sL r (fun x r => X (pc + 1) ls (pL (x + y) :: r) sh h n k))
  | .lsub => sL st (fun y r => sL r (fun x r => X (pc + 1) ls (pL (x - y) :: r) sh h n k))
  | .lmul => sL st (fun y r => sL r (fun x r => X (pc + 1) ls (pL (x * y) :: r) sh h n k))
  | .land => sL st (fun y r => sL r (fun x r => X (pc + 1) ls (pL (x &&& y) :: r) sh h n k))
  | .lor => sL st (fun y r => sL r (fun x r => X (pc + 1) ls (pL (x ||| y) :: r) sh h n k))
  | .ldiv => sL st (fun y r => sL r (fun x r => ¬ y = 0 ∧ X (pc + 1) ls (pL (x / y) :: r) sh h n k))
  | .lrem => sL st (fun y r => sL r (fun x r => ¬ y = 0 ∧ X (pc + 1) ls (pL (x - x / y * y) :: r) sh h n k))
  | .lshl => sI st (fun y r => sL r (fun x r => X (pc + 1) ls (pL (x <<< (y.toInt64 &&& 63)) :: r) sh h n k))
  | .lshr => sI st (fun y r => sL r (fun x r => X (pc + 1) ls (pL (x >>> (y.toInt64 &&& 63)) :: r) sh h n k))
  | .lushr => sI st (fun y r => sL r (fun x r => X (pc + 1) ls (pL (x.toUInt64 >>> (y.toInt64.toUInt64 &&& Int64.toUInt64 63)).toInt64 :: r) sh h n k))
  | .i2l => sI st (fun x r => X (pc + 1) ls (pL x.toInt64 :: r) sh h n k)
  | .l2i => sL st (fun x r => X (pc + 1) ls (pI x.toInt32 :: r) sh h n k)
  | .i2b => sI st (fun x r => X (pc + 1) ls (pI x.toInt8.toInt32 :: r) sh h n k)
  | .i2s => sI st (fun x r => X (pc + 1) ls (pI x.toInt16.toInt32 :: r) sh h n k)
  | .i2c => sI st (fun x r => X (pc + 1) ls (pI (x.toUInt32 % 65536).toInt32 :: r) sh h n k)
  | .lcmp => sL st (fun y r => sL r (fun x r => X (pc + 1) ls (pI (lg_cmp x y) :: r) sh h n k))
  | .dup => sV st (fun v r => X (pc + 1) ls (v :: v :: r) sh h n k)
  | .pop => sV st (fun _ r => X (pc + 1) ls r sh h n k)
  | .dup2 => sV st (fun v r => sV r (fun u r => X (pc + 1) ls (v :: u :: v :: u :: r) sh h n k))
  | .ifCond .eq off => sI st (fun x r => (x = 0 → X (rT pc off) ls r sh h n k) ∧ (¬ x = 0 → X (pc + 3) ls r sh h n k))
  | .ifCond .ne off => sI st (fun x r => (x = 0 → X (pc + 3) ls r sh h n k) ∧ (¬ x = 0 → X (rT pc off) ls r sh h n k))
  | .ifCond .lt off => sI st (fun x r => (x < 0 → X (rT pc off) ls r sh h n k) ∧ (¬ x < 0 → X (pc + 3) ls r sh h n k))
  | .ifCond .ge off => sI st (fun x r => (0 ≤ x → X (rT pc off) ls r sh h n k) ∧ (¬ 0 ≤ x → X (pc + 3) ls r sh h n k))
  | .ifCond .gt off => sI st (fun x r => (0 < x → X (rT pc off) ls r sh h n k) ∧ (¬ 0 < x → X (pc + 3) ls r sh h n k))
  | .ifCond .le off => sI st (fun x r => (x ≤ 0 → X (rT pc off) ls r sh h n k) ∧ (¬ x ≤ 0 → X (pc + 3) ls r sh h n k))
  | .if_icmp .eq off => sI st (fun y r => sI r (fun x r => (x = y → X (rT pc off) ls r sh h n k) ∧ (¬ x = y → X (pc + 3) ls r sh h n k)))
  | .if_icmp .ne off => sI st (fun y r => sI r (fun x r => (x = y → X (pc + 3) ls r sh h n k) ∧ (¬ x = y → X (rT pc off) ls r sh h n k)))
  | .if_icmp .lt off => sI st (fun y r => sI r (fun x r => (x < y → X (rT pc off) ls r sh h n k) ∧ (¬ x < y → X (pc + 3) ls r sh h n k)))
  | .if_icmp .ge off => sI st (fun y r => sI r (fun x r => (y ≤ x → X (rT pc off) ls r sh h n k) ∧ (¬ y ≤ x → X (pc + 3) ls r sh h n k)))
  | .if_icmp .gt off => sI st (fun y r => sI r (fun x r => (y < x → X (rT pc off) ls r sh h n k) ∧ (¬ y < x → X (pc + 3) ls r sh h n k)))
  | .if_icmp .le off => sI st (fun y r => sI r (fun x r => (x ≤ y → X (rT pc off) ls r sh h n k) ∧ (¬ x ≤ y → X (pc + 3) ls r sh h n k)))
  | .goto off => X (rT pc off) ls st sh h n k
  | .tableswitch d lo _ offs => sI st (fun x r => rTab (fun o => X (rT pc o) ls r sh h n k) x d lo offs.toList)
  | .lookupswitch d ps => sI st (fun x r => rSw (fun o => X (rT pc o) ls r sh h n k) x d ps.toList)
  | .getfield x => sRC st (fun a r => oM (rLk2 lkF M.2.2.1 x) (fun q => fO sh a q.1 (fun sl => fS sl q.2.1 (X (pc + 3) ls (pI (h a q.2.1) :: r) sh h n k) (fun o => X (pc + 3) ls (pO o :: r) sh h n k)))) (fun c r => oM (rSt c) (fun i => oM (rLk2 lkZ M.2.2.1 x) (fun b => cond b (X (pc + 3) ls (pC (i + 40) :: r) sh h n k) (X (pc + 3) ls (pI 0 :: r) sh h n k))))
  | .putfield x => oM (rLk2 lkF M.2.2.1 x) (fun q => match q.2.2 with
    | 0 => sI st (fun v r => sR r (fun a r => fO sh a q.1 (fun sl => fS sl q.2.1 (X (pc + 3) ls r sh (rUp h a q.2.1 v) n k) (fun _ => False))))
    | 1 => sI st (fun v r => sR r (fun a r => fO sh a q.1 (fun sl => fS sl q.2.1 ((v = 0 ∨ v = 1) ∧ X (pc + 3) ls r sh (rUp h a q.2.1 v) n k) (fun _ => False))))
    | _ => sR st (fun b r => sR r (fun a r => fO sh a q.1 (fun sl => fS sl q.2.1 False (fun _ => bB (M.2.2.2.1 && Nat.beq q.1 M.2.2.1) (X (pc + 3) ls r (sh.set a (.inl (q.1, sl.set q.2.1 (some (some b))))) h n k))))))
  | .getstatic x => oM (rLk2 lkG M.2.2.1 x) (fun q => X (pc + 3) ls (q.1 :: st) sh h n k)
  | .iaload => sI st (fun j r => sRC r (fun a r => fA sh a (fun m => vp_in j m ∧ X (pc + 1) ls (pI (h a j.toNatClampNeg) :: r) sh h n k) (fun _ => False)) (fun c r => oM (rCA E c) (fun q => vp_in j q.1 ∧ X (pc + 1) ls (pI (q.2 j.toNatClampNeg) :: r) sh h n k)))
  | .baload => sI st (fun j r => sRC r (fun a r => fA sh a (fun _ => False) (fun m => vp_in j m ∧ X (pc + 1) ls (pI (h a j.toNatClampNeg) :: r) sh h n k)) (fun c r => oM (rSb c) (fun i => vp_in j (rLen.getD i 0) ∧ X (pc + 1) ls (pI ((rByt.getD i []).getD j.toNatClampNeg 0) :: r) sh h n k)))
  | .iastore => sI st (fun v r => sI r (fun j r => sR r (fun a r => fA sh a (fun m => vp_in j m ∧ X (pc + 1) ls r sh (rUp h a j.toNatClampNeg v) n k) (fun _ => False))))
  | .bastore => sI st (fun v r => sI r (fun j r => sR r (fun a r => fA sh a (fun _ => False) (fun m => vp_in j m ∧ X (pc + 1) ls r sh (rUp h a j.toNatClampNeg v.toInt8.toInt32) n k))))
  | .arraylength => sRC st (fun a r => fA sh a (fun m => X (pc + 1) ls (pI (Int32.ofNat m) :: r) sh h n k) (fun m => X (pc + 1) ls (pI (Int32.ofNat m) :: r) sh h n k)) (fun c r => oE (rSb c) (fun i => X (pc + 1) ls (pI (Int32.ofNat (rLen.getD i 0)) :: r) sh h n k) (bB (Nat.beq c 0) (X (pc + 1) ls (pI (Int32.ofNat E.1) :: r) sh h n k)))
  | .newarray .int => sI st (fun m r => (¬ m < 0 ∧ m.toNatClampNeg ≤ 1000) ∧ rBk (n + 1) (k + m.toNatClampNeg) M (X (pc + 2) ls (pR sh.length :: r) (sh ++ [.inr (false, m.toNatClampNeg)]) (rZ h sh.length) (n + 1) (k + m.toNatClampNeg)))
  | .newarray .byte => sI st (fun m r => (¬ m < 0 ∧ m.toNatClampNeg ≤ 1000) ∧ rBk (n + 1) (k + m.toNatClampNeg) M (X (pc + 2) ls (pR sh.length :: r) (sh ++ [.inr (true, m.toNatClampNeg)]) (rZ h sh.length) (n + 1) (k + m.toNatClampNeg)))
  | .new x => oM (rLk2 lkC M.2.2.1 x) (fun ci => oM (rNth rBlank ci) (fun sl => rBk (n + 1) (k + sl.length) M (X (pc + 3) ls (pR sh.length :: st) (sh ++ [.inl (ci, sl)]) (rZ h sh.length) (n + 1) (k + sl.length))))
  | .invokevirtual x => oM (rLk2 lkM M.2.2.1 x) (fun q => bB (Nat.beq q.1 0) (oM (rNth rMs q.2) (fun M' => rInv K M (X (pc + 3)) 0 M' ls st sh h n k)))
  | .invokestatic x => oM (rLk2 lkM M.2.2.1 x) (fun q => match q.1 with
    | 1 => oM (rNth rMs q.2) (fun M' => rInv K M (X (pc + 3)) 1 M' ls st sh h n k)
    | 3 => oM (rNth rMs q.2) (fun M' => rInv K M (X (pc + 3)) 3 M' ls st sh h n k)
    | 4 => sI st (fun m r => sI r (fun dp r => sR r (fun o r => sI r (fun sp r => sR r (fun i r => fA sh i (fun ni => fA sh o (fun no => (¬ sp < 0 ∧ ¬ dp < 0 ∧ ¬ m < 0 ∧ sp.toNatClampNeg + m.toNatClampNeg ≤ ni ∧ dp.toNatClampNeg + m.toNatClampNeg ≤ no) ∧ bB (Nat.ble r.length 4) (X (pc + 3) ls r sh (rCp h i o sp.toNatClampNeg dp.toNatClampNeg m.toNatClampNeg) n k)) (fun _ => False)) (fun _ => False))))))
    | 6 => sI st (fun y r => sI r (fun x r => bB (Nat.ble r.length 4) (rBk n k M (X (pc + 3) ls (pI (if x < y then y else x) :: r) sh h n k))))
    | 7 => sI st (fun y r => sI r (fun x r => bB (Nat.ble r.length 4) (rBk n k M (X (pc + 3) ls (pI (if y < x then y else x) :: r) sh h n k))))
    | _ => False)
  | .invokespecial x => oM (rLk2 lkM M.2.2.1 x) (fun q => match q.1 with
    | 2 => oM (rNth rMs q.2) (fun M' => rInv K M (X (pc + 3)) 2 M' ls st sh h n k)
    | 5 => sR st (fun _ r => bB (Nat.ble r.length 4) (X (pc + 3) ls r sh h n k))
    | _ => False)
  | .ireturn => sI st (fun x r => sN r (match M.2.2.2.2.1 with
    | some .int => rBk n k M (Post (some (pI x)) sh h)
    | some .boolean => (x = 0 ∨ x = 1) ∧ rBk n k M (Post (some (pI x)) sh h)
    | some .byte => narrow .byte (.int x) = .int x ∧ rBk n k M (Post (some (pI x)) sh h)
    | some .char => narrow .char (.int x) = .int x ∧ rBk n k M (Post (some (pI x)) sh h)
    | _ => False))
  | .lreturn => sL st (fun x r => sN r (match M.2.2.2.2.1 with
    | some .long => rBk n k M (Post (some (pL x)) sh h)
    | _ => False))
  | .return_ => sN st (match M.2.2.2.2.1 with
    | none => rBk n k M (Post none sh h)
    | _ => False)
  | _ => False
def rStp (E : rE) (K : rM → List rPV → rSh → rHp → rPost → Prop) (M : rM) (Post : rPost) (X : Nat → rLs → List rPV → rSh → rHp → Nat → Nat → Prop) (pc : Nat) (ls : rLs) (st : List rPV) (sh : rSh) (h : rHp) (n k : Nat) : Prop :=
  oM (rFet M.2.1 pc) (fun q => rStI E K M Post X pc ls st sh h n k q.1)
/-- a frame comes to its end, with Post: the least predicate that the instructions allow -/
def rR (E : rE) (K : rM → List rPV → rSh → rHp → rPost → Prop) (M : rM) (Post : rPost) (pc : Nat) (ls : rLs) (st : List rPV) (sh : rSh) (h : rHp) (n k : Nat) : Prop :=
  ∀ X : Nat → rLs → List rPV → rSh → rHp → Nat → Nat → Prop, (∀ pc ls st sh h n k, (∃ (Z : Nat → rLs → List rPV → rSh → rHp → Nat → Nat → Prop) (P : rPost), (∀ pc ls st sh h n k, Z pc ls st sh h n k → X pc ls st sh h n k) ∧ (∀ v sh h, P v sh h → Post v sh h) ∧ rStp E K M P Z pc ls st sh h n k) → X pc ls st sh h n k) → X pc ls st sh h n k
/-- as many instructions as one likes, up to the places that 'cut' names -/
def rEx (E : rE) (K : rM → List rPV → rSh → rHp → rPost → Prop) (M : rM) (Post : rPost) (cut : Nat → Bool) : Nat → Nat → rLs → List rPV → rSh → rHp → Nat → Nat → Prop
  | 0 => fun pc ls st sh h n k => rR E K M Post pc ls st sh h n k
  | f + 1 => fun pc ls st sh h n k => rStp E K M Post (fun pc ls st sh h n k => cond (cut pc) (rR E K M Post pc ls st sh h n k) (rEx E K M Post cut f pc ls st sh h n k)) pc ls st sh h n k
/-- the locals with which a method begins -/
def rEnt : List rPV → rLs
  | [] => []
  | .inl x :: l => some (pI x) :: rEnt l
  | .inr (.inl x) :: l => some (pL x) :: none :: rEnt l
  | .inr (.inr x) :: l => some (.inr (.inr x)) :: rEnt l
def rLoc (M : rM) (as : List rPV) : rLs := rEnt as ++ List.replicate (M.2.2.2.2.2.2.2.1 - (rEnt as).length) none
/-- a call of a method, at most d deep -/
def rCall (E : rE) : Nat → rM → List rPV → rSh → rHp → rPost → Prop
  | 0 => fun _ _ _ _ _ => False
  | d + 1 => fun M as sh h Post => bB (Nat.ble (rEnt as).length M.2.2.2.2.2.2.2.1) (rR E (rCall E d) M Post 0 (rLoc M as) [] sh h 0 0)
end
section
theorem rR_fold {E : rE} {K : rM → List rPV → rSh → rHp → rPost → Prop} {M : rM} {Post : rPost} {pc : Nat} {ls : rLs} {st : List rPV} {sh : rSh} {h : rHp} {n k : Nat} (Z : Nat → rLs → List rPV → rSh → rHp → Nat → Nat → Prop) (hZ : ∀ pc ls st sh h n k, Z pc ls st sh h n k → rR E K M Post pc ls st sh h n k) (H : rStp E K M Post Z pc ls st sh h n k) : rR E K M Post pc ls st sh h n k :=
  fun X hX => hX _ _ _ _ _ _ _ ⟨Z, Post, fun pc ls st sh h n k z => hZ pc ls st sh h n k z X hX, fun _ _ _ p => p, H⟩
theorem rR_mono {E : rE} {K : rM → List rPV → rSh → rHp → rPost → Prop} {M : rM} {P Q : rPost} (hPQ : ∀ v sh h, P v sh h → Q v sh h) {pc : Nat} {ls : rLs} {st : List rPV} {sh : rSh} {h : rHp} {n k : Nat} (H : rR E K M P pc ls st sh h n k) : rR E K M Q pc ls st sh h n k :=
  fun X hX => H X (fun pc ls st sh h n k ⟨Z, P', a, b, c⟩ => hX pc ls st sh h n k ⟨Z, P', a, fun v s t p => hPQ v s t (b v s t p), c⟩)
theorem rEx_ok {E : rE} {K : rM → List rPV → rSh → rHp → rPost → Prop} {M : rM} {Post : rPost} (cut : Nat → Bool) : ∀ (f : Nat) {pc : Nat} {ls : rLs} {st : List rPV} {sh : rSh} {h : rHp} {n k : Nat}, rEx E K M Post cut f pc ls st sh h n k → rR E K M Post pc ls st sh h n k := by
  intro f
  induction f with
  | zero => intro pc ls st sh h n k H; exact H
  | succ f ih =>
    intro pc ls st sh h n k H
    refine rR_fold (fun pc ls st sh h n k => cond (cut pc) (rR E K M Post pc ls st sh h n k) (rEx E K M Post cut f pc ls st sh h n k)) (fun pc ls st sh h n k z => ?_) H
    cases hc : cut pc with
    | true => rw [hc] at z; exact z
    | false => rw [hc] at z; exact ih z
def zCut (l : List Nat) (pc : Nat) : Bool := l.any (fun a => Nat.beq a pc)
end
section
/-! the machine's world behind the plain one -/
def rTT : List Cond := lw_tbl.filter goodWord
theorem rIn {w : Cond} (i : Nat) (h : lw_tbl[i]? = some w) (g : goodWord w = true) : w ∈ rTT := List.mem_filter.mpr ⟨List.mem_of_getElem? h, g⟩
theorem rNth_eq {α : Type} : ∀ (l : List α) (i : Nat), rNth l i = l[i]?
  | [], i => by simp [rNth]
  | a :: l, 0 => by simp [rNth]
  | a :: l, i + 1 => by simp [rNth, rNth_eq l i]
def rV (b : Nat) (cv : Nat → Nat) (fm : Value) : rPV → Value
  | .inl x => .int x
  | .inr (.inl x) => .long x
  | .inr (.inr (.inl none)) => .null
  | .inr (.inr (.inl (some i))) => .ref (b + i)
  | .inr (.inr (.inr c)) => if c = 3 then fm else .ref (cv c)
def rFs (b : Nat) (f : Nat → Int32) : List (Option (Option Nat)) → Nat → List Value
  | [], _ => []
  | none :: l, k => .int (f k) :: rFs b f l (k + 1)
  | some r :: l, k => va_rf (r.map (b + ·)) :: rFs b f l (k + 1)
def rCe (b : Nat) (cI cB : ClassId) (f : Nat → Int32) : rCs → va_E
  | .inl (ci, sl) => .inr (ci, rFs b f sl 0)
  | .inr (y, n) => .inl (cond y cB cI, n, .inl f)
def rWf (b : Nat) (cI cB : ClassId) (h : rHp) : rSh → Nat → va_W
  | [], _ => []
  | c :: l, k => (b + k, rCe b cI cB (h k) c) :: rWf b cI cB h l (k + 1)
def rW (b : Nat) (cI cB : ClassId) (sh : rSh) (h : rHp) : va_W := rWf b cI cB h sh 0
def rSv (b : Nat) (f : Nat → Int32) (j : Nat) : Option (Option Nat) → Value
  | none => .int (f j)
  | some r => va_rf (r.map (b + ·))
theorem rFs_get (b : Nat) (f : Nat → Int32) : ∀ (l : List (Option (Option Nat))) (k j : Nat), (rFs b f l k)[j]? = (l[j]?).map (rSv b f (k + j))
  | [], k, j => by simp [rFs]
  | none :: l, k, 0 => by simp [rFs, rSv]
  | some r :: l, k, 0 => by simp [rFs, rSv]
  | none :: l, k, j + 1 => by
    have := rFs_get b f l (k + 1) j
    simp only [rFs, List.getElem?_cons_succ, this]
    rw [show k + 1 + j = k + (j + 1) by omega]
  | some r :: l, k, j + 1 => by
    have := rFs_get b f l (k + 1) j
    simp only [rFs, List.getElem?_cons_succ, this]
    rw [show k + 1 + j = k + (j + 1) by omega]
theorem rFs_len (b : Nat) (f : Nat → Int32) : ∀ (l : List (Option (Option Nat))) (k : Nat), (rFs b f l k).length = l.length
  | [], k => rfl
  | none :: l, k => by simp [rFs, rFs_len b f l (k + 1)]
  | some r :: l, k => by simp [rFs, rFs_len b f l (k + 1)]
theorem rWf_get (b : Nat) (cI cB : ClassId) (h : rHp) : ∀ (l : rSh) (k i : Nat), (rWf b cI cB h l k)[i]? = (l[i]?).map (fun c => (b + (k + i), rCe b cI cB (h (k + i)) c))
  | [], k, i => by simp [rWf]
  | c :: l, k, 0 => by simp [rWf]
  | c :: l, k, i + 1 => by
    have := rWf_get b cI cB h l (k + 1) i
    simp only [rWf, List.getElem?_cons_succ, this]
    rw [show k + 1 + i = k + (i + 1) by omega]
theorem rWf_len (b : Nat) (cI cB : ClassId) (h : rHp) : ∀ (l : rSh) (k : Nat), (rWf b cI cB h l k).length = l.length
  | [], k => rfl
  | c :: l, k => by simp [rWf, rWf_len b cI cB h l (k + 1)]
theorem rW_get (b : Nat) (cI cB : ClassId) (h : rHp) (sh : rSh) (i : Nat) : (rW b cI cB sh h)[i]? = (sh[i]?).map (fun c => (b + i, rCe b cI cB (h i) c)) := by
  have := rWf_get b cI cB h sh 0 i
  rw [Nat.zero_add] at this
  exact this
theorem rW_at {b : Nat} {cI cB : ClassId} {h : rHp} {sh : rSh} {i : Nat} {c : rCs} (hc : sh[i]? = some c) : (rW b cI cB sh h)[i]? = some (b + i, rCe b cI cB (h i) c) := by rw [rW_get, hc]; rfl
theorem rW_lt {sh : rSh} {i : Nat} {c : rCs} (hc : sh[i]? = some c) : i < sh.length := (List.getElem?_eq_some_iff.mp hc).1
theorem rW_D {A : Nat → Prop} {b : Nat} {cI cB : ClassId} {sh : rSh} {h : rHp} (hA : ∀ q, b ≤ q → A q) : va_D A (rW b cI cB sh h) := by
  have key : ∀ (i : Nat) (p : Nat × va_E), (rW b cI cB sh h)[i]? = some p → p.1 = b + i := by
    intro i p hp
    rw [rW_get] at hp
    cases hs : sh[i]? with
    | none => rw [hs] at hp; cases hp
    | some c => rw [hs] at hp; cases hp; rfl
  refine ⟨fun i j p q hi hj e => ?_, fun k q hk => ?_⟩
  · have h1 := key i p hi
    have h2 := key j q hj
    omega
  · exact hA _ (by rw [key k q hk]; omega)
theorem rW_ext {b : Nat} {cI cB : ClassId} {sh sh' : rSh} {h h' : rHp} {a : Nat} {c c' : rCs} {e : va_E} (hc : sh[a]? = some c) (hl : sh' = sh.set a c') (hh : ∀ i, i ≠ a → h' i = h i) (he : e = rCe b cI cB (h' a) c') : (rW b cI cB sh h).set a (b + a, e) = rW b cI cB sh' h' := by
  have hlt := rW_lt hc
  apply List.ext_getElem?
  intro i
  rw [List.getElem?_set, rW_get, rW_get, hl, List.getElem?_set]
  by_cases hi : a = i
  · subst hi
    have hl1 : a < (rW b cI cB sh h).length := by
      show a < (rWf b cI cB h sh 0).length
      rw [rWf_len]; exact hlt
    simp only [if_true, hl1, hlt, if_pos, Option.map_some, he]
  · simp only [if_neg hi]
    cases sh[i]? with
    | none => rfl
    | some c2 => simp only [Option.map_some, hh i (fun e => hi e.symm)]
theorem rW_put {b : Nat} {cI cB : ClassId} {sh : rSh} {h : rHp} {a ci j : Nat} {sl : List (Option (Option Nat))} {x : Int32} (hc : sh[a]? = some (.inl (ci, sl))) (hj : sl[j]? = some none) : (rW b cI cB sh h).set a (b + a, .inr (ci, (rFs b (h a) sl 0).set j (.int x))) = rW b cI cB sh (rUp h a j x) := by
  have hlt := rW_lt hc
  refine rW_ext (c' := .inl (ci, sl)) hc ?_ (fun i hi => ?_) ?_
  · have : sh[a] = .inl (ci, sl) := (List.getElem?_eq_some_iff.mp hc).2
    rw [← this, List.set_getElem_self]
  · funext k; simp [rUp, hi]
  · show (Sum.inr (ci, (rFs b (h a) sl 0).set j (.int x)) : va_E) = .inr (ci, rFs b (rUp h a j x a) sl 0)
    congr 2
    apply List.ext_getElem?
    intro i
    have hjl : j < (rFs b (h a) sl 0).length := by rw [rFs_len]; exact (List.getElem?_eq_some_iff.mp hj).1
    rw [List.getElem?_set, rFs_get, rFs_get]
    by_cases hi : j = i
    · subst hi
      rw [if_pos rfl, if_pos hjl, hj]
      simp [rSv, rUp]
    · rw [if_neg hi]
      cases hs : sl[i]? with
      | none => rfl
      | some o =>
        cases o with
        | none => simp [rSv, rUp]; intro e; exact absurd e.symm hi
        | some r => rfl
theorem rW_putR {b : Nat} {cI cB : ClassId} {sh : rSh} {h : rHp} {a ci j y : Nat} {sl : List (Option (Option Nat))} (hc : sh[a]? = some (.inl (ci, sl))) (hj : j < sl.length) : (rW b cI cB sh h).set a (b + a, .inr (ci, (rFs b (h a) sl 0).set j (.ref (b + y)))) = rW b cI cB (sh.set a (.inl (ci, sl.set j (some (some y))))) h := by
  refine rW_ext (c' := .inl (ci, sl.set j (some (some y)))) hc rfl (fun _ _ => rfl) ?_
  show (Sum.inr (ci, (rFs b (h a) sl 0).set j (.ref (b + y))) : va_E) = .inr (ci, rFs b (h a) (sl.set j (some (some y))) 0)
  congr 2
  apply List.ext_getElem?
  intro i
  have hjl : j < (rFs b (h a) sl 0).length := by rw [rFs_len]; exact hj
  rw [List.getElem?_set, rFs_get, rFs_get, List.getElem?_set]
  by_cases hi : j = i
  · subst hi
    rw [if_pos rfl, if_pos hjl, if_pos rfl, if_pos hj]
    simp [rSv, va_rf]
  · rw [if_neg hi, if_neg hi]
theorem rW_putA {b : Nat} {cI cB : ClassId} {sh : rSh} {h : rHp} {a n j : Nat} {y : Bool} {x : Int32} (hc : sh[a]? = some (.inr (y, n))) : (rW b cI cB sh h).set a (b + a, .inl (cond y cB cI, n, .inl (upd (h a) j x))) = rW b cI cB sh (rUp h a j x) := by
  refine rW_ext (c' := .inr (y, n)) hc ?_ (fun i hi => ?_) ?_
  · have : sh[a]'(rW_lt hc) = .inr (y, n) := (List.getElem?_eq_some_iff.mp hc).2
    rw [← this, List.set_getElem_self]
  · funext k; simp [rUp, hi]
  · show (Sum.inl (cond y cB cI, n, Sum.inl (upd (h a) j x)) : va_E) = .inl (cond y cB cI, n, .inl (rUp h a j x a))
    congr 4
    funext k; simp [rUp, upd]
theorem rW_cpy {b : Nat} {cI cB : ClassId} {sh : rSh} {h : rHp} {i o n sp dp m : Nat} {y : Bool} (hc : sh[o]? = some (.inr (y, n))) : (rW b cI cB sh h).set o (b + o, .inl (cond y cB cI, n, .inl (va_cpy (h i) (h o) sp dp m))) = rW b cI cB sh (rCp h i o sp dp m) := by
  refine rW_ext (c' := .inr (y, n)) hc ?_ (fun a ha => ?_) ?_
  · have : sh[o]'(rW_lt hc) = .inr (y, n) := (List.getElem?_eq_some_iff.mp hc).2
    rw [← this, List.set_getElem_self]
  · funext k; simp [rCp, ha]
  · show (Sum.inl (cond y cB cI, n, Sum.inl (va_cpy (h i) (h o) sp dp m)) : va_E) = .inl (cond y cB cI, n, .inl (rCp h i o sp dp m o))
    congr 4
    funext k; simp [rCp, va_cpy]
theorem rWf_app (b : Nat) (cI cB : ClassId) (h h' : rHp) (c : rCs) : ∀ (l : rSh) (k : Nat), (∀ i, i ≠ k + l.length → h' i = h i) → rWf b cI cB h' (l ++ [c]) k = rWf b cI cB h l k ++ [(b + (k + l.length), rCe b cI cB (h' (k + l.length)) c)]
  | [], k, _ => by simp [rWf]
  | d :: l, k, hh => by
    have := rWf_app b cI cB h h' c l (k + 1) (fun i hi => hh i (by simp only [List.length_cons]; omega))
    simp only [List.cons_append, rWf, this, List.length_cons]
    rw [hh k (by simp only [List.length_cons]; omega), show k + 1 + l.length = k + (l.length + 1) by omega]
theorem rW_push {b : Nat} {cI cB : ClassId} {sh : rSh} {h : rHp} {c : rCs} : rW b cI cB (sh ++ [c]) (rZ h sh.length) = rW b cI cB sh h ++ [(b + sh.length, rCe b cI cB (fun _ => 0) c)] := by
  have := rWf_app b cI cB h (rZ h sh.length) c sh 0 (fun i hi => by funext k; simp [rZ, show ¬ i = sh.length by omega])
  rw [Nat.zero_add] at this
  rw [rW, this]
  have e : rZ h sh.length sh.length = fun _ => 0 := by funext k; simp [rZ]
  rw [e]
  rfl
end
section
/-! the forms of stacks, locals, cells: what they say when they hold -/
theorem sI_ok {st : List rPV} {f : Int32 → List rPV → Prop} (H : sI st f) : ∃ x r, st = pI x :: r ∧ f x r := by
  unfold sI at H; split at H
  · exact ⟨_, _, rfl, H⟩
  · exact H.elim
theorem sL_ok {st : List rPV} {f : Int64 → List rPV → Prop} (H : sL st f) : ∃ x r, st = pL x :: r ∧ f x r := by
  unfold sL at H; split at H
  · exact ⟨_, _, rfl, H⟩
  · exact H.elim
theorem sR_ok {st : List rPV} {f : Nat → List rPV → Prop} (H : sR st f) : ∃ x r, st = pR x :: r ∧ f x r := by
  unfold sR at H; split at H
  · exact ⟨_, _, rfl, H⟩
  · exact H.elim
theorem sRC_ok {st : List rPV} {f g : Nat → List rPV → Prop} (H : sRC st f g) : (∃ x r, st = pR x :: r ∧ f x r) ∨ ∃ x r, st = pC x :: r ∧ g x r := by
  unfold sRC at H; split at H
  · exact Or.inl ⟨_, _, rfl, H⟩
  · exact Or.inr ⟨_, _, rfl, H⟩
  · exact H.elim
theorem sV_ok {st : List rPV} {f : rPV → List rPV → Prop} (H : sV st f) : ∃ v r, st = v :: r ∧ (∀ x, v ≠ pL x) ∧ f v r := by
  unfold sV at H; split at H
  · exact ⟨_, _, rfl, (fun x e => by cases e), H⟩
  · exact ⟨_, _, rfl, (fun x e => by cases e), H⟩
  · exact H.elim
theorem sN_ok {st : List rPV} {P : Prop} (H : sN st P) : st = [] ∧ P := by
  unfold sN at H; split at H
  · exact ⟨rfl, H⟩
  · exact H.elim
theorem lI_ok {ls : rLs} {j : Nat} {f : Int32 → Prop} (H : lI ls j f) : ∃ x, rNth ls j = some (some (pI x)) ∧ f x := by
  unfold lI at H; split at H
  · exact ⟨_, by assumption, H⟩
  · exact H.elim
theorem lL_ok {ls : rLs} {j : Nat} {f : Int64 → Prop} (H : lL ls j f) : ∃ x, rNth ls j = some (some (pL x)) ∧ f x := by
  unfold lL at H; split at H
  · exact ⟨_, by assumption, H⟩
  · exact H.elim
theorem lRC_ok {ls : rLs} {j : Nat} {f g : Nat → Prop} (H : lRC ls j f g) : (∃ x, rNth ls j = some (some (pR x)) ∧ f x) ∨ ∃ x, rNth ls j = some (some (pC x)) ∧ x ≠ 3 ∧ g x := by
  unfold lRC at H; split at H
  · exact Or.inl ⟨_, by assumption, H⟩
  · rename_i c hc
    cases hb : Nat.beq c 3 with
    | true => rw [hb] at H; exact H.elim
    | false =>
      rw [hb] at H
      exact Or.inr ⟨_, hc, (fun e => by subst e; cases hb), H⟩
  · exact H.elim
theorem oM_ok {α : Type} {o : Option α} {f : α → Prop} (H : oM o f) : ∃ v, o = some v ∧ f v := by
  unfold oM at H; split at H
  · exact ⟨_, rfl, H⟩
  · exact H.elim
theorem oE_ok {α : Type} {o : Option α} {f : α → Prop} {P : Prop} (H : oE o f P) : (∃ v, o = some v ∧ f v) ∨ (o = none ∧ P) := by
  unfold oE at H; split at H
  · exact Or.inl ⟨_, rfl, H⟩
  · exact Or.inr ⟨rfl, H⟩
theorem fO_ok {sh : rSh} {a ci : Nat} {f : List (Option (Option Nat)) → Prop} (H : fO sh a ci f) : ∃ sl, sh[a]? = some (.inl (ci, sl)) ∧ f sl := by
  unfold fO at H; split at H
  · rename_i cj sl hc
    rw [rNth_eq] at hc
    cases hb : Nat.beq ci cj with
    | false => rw [hb] at H; exact H.elim
    | true =>
      rw [hb] at H
      have e := Nat.eq_of_beq_eq_true hb
      subst e
      exact ⟨sl, hc, H⟩
  · exact H.elim
theorem fA_ok {sh : rSh} {a : Nat} {f g : Nat → Prop} (H : fA sh a f g) : (∃ m, sh[a]? = some (.inr (false, m)) ∧ f m) ∨ ∃ m, sh[a]? = some (.inr (true, m)) ∧ g m := by
  unfold fA at H; split at H
  · rename_i m hc
    rw [rNth_eq] at hc
    exact Or.inl ⟨m, hc, H⟩
  · rename_i m hc
    rw [rNth_eq] at hc
    exact Or.inr ⟨m, hc, H⟩
  · exact H.elim
theorem fS_ok {sl : List (Option (Option Nat))} {j : Nat} {P : Prop} {g : Option Nat → Prop} (H : fS sl j P g) : (sl[j]? = some none ∧ P) ∨ ∃ o, sl[j]? = some (some o) ∧ g o := by
  unfold fS at H; split at H
  · rename_i hc
    rw [rNth_eq] at hc
    exact Or.inl ⟨hc, H⟩
  · rename_i o hc
    rw [rNth_eq] at hc
    exact Or.inr ⟨o, hc, H⟩
  · exact H.elim
theorem bB_ok {b : Bool} {P : Prop} (H : bB b P) : b = true ∧ P := by
  cases b with
  | true => exact ⟨rfl, H⟩
  | false => exact H.elim
theorem rBk_ok {n k : Nat} {M : rM} {P : Prop} (H : rBk n k M P) : n ≤ M.2.2.2.2.2.1 ∧ k ≤ M.2.2.2.2.2.2.1 ∧ P := by
  unfold rBk at H
  cases hb : (Nat.ble n M.2.2.2.2.2.1 && Nat.ble k M.2.2.2.2.2.2.1) with
  | false => rw [hb] at H; exact H.elim
  | true =>
    rw [hb] at H
    rw [Bool.and_eq_true] at hb
    exact ⟨Nat.le_of_ble_eq_true hb.1, Nat.le_of_ble_eq_true hb.2, H⟩
theorem rSt_ok {c i : Nat} (h : rSt c = some i) : c = 10 + i ∧ i < 15 := by
  unfold rSt at h
  cases hb : (Nat.ble 10 c && Nat.blt c 25) with
  | false => rw [hb] at h; cases h
  | true =>
    rw [hb] at h
    cases h
    rw [Bool.and_eq_true] at hb
    have h1 := Nat.le_of_ble_eq_true hb.1
    have h2 : c < 25 := Nat.le_of_ble_eq_true hb.2
    omega
theorem rSb_ok {c i : Nat} (h : rSb c = some i) : c = 40 + i ∧ i < 15 := by
  unfold rSb at h
  cases hb : (Nat.ble 40 c && Nat.blt c 55) with
  | false => rw [hb] at h; cases h
  | true =>
    rw [hb] at h
    cases h
    rw [Bool.and_eq_true] at hb
    have h1 := Nat.le_of_ble_eq_true hb.1
    have h2 : c < 55 := Nat.le_of_ble_eq_true hb.2
    omega
theorem rPop_ok : ∀ (n : Nat) (st acc as r : List rPV), rPop n st acc = some (as, r) → ∃ pre, pre.length = n ∧ st = pre ++ r ∧ as = pre.reverse ++ acc
  | 0, st, acc, as, r, h => by
    simp only [rPop, Option.some.injEq, Prod.mk.injEq] at h
    exact ⟨[], rfl, by rw [h.2]; rfl, by rw [← h.1]; rfl⟩
  | n + 1, [], acc, as, r, h => by simp [rPop] at h
  | n + 1, v :: st, acc, as, r, h => by
    obtain ⟨pre, h1, h2, h3⟩ := rPop_ok n st (v :: acc) as r h
    exact ⟨v :: pre, by simp [h1], by rw [h2]; rfl, by rw [h3]; simp⟩
theorem rFet_ok : ∀ (l : List (Nat × Instr × Nat)) (pc : Nat) (q : Instr × Nat), rFet l pc = some q → (pc, q) ∈ l
  | [], pc, q, h => by simp [rFet] at h
  | (a, b) :: l, pc, q, h => by
    unfold rFet at h
    cases hb : Nat.beq a pc with
    | true =>
      rw [hb] at h
      have e := Nat.eq_of_beq_eq_true hb
      subst e
      cases h
      exact List.mem_cons_self
    | false =>
      rw [hb] at h
      exact List.mem_cons_of_mem _ (rFet_ok l pc q h)
theorem rLk_ok {α : Type} : ∀ (l : List (Nat × α)) (k : Nat) (v : α), rLk l k = some v → (k, v) ∈ l
  | [], k, v, h => by simp [rLk] at h
  | (a, b) :: l, k, v, h => by
    unfold rLk at h
    cases hb : Nat.beq a k with
    | true =>
      rw [hb] at h
      have e := Nat.eq_of_beq_eq_true hb
      subst e
      cases h
      exact List.mem_cons_self
    | false =>
      rw [hb] at h
      exact List.mem_cons_of_mem _ (rLk_ok l k v h)
theorem rLk2_ok {α : Type} {t : List (List (Nat × α))} {c k : Nat} {v : α} (h : rLk2 t c k = some v) : ∃ l, t[c]? = some l ∧ (k, v) ∈ l := by
  unfold rLk2 at h
  split at h
  · cases h
  · rename_i l hl
    rw [rNth_eq] at hl
    exact ⟨l, hl, rLk_ok l k v h⟩
/-- how long an instruction is -/
def rLenI : Instr → Nat
  | .bipush _ | .ldc _ | .iload _ | .lload _ | .istore _ | .lstore _ | .newarray _ => 2
  | .sipush _ | .ldc_w _ | .ldc2_w _ | .iinc _ _ | .ifCond _ _ | .if_icmp _ _ | .goto _ | .getfield _ | .putfield _ | .getstatic _ | .new _ | .invokevirtual _ | .invokestatic _ | .invokespecial _ => 3
  | .tableswitch .. | .lookupswitch .. => 0
  | _ => 1
/-! locals -/
def rLH (b : Nat) (cv : Nat → Nat) (fm : Value) (la : Array Slot) (ls : rLs) : Prop := la.size = ls.length ∧ lv_wf la ∧ ∀ (i : Nat) (v : rPV), rNth ls i = some (some v) → la[i]? = some (.val (rV b cv fm v))
def rLv (b : Nat) (cv : Nat → Nat) (fm : Value) : rLs → Nat → List (Nat × Value)
  | [], _ => []
  | none :: l, k => rLv b cv fm l (k + 1)
  | some v :: l, k => (k, rV b cv fm v) :: rLv b cv fm l (k + 1)
theorem rLv_mem {b : Nat} {cv : Nat → Nat} {fm : Value} : ∀ (ls : rLs) (k : Nat) (q : Nat × Value), q ∈ rLv b cv fm ls k → ∃ i v, ls[i]? = some (some v) ∧ q = (k + i, rV b cv fm v)
  | [], k, q, h => by cases h
  | none :: l, k, q, h => by
    obtain ⟨i, v, h1, h2⟩ := rLv_mem l (k + 1) q h
    exact ⟨i + 1, v, by simpa using h1, by rw [h2, show k + 1 + i = k + (i + 1) by omega]⟩
  | some w :: l, k, q, h => by
    rcases List.mem_cons.mp h with rfl | h
    · exact ⟨0, w, rfl, rfl⟩
    · obtain ⟨i, v, h1, h2⟩ := rLv_mem l (k + 1) q h
      exact ⟨i + 1, v, by simpa using h1, by rw [h2, show k + 1 + i = k + (i + 1) by omega]⟩
theorem rLv_of {b : Nat} {cv : Nat → Nat} {fm : Value} : ∀ (ls : rLs) (k i : Nat) (v : rPV), ls[i]? = some (some v) → (k + i, rV b cv fm v) ∈ rLv b cv fm ls k
  | [], k, i, v, h => by simp at h
  | none :: l, k, 0, v, h => by simp at h
  | some w :: l, k, 0, v, h => by
    simp only [List.getElem?_cons_zero, Option.some.injEq] at h
    subst h
    exact List.mem_cons_self
  | none :: l, k, i + 1, v, h => by
    have := rLv_of (b := b) (cv := cv) (fm := fm) l (k + 1) i v (by simpa using h)
    rw [show k + 1 + i = k + (i + 1) by omega] at this
    exact this
  | some w :: l, k, i + 1, v, h => by
    have := rLv_of (b := b) (cv := cv) (fm := fm) l (k + 1) i v (by simpa using h)
    rw [show k + 1 + i = k + (i + 1) by omega] at this
    exact List.mem_cons_of_mem _ this
theorem rLH_has {b : Nat} {cv : Nat → Nat} {fm : Value} {la : Array Slot} {ls : rLs} (h : rLH b cv fm la ls) : lv_has la ls.length (rLv b cv fm ls 0) := by
  refine ⟨h.1, h.2.1, fun q hq => ?_⟩
  obtain ⟨i, v, h1, rfl⟩ := rLv_mem ls 0 q hq
  rw [Nat.zero_add]
  exact h.2.2 i v (by rw [rNth_eq]; exact h1)
theorem rKill_len (ls : rLs) (i : Nat) : (rKill ls i).length = ls.length := by
  cases i with
  | zero => rfl
  | succ i =>
    show (match rNth ls i with | some (some (.inr (.inl _))) => ls.set i none | _ => ls).length = ls.length
    split <;> simp
theorem rKill_get {ls : rLs} {i j : Nat} {v : rPV} (h : (rKill ls i)[j]? = some (some v)) : ls[j]? = some (some v) ∧ ¬ (j + 1 = i ∧ ∃ x, v = pL x) := by
  cases i with
  | zero => exact ⟨h, fun z => by omega⟩
  | succ i =>
    change (match rNth ls i with | some (some (.inr (.inl _))) => ls.set i none | _ => ls)[j]? = some (some v) at h
    split at h
    · rename_i x hx
      rw [List.getElem?_set] at h
      by_cases hij : i = j
      · subst hij
        rw [if_pos rfl] at h
        split at h <;> cases h
      · rw [if_neg hij] at h
        exact ⟨h, fun z => hij (by omega)⟩
    · rename_i hx
      refine ⟨h, fun ⟨z, x, hv⟩ => ?_⟩
      have e : j = i := by omega
      subst e
      subst hv
      exact hx x (by rw [rNth_eq]; exact h)
theorem rV_cat {b : Nat} {cv : Nat → Nat} {fm : Value} (hfm : fm.category = 1) (v : rPV) (h : (rV b cv fm v).category = 2) : ∃ x, v = pL x := by
  rcases v with x | x | ⟨_ | i⟩ | c
  · cases h
  · exact ⟨x, rfl⟩
  · cases h
  · cases h
  · change (if c = 3 then fm else Value.ref (cv c)).category = 2 at h
    by_cases hc : c = 3
    · rw [if_pos hc] at h; omega
    · rw [if_neg hc] at h; cases h
theorem rLH_set1 {b : Nat} {cv : Nat → Nat} {fm : Value} (hfm : fm.category = 1) {la' : Array Slot} {ls : rLs} {i : Nat} {v : rPV} (hi : i < ls.length) (h : lv_has la' ls.length ((i, rV b cv fm v) :: (rLv b cv fm ls 0).filter (fun q => !(q.1 == i) && !(q.1 + 1 == i && q.2.category == 2)))) : rLH b cv fm la' (rSet1 ls i v) := by
  refine ⟨?_, h.2.1, fun j w hw => ?_⟩
  · rw [h.1]; simp [rSet1, rKill_len]
  · rw [rNth_eq, rSet1, List.getElem?_set] at hw
    by_cases hj : i = j
    · subst hj
      rw [if_pos rfl, if_pos (by rw [rKill_len]; exact hi)] at hw
      cases hw
      exact h.2.2 (i, rV b cv fm v) List.mem_cons_self
    · rw [if_neg hj] at hw
      obtain ⟨h1, h2⟩ := rKill_get hw
      have hm := rLv_of (b := b) (cv := cv) (fm := fm) ls 0 j w h1
      rw [Nat.zero_add] at hm
      refine h.2.2 (j, rV b cv fm w) (List.mem_cons_of_mem _ (List.mem_filter.mpr ⟨hm, ?_⟩))
      have a1 : (j == i) = false := by simpa using fun e => hj e.symm
      have a2 : (j + 1 == i && (rV b cv fm w).category == 2) = false := by
        rw [Bool.and_eq_false_iff]
        by_cases hz : j + 1 = i
        · right
          cases hc : ((rV b cv fm w).category == 2) with
          | false => rfl
          | true => exact absurd ⟨hz, rV_cat hfm w (by simpa using hc)⟩ h2
        · left; simpa using hz
      simp only [a1, a2]
      rfl
theorem rLH_set2 {b : Nat} {cv : Nat → Nat} {fm : Value} (hfm : fm.category = 1) {la' : Array Slot} {ls : rLs} {i : Nat} {x : Int64} (hi : i + 1 < ls.length) (h : lv_has la' ls.length ((i, Value.long x) :: (rLv b cv fm ls 0).filter (fun q => !(q.1 == i) && (!(q.1 == i + 1) && !(q.1 + 1 == i && q.2.category == 2))))) : rLH b cv fm la' (rSet2 ls i x) := by
  refine ⟨?_, h.2.1, fun j w hw => ?_⟩
  · rw [h.1]; simp [rSet2, rKill_len]
  · rw [rNth_eq, rSet2, List.getElem?_set] at hw
    by_cases hj : i + 1 = j
    · rw [if_pos hj] at hw
      split at hw <;> cases hw
    · rw [if_neg hj, List.getElem?_set] at hw
      by_cases hj2 : i = j
      · subst hj2
        rw [if_pos rfl, if_pos (by rw [rKill_len]; omega)] at hw
        cases hw
        exact h.2.2 (i, Value.long x) List.mem_cons_self
      · rw [if_neg hj2] at hw
        obtain ⟨h1, h2⟩ := rKill_get hw
        have hm := rLv_of (b := b) (cv := cv) (fm := fm) ls 0 j w h1
        rw [Nat.zero_add] at hm
        refine h.2.2 (j, rV b cv fm w) (List.mem_cons_of_mem _ (List.mem_filter.mpr ⟨hm, ?_⟩))
        have a1 : (j == i) = false := by simpa using fun e => hj2 e.symm
        have a3 : (j == i + 1) = false := by simpa using fun e => hj e.symm
        have a2 : (j + 1 == i && (rV b cv fm w).category == 2) = false := by
          rw [Bool.and_eq_false_iff]
          by_cases hz : j + 1 = i
          · right
            cases hc : ((rV b cv fm w).category == 2) with
            | false => rfl
            | true => exact absurd ⟨hz, rV_cat hfm w (by simpa using hc)⟩ h2
          · left; simpa using hz
        simp only [a1, a2, a3]
        rfl
theorem rSet1_len (ls : rLs) (i : Nat) (v : rPV) : (rSet1 ls i v).length = ls.length := by simp [rSet1, rKill_len]
theorem rSet2_len (ls : rLs) (i : Nat) (x : Int64) : (rSet2 ls i x).length = ls.length := by simp [rSet2, rKill_len]
theorem rEnt_ok {b : Nat} {cv : Nat → Nat} {fm : Value} (hfm : fm.category = 1) : ∀ (as : List rPV) (k i : Nat) (v : rPV), (rEnt as)[i]? = some (some v) → (k + i, rV b cv fm v) ∈ lv_args k (as.map (rV b cv fm))
  | [], k, i, v, h => by simp [rEnt] at h
  | .inl x :: l, k, 0, v, h => by
    simp only [rEnt, List.getElem?_cons_zero, Option.some.injEq] at h
    subst h
    exact List.mem_cons_self
  | .inl x :: l, k, i + 1, v, h => by
    have := rEnt_ok (b := b) (cv := cv) hfm l (k + 1) i v (by simpa [rEnt] using h)
    rw [show k + 1 + i = k + (i + 1) by omega] at this
    exact List.mem_cons_of_mem _ this
  | .inr (.inl x) :: l, k, 0, v, h => by
    simp only [rEnt, List.getElem?_cons_zero, Option.some.injEq] at h
    subst h
    exact List.mem_cons_self
  | .inr (.inl x) :: l, k, 1, v, h => by simp [rEnt] at h
  | .inr (.inl x) :: l, k, i + 2, v, h => by
    have := rEnt_ok (b := b) (cv := cv) hfm l (k + 2) i v (by simpa [rEnt] using h)
    rw [show k + 2 + i = k + (i + 2) by omega] at this
    exact List.mem_cons_of_mem _ this
  | .inr (.inr x) :: l, k, i + 1, v, h => by
    have := rEnt_ok (b := b) (cv := cv) hfm l (k + 1) i v (by simpa [rEnt] using h)
    rw [show k + 1 + i = k + (i + 1) by omega] at this
    have hc : (rV b cv fm (.inr (.inr x))).category = 1 := by
      rcases lv_cat (rV b cv fm (.inr (.inr x))) with e | e
      · exact e
      · obtain ⟨y, hy⟩ := rV_cat hfm _ e
        cases hy
    simp only [List.map_cons, lv_args, hc]
    exact List.mem_cons_of_mem _ this
  | .inr (.inr x) :: l, k, 0, v, h => by
    simp only [rEnt, List.getElem?_cons_zero, Option.some.injEq] at h
    subst h
    exact List.mem_cons_self
theorem rEnt_len {b : Nat} {cv : Nat → Nat} {fm : Value} (hfm : fm.category = 1) : ∀ (as : List rPV), (lg_sl (as.map (rV b cv fm))).length = (rEnt as).length
  | [] => rfl
  | .inl x :: l => by
    have := rEnt_len (b := b) (cv := cv) hfm l
    simp only [lg_sl, List.map_cons, List.flatMap_cons, List.length_append, rEnt, List.length_cons] at this ⊢
    rw [this]
    show 1 + _ = _
    omega
  | .inr (.inl x) :: l => by
    have := rEnt_len (b := b) (cv := cv) hfm l
    simp only [lg_sl, List.map_cons, List.flatMap_cons, List.length_append, rEnt, List.length_cons] at this ⊢
    rw [this]
    show 2 + _ = _
    omega
  | .inr (.inr x) :: l => by
    have := rEnt_len (b := b) (cv := cv) hfm l
    have hc : (rV b cv fm (.inr (.inr x))).category = 1 := by
      rcases lv_cat (rV b cv fm (.inr (.inr x))) with e | e
      · exact e
      · obtain ⟨y, hy⟩ := rV_cat hfm _ e
        cases hy
    simp only [lg_sl, List.map_cons, List.flatMap_cons, List.length_append, rEnt, List.length_cons, hc] at this ⊢
    rw [this]
    show 1 + _ = _
    omega
end
section
/-! what the tables say of the classes, methods and links (by program) -/
theorem rInP {w : Cond} (i : Nat) (h : (k2_sels lw_privs)[i]? = some w) (g : goodWord w = true) : w ∈ rTT := List.mem_filter.mpr ⟨List.mem_append_left _ (List.mem_of_getElem? h), g⟩
theorem rIn1 {w : Cond} (i : Nat) (h : tables_1_1[i]? = some w) (g : goodWord w = true) : w ∈ rTT := List.mem_filter.mpr ⟨List.mem_append_right _ (List.mem_append_left _ (List.mem_of_getElem? h)), g⟩
theorem rIn2 {w : Cond} (i : Nat) (h : tables_1_2[i]? = some w) (g : goodWord w = true) : w ∈ rTT := List.mem_filter.mpr ⟨List.mem_append_right _ (List.mem_append_right _ (List.mem_append_left _ (List.mem_of_getElem? h))), g⟩
theorem rIn3 {w : Cond} (i : Nat) (h : tables_1_3[i]? = some w) (g : goodWord w = true) : w ∈ rTT := List.mem_filter.mpr ⟨List.mem_append_right _ (List.mem_append_right _ (List.mem_append_right _ (List.mem_append_left _ (List.mem_of_getElem? h)))), g⟩
theorem rIn4 {w : Cond} (i : Nat) (h : tables_1_4[i]? = some w) (g : goodWord w = true) : w ∈ rTT := List.mem_filter.mpr ⟨List.mem_append_right _ (List.mem_append_right _ (List.mem_append_right _ (List.mem_append_right _ (List.mem_append_left _ (List.mem_of_getElem? h))))), g⟩
theorem rIn5 {w : Cond} (i : Nat) (h : tables_1_5[i]? = some w) (g : goodWord w = true) : w ∈ rTT := List.mem_filter.mpr ⟨List.mem_append_right _ (List.mem_append_right _ (List.mem_append_right _ (List.mem_append_right _ (List.mem_append_right _ (List.mem_append_left _ (List.mem_of_getElem? h)))))), g⟩
theorem rIn6 {w : Cond} (i : Nat) (h : tables_1_6[i]? = some w) (g : goodWord w = true) : w ∈ rTT := List.mem_filter.mpr ⟨List.mem_append_right _ (List.mem_append_right _ (List.mem_append_right _ (List.mem_append_right _ (List.mem_append_right _ (List.mem_append_right _ ((List.mem_of_getElem? h))))))), g⟩
def rYb : List (MethodName × ByteArray) := [(⟨rCn 0, "<init>", "()V"⟩, prog_2_method_1_code), (⟨rCn 0, "clea\x72", "()V"⟩, prog_2_method_2_code), (⟨rCn 0, "holdOne", "(III)V"⟩, prog_2_method_3_code), (⟨rCn 0, "answe\x72", "(II)I"⟩, prog_2_method_4_code), (⟨rCn 0, "own", "(III)I"⟩, prog_2_method_5_code), (⟨rCn 0, "inherited", "(IIII)I"⟩, prog_2_method_6_code), (⟨rCn 0, "bodyFo\x72", "(II)I"⟩, prog_2_method_7_code), (⟨rCn 0, "run", "(III)I"⟩, prog_2_method_8_code), (⟨rCn 0, "part", "(I)I"⟩, prog_2_method_9_code), (⟨rCn 0, "note", "(I)V"⟩, prog_2_method_10_code), (⟨rCn 1, "<init>", "()V"⟩, prog_3_method_1_code), (⟨rCn 1, "begin", "(III)V"⟩, prog_3_method_2_code), (⟨rCn 1, "holds", "(II)Z"⟩, prog_3_method_3_code), (⟨rCn 1, "numbe\x72", "(II)I"⟩, prog_3_method_4_code), (⟨rCn 1, "write", "(III)V"⟩, prog_3_method_5_code), (⟨rCn 2, "<init>", "()V"⟩, prog_4_method_1_code), (⟨rCn 2, "clea\x72", "(I)V"⟩, prog_4_method_2_code), (⟨rCn 2, "holdThing", "(II)V"⟩, prog_4_method_3_code), (⟨rCn 2, "holdRow", "(III)V"⟩, prog_4_method_4_code), (⟨rCn 2, "holdsRow", "(I)Z"⟩, prog_4_method_5_code), (⟨rCn 3, "<init>", "()V"⟩, prog_5_method_1_code), (⟨rCn 3, "begin", "()V"⟩, prog_5_method_2_code), (⟨rCn 3, "become", "(LSampleLayers$Street;)V"⟩, prog_5_method_3_code), (⟨rCn 3, "has", "(I)Z"⟩, prog_5_method_4_code), (⟨rCn 3, "lies", "(I)Z"⟩, prog_5_method_5_code), (⟨rCn 3, "add", "(IIII)I"⟩, prog_5_method_6_code), (⟨rCn 3, "layIn", "(II)V"⟩, prog_5_method_7_code), (⟨rCn 3, "setLying", "()I"⟩, prog_5_method_8_code), (⟨rCn 3, "setIn", "(I)I"⟩, prog_5_method_9_code), (⟨rCn 3, "setAbove", "(I)I"⟩, prog_5_method_10_code), (⟨rCn 3, "uppermost", "(I)I"⟩, prog_5_method_11_code), (⟨rCn 3, "worthLying", "()I"⟩, prog_5_method_12_code), (⟨rCn 3, "pitsInUse", "()I"⟩, prog_5_method_13_code), (⟨rCn 3, "cove\x72", "()I"⟩, prog_5_method_14_code), (⟨rCn 3, "kindsIn", "(I)I"⟩, prog_5_method_15_code), (⟨rCn 3, "speaking", "(I)I"⟩, prog_5_method_16_code), (⟨rCn 3, "hiding", "(I)I"⟩, prog_5_method_17_code), (⟨rCn 3, "passYears", "(I)V"⟩, prog_5_method_18_code), (⟨rCn 3, "passYea\x72", "()V"⟩, prog_5_method_19_code), (⟨rCn 3, "dig", "()V"⟩, prog_5_method_20_code), (⟨rCn 3, "passDrawnYea\x72", "()V"⟩, prog_5_method_21_code), (⟨rCn 3, "draw", "()I"⟩, prog_5_method_22_code), (⟨rCn 4, "<init>", "()V"⟩, prog_6_method_1_code), (⟨rCn 4, "clea\x72", "()V"⟩, prog_6_method_2_code), (⟨rCn 4, "append", "(JI)I"⟩, prog_6_method_3_code), (⟨rCn 4, "readInto", "(LSampleLayers$Street;)I"⟩, prog_6_method_4_code), (⟨rCn 4, "readStatement", "(LSampleLayers$Street;)V"⟩, prog_6_method_5_code), (⟨rCn 4, "readThing", "(LSampleLayers$Street;I)V"⟩, prog_6_method_6_code), (⟨rCn 4, "apply", "(LSampleLayers$Street;II)V"⟩, prog_6_method_7_code), (⟨rCn 4, "mostOfSetting", "(I)I"⟩, prog_6_method_8_code), (⟨rCn 4, "kindNamed", "()I"⟩, prog_6_method_9_code), (⟨rCn 4, "settingNamed", "()I"⟩, prog_6_method_10_code), (⟨rCn 4, "readNumbe\x72", "(I)I"⟩, prog_6_method_11_code), (⟨rCn 4, "needEndOfStatement", "()V"⟩, prog_6_method_12_code), (⟨rCn 4, "fail", "()V"⟩, prog_6_method_13_code), (⟨rCn 4, "next", "()V"⟩, prog_6_method_14_code), (⟨rCn 4, "sortOf", "(I)I"⟩, prog_6_method_15_code), (⟨rCn 4, "isName", "(Ljava/lang/String;)Z"⟩, prog_6_method_16_code), (⟨rCn 5, "<init>", "()V"⟩, prog_1_method_1_code), (⟨rCn 5, "feed", "(JI)I"⟩, prog_1_method_2_code), (⟨rCn 5, "street", "()I"⟩, prog_1_method_3_code), (⟨rCn 5, "set", "(II)I"⟩, prog_1_method_4_code), (⟨rCn 5, "lawOf", "(I)I"⟩, prog_1_method_5_code), (⟨rCn 5, "thing", "(IIII)I"⟩, prog_1_method_6_code), (⟨rCn 5, "of", "(II)I"⟩, prog_1_method_7_code), (⟨rCn 5, "does", "(II)I"⟩, prog_1_method_8_code), (⟨rCn 5, "mind", "(III)I"⟩, prog_1_method_9_code), (⟨rCn 5, "value", "(II)I"⟩, prog_1_method_10_code), (⟨rCn 5, "lay", "(II)I"⟩, prog_1_method_11_code), (⟨rCn 5, "take", "(I)I"⟩, prog_1_method_12_code), (⟨rCn 5, "bring", "(I)I"⟩, prog_1_method_13_code), (⟨rCn 5, "think", "(I)I"⟩, prog_1_method_14_code), (⟨rCn 5, "pit", "(II)I"⟩, prog_1_method_15_code), (⟨rCn 5, "years", "(I)I"⟩, prog_1_method_16_code), (⟨rCn 5, "seed", "(I)I"⟩, prog_1_method_17_code), (⟨rCn 5, "yea\x72", "()I"⟩, prog_1_method_18_code), (⟨rCn 5, "luck", "(I)I"⟩, prog_1_method_19_code), (⟨rCn 5, "state", "(I)I"⟩, prog_1_method_20_code), (⟨rCn 5, "thought", "(I)I"⟩, prog_1_method_21_code), (⟨rCn 5, "dug", "(I)I"⟩, prog_1_method_22_code), (⟨rCn 5, "empty", "()I"⟩, prog_1_method_23_code), (⟨rCn 5, "praised", "(I)I"⟩, prog_1_method_24_code), (⟨rCn 5, "pitFo\x72", "(II)I"⟩, prog_1_method_25_code), (⟨rCn 5, "kindFo\x72", "(II)I"⟩, prog_1_method_26_code), (⟨rCn 5, "worthFo\x72", "(III)I"⟩, prog_1_method_27_code), (⟨rCn 5, "beginFo\x72", "(I)I"⟩, prog_1_method_28_code), (⟨rCn 5, "awayFo\x72", "(II)I"⟩, prog_1_method_29_code), (⟨rCn 5, "above", "(I)I"⟩, prog_1_method_30_code), (⟨rCn 5, "fits", "(III)I"⟩, prog_1_method_31_code), (⟨rCn 5, "odds", "(III)J"⟩, prog_1_method_32_code), (⟨rCn 5, "hope", "(II)J"⟩, prog_1_method_33_code), (⟨rCn 5, "prove", "(II)I"⟩, prog_1_method_34_code), (⟨rCn 5, "row", "(II)I"⟩, prog_1_method_35_code), (⟨rCn 5, "alterRow", "(III)I"⟩, prog_1_method_36_code), (⟨rCn 5, "judge", "(I)I"⟩, prog_1_method_37_code), (⟨rCn 5, "minds", "(IIII)I"⟩, prog_1_method_38_code), (⟨rCn 5, "sheet", "(III)I"⟩, prog_1_method_39_code), (⟨rCn 5, "put", "(III)I"⟩, prog_1_method_40_code), (⟨rCn 5, "item", "(III)I"⟩, prog_1_method_41_code), (⟨rCn 5, "shelf", "(III)I"⟩, prog_1_method_42_code), (⟨rCn 5, "taken", "(II)I"⟩, prog_1_method_43_code), (⟨rCn 5, "act", "(III)I"⟩, prog_1_method_44_code), (⟨rCn 5, "trace", "(I)I"⟩, prog_1_method_45_code), (⟨rCn 5, "many", "(I)I"⟩, prog_1_method_46_code), (⟨rCn 5, "keep", "()I"⟩, prog_1_method_47_code), (⟨rCn 5, "again", "()I"⟩, prog_1_method_48_code), (⟨rCn 5, "within", "(II)Z"⟩, prog_1_method_49_code), (⟨rCn 5, "isNea\x72", "(I)Z"⟩, prog_1_method_50_code), (⟨rCn 5, "held", "(II)I"⟩, prog_1_method_51_code), (⟨rCn 5, "mostOfLaw", "(I)I"⟩, prog_1_method_52_code), (⟨rCn 5, "isUnde\x72", "(II)Z"⟩, prog_1_method_53_code), (⟨rCn 5, "opinionBehind", "(I)I"⟩, prog_1_method_54_code), (⟨rCn 5, "opinionWithout", "(II)I"⟩, prog_1_method_55_code), (⟨rCn 5, "bestChange", "(III)I"⟩, prog_1_method_56_code), (⟨rCn 5, "changeTried", "(III)V"⟩, prog_1_method_57_code), (⟨rCn 5, "fitsWith", "(III)Z"⟩, prog_1_method_58_code), (⟨rCn 5, "hasRow", "(II)Z"⟩, prog_1_method_59_code), (⟨rCn 5, "triedPart", "(II)I"⟩, prog_1_method_60_code), (⟨rCn 5, "ways", "(II)J"⟩, prog_1_method_61_code), (⟨rCn 5, "powe\x72", "(JI)J"⟩, prog_1_method_62_code), (⟨rCn 5, "partOf", "(JJI)J"⟩, prog_1_method_63_code), (⟨rCn 6, "<init>", "()V"⟩, prog_8_method_1_code), (⟨rCn 6, "begins", "()V"⟩, prog_8_method_2_code), (⟨rCn 6, "isIn", "(JJJ)Z"⟩, prog_8_method_3_code), (⟨rCn 6, "isPit", "(I)Z"⟩, prog_8_method_4_code), (⟨rCn 6, "isOne", "(I)Z"⟩, prog_8_method_5_code), (⟨rCn 6, "its", "(II)I"⟩, prog_8_method_6_code), (⟨rCn 6, "becomes", "(II)I"⟩, prog_8_method_7_code), (⟨rCn 6, "copyRow", "([I[I)V"⟩, prog_8_method_8_code), (⟨rCn 6, "greatest", "(II)I"⟩, prog_8_method_9_code), (⟨rCn 6, "within", "(I)I"⟩, prog_8_method_10_code), (⟨rCn 6, "size", "(I)I"⟩, prog_8_method_11_code), (⟨rCn 6, "isUnde\x72", "(II)Z"⟩, prog_8_method_12_code), (⟨rCn 6, "feed", "(JI)I"⟩, prog_8_method_13_code), (⟨rCn 6, "isAlpha", "(I)Z"⟩, prog_8_method_14_code), (⟨rCn 6, "isDigit", "(I)Z"⟩, prog_8_method_15_code), (⟨rCn 6, "byteAt", "(I)I"⟩, prog_8_method_16_code), (⟨rCn 6, "nextToken", "()V"⟩, prog_8_method_17_code), (⟨rCn 6, "needs", "(Z)V"⟩, prog_8_method_18_code), (⟨rCn 6, "isName", "(IIIII)Z"⟩, prog_8_method_19_code), (⟨rCn 6, "isSame", "(IIII)Z"⟩, prog_8_method_20_code), (⟨rCn 6, "isFou\x72", "(IIII)Z"⟩, prog_8_method_21_code), (⟨rCn 6, "isFive", "(IIIII)Z"⟩, prog_8_method_22_code), (⟨rCn 6, "kindHere", "()I"⟩, prog_8_method_23_code), (⟨rCn 6, "numberTo", "(II)V"⟩, prog_8_method_24_code), (⟨rCn 6, "perhaps", "(ZII)V"⟩, prog_8_method_25_code), (⟨rCn 6, "thingHere", "(I)V"⟩, prog_8_method_26_code), (⟨rCn 6, "ownHere", "()I"⟩, prog_8_method_27_code), (⟨rCn 6, "itemHere", "()V"⟩, prog_8_method_28_code), (⟨rCn 6, "street", "()I"⟩, prog_8_method_29_code), (⟨rCn 6, "set", "(II)I"⟩, prog_8_method_30_code), (⟨rCn 6, "lawOf", "(I)I"⟩, prog_8_method_31_code), (⟨rCn 6, "lies", "(II)V"⟩, prog_8_method_32_code), (⟨rCn 6, "comes", "(IIII)V"⟩, prog_8_method_33_code), (⟨rCn 6, "thing", "(IIII)I"⟩, prog_8_method_34_code), (⟨rCn 6, "aboveOf", "(I)I"⟩, prog_8_method_35_code), (⟨rCn 6, "speaks", "(I)I"⟩, prog_8_method_36_code), (⟨rCn 6, "hides", "(I)I"⟩, prog_8_method_37_code), (⟨rCn 6, "of", "(II)I"⟩, prog_8_method_38_code), (⟨rCn 6, "does", "(II)I"⟩, prog_8_method_39_code), (⟨rCn 6, "mind", "(III)I"⟩, prog_8_method_40_code), (⟨rCn 6, "value", "(II)I"⟩, prog_8_method_41_code), (⟨rCn 6, "lay", "(II)I"⟩, prog_8_method_42_code), (⟨rCn 6, "lying", "()I"⟩, prog_8_method_43_code), (⟨rCn 6, "take", "(I)I"⟩, prog_8_method_44_code), (⟨rCn 6, "bring", "(I)I"⟩, prog_8_method_45_code), (⟨rCn 6, "think", "(I)I"⟩, prog_8_method_46_code), (⟨rCn 6, "lyingIn", "(I)I"⟩, prog_8_method_47_code), (⟨rCn 6, "top", "(I)I"⟩, prog_8_method_48_code), (⟨rCn 6, "pit", "(II)I"⟩, prog_8_method_49_code), (⟨rCn 6, "goesOn", "()V"⟩, prog_8_method_50_code), (⟨rCn 6, "goes", "(I)V"⟩, prog_8_method_51_code), (⟨rCn 6, "years", "(I)I"⟩, prog_8_method_52_code), (⟨rCn 6, "seed", "(I)I"⟩, prog_8_method_53_code), (⟨rCn 6, "drawn", "()I"⟩, prog_8_method_54_code), (⟨rCn 6, "yea\x72", "()I"⟩, prog_8_method_55_code), (⟨rCn 6, "luck", "(I)I"⟩, prog_8_method_56_code), (⟨rCn 6, "worthOfAll", "()I"⟩, prog_8_method_57_code), (⟨rCn 6, "kindsIn", "(I)I"⟩, prog_8_method_58_code), (⟨rCn 6, "cove\x72", "()I"⟩, prog_8_method_59_code), (⟨rCn 6, "state", "(I)I"⟩, prog_8_method_60_code), (⟨rCn 6, "thoughtBehind", "(I)I"⟩, prog_8_method_61_code), (⟨rCn 6, "thought", "(I)I"⟩, prog_8_method_62_code), (⟨rCn 6, "dug", "(I)I"⟩, prog_8_method_63_code), (⟨rCn 6, "empty", "()I"⟩, prog_8_method_64_code), (⟨rCn 6, "praised", "(I)I"⟩, prog_8_method_65_code), (⟨rCn 6, "isShort", "(I)Z"⟩, prog_8_method_66_code), (⟨rCn 6, "pitFo\x72", "(II)I"⟩, prog_8_method_67_code), (⟨rCn 6, "mostBy", "(III)I"⟩, prog_8_method_68_code), (⟨rCn 6, "kindFo\x72", "(II)I"⟩, prog_8_method_69_code), (⟨rCn 6, "worthFo\x72", "(III)I"⟩, prog_8_method_70_code), (⟨rCn 6, "beginFo\x72", "(I)I"⟩, prog_8_method_71_code), (⟨rCn 6, "awayFo\x72", "(II)I"⟩, prog_8_method_72_code), (⟨rCn 6, "above", "(I)I"⟩, prog_8_method_73_code), (⟨rCn 6, "product", "(I)J"⟩, prog_8_method_74_code), (⟨rCn 6, "partOf", "(JJI)J"⟩, prog_8_method_75_code), (⟨rCn 6, "isTold", "(I)Z"⟩, prog_8_method_76_code), (⟨rCn 6, "fits", "(III)I"⟩, prog_8_method_77_code), (⟨rCn 6, "odds", "(III)J"⟩, prog_8_method_78_code), (⟨rCn 6, "hope", "(II)J"⟩, prog_8_method_79_code), (⟨rCn 6, "prove", "(II)I"⟩, prog_8_method_80_code), (⟨rCn 6, "isRow", "(II)Z"⟩, prog_8_method_81_code), (⟨rCn 6, "row", "(II)I"⟩, prog_8_method_82_code), (⟨rCn 6, "alterRow", "(III)I"⟩, prog_8_method_83_code), (⟨rCn 6, "judge", "(I)I"⟩, prog_8_method_84_code), (⟨rCn 6, "isSheet", "(I)Z"⟩, prog_8_method_85_code), (⟨rCn 6, "isShelf", "(I)Z"⟩, prog_8_method_86_code), (⟨rCn 6, "sheet", "(III)I"⟩, prog_8_method_87_code), (⟨rCn 6, "put", "(III)I"⟩, prog_8_method_88_code), (⟨rCn 6, "lacks", "(II)I"⟩, prog_8_method_89_code), (⟨rCn 6, "item", "(III)I"⟩, prog_8_method_90_code), (⟨rCn 6, "minds", "(IIII)I"⟩, prog_8_method_91_code), (⟨rCn 6, "shelf", "(III)I"⟩, prog_8_method_92_code), (⟨rCn 6, "heldOn", "(I)I"⟩, prog_8_method_93_code), (⟨rCn 6, "taken", "(II)I"⟩, prog_8_method_94_code), (⟨rCn 6, "runs", "(I)V"⟩, prog_8_method_95_code), (⟨rCn 6, "sinksPlain", "(I)I"⟩, prog_8_method_96_code), (⟨rCn 6, "sinksOfRubbish", "(I)I"⟩, prog_8_method_97_code), (⟨rCn 6, "sinks", "(I)I"⟩, prog_8_method_98_code), (⟨rCn 6, "showsPlain", "(I)I"⟩, prog_8_method_99_code), (⟨rCn 6, "shows", "(I)I"⟩, prog_8_method_100_code), (⟨rCn 6, "partsPlain", "(I)I"⟩, prog_8_method_101_code), (⟨rCn 6, "parts", "(I)I"⟩, prog_8_method_102_code), (⟨rCn 6, "asksPlain", "(I)I"⟩, prog_8_method_103_code), (⟨rCn 6, "asks", "(I)I"⟩, prog_8_method_104_code), (⟨rCn 6, "act", "(III)I"⟩, prog_8_method_105_code), (⟨rCn 6, "trace", "(I)I"⟩, prog_8_method_106_code), (⟨rCn 6, "many", "(I)I"⟩, prog_8_method_107_code), (⟨rCn 6, "keep", "()I"⟩, prog_8_method_108_code), (⟨rCn 6, "again", "()I"⟩, prog_8_method_109_code), (⟨rCn 11, "bitCount", "(I)I"⟩, prog_9_method_49_code), (⟨rCn 8, "length", "()I"⟩, prog_11_method_54_code), (⟨rCn 8, "charAt", "(I)C"⟩, prog_11_method_56_code), (⟨rCn 8, "code\x72", "()B"⟩, prog_11_method_152_code), (⟨rCn 8, "isLatin1", "()Z"⟩, prog_11_method_154_code), (⟨rCn 8, "checkIndex", "(II)V"⟩, prog_11_method_155_code), (⟨rCn 9, "charAt", "([BI)C"⟩, prog_12_method_2_code), (⟨rCn 10, "checkIndex", "(IILjava/util/function/BiFunction;)I"⟩, prog_15_method_11_code), (⟨rCn 7, "law", "([I)Z"⟩, code)]
def rYd : MethodName × ByteArray := (⟨"", "", ""⟩, ⟨#[]⟩)
def rYn (i : Nat) : MethodName := (rYb.getD i rYd).1
def rBy (i : Nat) : ByteArray := (rYb.getD i rYd).2
/-- a class of ours: its place in classes, its fields' words -/
def rKc (ci : Nat) (C : String) (T : u_T) (N : Nat) (ty : Nat → FieldType) : Prop := classes[ci]? = some (C, T, N) ∧ C = rCn ci ∧ (∀ w ∈ u_ws C T N, w ∈ rTT) ∧ (∀ a, a < N → ∀ b, b < N → a ≠ b → (T a).2.1 ≠ (T b).2.1) ∧ (∀ k, k < N → parseFieldDescriptor (T k).2.2.1 = some (ty k)) ∧ (∀ k, k < N → (T k).1 = C) ∧ Cond.instantiable C N ∈ rTT ∧ Cond.initialized C ∈ rTT
set_option maxRecDepth 20000 in
theorem rKX0_w : ∀ w ∈ u_ws RX0 TX0 6, w ∈ rTT := by
  show ∀ w ∈ [u_lay RX0 TX0 0, u_lay RX0 TX0 1, u_lay RX0 TX0 2, u_lay RX0 TX0 3, u_lay RX0 TX0 4, u_lay RX0 TX0 5], w ∈ rTT
  exact List.forall_mem_cons.mpr ⟨rIn1 167 rfl rfl, List.forall_mem_cons.mpr ⟨rIn1 169 rfl rfl, List.forall_mem_cons.mpr ⟨rIn1 171 rfl rfl, List.forall_mem_cons.mpr ⟨rIn1 173 rfl rfl, List.forall_mem_cons.mpr ⟨rIn1 175 rfl rfl, List.forall_mem_cons.mpr ⟨rIn1 177 rfl rfl, fun _ h => absurd h List.not_mem_nil⟩⟩⟩⟩⟩⟩
set_option maxRecDepth 20000 in
theorem rKX0 : rKc 0 RX0 TX0 6 tyX0 := ⟨rfl, rfl, rKX0_w, nmX0, tyX0_ok, by decide +kernel, rIn1 154 rfl rfl, rIn1 6 rfl rfl⟩
set_option maxRecDepth 20000 in
theorem rKX1_w : ∀ w ∈ u_ws RX1 TX1 3, w ∈ rTT := by
  show ∀ w ∈ [u_lay RX1 TX1 0, u_lay RX1 TX1 1, u_lay RX1 TX1 2], w ∈ rTT
  exact List.forall_mem_cons.mpr ⟨rIn1 123 rfl rfl, List.forall_mem_cons.mpr ⟨rIn1 125 rfl rfl, List.forall_mem_cons.mpr ⟨rIn1 127 rfl rfl, fun _ h => absurd h List.not_mem_nil⟩⟩⟩
set_option maxRecDepth 20000 in
theorem rKX1 : rKc 1 RX1 TX1 3 tyX1 := ⟨rfl, rfl, rKX1_w, nmX1, tyX1_ok, by decide +kernel, rIn1 113 rfl rfl, rIn1 4 rfl rfl⟩
set_option maxRecDepth 20000 in
theorem rKX2_w : ∀ w ∈ u_ws RX2 TX2 3, w ∈ rTT := by
  show ∀ w ∈ [u_lay RX2 TX2 0, u_lay RX2 TX2 1, u_lay RX2 TX2 2], w ∈ rTT
  exact List.forall_mem_cons.mpr ⟨rIn1 146 rfl rfl, List.forall_mem_cons.mpr ⟨rIn1 148 rfl rfl, List.forall_mem_cons.mpr ⟨rIn1 150 rfl rfl, fun _ h => absurd h List.not_mem_nil⟩⟩⟩
set_option maxRecDepth 20000 in
theorem rKX2 : rKc 2 RX2 TX2 3 tyX2 := ⟨rfl, rfl, rKX2_w, nmX2, tyX2_ok, by decide +kernel, rIn1 131 rfl rfl, rIn1 5 rfl rfl⟩
set_option maxRecDepth 20000 in
theorem rKX3_w : ∀ w ∈ u_ws RX3 TX3 12, w ∈ rTT := by
  show ∀ w ∈ [u_lay RX3 TX3 0, u_lay RX3 TX3 1, u_lay RX3 TX3 2, u_lay RX3 TX3 3, u_lay RX3 TX3 4, u_lay RX3 TX3 5, u_lay RX3 TX3 6, u_lay RX3 TX3 7, u_lay RX3 TX3 8, u_lay RX3 TX3 9, u_lay RX3 TX3 10, u_lay RX3 TX3 11], w ∈ rTT
  exact List.forall_mem_cons.mpr ⟨rIn1 59 rfl rfl, List.forall_mem_cons.mpr ⟨rIn1 61 rfl rfl, List.forall_mem_cons.mpr ⟨rIn1 63 rfl rfl, List.forall_mem_cons.mpr ⟨rIn1 65 rfl rfl, List.forall_mem_cons.mpr ⟨rIn1 67 rfl rfl, List.forall_mem_cons.mpr ⟨rIn1 69 rfl rfl, List.forall_mem_cons.mpr ⟨rIn1 71 rfl rfl, List.forall_mem_cons.mpr ⟨rIn1 73 rfl rfl, List.forall_mem_cons.mpr ⟨rIn1 75 rfl rfl, List.forall_mem_cons.mpr ⟨rIn1 77 rfl rfl, List.forall_mem_cons.mpr ⟨rIn1 79 rfl rfl, List.forall_mem_cons.mpr ⟨rIn1 81 rfl rfl, fun _ h => absurd h List.not_mem_nil⟩⟩⟩⟩⟩⟩⟩⟩⟩⟩⟩⟩
set_option maxRecDepth 20000 in
theorem rKX3 : rKc 3 RX3 TX3 12 tyX3 := ⟨rfl, rfl, rKX3_w, nmX3, tyX3_ok, by decide +kernel, rIn1 24 rfl rfl, rIn1 2 rfl rfl⟩
set_option maxRecDepth 20000 in
theorem rKX4_w : ∀ w ∈ u_ws RX4 TX4 6, w ∈ rTT := by
  show ∀ w ∈ [u_lay RX4 TX4 0, u_lay RX4 TX4 1, u_lay RX4 TX4 2, u_lay RX4 TX4 3, u_lay RX4 TX4 4, u_lay RX4 TX4 5], w ∈ rTT
  exact List.forall_mem_cons.mpr ⟨rIn1 98 rfl rfl, List.forall_mem_cons.mpr ⟨rIn1 100 rfl rfl, List.forall_mem_cons.mpr ⟨rIn1 102 rfl rfl, List.forall_mem_cons.mpr ⟨rIn1 104 rfl rfl, List.forall_mem_cons.mpr ⟨rIn1 106 rfl rfl, List.forall_mem_cons.mpr ⟨rIn1 108 rfl rfl, fun _ h => absurd h List.not_mem_nil⟩⟩⟩⟩⟩⟩
set_option maxRecDepth 20000 in
theorem rKX4 : rKc 4 RX4 TX4 6 tyX4 := ⟨rfl, rfl, rKX4_w, nmX4, tyX4_ok, by decide +kernel, rIn1 86 rfl rfl, rIn1 3 rfl rfl⟩
set_option maxRecDepth 20000 in
theorem rKX5_w : ∀ w ∈ u_ws RX5 TX5 10, w ∈ rTT := by
  show ∀ w ∈ [u_lay RX5 TX5 0, u_lay RX5 TX5 1, u_lay RX5 TX5 2, u_lay RX5 TX5 3, u_lay RX5 TX5 4, u_lay RX5 TX5 5, u_lay RX5 TX5 6, u_lay RX5 TX5 7, u_lay RX5 TX5 8, u_lay RX5 TX5 9], w ∈ rTT
  exact List.forall_mem_cons.mpr ⟨rIn1 190 rfl rfl, List.forall_mem_cons.mpr ⟨rIn1 192 rfl rfl, List.forall_mem_cons.mpr ⟨rIn1 194 rfl rfl, List.forall_mem_cons.mpr ⟨rIn1 196 rfl rfl, List.forall_mem_cons.mpr ⟨rIn1 198 rfl rfl, List.forall_mem_cons.mpr ⟨rIn1 200 rfl rfl, List.forall_mem_cons.mpr ⟨rIn1 202 rfl rfl, List.forall_mem_cons.mpr ⟨rIn1 204 rfl rfl, List.forall_mem_cons.mpr ⟨rIn1 206 rfl rfl, List.forall_mem_cons.mpr ⟨rIn1 208 rfl rfl, fun _ h => absurd h List.not_mem_nil⟩⟩⟩⟩⟩⟩⟩⟩⟩⟩
set_option maxRecDepth 20000 in
theorem rKX5 : rKc 5 RX5 TX5 10 tyX5 := ⟨rfl, rfl, rKX5_w, nmX5, tyX5_ok, by decide +kernel, rIn1 16 rfl rfl, rIn1 1 rfl rfl⟩
set_option maxRecDepth 20000 in
theorem rKX6_w : ∀ w ∈ u_ws RX6 TX6 27, w ∈ rTT := by
  show ∀ w ∈ [u_lay RX6 TX6 0, u_lay RX6 TX6 1, u_lay RX6 TX6 2, u_lay RX6 TX6 3, u_lay RX6 TX6 4, u_lay RX6 TX6 5, u_lay RX6 TX6 6, u_lay RX6 TX6 7, u_lay RX6 TX6 8, u_lay RX6 TX6 9, u_lay RX6 TX6 10, u_lay RX6 TX6 11, u_lay RX6 TX6 12, u_lay RX6 TX6 13, u_lay RX6 TX6 14, u_lay RX6 TX6 15, u_lay RX6 TX6 16, u_lay RX6 TX6 17, u_lay RX6 TX6 18, u_lay RX6 TX6 19, u_lay RX6 TX6 20, u_lay RX6 TX6 21, u_lay RX6 TX6 22, u_lay RX6 TX6 23, u_lay RX6 TX6 24, u_lay RX6 TX6 25, u_lay RX6 TX6 26], w ∈ rTT
  exact List.forall_mem_cons.mpr ⟨rIn4 70 rfl rfl, List.forall_mem_cons.mpr ⟨rIn4 72 rfl rfl, List.forall_mem_cons.mpr ⟨rIn4 74 rfl rfl, List.forall_mem_cons.mpr ⟨rIn4 76 rfl rfl, List.forall_mem_cons.mpr ⟨rIn4 78 rfl rfl, List.forall_mem_cons.mpr ⟨rIn4 80 rfl rfl, List.forall_mem_cons.mpr ⟨rIn4 82 rfl rfl, List.forall_mem_cons.mpr ⟨rIn4 84 rfl rfl, List.forall_mem_cons.mpr ⟨rIn4 86 rfl rfl, List.forall_mem_cons.mpr ⟨rIn4 88 rfl rfl, List.forall_mem_cons.mpr ⟨rIn4 90 rfl rfl, List.forall_mem_cons.mpr ⟨rIn4 92 rfl rfl, List.forall_mem_cons.mpr ⟨rIn4 94 rfl rfl, List.forall_mem_cons.mpr ⟨rIn4 96 rfl rfl, List.forall_mem_cons.mpr ⟨rIn4 98 rfl rfl, List.forall_mem_cons.mpr ⟨rIn4 100 rfl rfl, List.forall_mem_cons.mpr ⟨rIn4 102 rfl rfl, List.forall_mem_cons.mpr ⟨rIn4 104 rfl rfl, List.forall_mem_cons.mpr ⟨rIn4 106 rfl rfl, List.forall_mem_cons.mpr ⟨rIn4 108 rfl rfl, List.forall_mem_cons.mpr ⟨rIn4 110 rfl rfl, List.forall_mem_cons.mpr ⟨rIn4 112 rfl rfl, List.forall_mem_cons.mpr ⟨rIn4 114 rfl rfl, List.forall_mem_cons.mpr ⟨rIn4 116 rfl rfl, List.forall_mem_cons.mpr ⟨rIn4 118 rfl rfl, List.forall_mem_cons.mpr ⟨rIn4 120 rfl rfl, List.forall_mem_cons.mpr ⟨rIn4 122 rfl rfl, fun _ h => absurd h List.not_mem_nil⟩⟩⟩⟩⟩⟩⟩⟩⟩⟩⟩⟩⟩⟩⟩⟩⟩⟩⟩⟩⟩⟩⟩⟩⟩⟩⟩
set_option maxRecDepth 20000 in
theorem rKX6 : rKc 6 RX6 TX6 27 tyX6 := ⟨rfl, rfl, rKX6_w, nmX6, tyX6_ok, by decide +kernel, rIn4 34 rfl rfl, rIn1 7 rfl rfl⟩
theorem rKcl : ∀ ci, ci < 7 → ∃ C T N ty, rKc ci C T N ty := fun ci h => match ci, h with
  | 0, _ => ⟨_, _, _, _, rKX0⟩
  | 1, _ => ⟨_, _, _, _, rKX1⟩
  | 2, _ => ⟨_, _, _, _, rKX2⟩
  | 3, _ => ⟨_, _, _, _, rKX3⟩
  | 4, _ => ⟨_, _, _, _, rKX4⟩
  | 5, _ => ⟨_, _, _, _, rKX5⟩
  | 6, _ => ⟨_, _, _, _, rKX6⟩
  | n + 7, h => absurd h (by omega)
/-- a field link: q = (index, class, slot, kind) in class c -/
def rFk (c : Nat) (q : Nat × Nat × Nat × Nat) : Prop := ∃ C T N ty, rKc q.2.1 C T N ty ∧ q.2.2.1 < N ∧ Cond.fieldLink (rCn c) q.1 C (T q.2.2.1).2.1 (T q.2.2.1).2.2.1 ∈ rTT ∧
  match q.2.2.2 with
  | 0 => (T q.2.2.1).2.2.2 = false ∧ ty q.2.2.1 = .int
  | 1 => (T q.2.2.1).2.2.2 = false ∧ ty q.2.2.1 = .boolean
  | _ => (T q.2.2.1).2.2.2 = true ∧ ∀ a : Nat, narrow (ty q.2.2.1) (.ref a) = .ref a ∧ fits (ty q.2.2.1) (.ref a) = true
set_option maxRecDepth 20000 in
theorem rFX0_0 : rFk 0 (11, 0, 0, 2) := ⟨_, _, _, _, rKX0, by decide, rIn1 159 rfl rfl, ⟨rfl, fun _ => ⟨rfl, rfl⟩⟩⟩
set_option maxRecDepth 20000 in
theorem rFX0_1 : rFk 0 (15, 0, 1, 0) := ⟨_, _, _, _, rKX0, by decide, rIn1 161 rfl rfl, ⟨rfl, rfl⟩⟩
set_option maxRecDepth 20000 in
theorem rFX0_2 : rFk 0 (19, 0, 5, 1) := ⟨_, _, _, _, rKX0, by decide, rIn1 166 rfl rfl, ⟨rfl, rfl⟩⟩
set_option maxRecDepth 20000 in
theorem rFX0_3 : rFk 0 (23, 0, 2, 0) := ⟨_, _, _, _, rKX0, by decide, rIn1 163 rfl rfl, ⟨rfl, rfl⟩⟩
set_option maxRecDepth 20000 in
theorem rFX0_4 : rFk 0 (26, 0, 3, 0) := ⟨_, _, _, _, rKX0, by decide, rIn1 164 rfl rfl, ⟨rfl, rfl⟩⟩
set_option maxRecDepth 20000 in
theorem rFX0_5 : rFk 0 (29, 0, 4, 0) := ⟨_, _, _, _, rKX0, by decide, rIn1 165 rfl rfl, ⟨rfl, rfl⟩⟩
theorem rFX0 : ∀ q ∈ (lkF.getD 0 []), rFk 0 q := List.forall_mem_cons.mpr ⟨rFX0_0, List.forall_mem_cons.mpr ⟨rFX0_1, List.forall_mem_cons.mpr ⟨rFX0_2, List.forall_mem_cons.mpr ⟨rFX0_3, List.forall_mem_cons.mpr ⟨rFX0_4, List.forall_mem_cons.mpr ⟨rFX0_5, fun _ h => absurd h List.not_mem_nil⟩⟩⟩⟩⟩⟩
set_option maxRecDepth 20000 in
theorem rFX1_0 : rFk 1 (9, 1, 0, 2) := ⟨_, _, _, _, rKX1, by decide, rIn1 118 rfl rfl, ⟨rfl, fun _ => ⟨rfl, rfl⟩⟩⟩
set_option maxRecDepth 20000 in
theorem rFX1_1 : rFk 1 (15, 1, 1, 2) := ⟨_, _, _, _, rKX1, by decide, rIn1 120 rfl rfl, ⟨rfl, fun _ => ⟨rfl, rfl⟩⟩⟩
set_option maxRecDepth 20000 in
theorem rFX1_2 : rFk 1 (18, 1, 2, 2) := ⟨_, _, _, _, rKX1, by decide, rIn1 122 rfl rfl, ⟨rfl, fun _ => ⟨rfl, rfl⟩⟩⟩
theorem rFX1 : ∀ q ∈ (lkF.getD 1 []), rFk 1 q := List.forall_mem_cons.mpr ⟨rFX1_0, List.forall_mem_cons.mpr ⟨rFX1_1, List.forall_mem_cons.mpr ⟨rFX1_2, fun _ h => absurd h List.not_mem_nil⟩⟩⟩
set_option maxRecDepth 20000 in
theorem rFX2_0 : rFk 2 (9, 2, 0, 2) := ⟨_, _, _, _, rKX2, by decide, rIn1 140 rfl rfl, ⟨rfl, fun _ => ⟨rfl, rfl⟩⟩⟩
set_option maxRecDepth 20000 in
theorem rFX2_1 : rFk 2 (15, 2, 1, 2) := ⟨_, _, _, _, rKX2, by decide, rIn1 142 rfl rfl, ⟨rfl, fun _ => ⟨rfl, rfl⟩⟩⟩
set_option maxRecDepth 20000 in
theorem rFX2_2 : rFk 2 (18, 2, 2, 2) := ⟨_, _, _, _, rKX2, by decide, rIn1 144 rfl rfl, ⟨rfl, fun _ => ⟨rfl, rfl⟩⟩⟩
theorem rFX2 : ∀ q ∈ (lkF.getD 2 []), rFk 2 q := List.forall_mem_cons.mpr ⟨rFX2_0, List.forall_mem_cons.mpr ⟨rFX2_1, List.forall_mem_cons.mpr ⟨rFX2_2, fun _ h => absurd h List.not_mem_nil⟩⟩⟩
set_option maxRecDepth 20000 in
theorem rFX3_0 : rFk 3 (9, 3, 0, 2) := ⟨_, _, _, _, rKX3, by decide, rIn1 33 rfl rfl, ⟨rfl, fun _ => ⟨rfl, rfl⟩⟩⟩
set_option maxRecDepth 20000 in
theorem rFX3_1 : rFk 3 (15, 3, 1, 2) := ⟨_, _, _, _, rKX3, by decide, rIn1 35 rfl rfl, ⟨rfl, fun _ => ⟨rfl, rfl⟩⟩⟩
set_option maxRecDepth 20000 in
theorem rFX3_2 : rFk 3 (18, 3, 2, 2) := ⟨_, _, _, _, rKX3, by decide, rIn1 37 rfl rfl, ⟨rfl, fun _ => ⟨rfl, rfl⟩⟩⟩
set_option maxRecDepth 20000 in
theorem rFX3_3 : rFk 3 (21, 3, 3, 2) := ⟨_, _, _, _, rKX3, by decide, rIn1 39 rfl rfl, ⟨rfl, fun _ => ⟨rfl, rfl⟩⟩⟩
set_option maxRecDepth 20000 in
theorem rFX3_4 : rFk 3 (24, 3, 5, 2) := ⟨_, _, _, _, rKX3, by decide, rIn1 44 rfl rfl, ⟨rfl, fun _ => ⟨rfl, rfl⟩⟩⟩
set_option maxRecDepth 20000 in
theorem rFX3_5 : rFk 3 (27, 3, 4, 2) := ⟨_, _, _, _, rKX3, by decide, rIn1 41 rfl rfl, ⟨rfl, fun _ => ⟨rfl, rfl⟩⟩⟩
set_option maxRecDepth 20000 in
theorem rFX3_6 : rFk 3 (30, 3, 11, 0) := ⟨_, _, _, _, rKX3, by decide, rIn1 57 rfl rfl, ⟨rfl, rfl⟩⟩
set_option maxRecDepth 20000 in
theorem rFX3_7 : rFk 3 (37, 3, 6, 0) := ⟨_, _, _, _, rKX3, by decide, rIn1 45 rfl rfl, ⟨rfl, rfl⟩⟩
set_option maxRecDepth 20000 in
theorem rFX3_8 : rFk 3 (40, 3, 7, 0) := ⟨_, _, _, _, rKX3, by decide, rIn1 48 rfl rfl, ⟨rfl, rfl⟩⟩
set_option maxRecDepth 20000 in
theorem rFX3_9 : rFk 3 (43, 3, 8, 0) := ⟨_, _, _, _, rKX3, by decide, rIn1 49 rfl rfl, ⟨rfl, rfl⟩⟩
set_option maxRecDepth 20000 in
theorem rFX3_10 : rFk 3 (46, 3, 9, 0) := ⟨_, _, _, _, rKX3, by decide, rIn1 51 rfl rfl, ⟨rfl, rfl⟩⟩
set_option maxRecDepth 20000 in
theorem rFX3_11 : rFk 3 (49, 3, 10, 0) := ⟨_, _, _, _, rKX3, by decide, rIn1 54 rfl rfl, ⟨rfl, rfl⟩⟩
theorem rFX3 : ∀ q ∈ (lkF.getD 3 []), rFk 3 q := List.forall_mem_cons.mpr ⟨rFX3_0, List.forall_mem_cons.mpr ⟨rFX3_1, List.forall_mem_cons.mpr ⟨rFX3_2, List.forall_mem_cons.mpr ⟨rFX3_3, List.forall_mem_cons.mpr ⟨rFX3_4, List.forall_mem_cons.mpr ⟨rFX3_5, List.forall_mem_cons.mpr ⟨rFX3_6, List.forall_mem_cons.mpr ⟨rFX3_7, List.forall_mem_cons.mpr ⟨rFX3_8, List.forall_mem_cons.mpr ⟨rFX3_9, List.forall_mem_cons.mpr ⟨rFX3_10, List.forall_mem_cons.mpr ⟨rFX3_11, fun _ h => absurd h List.not_mem_nil⟩⟩⟩⟩⟩⟩⟩⟩⟩⟩⟩⟩
set_option maxRecDepth 20000 in
theorem rFX4_0 : rFk 4 (11, 4, 0, 2) := ⟨_, _, _, _, rKX4, by decide, rIn1 91 rfl rfl, ⟨rfl, fun _ => ⟨rfl, rfl⟩⟩⟩
set_option maxRecDepth 20000 in
theorem rFX4_1 : rFk 4 (15, 4, 1, 0) := ⟨_, _, _, _, rKX4, by decide, rIn1 92 rfl rfl, ⟨rfl, rfl⟩⟩
set_option maxRecDepth 20000 in
theorem rFX4_2 : rFk 4 (24, 4, 4, 0) := ⟨_, _, _, _, rKX4, by decide, rIn1 96 rfl rfl, ⟨rfl, rfl⟩⟩
set_option maxRecDepth 20000 in
theorem rFX4_3 : rFk 4 (27, 4, 5, 0) := ⟨_, _, _, _, rKX4, by decide, rIn1 97 rfl rfl, ⟨rfl, rfl⟩⟩
set_option maxRecDepth 20000 in
theorem rFX4_4 : rFk 4 (33, 4, 2, 0) := ⟨_, _, _, _, rKX4, by decide, rIn1 94 rfl rfl, ⟨rfl, rfl⟩⟩
set_option maxRecDepth 20000 in
theorem rFX4_5 : rFk 4 (68, 3, 6, 0) := ⟨_, _, _, _, rKX3, by decide, rIn1 47 rfl rfl, ⟨rfl, rfl⟩⟩
set_option maxRecDepth 20000 in
theorem rFX4_6 : rFk 4 (85, 3, 9, 0) := ⟨_, _, _, _, rKX3, by decide, rIn1 52 rfl rfl, ⟨rfl, rfl⟩⟩
set_option maxRecDepth 20000 in
theorem rFX4_7 : rFk 4 (88, 3, 10, 0) := ⟨_, _, _, _, rKX3, by decide, rIn1 55 rfl rfl, ⟨rfl, rfl⟩⟩
set_option maxRecDepth 20000 in
theorem rFX4_8 : rFk 4 (95, 3, 4, 2) := ⟨_, _, _, _, rKX3, by decide, rIn1 43 rfl rfl, ⟨rfl, fun _ => ⟨rfl, rfl⟩⟩⟩
set_option maxRecDepth 20000 in
theorem rFX4_9 : rFk 4 (125, 4, 3, 0) := ⟨_, _, _, _, rKX4, by decide, rIn1 95 rfl rfl, ⟨rfl, rfl⟩⟩
theorem rFX4 : ∀ q ∈ (lkF.getD 4 []), rFk 4 q := List.forall_mem_cons.mpr ⟨rFX4_0, List.forall_mem_cons.mpr ⟨rFX4_1, List.forall_mem_cons.mpr ⟨rFX4_2, List.forall_mem_cons.mpr ⟨rFX4_3, List.forall_mem_cons.mpr ⟨rFX4_4, List.forall_mem_cons.mpr ⟨rFX4_5, List.forall_mem_cons.mpr ⟨rFX4_6, List.forall_mem_cons.mpr ⟨rFX4_7, List.forall_mem_cons.mpr ⟨rFX4_8, List.forall_mem_cons.mpr ⟨rFX4_9, fun _ h => absurd h List.not_mem_nil⟩⟩⟩⟩⟩⟩⟩⟩⟩⟩
set_option maxRecDepth 20000 in
theorem rFX5_0 : rFk 5 (10, 5, 0, 2) := ⟨_, _, _, _, rKX5, by decide, rIn1 180 rfl rfl, ⟨rfl, fun _ => ⟨rfl, rfl⟩⟩⟩
set_option maxRecDepth 20000 in
theorem rFX5_1 : rFk 5 (16, 5, 1, 2) := ⟨_, _, _, _, rKX5, by decide, rIn1 181 rfl rfl, ⟨rfl, fun _ => ⟨rfl, rfl⟩⟩⟩
set_option maxRecDepth 20000 in
theorem rFX5_2 : rFk 5 (19, 5, 2, 2) := ⟨_, _, _, _, rKX5, by decide, rIn1 182 rfl rfl, ⟨rfl, fun _ => ⟨rfl, rfl⟩⟩⟩
set_option maxRecDepth 20000 in
theorem rFX5_3 : rFk 5 (25, 5, 3, 2) := ⟨_, _, _, _, rKX5, by decide, rIn1 183 rfl rfl, ⟨rfl, fun _ => ⟨rfl, rfl⟩⟩⟩
set_option maxRecDepth 20000 in
theorem rFX5_4 : rFk 5 (32, 5, 4, 2) := ⟨_, _, _, _, rKX5, by decide, rIn1 184 rfl rfl, ⟨rfl, fun _ => ⟨rfl, rfl⟩⟩⟩
set_option maxRecDepth 20000 in
theorem rFX5_5 : rFk 5 (39, 5, 5, 2) := ⟨_, _, _, _, rKX5, by decide, rIn1 185 rfl rfl, ⟨rfl, fun _ => ⟨rfl, rfl⟩⟩⟩
set_option maxRecDepth 20000 in
theorem rFX5_6 : rFk 5 (46, 5, 6, 2) := ⟨_, _, _, _, rKX5, by decide, rIn1 186 rfl rfl, ⟨rfl, fun _ => ⟨rfl, rfl⟩⟩⟩
set_option maxRecDepth 20000 in
theorem rFX5_7 : rFk 5 (50, 5, 7, 2) := ⟨_, _, _, _, rKX5, by decide, rIn1 187 rfl rfl, ⟨rfl, fun _ => ⟨rfl, rfl⟩⟩⟩
set_option maxRecDepth 20000 in
theorem rFX5_8 : rFk 5 (54, 5, 8, 0) := ⟨_, _, _, _, rKX5, by decide, rIn1 188 rfl rfl, ⟨rfl, rfl⟩⟩
set_option maxRecDepth 20000 in
theorem rFX5_9 : rFk 5 (58, 5, 9, 1) := ⟨_, _, _, _, rKX5, by decide, rIn1 189 rfl rfl, ⟨rfl, rfl⟩⟩
set_option maxRecDepth 20000 in
theorem rFX5_10 : rFk 5 (73, 3, 11, 0) := ⟨_, _, _, _, rKX3, by decide, rIn1 58 rfl rfl, ⟨rfl, rfl⟩⟩
set_option maxRecDepth 20000 in
theorem rFX5_11 : rFk 5 (80, 3, 6, 0) := ⟨_, _, _, _, rKX3, by decide, rIn1 46 rfl rfl, ⟨rfl, rfl⟩⟩
set_option maxRecDepth 20000 in
theorem rFX5_12 : rFk 5 (91, 3, 4, 2) := ⟨_, _, _, _, rKX3, by decide, rIn1 42 rfl rfl, ⟨rfl, fun _ => ⟨rfl, rfl⟩⟩⟩
set_option maxRecDepth 20000 in
theorem rFX5_13 : rFk 5 (102, 3, 0, 2) := ⟨_, _, _, _, rKX3, by decide, rIn1 34 rfl rfl, ⟨rfl, fun _ => ⟨rfl, rfl⟩⟩⟩
set_option maxRecDepth 20000 in
theorem rFX5_14 : rFk 5 (105, 3, 1, 2) := ⟨_, _, _, _, rKX3, by decide, rIn1 36 rfl rfl, ⟨rfl, fun _ => ⟨rfl, rfl⟩⟩⟩
set_option maxRecDepth 20000 in
theorem rFX5_15 : rFk 5 (108, 3, 2, 2) := ⟨_, _, _, _, rKX3, by decide, rIn1 38 rfl rfl, ⟨rfl, fun _ => ⟨rfl, rfl⟩⟩⟩
set_option maxRecDepth 20000 in
theorem rFX5_16 : rFk 5 (111, 3, 3, 2) := ⟨_, _, _, _, rKX3, by decide, rIn1 40 rfl rfl, ⟨rfl, fun _ => ⟨rfl, rfl⟩⟩⟩
set_option maxRecDepth 20000 in
theorem rFX5_17 : rFk 5 (139, 3, 9, 0) := ⟨_, _, _, _, rKX3, by decide, rIn1 53 rfl rfl, ⟨rfl, rfl⟩⟩
set_option maxRecDepth 20000 in
theorem rFX5_18 : rFk 5 (142, 3, 10, 0) := ⟨_, _, _, _, rKX3, by decide, rIn1 56 rfl rfl, ⟨rfl, rfl⟩⟩
set_option maxRecDepth 20000 in
theorem rFX5_19 : rFk 5 (161, 3, 8, 0) := ⟨_, _, _, _, rKX3, by decide, rIn1 50 rfl rfl, ⟨rfl, rfl⟩⟩
set_option maxRecDepth 20000 in
theorem rFX5_20 : rFk 5 (184, 1, 0, 2) := ⟨_, _, _, _, rKX1, by decide, rIn1 119 rfl rfl, ⟨rfl, fun _ => ⟨rfl, rfl⟩⟩⟩
set_option maxRecDepth 20000 in
theorem rFX5_21 : rFk 5 (213, 1, 1, 2) := ⟨_, _, _, _, rKX1, by decide, rIn1 121 rfl rfl, ⟨rfl, fun _ => ⟨rfl, rfl⟩⟩⟩
set_option maxRecDepth 20000 in
theorem rFX5_22 : rFk 5 (243, 2, 1, 2) := ⟨_, _, _, _, rKX2, by decide, rIn1 143 rfl rfl, ⟨rfl, fun _ => ⟨rfl, rfl⟩⟩⟩
set_option maxRecDepth 20000 in
theorem rFX5_23 : rFk 5 (244, 2, 2, 2) := ⟨_, _, _, _, rKX2, by decide, rIn1 145 rfl rfl, ⟨rfl, fun _ => ⟨rfl, rfl⟩⟩⟩
set_option maxRecDepth 20000 in
theorem rFX5_24 : rFk 5 (245, 2, 0, 2) := ⟨_, _, _, _, rKX2, by decide, rIn1 141 rfl rfl, ⟨rfl, fun _ => ⟨rfl, rfl⟩⟩⟩
set_option maxRecDepth 20000 in
theorem rFX5_25 : rFk 5 (258, 0, 1, 0) := ⟨_, _, _, _, rKX0, by decide, rIn1 162 rfl rfl, ⟨rfl, rfl⟩⟩
set_option maxRecDepth 20000 in
theorem rFX5_26 : rFk 5 (261, 0, 0, 2) := ⟨_, _, _, _, rKX0, by decide, rIn1 160 rfl rfl, ⟨rfl, fun _ => ⟨rfl, rfl⟩⟩⟩
set_option maxRecDepth 20000 in
theorem rFX5_27 : rFk 5 (267, 4, 1, 0) := ⟨_, _, _, _, rKX4, by decide, rIn1 93 rfl rfl, ⟨rfl, rfl⟩⟩
theorem rFX5 : ∀ q ∈ (lkF.getD 5 []), rFk 5 q := List.forall_mem_cons.mpr ⟨rFX5_0, List.forall_mem_cons.mpr ⟨rFX5_1, List.forall_mem_cons.mpr ⟨rFX5_2, List.forall_mem_cons.mpr ⟨rFX5_3, List.forall_mem_cons.mpr ⟨rFX5_4, List.forall_mem_cons.mpr ⟨rFX5_5, List.forall_mem_cons.mpr ⟨rFX5_6, List.forall_mem_cons.mpr ⟨rFX5_7, List.forall_mem_cons.mpr ⟨rFX5_8, List.forall_mem_cons.mpr ⟨rFX5_9, List.forall_mem_cons.mpr ⟨rFX5_10, List.forall_mem_cons.mpr ⟨rFX5_11, List.forall_mem_cons.mpr ⟨rFX5_12, List.forall_mem_cons.mpr ⟨rFX5_13, List.forall_mem_cons.mpr ⟨rFX5_14, List.forall_mem_cons.mpr ⟨rFX5_15, List.forall_mem_cons.mpr ⟨rFX5_16, List.forall_mem_cons.mpr ⟨rFX5_17, List.forall_mem_cons.mpr ⟨rFX5_18, List.forall_mem_cons.mpr ⟨rFX5_19, List.forall_mem_cons.mpr ⟨rFX5_20, List.forall_mem_cons.mpr ⟨rFX5_21, List.forall_mem_cons.mpr ⟨rFX5_22, List.forall_mem_cons.mpr ⟨rFX5_23, List.forall_mem_cons.mpr ⟨rFX5_24, List.forall_mem_cons.mpr ⟨rFX5_25, List.forall_mem_cons.mpr ⟨rFX5_26, List.forall_mem_cons.mpr ⟨rFX5_27, fun _ h => absurd h List.not_mem_nil⟩⟩⟩⟩⟩⟩⟩⟩⟩⟩⟩⟩⟩⟩⟩⟩⟩⟩⟩⟩⟩⟩⟩⟩⟩⟩⟩⟩
set_option maxRecDepth 20000 in
theorem rFX6_0 : rFk 6 (7, 6, 0, 2) := ⟨_, _, _, _, rKX6, by decide, rIn4 43 rfl rfl, ⟨rfl, fun _ => ⟨rfl, rfl⟩⟩⟩
set_option maxRecDepth 20000 in
theorem rFX6_1 : rFk 6 (13, 6, 1, 2) := ⟨_, _, _, _, rKX6, by decide, rIn4 44 rfl rfl, ⟨rfl, fun _ => ⟨rfl, rfl⟩⟩⟩
set_option maxRecDepth 20000 in
theorem rFX6_2 : rFk 6 (16, 6, 2, 2) := ⟨_, _, _, _, rKX6, by decide, rIn4 45 rfl rfl, ⟨rfl, fun _ => ⟨rfl, rfl⟩⟩⟩
set_option maxRecDepth 20000 in
theorem rFX6_3 : rFk 6 (19, 6, 3, 2) := ⟨_, _, _, _, rKX6, by decide, rIn4 46 rfl rfl, ⟨rfl, fun _ => ⟨rfl, rfl⟩⟩⟩
set_option maxRecDepth 20000 in
theorem rFX6_4 : rFk 6 (22, 6, 4, 2) := ⟨_, _, _, _, rKX6, by decide, rIn4 47 rfl rfl, ⟨rfl, fun _ => ⟨rfl, rfl⟩⟩⟩
set_option maxRecDepth 20000 in
theorem rFX6_5 : rFk 6 (25, 6, 6, 2) := ⟨_, _, _, _, rKX6, by decide, rIn4 49 rfl rfl, ⟨rfl, fun _ => ⟨rfl, rfl⟩⟩⟩
set_option maxRecDepth 20000 in
theorem rFX6_6 : rFk 6 (28, 6, 13, 2) := ⟨_, _, _, _, rKX6, by decide, rIn4 56 rfl rfl, ⟨rfl, fun _ => ⟨rfl, rfl⟩⟩⟩
set_option maxRecDepth 20000 in
theorem rFX6_7 : rFk 6 (31, 6, 15, 2) := ⟨_, _, _, _, rKX6, by decide, rIn4 58 rfl rfl, ⟨rfl, fun _ => ⟨rfl, rfl⟩⟩⟩
set_option maxRecDepth 20000 in
theorem rFX6_8 : rFk 6 (34, 6, 16, 2) := ⟨_, _, _, _, rKX6, by decide, rIn4 59 rfl rfl, ⟨rfl, fun _ => ⟨rfl, rfl⟩⟩⟩
set_option maxRecDepth 20000 in
theorem rFX6_9 : rFk 6 (37, 6, 17, 2) := ⟨_, _, _, _, rKX6, by decide, rIn4 60 rfl rfl, ⟨rfl, fun _ => ⟨rfl, rfl⟩⟩⟩
set_option maxRecDepth 20000 in
theorem rFX6_10 : rFk 6 (40, 6, 18, 2) := ⟨_, _, _, _, rKX6, by decide, rIn4 61 rfl rfl, ⟨rfl, fun _ => ⟨rfl, rfl⟩⟩⟩
set_option maxRecDepth 20000 in
theorem rFX6_11 : rFk 6 (43, 6, 19, 2) := ⟨_, _, _, _, rKX6, by decide, rIn4 62 rfl rfl, ⟨rfl, fun _ => ⟨rfl, rfl⟩⟩⟩
set_option maxRecDepth 20000 in
theorem rFX6_12 : rFk 6 (46, 6, 20, 2) := ⟨_, _, _, _, rKX6, by decide, rIn4 63 rfl rfl, ⟨rfl, fun _ => ⟨rfl, rfl⟩⟩⟩
set_option maxRecDepth 20000 in
theorem rFX6_13 : rFk 6 (49, 6, 21, 2) := ⟨_, _, _, _, rKX6, by decide, rIn4 64 rfl rfl, ⟨rfl, fun _ => ⟨rfl, rfl⟩⟩⟩
set_option maxRecDepth 20000 in
theorem rFX6_14 : rFk 6 (61, 6, 7, 0) := ⟨_, _, _, _, rKX6, by decide, rIn4 50 rfl rfl, ⟨rfl, rfl⟩⟩
set_option maxRecDepth 20000 in
theorem rFX6_15 : rFk 6 (67, 6, 10, 0) := ⟨_, _, _, _, rKX6, by decide, rIn4 53 rfl rfl, ⟨rfl, rfl⟩⟩
set_option maxRecDepth 20000 in
theorem rFX6_16 : rFk 6 (70, 6, 9, 0) := ⟨_, _, _, _, rKX6, by decide, rIn4 52 rfl rfl, ⟨rfl, rfl⟩⟩
set_option maxRecDepth 20000 in
theorem rFX6_17 : rFk 6 (84, 6, 8, 0) := ⟨_, _, _, _, rKX6, by decide, rIn4 51 rfl rfl, ⟨rfl, rfl⟩⟩
set_option maxRecDepth 20000 in
theorem rFX6_18 : rFk 6 (87, 6, 11, 0) := ⟨_, _, _, _, rKX6, by decide, rIn4 54 rfl rfl, ⟨rfl, rfl⟩⟩
set_option maxRecDepth 20000 in
theorem rFX6_19 : rFk 6 (90, 6, 12, 1) := ⟨_, _, _, _, rKX6, by decide, rIn4 55 rfl rfl, ⟨rfl, rfl⟩⟩
set_option maxRecDepth 20000 in
theorem rFX6_20 : rFk 6 (145, 6, 14, 0) := ⟨_, _, _, _, rKX6, by decide, rIn4 57 rfl rfl, ⟨rfl, rfl⟩⟩
set_option maxRecDepth 20000 in
theorem rFX6_21 : rFk 6 (281, 6, 22, 0) := ⟨_, _, _, _, rKX6, by decide, rIn4 65 rfl rfl, ⟨rfl, rfl⟩⟩
set_option maxRecDepth 20000 in
theorem rFX6_22 : rFk 6 (287, 6, 24, 0) := ⟨_, _, _, _, rKX6, by decide, rIn4 67 rfl rfl, ⟨rfl, rfl⟩⟩
set_option maxRecDepth 20000 in
theorem rFX6_23 : rFk 6 (293, 6, 23, 0) := ⟨_, _, _, _, rKX6, by decide, rIn4 66 rfl rfl, ⟨rfl, rfl⟩⟩
set_option maxRecDepth 20000 in
theorem rFX6_24 : rFk 6 (302, 6, 25, 0) := ⟨_, _, _, _, rKX6, by decide, rIn4 68 rfl rfl, ⟨rfl, rfl⟩⟩
set_option maxRecDepth 20000 in
theorem rFX6_25 : rFk 6 (308, 6, 26, 1) := ⟨_, _, _, _, rKX6, by decide, rIn4 69 rfl rfl, ⟨rfl, rfl⟩⟩
set_option maxRecDepth 20000 in
theorem rFX6_26 : rFk 6 (326, 6, 5, 1) := ⟨_, _, _, _, rKX6, by decide, rIn4 48 rfl rfl, ⟨rfl, rfl⟩⟩
theorem rFX6 : ∀ q ∈ (lkF.getD 6 []), rFk 6 q := List.forall_mem_cons.mpr ⟨rFX6_0, List.forall_mem_cons.mpr ⟨rFX6_1, List.forall_mem_cons.mpr ⟨rFX6_2, List.forall_mem_cons.mpr ⟨rFX6_3, List.forall_mem_cons.mpr ⟨rFX6_4, List.forall_mem_cons.mpr ⟨rFX6_5, List.forall_mem_cons.mpr ⟨rFX6_6, List.forall_mem_cons.mpr ⟨rFX6_7, List.forall_mem_cons.mpr ⟨rFX6_8, List.forall_mem_cons.mpr ⟨rFX6_9, List.forall_mem_cons.mpr ⟨rFX6_10, List.forall_mem_cons.mpr ⟨rFX6_11, List.forall_mem_cons.mpr ⟨rFX6_12, List.forall_mem_cons.mpr ⟨rFX6_13, List.forall_mem_cons.mpr ⟨rFX6_14, List.forall_mem_cons.mpr ⟨rFX6_15, List.forall_mem_cons.mpr ⟨rFX6_16, List.forall_mem_cons.mpr ⟨rFX6_17, List.forall_mem_cons.mpr ⟨rFX6_18, List.forall_mem_cons.mpr ⟨rFX6_19, List.forall_mem_cons.mpr ⟨rFX6_20, List.forall_mem_cons.mpr ⟨rFX6_21, List.forall_mem_cons.mpr ⟨rFX6_22, List.forall_mem_cons.mpr ⟨rFX6_23, List.forall_mem_cons.mpr ⟨rFX6_24, List.forall_mem_cons.mpr ⟨rFX6_25, List.forall_mem_cons.mpr ⟨rFX6_26, fun _ h => absurd h List.not_mem_nil⟩⟩⟩⟩⟩⟩⟩⟩⟩⟩⟩⟩⟩⟩⟩⟩⟩⟩⟩⟩⟩⟩⟩⟩⟩⟩⟩
theorem rFL : ∀ q ∈ (lkF.getD 7 []), rFk 7 q := fun q h => by cases h
theorem rFJ0 : ∀ q ∈ (lkF.getD 8 []), rFk 8 q := fun q h => by cases h
theorem rFJ1 : ∀ q ∈ (lkF.getD 9 []), rFk 9 q := fun q h => by cases h
theorem rFJ3 : ∀ q ∈ (lkF.getD 10 []), rFk 10 q := fun q h => by cases h
theorem rFJ6 : ∀ q ∈ (lkF.getD 11 []), rFk 11 q := fun q h => by cases h
theorem rFall : ∀ c l, lkF[c]? = some l → ∀ q ∈ l, rFk c q := fun c l h => match c, h with
  | 0, h => by cases h; exact rFX0
  | 1, h => by cases h; exact rFX1
  | 2, h => by cases h; exact rFX2
  | 3, h => by cases h; exact rFX3
  | 4, h => by cases h; exact rFX4
  | 5, h => by cases h; exact rFX5
  | 6, h => by cases h; exact rFX6
  | 7, h => by cases h; exact rFL
  | 8, h => by cases h; exact rFJ0
  | 9, h => by cases h; exact rFJ1
  | 10, h => by cases h; exact rFJ3
  | 11, h => by cases h; exact rFJ6
  | n + 12, h => by cases h
def rZk (c : Nat) (q : Nat × Bool) : Prop := Cond.fieldLink (rCn c) q.1 "java/lang/String" (cond q.2 "value" "code\x72") (cond q.2 "[B" "B") ∈ rTT
set_option maxRecDepth 20000 in
theorem rZall : ∀ c l, lkZ[c]? = some l → ∀ q ∈ l, rZk c q := fun c l h => match c, h with
  | 0, h => by cases h; exact fun _ h => absurd h List.not_mem_nil
  | 1, h => by cases h; exact fun _ h => absurd h List.not_mem_nil
  | 2, h => by cases h; exact fun _ h => absurd h List.not_mem_nil
  | 3, h => by cases h; exact fun _ h => absurd h List.not_mem_nil
  | 4, h => by cases h; exact fun _ h => absurd h List.not_mem_nil
  | 5, h => by cases h; exact fun _ h => absurd h List.not_mem_nil
  | 6, h => by cases h; exact fun _ h => absurd h List.not_mem_nil
  | 7, h => by cases h; exact fun _ h => absurd h List.not_mem_nil
  | 8, h => by cases h; exact List.forall_mem_cons.mpr ⟨rIn6 78 rfl rfl, List.forall_mem_cons.mpr ⟨rIn6 79 rfl rfl, fun _ h => absurd h List.not_mem_nil⟩⟩
  | 9, h => by cases h; exact fun _ h => absurd h List.not_mem_nil
  | 10, h => by cases h; exact fun _ h => absurd h List.not_mem_nil
  | 11, h => by cases h; exact fun _ h => absurd h List.not_mem_nil
  | n + 12, h => by cases h
def rIk (c : Nat) (q : Nat × Int32) : Prop := Cond.constant (rCn c) q.1 q.2 ∈ rTT
def rJk (c : Nat) (q : Nat × Int64) : Prop := Cond.constantLong (rCn c) q.1 q.2 ∈ rTT
set_option maxRecDepth 20000 in
theorem rIall : ∀ c l, lkI[c]? = some l → ∀ q ∈ l, rIk c q := fun c l h => match c, h with
  | 0, h => by cases h; exact fun _ h => absurd h List.not_mem_nil
  | 1, h => by cases h; exact fun _ h => absurd h List.not_mem_nil
  | 2, h => by cases h; exact fun _ h => absurd h List.not_mem_nil
  | 3, h => by cases h; exact List.forall_mem_cons.mpr ⟨rIn3 17 rfl rfl, fun _ h => absurd h List.not_mem_nil⟩
  | 4, h => by cases h; exact fun _ h => absurd h List.not_mem_nil
  | 5, h => by cases h; exact fun _ h => absurd h List.not_mem_nil
  | 6, h => by cases h; exact List.forall_mem_cons.mpr ⟨rIn5 90 rfl rfl, fun _ h => absurd h List.not_mem_nil⟩
  | 7, h => by cases h; exact fun _ h => absurd h List.not_mem_nil
  | 8, h => by cases h; exact fun _ h => absurd h List.not_mem_nil
  | 9, h => by cases h; exact fun _ h => absurd h List.not_mem_nil
  | 10, h => by cases h; exact fun _ h => absurd h List.not_mem_nil
  | 11, h => by cases h; exact List.forall_mem_cons.mpr ⟨rIn2 151 rfl rfl, List.forall_mem_cons.mpr ⟨rIn2 152 rfl rfl, List.forall_mem_cons.mpr ⟨rIn2 153 rfl rfl, fun _ h => absurd h List.not_mem_nil⟩⟩⟩
  | n + 12, h => by cases h
set_option maxRecDepth 20000 in
theorem rJall : ∀ c l, lkL[c]? = some l → ∀ q ∈ l, rJk c q := fun c l h => match c, h with
  | 0, h => by cases h; exact fun _ h => absurd h List.not_mem_nil
  | 1, h => by cases h; exact fun _ h => absurd h List.not_mem_nil
  | 2, h => by cases h; exact fun _ h => absurd h List.not_mem_nil
  | 3, h => by cases h; exact fun _ h => absurd h List.not_mem_nil
  | 4, h => by cases h; exact fun _ h => absurd h List.not_mem_nil
  | 5, h => by cases h; exact List.forall_mem_cons.mpr ⟨rIn3 115 rfl rfl, List.forall_mem_cons.mpr ⟨rIn3 122 rfl rfl, fun _ h => absurd h List.not_mem_nil⟩⟩
  | 6, h => by cases h; exact List.forall_mem_cons.mpr ⟨rIn4 129 rfl rfl, List.forall_mem_cons.mpr ⟨rIn4 133 rfl rfl, List.forall_mem_cons.mpr ⟨rIn4 211 rfl rfl, List.forall_mem_cons.mpr ⟨rIn4 212 rfl rfl, List.forall_mem_cons.mpr ⟨rIn4 213 rfl rfl, List.forall_mem_cons.mpr ⟨rIn4 226 rfl rfl, List.forall_mem_cons.mpr ⟨rIn4 238 rfl rfl, List.forall_mem_cons.mpr ⟨rIn5 66 rfl rfl, List.forall_mem_cons.mpr ⟨rIn5 95 rfl rfl, List.forall_mem_cons.mpr ⟨rIn5 140 rfl rfl, List.forall_mem_cons.mpr ⟨rIn5 183 rfl rfl, List.forall_mem_cons.mpr ⟨rIn5 187 rfl rfl, List.forall_mem_cons.mpr ⟨rIn5 199 rfl rfl, List.forall_mem_cons.mpr ⟨rIn5 208 rfl rfl, List.forall_mem_cons.mpr ⟨rIn6 8 rfl rfl, List.forall_mem_cons.mpr ⟨rIn6 9 rfl rfl, fun _ h => absurd h List.not_mem_nil⟩⟩⟩⟩⟩⟩⟩⟩⟩⟩⟩⟩⟩⟩⟩⟩
  | 7, h => by cases h; exact List.forall_mem_cons.mpr ⟨rIn6 77 rfl rfl, fun _ h => absurd h List.not_mem_nil⟩
  | 8, h => by cases h; exact fun _ h => absurd h List.not_mem_nil
  | 9, h => by cases h; exact fun _ h => absurd h List.not_mem_nil
  | 10, h => by cases h; exact fun _ h => absurd h List.not_mem_nil
  | 11, h => by cases h; exact fun _ h => absurd h List.not_mem_nil
  | n + 12, h => by cases h
def rStrs : List (Nat × String) := [(102, "thing"), (104, "vessel"), (106, "rubbish"), (108, "mosaic"), (110, "shoe"), (112, "sand"), (71, "in"), (77, "worth"), (79, "truth"), (114, "reade\x72"), (116, "opinion"), (117, "dig"), (119, "shine"), (121, "filth"), (123, "slip")]
set_option maxRecDepth 20000 in
theorem rSall : ∀ c l, lkS[c]? = some l → ∀ q ∈ l, rCn c = "SampleLayers$Text" ∧ ∃ tx, rStrs[q.2]? = some (q.1, tx) ∧ q.2 < 15 := fun c l h => match c, h with
  | 0, h => by cases h; exact fun _ h => absurd h List.not_mem_nil
  | 1, h => by cases h; exact fun _ h => absurd h List.not_mem_nil
  | 2, h => by cases h; exact fun _ h => absurd h List.not_mem_nil
  | 3, h => by cases h; exact fun _ h => absurd h List.not_mem_nil
  | 4, h => by cases h; exact List.forall_mem_cons.mpr ⟨⟨rfl, _, rfl, by decide⟩, List.forall_mem_cons.mpr ⟨⟨rfl, _, rfl, by decide⟩, List.forall_mem_cons.mpr ⟨⟨rfl, _, rfl, by decide⟩, List.forall_mem_cons.mpr ⟨⟨rfl, _, rfl, by decide⟩, List.forall_mem_cons.mpr ⟨⟨rfl, _, rfl, by decide⟩, List.forall_mem_cons.mpr ⟨⟨rfl, _, rfl, by decide⟩, List.forall_mem_cons.mpr ⟨⟨rfl, _, rfl, by decide⟩, List.forall_mem_cons.mpr ⟨⟨rfl, _, rfl, by decide⟩, List.forall_mem_cons.mpr ⟨⟨rfl, _, rfl, by decide⟩, List.forall_mem_cons.mpr ⟨⟨rfl, _, rfl, by decide⟩, List.forall_mem_cons.mpr ⟨⟨rfl, _, rfl, by decide⟩, List.forall_mem_cons.mpr ⟨⟨rfl, _, rfl, by decide⟩, List.forall_mem_cons.mpr ⟨⟨rfl, _, rfl, by decide⟩, List.forall_mem_cons.mpr ⟨⟨rfl, _, rfl, by decide⟩, List.forall_mem_cons.mpr ⟨⟨rfl, _, rfl, by decide⟩, fun _ h => absurd h List.not_mem_nil⟩⟩⟩⟩⟩⟩⟩⟩⟩⟩⟩⟩⟩⟩⟩
  | 5, h => by cases h; exact fun _ h => absurd h List.not_mem_nil
  | 6, h => by cases h; exact fun _ h => absurd h List.not_mem_nil
  | 7, h => by cases h; exact fun _ h => absurd h List.not_mem_nil
  | 8, h => by cases h; exact fun _ h => absurd h List.not_mem_nil
  | 9, h => by cases h; exact fun _ h => absurd h List.not_mem_nil
  | 10, h => by cases h; exact fun _ h => absurd h List.not_mem_nil
  | 11, h => by cases h; exact fun _ h => absurd h List.not_mem_nil
  | n + 12, h => by cases h
set_option maxRecDepth 20000 in
theorem rCnew : ∀ c l, lkC[c]? = some l → ∀ q ∈ l, q.2 < 7 ∧ Cond.classLink (rCn c) q.1 (rCn q.2) ∈ rTT := fun c l h => match c, h with
  | 0, h => by cases h; exact fun _ h => absurd h List.not_mem_nil
  | 1, h => by cases h; exact fun _ h => absurd h List.not_mem_nil
  | 2, h => by cases h; exact fun _ h => absurd h List.not_mem_nil
  | 3, h => by cases h; exact fun _ h => absurd h List.not_mem_nil
  | 4, h => by cases h; exact fun _ h => absurd h List.not_mem_nil
  | 5, h => by cases h; exact List.forall_mem_cons.mpr ⟨⟨by decide, rIn1 23 rfl rfl⟩, List.forall_mem_cons.mpr ⟨⟨by decide, rIn1 85 rfl rfl⟩, List.forall_mem_cons.mpr ⟨⟨by decide, rIn1 112 rfl rfl⟩, List.forall_mem_cons.mpr ⟨⟨by decide, rIn1 130 rfl rfl⟩, List.forall_mem_cons.mpr ⟨⟨by decide, rIn1 153 rfl rfl⟩, fun _ h => absurd h List.not_mem_nil⟩⟩⟩⟩⟩
  | 6, h => by cases h; exact fun _ h => absurd h List.not_mem_nil
  | 7, h => by cases h; exact List.forall_mem_cons.mpr ⟨⟨by decide, rIn1 15 rfl rfl⟩, List.forall_mem_cons.mpr ⟨⟨by decide, rIn4 33 rfl rfl⟩, fun _ h => absurd h List.not_mem_nil⟩⟩
  | 8, h => by cases h; exact fun _ h => absurd h List.not_mem_nil
  | 9, h => by cases h; exact fun _ h => absurd h List.not_mem_nil
  | 10, h => by cases h; exact fun _ h => absurd h List.not_mem_nil
  | 11, h => by cases h; exact fun _ h => absurd h List.not_mem_nil
  | n + 12, h => by cases h
/-- the nest's links -/
abbrev rN0 : Cond := .methodLinkNest "SampleLayers$Text" 99 ⟨"SampleLayers", "mostOfLaw", "(I)I"⟩ "SampleLayers"
abbrev rN1 : Cond := .methodLinkNest "SampleLayers$Text" 91 ⟨"SampleLayers", "within", "(II)Z"⟩ "SampleLayers"
abbrev rN2 : Cond := .methodLinkNest "SampleLayers$Street" 92 ⟨"SampleLayers", "held", "(II)I"⟩ "SampleLayers"
abbrev rN3 : Cond := .methodLinkNest "SampleLayers$Acts" 46 ⟨"SampleLayers", "within", "(II)Z"⟩ "SampleLayers"
abbrev rN4 : Cond := .fieldLinkNest "SampleLayers$Acts" 43 "SampleLayers" "UNDER" "[I" "SampleLayers"
def rNs : List Cond := [rN0, rN1, rN2, rN3, rN4]
theorem rN0_in : rN0 ∈ lw_tbl := List.mem_of_getElem? (i := 412) (by decide +kernel)
theorem rN1_in : rN1 ∈ lw_tbl := List.mem_of_getElem? (i := 418) (by decide +kernel)
theorem rN2_in : rN2 ∈ lw_tbl := List.mem_of_getElem? (i := 543) (by decide +kernel)
theorem rN3_in : rN3 ∈ lw_tbl := List.mem_of_getElem? (i := 783) (by decide +kernel)
theorem rN4_in : rN4 ∈ lw_tbl := List.mem_of_getElem? (i := 786) (by decide +kernel)
/-- which static: declarer, name, descriptor, value -/
def rGs (v : rPV) : String × String × String := match v with
  | .inl _ => ("java/lang/String", "COMPACT_STRINGS", "Z")
  | .inr (.inr (.inr 1)) => ("SampleLayers", "UNDE\x52", "[I")
  | .inr (.inr (.inr 2)) => ("SampleLayers$Acts", "OWN_BODIES", "[I")
  | _ => ("jdk/internal/util/Preconditions", "SIOOBE_FORMATTE\x52", "Ljava/util/function/BiFunction;")
def rGk (c : Nat) (q : Nat × rPV × Bool) : Prop := (q.2.1 = pI 1 ∨ q.2.1 = pC 1 ∨ q.2.1 = pC 2 ∨ q.2.1 = pC 3) ∧ match q.2.2 with
  | false => Cond.fieldLink (rCn c) q.1 (rGs q.2.1).1 (rGs q.2.1).2.1 (rGs q.2.1).2.2 ∈ rTT
  | true => Cond.fieldLinkNest (rCn c) q.1 (rGs q.2.1).1 (rGs q.2.1).2.1 (rGs q.2.1).2.2 "SampleLayers" ∈ rNs
set_option maxRecDepth 20000 in
theorem rGall : ∀ c l, lkG[c]? = some l → ∀ q ∈ l, rGk c q := fun c l h => match c, h with
  | 0, h => by cases h; exact List.forall_mem_cons.mpr ⟨⟨Or.inr (Or.inl rfl), List.mem_of_getElem? (i := 4) rfl⟩, List.forall_mem_cons.mpr ⟨⟨Or.inr (Or.inr (Or.inl rfl)), rIn3 233 rfl rfl⟩, fun _ h => absurd h List.not_mem_nil⟩⟩
  | 1, h => by cases h; exact fun _ h => absurd h List.not_mem_nil
  | 2, h => by cases h; exact fun _ h => absurd h List.not_mem_nil
  | 3, h => by cases h; exact fun _ h => absurd h List.not_mem_nil
  | 4, h => by cases h; exact fun _ h => absurd h List.not_mem_nil
  | 5, h => by cases h; exact List.forall_mem_cons.mpr ⟨⟨Or.inr (Or.inl rfl), rIn3 207 rfl rfl⟩, fun _ h => absurd h List.not_mem_nil⟩
  | 6, h => by cases h; exact fun _ h => absurd h List.not_mem_nil
  | 7, h => by cases h; exact fun _ h => absurd h List.not_mem_nil
  | 8, h => by cases h; exact List.forall_mem_cons.mpr ⟨⟨Or.inl rfl, rIn2 16 rfl rfl⟩, List.forall_mem_cons.mpr ⟨⟨Or.inr (Or.inr (Or.inr rfl)), rIn2 32 rfl rfl⟩, fun _ h => absurd h List.not_mem_nil⟩⟩
  | 9, h => by cases h; exact fun _ h => absurd h List.not_mem_nil
  | 10, h => by cases h; exact fun _ h => absurd h List.not_mem_nil
  | 11, h => by cases h; exact fun _ h => absurd h List.not_mem_nil
  | n + 12, h => by cases h
def rOkM (M : rM) (i : Nat) : Prop := M.1 = i ∧ Cond.code (rYn i) (rBy i) M.2.2.2.2.2.2.2.1 M.2.2.2.2.1 ∈ rTT ∧ Cond.initialized (rYn i).cls ∈ rTT ∧ (rYn i).cls = rCn M.2.2.1 ∧ plainName (rYn i).cls = true ∧ ((rYn i).cls ≠ "java/lang/invoke/MethodHandle" ∧ (rYn i).cls ≠ "java/lang/invoke/VarHandle") ∧ (M.2.2.2.1 = true ↔ (rYn i).name = "<init>") ∧ M.2.2.2.2.2.2.2.1 ≤ 40 ∧ (M.2.2.2.1 = true → M.2.2.2.2.1 = none)
set_option maxRecDepth 20000 in
theorem rOk0 : rOkM mAc_init 0 := ⟨rfl, rIn1 157 rfl rfl, rIn1 6 rfl rfl, rfl, by decide +kernel, by decide +kernel, by decide +kernel, by decide, by decide⟩
set_option maxRecDepth 20000 in
theorem rOk1 : rOkM mAc_clear 1 := ⟨rfl, rIn3 216 rfl rfl, rIn1 6 rfl rfl, rfl, by decide +kernel, by decide +kernel, by decide +kernel, by decide, by decide⟩
set_option maxRecDepth 20000 in
theorem rOk2 : rOkM mAc_holdOne 2 := ⟨rfl, rIn3 220 rfl rfl, rIn1 6 rfl rfl, rfl, by decide +kernel, by decide +kernel, by decide +kernel, by decide, by decide⟩
set_option maxRecDepth 20000 in
theorem rOk3 : rOkM mAc_answer 3 := ⟨rfl, rIn3 224 rfl rfl, rIn1 6 rfl rfl, rfl, by decide +kernel, by decide +kernel, by decide +kernel, by decide, by decide⟩
set_option maxRecDepth 20000 in
theorem rOk4 : rOkM mAc_own 4 := ⟨rfl, rIn3 228 rfl rfl, rIn1 6 rfl rfl, rfl, by decide +kernel, by decide +kernel, by decide +kernel, by decide, by decide⟩
set_option maxRecDepth 20000 in
theorem rOk5 : rOkM mAc_inherited 5 := ⟨rfl, rIn4 11 rfl rfl, rIn1 6 rfl rfl, rfl, by decide +kernel, by decide +kernel, by decide +kernel, by decide, by decide⟩
set_option maxRecDepth 20000 in
theorem rOk6 : rOkM mAc_bodyFor 6 := ⟨rfl, rIn3 231 rfl rfl, rIn1 6 rfl rfl, rfl, by decide +kernel, by decide +kernel, by decide +kernel, by decide, by decide⟩
set_option maxRecDepth 20000 in
theorem rOk7 : rOkM mAc_run 7 := ⟨rfl, rIn3 239 rfl rfl, rIn1 6 rfl rfl, rfl, by decide +kernel, by decide +kernel, by decide +kernel, by decide, by decide⟩
set_option maxRecDepth 20000 in
theorem rOk8 : rOkM mAc_part 8 := ⟨rfl, rIn4 7 rfl rfl, rIn1 6 rfl rfl, rfl, by decide +kernel, by decide +kernel, by decide +kernel, by decide, by decide⟩
set_option maxRecDepth 20000 in
theorem rOk9 : rOkM mAc_note 9 := ⟨rfl, rIn4 3 rfl rfl, rIn1 6 rfl rfl, rfl, by decide +kernel, by decide +kernel, by decide +kernel, by decide, by decide⟩
set_option maxRecDepth 20000 in
theorem rOk10 : rOkM mSe_init 10 := ⟨rfl, rIn1 116 rfl rfl, rIn1 4 rfl rfl, rfl, by decide +kernel, by decide +kernel, by decide +kernel, by decide, by decide⟩
set_option maxRecDepth 20000 in
theorem rOk11 : rOkM mSe_begin 11 := ⟨rfl, rIn3 166 rfl rfl, rIn1 4 rfl rfl, rfl, by decide +kernel, by decide +kernel, by decide +kernel, by decide, by decide⟩
set_option maxRecDepth 20000 in
theorem rOk12 : rOkM mSe_holds 12 := ⟨rfl, rIn3 174 rfl rfl, rIn1 4 rfl rfl, rfl, by decide +kernel, by decide +kernel, by decide +kernel, by decide, by decide⟩
set_option maxRecDepth 20000 in
theorem rOk13 : rOkM mSe_number 13 := ⟨rfl, rIn3 110 rfl rfl, rIn1 4 rfl rfl, rfl, by decide +kernel, by decide +kernel, by decide +kernel, by decide, by decide⟩
set_option maxRecDepth 20000 in
theorem rOk14 : rOkM mSe_write 14 := ⟨rfl, rIn3 178 rfl rfl, rIn1 4 rfl rfl, rfl, by decide +kernel, by decide +kernel, by decide +kernel, by decide, by decide⟩
set_option maxRecDepth 20000 in
theorem rOk15 : rOkM mSf_init 15 := ⟨rfl, rIn1 134 rfl rfl, rIn1 5 rfl rfl, rfl, by decide +kernel, by decide +kernel, by decide +kernel, by decide, by decide⟩
set_option maxRecDepth 20000 in
theorem rOk16 : rOkM mSf_clear 16 := ⟨rfl, rIn1 139 rfl rfl, rIn1 5 rfl rfl, rfl, by decide +kernel, by decide +kernel, by decide +kernel, by decide, by decide⟩
set_option maxRecDepth 20000 in
theorem rOk17 : rOkM mSf_holdThing 17 := ⟨rfl, rIn3 190 rfl rfl, rIn1 5 rfl rfl, rfl, by decide +kernel, by decide +kernel, by decide +kernel, by decide, by decide⟩
set_option maxRecDepth 20000 in
theorem rOk18 : rOkM mSf_holdRow 18 := ⟨rfl, rIn3 194 rfl rfl, rIn1 5 rfl rfl, rfl, by decide +kernel, by decide +kernel, by decide +kernel, by decide, by decide⟩
set_option maxRecDepth 20000 in
theorem rOk19 : rOkM mSf_holdsRow 19 := ⟨rfl, rIn3 203 rfl rfl, rIn1 5 rfl rfl, rfl, by decide +kernel, by decide +kernel, by decide +kernel, by decide, by decide⟩
set_option maxRecDepth 20000 in
theorem rOk20 : rOkM mSt_init 20 := ⟨rfl, rIn1 27 rfl rfl, rIn1 2 rfl rfl, rfl, by decide +kernel, by decide +kernel, by decide +kernel, by decide, by decide⟩
set_option maxRecDepth 20000 in
theorem rOk21 : rOkM mSt_begin 21 := ⟨rfl, rIn1 32 rfl rfl, rIn1 2 rfl rfl, rfl, by decide +kernel, by decide +kernel, by decide +kernel, by decide, by decide⟩
set_option maxRecDepth 20000 in
theorem rOk22 : rOkM mSt_become 22 := ⟨rfl, rIn2 117 rfl rfl, rIn1 2 rfl rfl, rfl, by decide +kernel, by decide +kernel, by decide +kernel, by decide, by decide⟩
set_option maxRecDepth 20000 in
theorem rOk23 : rOkM mSt_has 23 := ⟨rfl, rIn2 143 rfl rfl, rIn1 2 rfl rfl, rfl, by decide +kernel, by decide +kernel, by decide +kernel, by decide, by decide⟩
set_option maxRecDepth 20000 in
theorem rOk24 : rOkM mSt_lies 24 := ⟨rfl, rIn2 188 rfl rfl, rIn1 2 rfl rfl, rfl, by decide +kernel, by decide +kernel, by decide +kernel, by decide, by decide⟩
set_option maxRecDepth 20000 in
theorem rOk25 : rOkM mSt_add 25 := ⟨rfl, rIn2 83 rfl rfl, rIn1 2 rfl rfl, rfl, by decide +kernel, by decide +kernel, by decide +kernel, by decide, by decide⟩
set_option maxRecDepth 20000 in
theorem rOk26 : rOkM mSt_layIn 26 := ⟨rfl, rIn2 87 rfl rfl, rIn1 2 rfl rfl, rfl, by decide +kernel, by decide +kernel, by decide +kernel, by decide, by decide⟩
set_option maxRecDepth 20000 in
theorem rOk27 : rOkM mSt_setLying 27 := ⟨rfl, rIn2 192 rfl rfl, rIn1 2 rfl rfl, rfl, by decide +kernel, by decide +kernel, by decide +kernel, by decide, by decide⟩
set_option maxRecDepth 20000 in
theorem rOk28 : rOkM mSt_setIn 28 := ⟨rfl, rIn2 208 rfl rfl, rIn1 2 rfl rfl, rfl, by decide +kernel, by decide +kernel, by decide +kernel, by decide, by decide⟩
set_option maxRecDepth 20000 in
theorem rOk29 : rOkM mSt_setAbove 29 := ⟨rfl, rIn2 147 rfl rfl, rIn1 2 rfl rfl, rfl, by decide +kernel, by decide +kernel, by decide +kernel, by decide, by decide⟩
set_option maxRecDepth 20000 in
theorem rOk30 : rOkM mSt_uppermost 30 := ⟨rfl, rIn2 212 rfl rfl, rIn1 2 rfl rfl, rfl, by decide +kernel, by decide +kernel, by decide +kernel, by decide, by decide⟩
set_option maxRecDepth 20000 in
theorem rOk31 : rOkM mSt_worthLying 31 := ⟨rfl, rIn3 34 rfl rfl, rIn1 2 rfl rfl, rfl, by decide +kernel, by decide +kernel, by decide +kernel, by decide, by decide⟩
set_option maxRecDepth 20000 in
theorem rOk32 : rOkM mSt_pitsInUse 32 := ⟨rfl, rIn4 23 rfl rfl, rIn1 2 rfl rfl, rfl, by decide +kernel, by decide +kernel, by decide +kernel, by decide, by decide⟩
set_option maxRecDepth 20000 in
theorem rOk33 : rOkM mSt_cover 33 := ⟨rfl, rIn3 38 rfl rfl, rIn1 2 rfl rfl, rfl, by decide +kernel, by decide +kernel, by decide +kernel, by decide, by decide⟩
set_option maxRecDepth 20000 in
theorem rOk34 : rOkM mSt_kindsIn 34 := ⟨rfl, rIn3 42 rfl rfl, rIn1 2 rfl rfl, rfl, by decide +kernel, by decide +kernel, by decide +kernel, by decide, by decide⟩
set_option maxRecDepth 20000 in
theorem rOk35 : rOkM mSt_speaking 35 := ⟨rfl, rIn2 161 rfl rfl, rIn1 2 rfl rfl, rfl, by decide +kernel, by decide +kernel, by decide +kernel, by decide, by decide⟩
set_option maxRecDepth 20000 in
theorem rOk36 : rOkM mSt_hiding 36 := ⟨rfl, rIn2 165 rfl rfl, rIn1 2 rfl rfl, rfl, by decide +kernel, by decide +kernel, by decide +kernel, by decide, by decide⟩
set_option maxRecDepth 20000 in
theorem rOk37 : rOkM mSt_passYears 37 := ⟨rfl, rIn2 220 rfl rfl, rIn1 2 rfl rfl, rfl, by decide +kernel, by decide +kernel, by decide +kernel, by decide, by decide⟩
set_option maxRecDepth 20000 in
theorem rOk38 : rOkM mSt_passYear 38 := ⟨rfl, rIn2 224 rfl rfl, rIn1 2 rfl rfl, rfl, by decide +kernel, by decide +kernel, by decide +kernel, by decide, by decide⟩
set_option maxRecDepth 20000 in
theorem rOk39 : rOkM mSt_dig 39 := ⟨rfl, rIn2 228 rfl rfl, rIn1 2 rfl rfl, rfl, by decide +kernel, by decide +kernel, by decide +kernel, by decide, by decide⟩
set_option maxRecDepth 20000 in
theorem rOk40 : rOkM mSt_passDrawnYear 40 := ⟨rfl, rIn3 12 rfl rfl, rIn1 2 rfl rfl, rfl, by decide +kernel, by decide +kernel, by decide +kernel, by decide, by decide⟩
set_option maxRecDepth 20000 in
theorem rOk41 : rOkM mSt_draw 41 := ⟨rfl, rIn3 16 rfl rfl, rIn1 2 rfl rfl, rfl, by decide +kernel, by decide +kernel, by decide +kernel, by decide, by decide⟩
set_option maxRecDepth 20000 in
theorem rOk42 : rOkM mTx_init 42 := ⟨rfl, rIn1 89 rfl rfl, rIn1 3 rfl rfl, rfl, by decide +kernel, by decide +kernel, by decide +kernel, by decide, by decide⟩
set_option maxRecDepth 20000 in
theorem rOk43 : rOkM mTx_clear 43 := ⟨rfl, rIn2 113 rfl rfl, rIn1 3 rfl rfl, rfl, by decide +kernel, by decide +kernel, by decide +kernel, by decide, by decide⟩
set_option maxRecDepth 20000 in
theorem rOk44 : rOkM mTx_append 44 := ⟨rfl, rIn1 218 rfl rfl, rIn1 3 rfl rfl, rfl, by decide +kernel, by decide +kernel, by decide +kernel, by decide, by decide⟩
set_option maxRecDepth 20000 in
theorem rOk45 : rOkM mTx_readInto 45 := ⟨rfl, rIn1 226 rfl rfl, rIn1 3 rfl rfl, rfl, by decide +kernel, by decide +kernel, by decide +kernel, by decide, by decide⟩
set_option maxRecDepth 20000 in
theorem rOk46 : rOkM mTx_readStatement 46 := ⟨rfl, rIn1 238 rfl rfl, rIn1 3 rfl rfl, rfl, by decide +kernel, by decide +kernel, by decide +kernel, by decide, by decide⟩
set_option maxRecDepth 20000 in
theorem rOk47 : rOkM mTx_readThing 47 := ⟨rfl, rIn2 64 rfl rfl, rIn1 3 rfl rfl, rfl, by decide +kernel, by decide +kernel, by decide +kernel, by decide, by decide⟩
set_option maxRecDepth 20000 in
theorem rOk48 : rOkM mTx_apply 48 := ⟨rfl, rIn2 106 rfl rfl, rIn1 3 rfl rfl, rfl, by decide +kernel, by decide +kernel, by decide +kernel, by decide, by decide⟩
set_option maxRecDepth 20000 in
theorem rOk49 : rOkM mTx_mostOfSetting 49 := ⟨rfl, rIn2 100 rfl rfl, rIn1 3 rfl rfl, rfl, by decide +kernel, by decide +kernel, by decide +kernel, by decide, by decide⟩
set_option maxRecDepth 20000 in
theorem rOk50 : rOkM mTx_kindNamed 50 := ⟨rfl, rIn2 2 rfl rfl, rIn1 3 rfl rfl, rfl, by decide +kernel, by decide +kernel, by decide +kernel, by decide, by decide⟩
set_option maxRecDepth 20000 in
theorem rOk51 : rOkM mTx_settingNamed 51 := ⟨rfl, rIn2 91 rfl rfl, rIn1 3 rfl rfl, rfl, by decide +kernel, by decide +kernel, by decide +kernel, by decide, by decide⟩
set_option maxRecDepth 20000 in
theorem rOk52 : rOkM mTx_readNumber 52 := ⟨rfl, rIn2 73 rfl rfl, rIn1 3 rfl rfl, rfl, by decide +kernel, by decide +kernel, by decide +kernel, by decide, by decide⟩
set_option maxRecDepth 20000 in
theorem rOk53 : rOkM mTx_needEndOfStatement 53 := ⟨rfl, rIn2 79 rfl rfl, rIn1 3 rfl rfl, rfl, by decide +kernel, by decide +kernel, by decide +kernel, by decide, by decide⟩
set_option maxRecDepth 20000 in
theorem rOk54 : rOkM mTx_fail 54 := ⟨rfl, rIn2 68 rfl rfl, rIn1 3 rfl rfl, rfl, by decide +kernel, by decide +kernel, by decide +kernel, by decide, by decide⟩
set_option maxRecDepth 20000 in
theorem rOk55 : rOkM mTx_next 55 := ⟨rfl, rIn1 231 rfl rfl, rIn1 3 rfl rfl, rfl, by decide +kernel, by decide +kernel, by decide +kernel, by decide, by decide⟩
set_option maxRecDepth 20000 in
theorem rOk56 : rOkM mTx_sortOf 56 := ⟨rfl, rIn1 234 rfl rfl, rIn1 3 rfl rfl, rfl, by decide +kernel, by decide +kernel, by decide +kernel, by decide, by decide⟩
set_option maxRecDepth 20000 in
theorem rOk57 : rOkM mTx_isName 57 := ⟨rfl, rIn2 7 rfl rfl, rIn1 3 rfl rfl, rfl, by decide +kernel, by decide +kernel, by decide +kernel, by decide, by decide⟩
set_option maxRecDepth 20000 in
theorem rOk58 : rOkM mLa_init 58 := ⟨rfl, rIn1 19 rfl rfl, rIn1 1 rfl rfl, rfl, by decide +kernel, by decide +kernel, by decide +kernel, by decide, by decide⟩
set_option maxRecDepth 20000 in
theorem rOk59 : rOkM mLa_feed 59 := ⟨rfl, rIn1 214 rfl rfl, rIn1 1 rfl rfl, rfl, by decide +kernel, by decide +kernel, by decide +kernel, by decide, by decide⟩
set_option maxRecDepth 20000 in
theorem rOk60 : rOkM mLa_street 60 := ⟨rfl, rIn1 222 rfl rfl, rIn1 1 rfl rfl, rfl, by decide +kernel, by decide +kernel, by decide +kernel, by decide, by decide⟩
set_option maxRecDepth 20000 in
theorem rOk61 : rOkM mLa_set 61 := ⟨rfl, rIn2 124 rfl rfl, rIn1 1 rfl rfl, rfl, by decide +kernel, by decide +kernel, by decide +kernel, by decide, by decide⟩
set_option maxRecDepth 20000 in
theorem rOk62 : rOkM mLa_lawOf 62 := ⟨rfl, rIn2 130 rfl rfl, rIn1 1 rfl rfl, rfl, by decide +kernel, by decide +kernel, by decide +kernel, by decide, by decide⟩
set_option maxRecDepth 20000 in
theorem rOk63 : rOkM mLa_thing 63 := ⟨rfl, rIn2 134 rfl rfl, rIn1 1 rfl rfl, rfl, by decide +kernel, by decide +kernel, by decide +kernel, by decide, by decide⟩
set_option maxRecDepth 20000 in
theorem rOk64 : rOkM mLa_of 64 := ⟨rfl, rIn2 139 rfl rfl, rIn1 1 rfl rfl, rfl, by decide +kernel, by decide +kernel, by decide +kernel, by decide, by decide⟩
set_option maxRecDepth 20000 in
theorem rOk65 : rOkM mLa_does 65 := ⟨rfl, rIn2 157 rfl rfl, rIn1 1 rfl rfl, rfl, by decide +kernel, by decide +kernel, by decide +kernel, by decide, by decide⟩
set_option maxRecDepth 20000 in
theorem rOk66 : rOkM mLa_mind 66 := ⟨rfl, rIn2 171 rfl rfl, rIn1 1 rfl rfl, rfl, by decide +kernel, by decide +kernel, by decide +kernel, by decide, by decide⟩
set_option maxRecDepth 20000 in
theorem rOk67 : rOkM mLa_value 67 := ⟨rfl, rIn2 175 rfl rfl, rIn1 1 rfl rfl, rfl, by decide +kernel, by decide +kernel, by decide +kernel, by decide, by decide⟩
set_option maxRecDepth 20000 in
theorem rOk68 : rOkM mLa_lay 68 := ⟨rfl, rIn2 179 rfl rfl, rIn1 1 rfl rfl, rfl, by decide +kernel, by decide +kernel, by decide +kernel, by decide, by decide⟩
set_option maxRecDepth 20000 in
theorem rOk69 : rOkM mLa_take 69 := ⟨rfl, rIn2 184 rfl rfl, rIn1 1 rfl rfl, rfl, by decide +kernel, by decide +kernel, by decide +kernel, by decide, by decide⟩
set_option maxRecDepth 20000 in
theorem rOk70 : rOkM mLa_bring 70 := ⟨rfl, rIn2 196 rfl rfl, rIn1 1 rfl rfl, rfl, by decide +kernel, by decide +kernel, by decide +kernel, by decide, by decide⟩
set_option maxRecDepth 20000 in
theorem rOk71 : rOkM mLa_think 71 := ⟨rfl, rIn2 200 rfl rfl, rIn1 1 rfl rfl, rfl, by decide +kernel, by decide +kernel, by decide +kernel, by decide, by decide⟩
set_option maxRecDepth 20000 in
theorem rOk72 : rOkM mLa_pit 72 := ⟨rfl, rIn2 204 rfl rfl, rIn1 1 rfl rfl, rfl, by decide +kernel, by decide +kernel, by decide +kernel, by decide, by decide⟩
set_option maxRecDepth 20000 in
theorem rOk73 : rOkM mLa_years 73 := ⟨rfl, rIn2 216 rfl rfl, rIn1 1 rfl rfl, rfl, by decide +kernel, by decide +kernel, by decide +kernel, by decide, by decide⟩
set_option maxRecDepth 20000 in
theorem rOk74 : rOkM mLa_seed 74 := ⟨rfl, rIn3 4 rfl rfl, rIn1 1 rfl rfl, rfl, by decide +kernel, by decide +kernel, by decide +kernel, by decide, by decide⟩
set_option maxRecDepth 20000 in
theorem rOk75 : rOkM mLa_year 75 := ⟨rfl, rIn3 8 rfl rfl, rIn1 1 rfl rfl, rfl, by decide +kernel, by decide +kernel, by decide +kernel, by decide, by decide⟩
set_option maxRecDepth 20000 in
theorem rOk76 : rOkM mLa_luck 76 := ⟨rfl, rIn3 22 rfl rfl, rIn1 1 rfl rfl, rfl, by decide +kernel, by decide +kernel, by decide +kernel, by decide, by decide⟩
set_option maxRecDepth 20000 in
theorem rOk77 : rOkM mLa_state 77 := ⟨rfl, rIn3 30 rfl rfl, rIn1 1 rfl rfl, rfl, by decide +kernel, by decide +kernel, by decide +kernel, by decide, by decide⟩
set_option maxRecDepth 20000 in
theorem rOk78 : rOkM mLa_thought 78 := ⟨rfl, rIn3 46 rfl rfl, rIn1 1 rfl rfl, rfl, by decide +kernel, by decide +kernel, by decide +kernel, by decide, by decide⟩
set_option maxRecDepth 20000 in
theorem rOk79 : rOkM mLa_dug 79 := ⟨rfl, rIn3 50 rfl rfl, rIn1 1 rfl rfl, rfl, by decide +kernel, by decide +kernel, by decide +kernel, by decide, by decide⟩
set_option maxRecDepth 20000 in
theorem rOk80 : rOkM mLa_empty 80 := ⟨rfl, rIn3 55 rfl rfl, rIn1 1 rfl rfl, rfl, by decide +kernel, by decide +kernel, by decide +kernel, by decide, by decide⟩
set_option maxRecDepth 20000 in
theorem rOk81 : rOkM mLa_praised 81 := ⟨rfl, rIn3 59 rfl rfl, rIn1 1 rfl rfl, rfl, by decide +kernel, by decide +kernel, by decide +kernel, by decide, by decide⟩
set_option maxRecDepth 20000 in
theorem rOk82 : rOkM mLa_pitFor 82 := ⟨rfl, rIn3 63 rfl rfl, rIn1 1 rfl rfl, rfl, by decide +kernel, by decide +kernel, by decide +kernel, by decide, by decide⟩
set_option maxRecDepth 20000 in
theorem rOk83 : rOkM mLa_kindFor 83 := ⟨rfl, rIn3 78 rfl rfl, rIn1 1 rfl rfl, rfl, by decide +kernel, by decide +kernel, by decide +kernel, by decide, by decide⟩
set_option maxRecDepth 20000 in
theorem rOk84 : rOkM mLa_worthFor 84 := ⟨rfl, rIn3 82 rfl rfl, rIn1 1 rfl rfl, rfl, by decide +kernel, by decide +kernel, by decide +kernel, by decide, by decide⟩
set_option maxRecDepth 20000 in
theorem rOk85 : rOkM mLa_beginFor 85 := ⟨rfl, rIn3 86 rfl rfl, rIn1 1 rfl rfl, rfl, by decide +kernel, by decide +kernel, by decide +kernel, by decide, by decide⟩
set_option maxRecDepth 20000 in
theorem rOk86 : rOkM mLa_awayFor 86 := ⟨rfl, rIn3 90 rfl rfl, rIn1 1 rfl rfl, rfl, by decide +kernel, by decide +kernel, by decide +kernel, by decide, by decide⟩
set_option maxRecDepth 20000 in
theorem rOk87 : rOkM mLa_above 87 := ⟨rfl, rIn3 98 rfl rfl, rIn1 1 rfl rfl, rfl, by decide +kernel, by decide +kernel, by decide +kernel, by decide, by decide⟩
set_option maxRecDepth 20000 in
theorem rOk88 : rOkM mLa_fits 88 := ⟨rfl, rIn3 102 rfl rfl, rIn1 1 rfl rfl, rfl, by decide +kernel, by decide +kernel, by decide +kernel, by decide, by decide⟩
set_option maxRecDepth 20000 in
theorem rOk89 : rOkM mLa_odds 89 := ⟨rfl, rIn3 114 rfl rfl, rIn1 1 rfl rfl, rfl, by decide +kernel, by decide +kernel, by decide +kernel, by decide, by decide⟩
set_option maxRecDepth 20000 in
theorem rOk90 : rOkM mLa_hope 90 := ⟨rfl, rIn3 129 rfl rfl, rIn1 1 rfl rfl, rfl, by decide +kernel, by decide +kernel, by decide +kernel, by decide, by decide⟩
set_option maxRecDepth 20000 in
theorem rOk91 : rOkM mLa_prove 91 := ⟨rfl, rIn3 133 rfl rfl, rIn1 1 rfl rfl, rfl, by decide +kernel, by decide +kernel, by decide +kernel, by decide, by decide⟩
set_option maxRecDepth 20000 in
theorem rOk92 : rOkM mLa_row 92 := ⟨rfl, rIn3 141 rfl rfl, rIn1 1 rfl rfl, rfl, by decide +kernel, by decide +kernel, by decide +kernel, by decide, by decide⟩
set_option maxRecDepth 20000 in
theorem rOk93 : rOkM mLa_alterRow 93 := ⟨rfl, rIn3 149 rfl rfl, rIn1 1 rfl rfl, rfl, by decide +kernel, by decide +kernel, by decide +kernel, by decide, by decide⟩
set_option maxRecDepth 20000 in
theorem rOk94 : rOkM mLa_judge 94 := ⟨rfl, rIn3 153 rfl rfl, rIn1 1 rfl rfl, rfl, by decide +kernel, by decide +kernel, by decide +kernel, by decide, by decide⟩
set_option maxRecDepth 20000 in
theorem rOk95 : rOkM mLa_minds 95 := ⟨rfl, rIn3 157 rfl rfl, rIn1 1 rfl rfl, rfl, by decide +kernel, by decide +kernel, by decide +kernel, by decide, by decide⟩
set_option maxRecDepth 20000 in
theorem rOk96 : rOkM mLa_sheet 96 := ⟨rfl, rIn3 162 rfl rfl, rIn1 1 rfl rfl, rfl, by decide +kernel, by decide +kernel, by decide +kernel, by decide, by decide⟩
set_option maxRecDepth 20000 in
theorem rOk97 : rOkM mLa_put 97 := ⟨rfl, rIn3 170 rfl rfl, rIn1 1 rfl rfl, rfl, by decide +kernel, by decide +kernel, by decide +kernel, by decide, by decide⟩
set_option maxRecDepth 20000 in
theorem rOk98 : rOkM mLa_item 98 := ⟨rfl, rIn3 182 rfl rfl, rIn1 1 rfl rfl, rfl, by decide +kernel, by decide +kernel, by decide +kernel, by decide, by decide⟩
set_option maxRecDepth 20000 in
theorem rOk99 : rOkM mLa_shelf 99 := ⟨rfl, rIn3 186 rfl rfl, rIn1 1 rfl rfl, rfl, by decide +kernel, by decide +kernel, by decide +kernel, by decide, by decide⟩
set_option maxRecDepth 20000 in
theorem rOk100 : rOkM mLa_taken 100 := ⟨rfl, rIn3 199 rfl rfl, rIn1 1 rfl rfl, rfl, by decide +kernel, by decide +kernel, by decide +kernel, by decide, by decide⟩
set_option maxRecDepth 20000 in
theorem rOk101 : rOkM mLa_act 101 := ⟨rfl, rIn3 212 rfl rfl, rIn1 1 rfl rfl, rfl, by decide +kernel, by decide +kernel, by decide +kernel, by decide, by decide⟩
set_option maxRecDepth 20000 in
theorem rOk102 : rOkM mLa_trace 102 := ⟨rfl, rIn4 15 rfl rfl, rIn1 1 rfl rfl, rfl, by decide +kernel, by decide +kernel, by decide +kernel, by decide, by decide⟩
set_option maxRecDepth 20000 in
theorem rOk103 : rOkM mLa_many 103 := ⟨rfl, rIn4 19 rfl rfl, rIn1 1 rfl rfl, rfl, by decide +kernel, by decide +kernel, by decide +kernel, by decide, by decide⟩
set_option maxRecDepth 20000 in
theorem rOk104 : rOkM mLa_keep 104 := ⟨rfl, rIn4 28 rfl rfl, rIn1 1 rfl rfl, rfl, by decide +kernel, by decide +kernel, by decide +kernel, by decide, by decide⟩
set_option maxRecDepth 20000 in
theorem rOk105 : rOkM mLa_again 105 := ⟨rfl, rIn4 32 rfl rfl, rIn1 1 rfl rfl, rfl, by decide +kernel, by decide +kernel, by decide +kernel, by decide, by decide⟩
set_option maxRecDepth 20000 in
theorem rOk106 : rOkM mLa_within 106 := ⟨rfl, rIn2 109 rfl rfl, rIn1 1 rfl rfl, rfl, by decide +kernel, by decide +kernel, by decide +kernel, by decide, by decide⟩
set_option maxRecDepth 20000 in
theorem rOk107 : rOkM mLa_isNear 107 := ⟨rfl, rIn3 66 rfl rfl, rIn1 1 rfl rfl, rfl, by decide +kernel, by decide +kernel, by decide +kernel, by decide, by decide⟩
set_option maxRecDepth 20000 in
theorem rOk108 : rOkM mLa_held 108 := ⟨rfl, rIn2 234 rfl rfl, rIn1 1 rfl rfl, rfl, by decide +kernel, by decide +kernel, by decide +kernel, by decide, by decide⟩
set_option maxRecDepth 20000 in
theorem rOk109 : rOkM mLa_mostOfLaw 109 := ⟨rfl, rIn2 103 rfl rfl, rIn1 1 rfl rfl, rfl, by decide +kernel, by decide +kernel, by decide +kernel, by decide, by decide⟩
set_option maxRecDepth 20000 in
theorem rOk110 : rOkM mLa_isUnder 110 := ⟨rfl, rIn3 206 rfl rfl, rIn1 1 rfl rfl, rfl, by decide +kernel, by decide +kernel, by decide +kernel, by decide, by decide⟩
set_option maxRecDepth 20000 in
theorem rOk111 : rOkM mLa_opinionBehind 111 := ⟨rfl, rIn3 26 rfl rfl, rIn1 1 rfl rfl, rfl, by decide +kernel, by decide +kernel, by decide +kernel, by decide, by decide⟩
set_option maxRecDepth 20000 in
theorem rOk112 : rOkM mLa_opinionWithout 112 := ⟨rfl, rIn3 94 rfl rfl, rIn1 1 rfl rfl, rfl, by decide +kernel, by decide +kernel, by decide +kernel, by decide, by decide⟩
set_option maxRecDepth 20000 in
theorem rOk113 : rOkM mLa_bestChange 113 := ⟨rfl, rIn3 70 rfl rfl, rIn1 1 rfl rfl, rfl, by decide +kernel, by decide +kernel, by decide +kernel, by decide, by decide⟩
set_option maxRecDepth 20000 in
theorem rOk114 : rOkM mLa_changeTried 114 := ⟨rfl, rIn3 74 rfl rfl, rIn1 1 rfl rfl, rfl, by decide +kernel, by decide +kernel, by decide +kernel, by decide, by decide⟩
set_option maxRecDepth 20000 in
theorem rOk115 : rOkM mLa_fitsWith 115 := ⟨rfl, rIn3 106 rfl rfl, rIn1 1 rfl rfl, rfl, by decide +kernel, by decide +kernel, by decide +kernel, by decide, by decide⟩
set_option maxRecDepth 20000 in
theorem rOk116 : rOkM mLa_hasRow 116 := ⟨rfl, rIn3 145 rfl rfl, rIn1 1 rfl rfl, rfl, by decide +kernel, by decide +kernel, by decide +kernel, by decide, by decide⟩
set_option maxRecDepth 20000 in
theorem rOk117 : rOkM mLa_triedPart 117 := ⟨rfl, rIn3 137 rfl rfl, rIn1 1 rfl rfl, rfl, by decide +kernel, by decide +kernel, by decide +kernel, by decide, by decide⟩
set_option maxRecDepth 20000 in
theorem rOk118 : rOkM mLa_ways 118 := ⟨rfl, rIn3 118 rfl rfl, rIn1 1 rfl rfl, rfl, by decide +kernel, by decide +kernel, by decide +kernel, by decide, by decide⟩
set_option maxRecDepth 20000 in
theorem rOk119 : rOkM mLa_power 119 := ⟨rfl, rIn3 121 rfl rfl, rIn1 1 rfl rfl, rfl, by decide +kernel, by decide +kernel, by decide +kernel, by decide, by decide⟩
set_option maxRecDepth 20000 in
theorem rOk120 : rOkM mLa_partOf 120 := ⟨rfl, rIn3 125 rfl rfl, rIn1 1 rfl rfl, rfl, by decide +kernel, by decide +kernel, by decide +kernel, by decide, by decide⟩
set_option maxRecDepth 20000 in
theorem rOk121 : rOkM mMo_init 121 := ⟨rfl, rIn4 37 rfl rfl, rIn1 7 rfl rfl, rfl, by decide +kernel, by decide +kernel, by decide +kernel, by decide, by decide⟩
set_option maxRecDepth 20000 in
theorem rOk122 : rOkM mMo_begins 122 := ⟨rfl, rIn4 42 rfl rfl, rIn1 7 rfl rfl, rfl, by decide +kernel, by decide +kernel, by decide +kernel, by decide, by decide⟩
set_option maxRecDepth 20000 in
theorem rOk123 : rOkM mMo_isIn 123 := ⟨rfl, rIn4 132 rfl rfl, rIn1 7 rfl rfl, rfl, by decide +kernel, by decide +kernel, by decide +kernel, by decide, by decide⟩
set_option maxRecDepth 20000 in
theorem rOk124 : rOkM mMo_isPit 124 := ⟨rfl, rIn4 229 rfl rfl, rIn1 7 rfl rfl, rfl, by decide +kernel, by decide +kernel, by decide +kernel, by decide, by decide⟩
set_option maxRecDepth 20000 in
theorem rOk125 : rOkM mMo_isOne 125 := ⟨rfl, rIn4 237 rfl rfl, rIn1 7 rfl rfl, rfl, by decide +kernel, by decide +kernel, by decide +kernel, by decide, by decide⟩
set_option maxRecDepth 20000 in
theorem rOk126 : rOkM mMo_its 126 := ⟨rfl, rIn5 2 rfl rfl, rIn1 7 rfl rfl, rfl, by decide +kernel, by decide +kernel, by decide +kernel, by decide, by decide⟩
set_option maxRecDepth 20000 in
theorem rOk127 : rOkM mMo_becomes 127 := ⟨rfl, rIn4 217 rfl rfl, rIn1 7 rfl rfl, rfl, by decide +kernel, by decide +kernel, by decide +kernel, by decide, by decide⟩
set_option maxRecDepth 20000 in
theorem rOk128 : rOkM mMo_copyRow 128 := ⟨rfl, rIn4 140 rfl rfl, rIn1 7 rfl rfl, rfl, by decide +kernel, by decide +kernel, by decide +kernel, by decide, by decide⟩
set_option maxRecDepth 20000 in
theorem rOk129 : rOkM mMo_greatest 129 := ⟨rfl, rIn5 143 rfl rfl, rIn1 7 rfl rfl, rfl, by decide +kernel, by decide +kernel, by decide +kernel, by decide, by decide⟩
set_option maxRecDepth 20000 in
theorem rOk130 : rOkM mMo_within 130 := ⟨rfl, rIn5 77 rfl rfl, rIn1 7 rfl rfl, rfl, by decide +kernel, by decide +kernel, by decide +kernel, by decide, by decide⟩
set_option maxRecDepth 20000 in
theorem rOk131 : rOkM mMo_size 131 := ⟨rfl, rIn5 9 rfl rfl, rIn1 7 rfl rfl, rfl, by decide +kernel, by decide +kernel, by decide +kernel, by decide, by decide⟩
set_option maxRecDepth 20000 in
theorem rOk132 : rOkM mMo_isUnder 132 := ⟨rfl, rIn6 16 rfl rfl, rIn1 7 rfl rfl, rfl, by decide +kernel, by decide +kernel, by decide +kernel, by decide, by decide⟩
set_option maxRecDepth 20000 in
theorem rOk133 : rOkM mMo_feed 133 := ⟨rfl, rIn4 128 rfl rfl, rIn1 7 rfl rfl, rfl, by decide +kernel, by decide +kernel, by decide +kernel, by decide, by decide⟩
set_option maxRecDepth 20000 in
theorem rOk134 : rOkM mMo_isAlpha 134 := ⟨rfl, rIn4 151 rfl rfl, rIn1 7 rfl rfl, rfl, by decide +kernel, by decide +kernel, by decide +kernel, by decide, by decide⟩
set_option maxRecDepth 20000 in
theorem rOk135 : rOkM mMo_isDigit 135 := ⟨rfl, rIn4 154 rfl rfl, rIn1 7 rfl rfl, rfl, by decide +kernel, by decide +kernel, by decide +kernel, by decide, by decide⟩
set_option maxRecDepth 20000 in
theorem rOk136 : rOkM mMo_byteAt 136 := ⟨rfl, rIn4 148 rfl rfl, rIn1 7 rfl rfl, rfl, by decide +kernel, by decide +kernel, by decide +kernel, by decide, by decide⟩
set_option maxRecDepth 20000 in
theorem rOk137 : rOkM mMo_nextToken 137 := ⟨rfl, rIn4 144 rfl rfl, rIn1 7 rfl rfl, rfl, by decide +kernel, by decide +kernel, by decide +kernel, by decide, by decide⟩
set_option maxRecDepth 20000 in
theorem rOk138 : rOkM mMo_needs 138 := ⟨rfl, rIn4 190 rfl rfl, rIn1 7 rfl rfl, rfl, by decide +kernel, by decide +kernel, by decide +kernel, by decide, by decide⟩
set_option maxRecDepth 20000 in
theorem rOk139 : rOkM mMo_isName 139 := ⟨rfl, rIn4 170 rfl rfl, rIn1 7 rfl rfl, rfl, by decide +kernel, by decide +kernel, by decide +kernel, by decide, by decide⟩
set_option maxRecDepth 20000 in
theorem rOk140 : rOkM mMo_isSame 140 := ⟨rfl, rIn4 174 rfl rfl, rIn1 7 rfl rfl, rfl, by decide +kernel, by decide +kernel, by decide +kernel, by decide, by decide⟩
set_option maxRecDepth 20000 in
theorem rOk141 : rOkM mMo_isFour 141 := ⟨rfl, rIn4 178 rfl rfl, rIn1 7 rfl rfl, rfl, by decide +kernel, by decide +kernel, by decide +kernel, by decide, by decide⟩
set_option maxRecDepth 20000 in
theorem rOk142 : rOkM mMo_isFive 142 := ⟨rfl, rIn4 166 rfl rfl, rIn1 7 rfl rfl, rfl, by decide +kernel, by decide +kernel, by decide +kernel, by decide, by decide⟩
set_option maxRecDepth 20000 in
theorem rOk143 : rOkM mMo_kindHere 143 := ⟨rfl, rIn4 162 rfl rfl, rIn1 7 rfl rfl, rfl, by decide +kernel, by decide +kernel, by decide +kernel, by decide, by decide⟩
set_option maxRecDepth 20000 in
theorem rOk144 : rOkM mMo_numberTo 144 := ⟨rfl, rIn4 202 rfl rfl, rIn1 7 rfl rfl, rfl, by decide +kernel, by decide +kernel, by decide +kernel, by decide, by decide⟩
set_option maxRecDepth 20000 in
theorem rOk145 : rOkM mMo_perhaps 145 := ⟨rfl, rIn4 206 rfl rfl, rIn1 7 rfl rfl, rfl, by decide +kernel, by decide +kernel, by decide +kernel, by decide, by decide⟩
set_option maxRecDepth 20000 in
theorem rOk146 : rOkM mMo_thingHere 146 := ⟨rfl, rIn4 186 rfl rfl, rIn1 7 rfl rfl, rfl, by decide +kernel, by decide +kernel, by decide +kernel, by decide, by decide⟩
set_option maxRecDepth 20000 in
theorem rOk147 : rOkM mMo_ownHere 147 := ⟨rfl, rIn4 182 rfl rfl, rIn1 7 rfl rfl, rfl, by decide +kernel, by decide +kernel, by decide +kernel, by decide, by decide⟩
set_option maxRecDepth 20000 in
theorem rOk148 : rOkM mMo_itemHere 148 := ⟨rfl, rIn4 158 rfl rfl, rIn1 7 rfl rfl, rfl, by decide +kernel, by decide +kernel, by decide +kernel, by decide, by decide⟩
set_option maxRecDepth 20000 in
theorem rOk149 : rOkM mMo_street 149 := ⟨rfl, rIn4 137 rfl rfl, rIn1 7 rfl rfl, rfl, by decide +kernel, by decide +kernel, by decide +kernel, by decide, by decide⟩
set_option maxRecDepth 20000 in
theorem rOk150 : rOkM mMo_set 150 := ⟨rfl, rIn4 210 rfl rfl, rIn1 7 rfl rfl, rfl, by decide +kernel, by decide +kernel, by decide +kernel, by decide, by decide⟩
set_option maxRecDepth 20000 in
theorem rOk151 : rOkM mMo_lawOf 151 := ⟨rfl, rIn4 221 rfl rfl, rIn1 7 rfl rfl, rfl, by decide +kernel, by decide +kernel, by decide +kernel, by decide, by decide⟩
set_option maxRecDepth 20000 in
theorem rOk152 : rOkM mMo_lies 152 := ⟨rfl, rIn4 198 rfl rfl, rIn1 7 rfl rfl, rfl, by decide +kernel, by decide +kernel, by decide +kernel, by decide, by decide⟩
set_option maxRecDepth 20000 in
theorem rOk153 : rOkM mMo_comes 153 := ⟨rfl, rIn4 194 rfl rfl, rIn1 7 rfl rfl, rfl, by decide +kernel, by decide +kernel, by decide +kernel, by decide, by decide⟩
set_option maxRecDepth 20000 in
theorem rOk154 : rOkM mMo_thing 154 := ⟨rfl, rIn4 225 rfl rfl, rIn1 7 rfl rfl, rfl, by decide +kernel, by decide +kernel, by decide +kernel, by decide, by decide⟩
set_option maxRecDepth 20000 in
theorem rOk155 : rOkM mMo_aboveOf 155 := ⟨rfl, rIn5 6 rfl rfl, rIn1 7 rfl rfl, rfl, by decide +kernel, by decide +kernel, by decide +kernel, by decide, by decide⟩
set_option maxRecDepth 20000 in
theorem rOk156 : rOkM mMo_speaks 156 := ⟨rfl, rIn5 17 rfl rfl, rIn1 7 rfl rfl, rfl, by decide +kernel, by decide +kernel, by decide +kernel, by decide, by decide⟩
set_option maxRecDepth 20000 in
theorem rOk157 : rOkM mMo_hides 157 := ⟨rfl, rIn5 21 rfl rfl, rIn1 7 rfl rfl, rfl, by decide +kernel, by decide +kernel, by decide +kernel, by decide, by decide⟩
set_option maxRecDepth 20000 in
theorem rOk158 : rOkM mMo_of 158 := ⟨rfl, rIn4 233 rfl rfl, rIn1 7 rfl rfl, rfl, by decide +kernel, by decide +kernel, by decide +kernel, by decide, by decide⟩
set_option maxRecDepth 20000 in
theorem rOk159 : rOkM mMo_does 159 := ⟨rfl, rIn5 13 rfl rfl, rIn1 7 rfl rfl, rfl, by decide +kernel, by decide +kernel, by decide +kernel, by decide, by decide⟩
set_option maxRecDepth 20000 in
theorem rOk160 : rOkM mMo_mind 160 := ⟨rfl, rIn5 25 rfl rfl, rIn1 7 rfl rfl, rfl, by decide +kernel, by decide +kernel, by decide +kernel, by decide, by decide⟩
set_option maxRecDepth 20000 in
theorem rOk161 : rOkM mMo_value 161 := ⟨rfl, rIn5 29 rfl rfl, rIn1 7 rfl rfl, rfl, by decide +kernel, by decide +kernel, by decide +kernel, by decide, by decide⟩
set_option maxRecDepth 20000 in
theorem rOk162 : rOkM mMo_lay 162 := ⟨rfl, rIn5 33 rfl rfl, rIn1 7 rfl rfl, rfl, by decide +kernel, by decide +kernel, by decide +kernel, by decide, by decide⟩
set_option maxRecDepth 20000 in
theorem rOk163 : rOkM mMo_lying 163 := ⟨rfl, rIn5 41 rfl rfl, rIn1 7 rfl rfl, rfl, by decide +kernel, by decide +kernel, by decide +kernel, by decide, by decide⟩
set_option maxRecDepth 20000 in
theorem rOk164 : rOkM mMo_take 164 := ⟨rfl, rIn5 37 rfl rfl, rIn1 7 rfl rfl, rfl, by decide +kernel, by decide +kernel, by decide +kernel, by decide, by decide⟩
set_option maxRecDepth 20000 in
theorem rOk165 : rOkM mMo_bring 165 := ⟨rfl, rIn5 45 rfl rfl, rIn1 7 rfl rfl, rfl, by decide +kernel, by decide +kernel, by decide +kernel, by decide, by decide⟩
set_option maxRecDepth 20000 in
theorem rOk166 : rOkM mMo_think 166 := ⟨rfl, rIn5 49 rfl rfl, rIn1 7 rfl rfl, rfl, by decide +kernel, by decide +kernel, by decide +kernel, by decide, by decide⟩
set_option maxRecDepth 20000 in
theorem rOk167 : rOkM mMo_lyingIn 167 := ⟨rfl, rIn5 57 rfl rfl, rIn1 7 rfl rfl, rfl, by decide +kernel, by decide +kernel, by decide +kernel, by decide, by decide⟩
set_option maxRecDepth 20000 in
theorem rOk168 : rOkM mMo_top 168 := ⟨rfl, rIn5 61 rfl rfl, rIn1 7 rfl rfl, rfl, by decide +kernel, by decide +kernel, by decide +kernel, by decide, by decide⟩
set_option maxRecDepth 20000 in
theorem rOk169 : rOkM mMo_pit 169 := ⟨rfl, rIn5 53 rfl rfl, rIn1 7 rfl rfl, rfl, by decide +kernel, by decide +kernel, by decide +kernel, by decide, by decide⟩
set_option maxRecDepth 20000 in
theorem rOk170 : rOkM mMo_goesOn 170 := ⟨rfl, rIn5 74 rfl rfl, rIn1 7 rfl rfl, rfl, by decide +kernel, by decide +kernel, by decide +kernel, by decide, by decide⟩
set_option maxRecDepth 20000 in
theorem rOk171 : rOkM mMo_goes 171 := ⟨rfl, rIn5 70 rfl rfl, rIn1 7 rfl rfl, rfl, by decide +kernel, by decide +kernel, by decide +kernel, by decide, by decide⟩
set_option maxRecDepth 20000 in
theorem rOk172 : rOkM mMo_years 172 := ⟨rfl, rIn5 65 rfl rfl, rIn1 7 rfl rfl, rfl, by decide +kernel, by decide +kernel, by decide +kernel, by decide, by decide⟩
set_option maxRecDepth 20000 in
theorem rOk173 : rOkM mMo_seed 173 := ⟨rfl, rIn5 81 rfl rfl, rIn1 7 rfl rfl, rfl, by decide +kernel, by decide +kernel, by decide +kernel, by decide, by decide⟩
set_option maxRecDepth 20000 in
theorem rOk174 : rOkM mMo_drawn 174 := ⟨rfl, rIn5 89 rfl rfl, rIn1 7 rfl rfl, rfl, by decide +kernel, by decide +kernel, by decide +kernel, by decide, by decide⟩
set_option maxRecDepth 20000 in
theorem rOk175 : rOkM mMo_year 175 := ⟨rfl, rIn5 85 rfl rfl, rIn1 7 rfl rfl, rfl, by decide +kernel, by decide +kernel, by decide +kernel, by decide, by decide⟩
set_option maxRecDepth 20000 in
theorem rOk176 : rOkM mMo_luck 176 := ⟨rfl, rIn5 94 rfl rfl, rIn1 7 rfl rfl, rfl, by decide +kernel, by decide +kernel, by decide +kernel, by decide, by decide⟩
set_option maxRecDepth 20000 in
theorem rOk177 : rOkM mMo_worthOfAll 177 := ⟨rfl, rIn5 104 rfl rfl, rIn1 7 rfl rfl, rfl, by decide +kernel, by decide +kernel, by decide +kernel, by decide, by decide⟩
set_option maxRecDepth 20000 in
theorem rOk178 : rOkM mMo_kindsIn 178 := ⟨rfl, rIn5 112 rfl rfl, rIn1 7 rfl rfl, rfl, by decide +kernel, by decide +kernel, by decide +kernel, by decide, by decide⟩
set_option maxRecDepth 20000 in
theorem rOk179 : rOkM mMo_cover 179 := ⟨rfl, rIn5 108 rfl rfl, rIn1 7 rfl rfl, rfl, by decide +kernel, by decide +kernel, by decide +kernel, by decide, by decide⟩
set_option maxRecDepth 20000 in
theorem rOk180 : rOkM mMo_state 180 := ⟨rfl, rIn5 100 rfl rfl, rIn1 7 rfl rfl, rfl, by decide +kernel, by decide +kernel, by decide +kernel, by decide, by decide⟩
set_option maxRecDepth 20000 in
theorem rOk181 : rOkM mMo_thoughtBehind 181 := ⟨rfl, rIn5 120 rfl rfl, rIn1 7 rfl rfl, rfl, by decide +kernel, by decide +kernel, by decide +kernel, by decide, by decide⟩
set_option maxRecDepth 20000 in
theorem rOk182 : rOkM mMo_thought 182 := ⟨rfl, rIn5 116 rfl rfl, rIn1 7 rfl rfl, rfl, by decide +kernel, by decide +kernel, by decide +kernel, by decide, by decide⟩
set_option maxRecDepth 20000 in
theorem rOk183 : rOkM mMo_dug 183 := ⟨rfl, rIn5 124 rfl rfl, rIn1 7 rfl rfl, rfl, by decide +kernel, by decide +kernel, by decide +kernel, by decide, by decide⟩
set_option maxRecDepth 20000 in
theorem rOk184 : rOkM mMo_empty 184 := ⟨rfl, rIn5 128 rfl rfl, rIn1 7 rfl rfl, rfl, by decide +kernel, by decide +kernel, by decide +kernel, by decide, by decide⟩
set_option maxRecDepth 20000 in
theorem rOk185 : rOkM mMo_praised 185 := ⟨rfl, rIn5 132 rfl rfl, rIn1 7 rfl rfl, rfl, by decide +kernel, by decide +kernel, by decide +kernel, by decide, by decide⟩
set_option maxRecDepth 20000 in
theorem rOk186 : rOkM mMo_isShort 186 := ⟨rfl, rIn5 139 rfl rfl, rIn1 7 rfl rfl, rfl, by decide +kernel, by decide +kernel, by decide +kernel, by decide, by decide⟩
set_option maxRecDepth 20000 in
theorem rOk187 : rOkM mMo_pitFor 187 := ⟨rfl, rIn5 136 rfl rfl, rIn1 7 rfl rfl, rfl, by decide +kernel, by decide +kernel, by decide +kernel, by decide, by decide⟩
set_option maxRecDepth 20000 in
theorem rOk188 : rOkM mMo_mostBy 188 := ⟨rfl, rIn5 151 rfl rfl, rIn1 7 rfl rfl, rfl, by decide +kernel, by decide +kernel, by decide +kernel, by decide, by decide⟩
set_option maxRecDepth 20000 in
theorem rOk189 : rOkM mMo_kindFor 189 := ⟨rfl, rIn5 147 rfl rfl, rIn1 7 rfl rfl, rfl, by decide +kernel, by decide +kernel, by decide +kernel, by decide, by decide⟩
set_option maxRecDepth 20000 in
theorem rOk190 : rOkM mMo_worthFor 190 := ⟨rfl, rIn5 155 rfl rfl, rIn1 7 rfl rfl, rfl, by decide +kernel, by decide +kernel, by decide +kernel, by decide, by decide⟩
set_option maxRecDepth 20000 in
theorem rOk191 : rOkM mMo_beginFor 191 := ⟨rfl, rIn5 159 rfl rfl, rIn1 7 rfl rfl, rfl, by decide +kernel, by decide +kernel, by decide +kernel, by decide, by decide⟩
set_option maxRecDepth 20000 in
theorem rOk192 : rOkM mMo_awayFor 192 := ⟨rfl, rIn5 163 rfl rfl, rIn1 7 rfl rfl, rfl, by decide +kernel, by decide +kernel, by decide +kernel, by decide, by decide⟩
set_option maxRecDepth 20000 in
theorem rOk193 : rOkM mMo_above 193 := ⟨rfl, rIn5 167 rfl rfl, rIn1 7 rfl rfl, rfl, by decide +kernel, by decide +kernel, by decide +kernel, by decide, by decide⟩
set_option maxRecDepth 20000 in
theorem rOk194 : rOkM mMo_product 194 := ⟨rfl, rIn5 186 rfl rfl, rIn1 7 rfl rfl, rfl, by decide +kernel, by decide +kernel, by decide +kernel, by decide, by decide⟩
set_option maxRecDepth 20000 in
theorem rOk195 : rOkM mMo_partOf 195 := ⟨rfl, rIn5 190 rfl rfl, rIn1 7 rfl rfl, rfl, by decide +kernel, by decide +kernel, by decide +kernel, by decide, by decide⟩
set_option maxRecDepth 20000 in
theorem rOk196 : rOkM mMo_isTold 196 := ⟨rfl, rIn5 178 rfl rfl, rIn1 7 rfl rfl, rfl, by decide +kernel, by decide +kernel, by decide +kernel, by decide, by decide⟩
set_option maxRecDepth 20000 in
theorem rOk197 : rOkM mMo_fits 197 := ⟨rfl, rIn5 171 rfl rfl, rIn1 7 rfl rfl, rfl, by decide +kernel, by decide +kernel, by decide +kernel, by decide, by decide⟩
set_option maxRecDepth 20000 in
theorem rOk198 : rOkM mMo_odds 198 := ⟨rfl, rIn5 182 rfl rfl, rIn1 7 rfl rfl, rfl, by decide +kernel, by decide +kernel, by decide +kernel, by decide, by decide⟩
set_option maxRecDepth 20000 in
theorem rOk199 : rOkM mMo_hope 199 := ⟨rfl, rIn5 194 rfl rfl, rIn1 7 rfl rfl, rfl, by decide +kernel, by decide +kernel, by decide +kernel, by decide, by decide⟩
set_option maxRecDepth 20000 in
theorem rOk200 : rOkM mMo_prove 200 := ⟨rfl, rIn5 198 rfl rfl, rIn1 7 rfl rfl, rfl, by decide +kernel, by decide +kernel, by decide +kernel, by decide, by decide⟩
set_option maxRecDepth 20000 in
theorem rOk201 : rOkM mMo_isRow 201 := ⟨rfl, rIn5 207 rfl rfl, rIn1 7 rfl rfl, rfl, by decide +kernel, by decide +kernel, by decide +kernel, by decide, by decide⟩
set_option maxRecDepth 20000 in
theorem rOk202 : rOkM mMo_row 202 := ⟨rfl, rIn5 203 rfl rfl, rIn1 7 rfl rfl, rfl, by decide +kernel, by decide +kernel, by decide +kernel, by decide, by decide⟩
set_option maxRecDepth 20000 in
theorem rOk203 : rOkM mMo_alterRow 203 := ⟨rfl, rIn5 212 rfl rfl, rIn1 7 rfl rfl, rfl, by decide +kernel, by decide +kernel, by decide +kernel, by decide, by decide⟩
set_option maxRecDepth 20000 in
theorem rOk204 : rOkM mMo_judge 204 := ⟨rfl, rIn5 216 rfl rfl, rIn1 7 rfl rfl, rfl, by decide +kernel, by decide +kernel, by decide +kernel, by decide, by decide⟩
set_option maxRecDepth 20000 in
theorem rOk205 : rOkM mMo_isSheet 205 := ⟨rfl, rIn5 174 rfl rfl, rIn1 7 rfl rfl, rfl, by decide +kernel, by decide +kernel, by decide +kernel, by decide, by decide⟩
set_option maxRecDepth 20000 in
theorem rOk206 : rOkM mMo_isShelf 206 := ⟨rfl, rIn6 3 rfl rfl, rIn1 7 rfl rfl, rfl, by decide +kernel, by decide +kernel, by decide +kernel, by decide, by decide⟩
set_option maxRecDepth 20000 in
theorem rOk207 : rOkM mMo_sheet 207 := ⟨rfl, rIn5 220 rfl rfl, rIn1 7 rfl rfl, rfl, by decide +kernel, by decide +kernel, by decide +kernel, by decide, by decide⟩
set_option maxRecDepth 20000 in
theorem rOk208 : rOkM mMo_put 208 := ⟨rfl, rIn5 224 rfl rfl, rIn1 7 rfl rfl, rfl, by decide +kernel, by decide +kernel, by decide +kernel, by decide, by decide⟩
set_option maxRecDepth 20000 in
theorem rOk209 : rOkM mMo_lacks 209 := ⟨rfl, rIn5 232 rfl rfl, rIn1 7 rfl rfl, rfl, by decide +kernel, by decide +kernel, by decide +kernel, by decide, by decide⟩
set_option maxRecDepth 20000 in
theorem rOk210 : rOkM mMo_item 210 := ⟨rfl, rIn5 228 rfl rfl, rIn1 7 rfl rfl, rfl, by decide +kernel, by decide +kernel, by decide +kernel, by decide, by decide⟩
set_option maxRecDepth 20000 in
theorem rOk211 : rOkM mMo_minds 211 := ⟨rfl, rIn5 236 rfl rfl, rIn1 7 rfl rfl, rfl, by decide +kernel, by decide +kernel, by decide +kernel, by decide, by decide⟩
set_option maxRecDepth 20000 in
theorem rOk212 : rOkM mMo_shelf 212 := ⟨rfl, rIn6 0 rfl rfl, rIn1 7 rfl rfl, rfl, by decide +kernel, by decide +kernel, by decide +kernel, by decide, by decide⟩
set_option maxRecDepth 20000 in
theorem rOk213 : rOkM mMo_heldOn 213 := ⟨rfl, rIn6 13 rfl rfl, rIn1 7 rfl rfl, rfl, by decide +kernel, by decide +kernel, by decide +kernel, by decide, by decide⟩
set_option maxRecDepth 20000 in
theorem rOk214 : rOkM mMo_taken 214 := ⟨rfl, rIn6 7 rfl rfl, rIn1 7 rfl rfl, rfl, by decide +kernel, by decide +kernel, by decide +kernel, by decide, by decide⟩
set_option maxRecDepth 20000 in
theorem rOk215 : rOkM mMo_runs 215 := ⟨rfl, rIn6 32 rfl rfl, rIn1 7 rfl rfl, rfl, by decide +kernel, by decide +kernel, by decide +kernel, by decide, by decide⟩
set_option maxRecDepth 20000 in
theorem rOk216 : rOkM mMo_sinksPlain 216 := ⟨rfl, rIn6 36 rfl rfl, rIn1 7 rfl rfl, rfl, by decide +kernel, by decide +kernel, by decide +kernel, by decide, by decide⟩
set_option maxRecDepth 20000 in
theorem rOk217 : rOkM mMo_sinksOfRubbish 217 := ⟨rfl, rIn6 28 rfl rfl, rIn1 7 rfl rfl, rfl, by decide +kernel, by decide +kernel, by decide +kernel, by decide, by decide⟩
set_option maxRecDepth 20000 in
theorem rOk218 : rOkM mMo_sinks 218 := ⟨rfl, rIn6 24 rfl rfl, rIn1 7 rfl rfl, rfl, by decide +kernel, by decide +kernel, by decide +kernel, by decide, by decide⟩
set_option maxRecDepth 20000 in
theorem rOk219 : rOkM mMo_showsPlain 219 := ⟨rfl, rIn6 44 rfl rfl, rIn1 7 rfl rfl, rfl, by decide +kernel, by decide +kernel, by decide +kernel, by decide, by decide⟩
set_option maxRecDepth 20000 in
theorem rOk220 : rOkM mMo_shows 220 := ⟨rfl, rIn6 40 rfl rfl, rIn1 7 rfl rfl, rfl, by decide +kernel, by decide +kernel, by decide +kernel, by decide, by decide⟩
set_option maxRecDepth 20000 in
theorem rOk221 : rOkM mMo_partsPlain 221 := ⟨rfl, rIn6 52 rfl rfl, rIn1 7 rfl rfl, rfl, by decide +kernel, by decide +kernel, by decide +kernel, by decide, by decide⟩
set_option maxRecDepth 20000 in
theorem rOk222 : rOkM mMo_parts 222 := ⟨rfl, rIn6 48 rfl rfl, rIn1 7 rfl rfl, rfl, by decide +kernel, by decide +kernel, by decide +kernel, by decide, by decide⟩
set_option maxRecDepth 20000 in
theorem rOk223 : rOkM mMo_asksPlain 223 := ⟨rfl, rIn6 60 rfl rfl, rIn1 7 rfl rfl, rfl, by decide +kernel, by decide +kernel, by decide +kernel, by decide, by decide⟩
set_option maxRecDepth 20000 in
theorem rOk224 : rOkM mMo_asks 224 := ⟨rfl, rIn6 56 rfl rfl, rIn1 7 rfl rfl, rfl, by decide +kernel, by decide +kernel, by decide +kernel, by decide, by decide⟩
set_option maxRecDepth 20000 in
theorem rOk225 : rOkM mMo_act 225 := ⟨rfl, rIn6 20 rfl rfl, rIn1 7 rfl rfl, rfl, by decide +kernel, by decide +kernel, by decide +kernel, by decide, by decide⟩
set_option maxRecDepth 20000 in
theorem rOk226 : rOkM mMo_trace 226 := ⟨rfl, rIn6 64 rfl rfl, rIn1 7 rfl rfl, rfl, by decide +kernel, by decide +kernel, by decide +kernel, by decide, by decide⟩
set_option maxRecDepth 20000 in
theorem rOk227 : rOkM mMo_many 227 := ⟨rfl, rIn6 68 rfl rfl, rIn1 7 rfl rfl, rfl, by decide +kernel, by decide +kernel, by decide +kernel, by decide, by decide⟩
set_option maxRecDepth 20000 in
theorem rOk228 : rOkM mMo_keep 228 := ⟨rfl, rIn6 72 rfl rfl, rIn1 7 rfl rfl, rfl, by decide +kernel, by decide +kernel, by decide +kernel, by decide, by decide⟩
set_option maxRecDepth 20000 in
theorem rOk229 : rOkM mMo_again 229 := ⟨rfl, rIn6 76 rfl rfl, rIn1 7 rfl rfl, rfl, by decide +kernel, by decide +kernel, by decide +kernel, by decide, by decide⟩
set_option maxRecDepth 20000 in
theorem rOk230 : rOkM mJi_bitCount 230 := ⟨rfl, rIn2 150 rfl rfl, rIn1 13 rfl rfl, rfl, by decide +kernel, by decide +kernel, by decide +kernel, by decide, by decide⟩
set_option maxRecDepth 20000 in
theorem rOk231 : rOkM mJs_length 231 := ⟨rfl, rIn2 11 rfl rfl, rIn1 8 rfl rfl, rfl, by decide +kernel, by decide +kernel, by decide +kernel, by decide, by decide⟩
set_option maxRecDepth 20000 in
theorem rOk232 : rOkM mJs_charAt 232 := ⟨rfl, rIn2 21 rfl rfl, rIn1 8 rfl rfl, rfl, by decide +kernel, by decide +kernel, by decide +kernel, by decide, by decide⟩
set_option maxRecDepth 20000 in
theorem rOk233 : rOkM mJs_coder 233 := ⟨rfl, rIn2 15 rfl rfl, rIn1 8 rfl rfl, rfl, by decide +kernel, by decide +kernel, by decide +kernel, by decide, by decide⟩
set_option maxRecDepth 20000 in
theorem rOk234 : rOkM mJs_isLatin1 234 := ⟨rfl, rIn2 25 rfl rfl, rIn1 8 rfl rfl, rfl, by decide +kernel, by decide +kernel, by decide +kernel, by decide, by decide⟩
set_option maxRecDepth 20000 in
theorem rOk235 : rOkM mJs_checkIndex 235 := ⟨rfl, rIn2 31 rfl rfl, rIn1 8 rfl rfl, rfl, by decide +kernel, by decide +kernel, by decide +kernel, by decide, by decide⟩
set_option maxRecDepth 20000 in
theorem rOk236 : rOkM mJl_charAt 236 := ⟨rfl, rIn2 28 rfl rfl, rIn1 9 rfl rfl, rfl, by decide +kernel, by decide +kernel, by decide +kernel, by decide, by decide⟩
set_option maxRecDepth 20000 in
theorem rOk237 : rOkM mJp_checkIndex 237 := ⟨rfl, rIn2 36 rfl rfl, rIn1 10 rfl rfl, rfl, by decide +kernel, by decide +kernel, by decide +kernel, by decide, by decide⟩
/-- a call's link: q = (index, kind, method) in class c -/
def rMk (c : Nat) (q : Nat × Nat × Nat) : Prop := match q.2.1 with
  | 4 => Cond.methodLink (rCn c) q.1 arraycopyName ∈ rTT ∧ Cond.native arraycopyName ∈ rTT ∧ Cond.static arraycopyName ∈ rTT ∧ Cond.initialized "java/lang/System" ∈ rTT
  | 5 => Cond.methodLink (rCn c) q.1 Lib.objectInit ∈ rTT ∧ Cond.instanceMethod Lib.objectInit ∈ rTT ∧ Cond.code Lib.objectInit ⟨#[0xb1]⟩ 1 none ∈ rTT
  | 6 => Cond.methodLink (rCn c) q.1 Lib.Math.max.name ∈ rTT ∧ Cond.static Lib.Math.max.name ∈ rTT ∧ Cond.initialized "java/lang/Math" ∈ rTT ∧ Cond.code Lib.Math.max.name Lib.Math.max.code 2 (some .int) ∈ rTT
  | 7 => Cond.methodLink (rCn c) q.1 Lib.Math.min.name ∈ rTT ∧ Cond.static Lib.Math.min.name ∈ rTT ∧ Cond.initialized "java/lang/Math" ∈ rTT ∧ Cond.code Lib.Math.min.name Lib.Math.min.code 2 (some .int) ∈ rTT
  | 0 => ∃ M', rNth rMs q.2.2 = some M' ∧ rOkM M' q.2.2 ∧ (parseMethodDescriptor (rYn q.2.2).desc).map (fun d => d.parameters.length + 1) = some M'.2.2.2.2.2.2.2.2 ∧ Cond.methodLink (rCn c) q.1 (rYn q.2.2) ∈ rTT ∧ Cond.instanceMethod (rYn q.2.2) ∈ rTT ∧ Cond.selects (rYn q.2.2).cls (rYn q.2.2) (rYn q.2.2) ∈ rTT
  | 1 => ∃ M', rNth rMs q.2.2 = some M' ∧ rOkM M' q.2.2 ∧ (parseMethodDescriptor (rYn q.2.2).desc).map (fun d => d.parameters.length) = some M'.2.2.2.2.2.2.2.2 ∧ Cond.methodLink (rCn c) q.1 (rYn q.2.2) ∈ rTT ∧ Cond.static (rYn q.2.2) ∈ rTT
  | 3 => ∃ M', rNth rMs q.2.2 = some M' ∧ rOkM M' q.2.2 ∧ (parseMethodDescriptor (rYn q.2.2).desc).map (fun d => d.parameters.length) = some M'.2.2.2.2.2.2.2.2 ∧ Cond.methodLinkNest (rCn c) q.1 (rYn q.2.2) "SampleLayers" ∈ rNs ∧ Cond.static (rYn q.2.2) ∈ rTT
  | 2 => ∃ M', rNth rMs q.2.2 = some M' ∧ rOkM M' q.2.2 ∧ (parseMethodDescriptor (rYn q.2.2).desc).map (fun d => d.parameters.length + 1) = some M'.2.2.2.2.2.2.2.2 ∧ Cond.methodLink (rCn c) q.1 (rYn q.2.2) ∈ rTT ∧ Cond.instanceMethod (rYn q.2.2) ∈ rTT ∧ (rYn q.2.2).name = "<init>"
  | _ => False
set_option maxRecDepth 20000 in
theorem rMX0_0 : rMk 0 (3, 5, 0) := ⟨rIn1 158 rfl rfl, rIn1 21 rfl rfl, rIn1 22 rfl rfl⟩
set_option maxRecDepth 20000 in
theorem rMX0_1 : rMk 0 (32, 0, 4) := ⟨_, rfl, rOk4, by decide +kernel, rIn3 225 rfl rfl, rIn3 227 rfl rfl, rInP 19 rfl rfl⟩
set_option maxRecDepth 20000 in
theorem rMX0_2 : rMk 0 (36, 1, 6) := ⟨_, rfl, rOk6, by decide +kernel, rIn3 229 rfl rfl, rIn3 230 rfl rfl⟩
set_option maxRecDepth 20000 in
theorem rMX0_3 : rMk 0 (40, 0, 7) := ⟨_, rfl, rOk7, by decide +kernel, rIn3 236 rfl rfl, rIn3 238 rfl rfl, rInP 20 rfl rfl⟩
set_option maxRecDepth 20000 in
theorem rMX0_4 : rMk 0 (46, 3, 106) := ⟨_, rfl, rOk106, by decide +kernel, List.mem_of_getElem? (i := 3) rfl, rIn2 108 rfl rfl⟩
set_option maxRecDepth 20000 in
theorem rMX0_5 : rMk 0 (53, 0, 9) := ⟨_, rfl, rOk9, by decide +kernel, rIn4 0 rfl rfl, rIn4 2 rfl rfl, rInP 21 rfl rfl⟩
set_option maxRecDepth 20000 in
theorem rMX0_6 : rMk 0 (57, 0, 8) := ⟨_, rfl, rOk8, by decide +kernel, rIn4 4 rfl rfl, rIn4 6 rfl rfl, rInP 22 rfl rfl⟩
set_option maxRecDepth 20000 in
theorem rMX0_7 : rMk 0 (61, 0, 5) := ⟨_, rfl, rOk5, by decide +kernel, rIn4 8 rfl rfl, rIn4 10 rfl rfl, rInP 23 rfl rfl⟩
theorem rMX0 : ∀ q ∈ (lkM.getD 0 []), rMk 0 q := List.forall_mem_cons.mpr ⟨rMX0_0, List.forall_mem_cons.mpr ⟨rMX0_1, List.forall_mem_cons.mpr ⟨rMX0_2, List.forall_mem_cons.mpr ⟨rMX0_3, List.forall_mem_cons.mpr ⟨rMX0_4, List.forall_mem_cons.mpr ⟨rMX0_5, List.forall_mem_cons.mpr ⟨rMX0_6, List.forall_mem_cons.mpr ⟨rMX0_7, fun _ h => absurd h List.not_mem_nil⟩⟩⟩⟩⟩⟩⟩⟩
set_option maxRecDepth 20000 in
theorem rMX1_0 : rMk 1 (3, 5, 0) := ⟨rIn1 117 rfl rfl, rIn1 21 rfl rfl, rIn1 22 rfl rfl⟩
theorem rMX1 : ∀ q ∈ (lkM.getD 1 []), rMk 1 q := List.forall_mem_cons.mpr ⟨rMX1_0, fun _ h => absurd h List.not_mem_nil⟩
set_option maxRecDepth 20000 in
theorem rMX2_0 : rMk 2 (3, 5, 0) := ⟨rIn1 135 rfl rfl, rIn1 21 rfl rfl, rIn1 22 rfl rfl⟩
set_option maxRecDepth 20000 in
theorem rMX2_1 : rMk 2 (21, 0, 16) := ⟨_, rfl, rOk16, by decide +kernel, rIn1 136 rfl rfl, rIn1 137 rfl rfl, rIn1 138 rfl rfl⟩
theorem rMX2 : ∀ q ∈ (lkM.getD 2 []), rMk 2 q := List.forall_mem_cons.mpr ⟨rMX2_0, List.forall_mem_cons.mpr ⟨rMX2_1, fun _ h => absurd h List.not_mem_nil⟩⟩
set_option maxRecDepth 20000 in
theorem rMX3_0 : rMk 3 (3, 5, 0) := ⟨rIn1 28 rfl rfl, rIn1 21 rfl rfl, rIn1 22 rfl rfl⟩
set_option maxRecDepth 20000 in
theorem rMX3_1 : rMk 3 (34, 0, 21) := ⟨_, rfl, rOk21, by decide +kernel, rIn1 29 rfl rfl, rIn1 30 rfl rfl, rIn1 31 rfl rfl⟩
set_option maxRecDepth 20000 in
theorem rMX3_2 : rMk 3 (52, 4, 0) := ⟨rIn2 118 rfl rfl, rIn2 120 rfl rfl, rIn2 119 rfl rfl, rIn1 12 rfl rfl⟩
set_option maxRecDepth 20000 in
theorem rMX3_3 : rMk 3 (58, 0, 26) := ⟨_, rfl, rOk26, by decide +kernel, rIn2 84 rfl rfl, rIn2 85 rfl rfl, rIn2 86 rfl rfl⟩
set_option maxRecDepth 20000 in
theorem rMX3_4 : rMk 3 (62, 0, 28) := ⟨_, rfl, rOk28, by decide +kernel, rIn4 24 rfl rfl, rIn2 206 rfl rfl, rIn2 207 rfl rfl⟩
set_option maxRecDepth 20000 in
theorem rMX3_5 : rMk 3 (66, 0, 34) := ⟨_, rfl, rOk34, by decide +kernel, rIn3 39 rfl rfl, rIn3 41 rfl rfl, rInP 12 rfl rfl⟩
set_option maxRecDepth 20000 in
theorem rMX3_6 : rMk 3 (69, 1, 230) := ⟨_, rfl, rOk230, by decide +kernel, rIn2 167 rfl rfl, rIn2 149 rfl rfl⟩
set_option maxRecDepth 20000 in
theorem rMX3_7 : rMk 3 (74, 0, 29) := ⟨_, rfl, rOk29, by decide +kernel, rIn2 166 rfl rfl, rIn2 145 rfl rfl, rIn2 146 rfl rfl⟩
set_option maxRecDepth 20000 in
theorem rMX3_8 : rMk 3 (77, 0, 38) := ⟨_, rfl, rOk38, by decide +kernel, rIn2 221 rfl rfl, rIn2 222 rfl rfl, rIn2 223 rfl rfl⟩
set_option maxRecDepth 20000 in
theorem rMX3_9 : rMk 3 (80, 0, 39) := ⟨_, rfl, rOk39, by decide +kernel, rIn2 225 rfl rfl, rIn2 227 rfl rfl, rInP 9 rfl rfl⟩
set_option maxRecDepth 20000 in
theorem rMX3_10 : rMk 3 (83, 0, 30) := ⟨_, rfl, rOk30, by decide +kernel, rIn2 229 rfl rfl, rIn2 210 rfl rfl, rIn2 211 rfl rfl⟩
set_option maxRecDepth 20000 in
theorem rMX3_11 : rMk 3 (86, 0, 36) := ⟨_, rfl, rOk36, by decide +kernel, rIn2 230 rfl rfl, rIn2 163 rfl rfl, rIn2 164 rfl rfl⟩
set_option maxRecDepth 20000 in
theorem rMX3_12 : rMk 3 (89, 0, 35) := ⟨_, rfl, rOk35, by decide +kernel, rIn2 231 rfl rfl, rIn2 159 rfl rfl, rIn2 160 rfl rfl⟩
set_option maxRecDepth 20000 in
theorem rMX3_13 : rMk 3 (92, 3, 108) := ⟨_, rfl, rOk108, by decide +kernel, List.mem_of_getElem? (i := 2) rfl, rIn2 233 rfl rfl⟩
set_option maxRecDepth 20000 in
theorem rMX3_14 : rMk 3 (96, 0, 41) := ⟨_, rfl, rOk41, by decide +kernel, rIn3 13 rfl rfl, rIn3 15 rfl rfl, rInP 10 rfl rfl⟩
set_option maxRecDepth 20000 in
theorem rMX3_15 : rMk 3 (100, 0, 24) := ⟨_, rfl, rOk24, by decide +kernel, rIn3 18 rfl rfl, rIn2 186 rfl rfl, rIn2 187 rfl rfl⟩
theorem rMX3 : ∀ q ∈ (lkM.getD 3 []), rMk 3 q := List.forall_mem_cons.mpr ⟨rMX3_0, List.forall_mem_cons.mpr ⟨rMX3_1, List.forall_mem_cons.mpr ⟨rMX3_2, List.forall_mem_cons.mpr ⟨rMX3_3, List.forall_mem_cons.mpr ⟨rMX3_4, List.forall_mem_cons.mpr ⟨rMX3_5, List.forall_mem_cons.mpr ⟨rMX3_6, List.forall_mem_cons.mpr ⟨rMX3_7, List.forall_mem_cons.mpr ⟨rMX3_8, List.forall_mem_cons.mpr ⟨rMX3_9, List.forall_mem_cons.mpr ⟨rMX3_10, List.forall_mem_cons.mpr ⟨rMX3_11, List.forall_mem_cons.mpr ⟨rMX3_12, List.forall_mem_cons.mpr ⟨rMX3_13, List.forall_mem_cons.mpr ⟨rMX3_14, List.forall_mem_cons.mpr ⟨rMX3_15, fun _ h => absurd h List.not_mem_nil⟩⟩⟩⟩⟩⟩⟩⟩⟩⟩⟩⟩⟩⟩⟩⟩
set_option maxRecDepth 20000 in
theorem rMX4_0 : rMk 4 (3, 5, 0) := ⟨rIn1 90 rfl rfl, rIn1 21 rfl rfl, rIn1 22 rfl rfl⟩
set_option maxRecDepth 20000 in
theorem rMX4_1 : rMk 4 (19, 0, 21) := ⟨_, rfl, rOk21, by decide +kernel, rIn1 227 rfl rfl, rIn1 30 rfl rfl, rIn1 31 rfl rfl⟩
set_option maxRecDepth 20000 in
theorem rMX4_2 : rMk 4 (30, 0, 55) := ⟨_, rfl, rOk55, by decide +kernel, rIn1 228 rfl rfl, rIn1 230 rfl rfl, rInP 0 rfl rfl⟩
set_option maxRecDepth 20000 in
theorem rMX4_3 : rMk 4 (36, 0, 46) := ⟨_, rfl, rOk46, by decide +kernel, rIn1 235 rfl rfl, rIn1 237 rfl rfl, rInP 1 rfl rfl⟩
set_option maxRecDepth 20000 in
theorem rMX4_4 : rMk 4 (40, 0, 50) := ⟨_, rfl, rOk50, by decide +kernel, rIn1 239 rfl rfl, rIn2 1 rfl rfl, rInP 2 rfl rfl⟩
set_option maxRecDepth 20000 in
theorem rMX4_5 : rMk 4 (44, 0, 47) := ⟨_, rfl, rOk47, by decide +kernel, rIn2 61 rfl rfl, rIn2 63 rfl rfl, rInP 4 rfl rfl⟩
set_option maxRecDepth 20000 in
theorem rMX4_6 : rMk 4 (48, 0, 51) := ⟨_, rfl, rOk51, by decide +kernel, rIn2 88 rfl rfl, rIn2 90 rfl rfl, rInP 8 rfl rfl⟩
set_option maxRecDepth 20000 in
theorem rMX4_7 : rMk 4 (51, 0, 54) := ⟨_, rfl, rOk54, by decide +kernel, rIn2 65 rfl rfl, rIn2 67 rfl rfl, rInP 5 rfl rfl⟩
set_option maxRecDepth 20000 in
theorem rMX4_8 : rMk 4 (54, 1, 49) := ⟨_, rfl, rOk49, by decide +kernel, rIn2 98 rfl rfl, rIn2 99 rfl rfl⟩
set_option maxRecDepth 20000 in
theorem rMX4_9 : rMk 4 (58, 0, 52) := ⟨_, rfl, rOk52, by decide +kernel, rIn2 70 rfl rfl, rIn2 72 rfl rfl, rInP 6 rfl rfl⟩
set_option maxRecDepth 20000 in
theorem rMX4_10 : rMk 4 (61, 0, 53) := ⟨_, rfl, rOk53, by decide +kernel, rIn2 76 rfl rfl, rIn2 78 rfl rfl, rInP 7 rfl rfl⟩
set_option maxRecDepth 20000 in
theorem rMX4_11 : rMk 4 (64, 1, 48) := ⟨_, rfl, rOk48, by decide +kernel, rIn2 104 rfl rfl, rIn2 105 rfl rfl⟩
set_option maxRecDepth 20000 in
theorem rMX4_12 : rMk 4 (73, 0, 57) := ⟨_, rfl, rOk57, by decide +kernel, rIn2 4 rfl rfl, rIn2 6 rfl rfl, rInP 3 rfl rfl⟩
set_option maxRecDepth 20000 in
theorem rMX4_13 : rMk 4 (81, 0, 25) := ⟨_, rfl, rOk25, by decide +kernel, rIn2 80 rfl rfl, rIn2 81 rfl rfl, rIn2 82 rfl rfl⟩
set_option maxRecDepth 20000 in
theorem rMX4_14 : rMk 4 (91, 3, 106) := ⟨_, rfl, rOk106, by decide +kernel, List.mem_of_getElem? (i := 1) rfl, rIn2 108 rfl rfl⟩
set_option maxRecDepth 20000 in
theorem rMX4_15 : rMk 4 (99, 3, 109) := ⟨_, rfl, rOk109, by decide +kernel, List.mem_of_getElem? (i := 0) rfl, rIn2 102 rfl rfl⟩
set_option maxRecDepth 20000 in
theorem rMX4_16 : rMk 4 (128, 1, 56) := ⟨_, rfl, rOk56, by decide +kernel, rIn1 232 rfl rfl, rIn1 233 rfl rfl⟩
set_option maxRecDepth 20000 in
theorem rMX4_17 : rMk 4 (131, 0, 231) := ⟨_, rfl, rOk231, by decide +kernel, rIn2 8 rfl rfl, rIn2 9 rfl rfl, rIn2 10 rfl rfl⟩
set_option maxRecDepth 20000 in
theorem rMX4_18 : rMk 4 (136, 0, 232) := ⟨_, rfl, rOk232, by decide +kernel, rIn2 18 rfl rfl, rIn2 19 rfl rfl, rIn2 20 rfl rfl⟩
theorem rMX4 : ∀ q ∈ (lkM.getD 4 []), rMk 4 q := List.forall_mem_cons.mpr ⟨rMX4_0, List.forall_mem_cons.mpr ⟨rMX4_1, List.forall_mem_cons.mpr ⟨rMX4_2, List.forall_mem_cons.mpr ⟨rMX4_3, List.forall_mem_cons.mpr ⟨rMX4_4, List.forall_mem_cons.mpr ⟨rMX4_5, List.forall_mem_cons.mpr ⟨rMX4_6, List.forall_mem_cons.mpr ⟨rMX4_7, List.forall_mem_cons.mpr ⟨rMX4_8, List.forall_mem_cons.mpr ⟨rMX4_9, List.forall_mem_cons.mpr ⟨rMX4_10, List.forall_mem_cons.mpr ⟨rMX4_11, List.forall_mem_cons.mpr ⟨rMX4_12, List.forall_mem_cons.mpr ⟨rMX4_13, List.forall_mem_cons.mpr ⟨rMX4_14, List.forall_mem_cons.mpr ⟨rMX4_15, List.forall_mem_cons.mpr ⟨rMX4_16, List.forall_mem_cons.mpr ⟨rMX4_17, List.forall_mem_cons.mpr ⟨rMX4_18, fun _ h => absurd h List.not_mem_nil⟩⟩⟩⟩⟩⟩⟩⟩⟩⟩⟩⟩⟩⟩⟩⟩⟩⟩⟩
set_option maxRecDepth 20000 in
theorem rMX5_0 : rMk 5 (1, 5, 0) := ⟨rIn1 20 rfl rfl, rIn1 21 rfl rfl, rIn1 22 rfl rfl⟩
set_option maxRecDepth 20000 in
theorem rMX5_1 : rMk 5 (9, 2, 20) := ⟨_, rfl, rOk20, by decide +kernel, rIn1 25 rfl rfl, rIn1 26 rfl rfl, rfl⟩
set_option maxRecDepth 20000 in
theorem rMX5_2 : rMk 5 (24, 2, 42) := ⟨_, rfl, rOk42, by decide +kernel, rIn1 87 rfl rfl, rIn1 88 rfl rfl, rfl⟩
set_option maxRecDepth 20000 in
theorem rMX5_3 : rMk 5 (31, 2, 10) := ⟨_, rfl, rOk10, by decide +kernel, rIn1 114 rfl rfl, rIn1 115 rfl rfl, rfl⟩
set_option maxRecDepth 20000 in
theorem rMX5_4 : rMk 5 (38, 2, 15) := ⟨_, rfl, rOk15, by decide +kernel, rIn1 132 rfl rfl, rIn1 133 rfl rfl, rfl⟩
set_option maxRecDepth 20000 in
theorem rMX5_5 : rMk 5 (45, 2, 0) := ⟨_, rfl, rOk0, by decide +kernel, rIn1 155 rfl rfl, rIn1 156 rfl rfl, rfl⟩
set_option maxRecDepth 20000 in
theorem rMX5_6 : rMk 5 (62, 0, 44) := ⟨_, rfl, rOk44, by decide +kernel, rIn1 215 rfl rfl, rIn1 216 rfl rfl, rIn1 217 rfl rfl⟩
set_option maxRecDepth 20000 in
theorem rMX5_7 : rMk 5 (66, 0, 45) := ⟨_, rfl, rOk45, by decide +kernel, rIn1 223 rfl rfl, rIn1 224 rfl rfl, rIn1 225 rfl rfl⟩
set_option maxRecDepth 20000 in
theorem rMX5_8 : rMk 5 (70, 0, 43) := ⟨_, rfl, rOk43, by decide +kernel, rIn2 110 rfl rfl, rIn2 111 rfl rfl, rIn2 112 rfl rfl⟩
set_option maxRecDepth 20000 in
theorem rMX5_9 : rMk 5 (76, 0, 22) := ⟨_, rfl, rOk22, by decide +kernel, rIn2 114 rfl rfl, rIn2 115 rfl rfl, rIn2 116 rfl rfl⟩
set_option maxRecDepth 20000 in
theorem rMX5_10 : rMk 5 (83, 1, 106) := ⟨_, rfl, rOk106, by decide +kernel, rIn2 125 rfl rfl, rIn2 108 rfl rfl⟩
set_option maxRecDepth 20000 in
theorem rMX5_11 : rMk 5 (87, 1, 109) := ⟨_, rfl, rOk109, by decide +kernel, rIn2 126 rfl rfl, rIn2 102 rfl rfl⟩
set_option maxRecDepth 20000 in
theorem rMX5_12 : rMk 5 (94, 0, 25) := ⟨_, rfl, rOk25, by decide +kernel, rIn2 135 rfl rfl, rIn2 81 rfl rfl, rIn2 82 rfl rfl⟩
set_option maxRecDepth 20000 in
theorem rMX5_13 : rMk 5 (98, 0, 23) := ⟨_, rfl, rOk23, by decide +kernel, rIn2 140 rfl rfl, rIn2 141 rfl rfl, rIn2 142 rfl rfl⟩
set_option maxRecDepth 20000 in
theorem rMX5_14 : rMk 5 (114, 0, 29) := ⟨_, rfl, rOk29, by decide +kernel, rIn2 144 rfl rfl, rIn2 145 rfl rfl, rIn2 146 rfl rfl⟩
set_option maxRecDepth 20000 in
theorem rMX5_15 : rMk 5 (117, 1, 230) := ⟨_, rfl, rOk230, by decide +kernel, rIn2 148 rfl rfl, rIn2 149 rfl rfl⟩
set_option maxRecDepth 20000 in
theorem rMX5_16 : rMk 5 (122, 0, 35) := ⟨_, rfl, rOk35, by decide +kernel, rIn2 158 rfl rfl, rIn2 159 rfl rfl, rIn2 160 rfl rfl⟩
set_option maxRecDepth 20000 in
theorem rMX5_17 : rMk 5 (125, 0, 36) := ⟨_, rfl, rOk36, by decide +kernel, rIn2 162 rfl rfl, rIn2 163 rfl rfl, rIn2 164 rfl rfl⟩
set_option maxRecDepth 20000 in
theorem rMX5_18 : rMk 5 (128, 0, 26) := ⟨_, rfl, rOk26, by decide +kernel, rIn2 180 rfl rfl, rIn2 85 rfl rfl, rIn2 86 rfl rfl⟩
set_option maxRecDepth 20000 in
theorem rMX5_19 : rMk 5 (132, 0, 24) := ⟨_, rfl, rOk24, by decide +kernel, rIn2 185 rfl rfl, rIn2 186 rfl rfl, rIn2 187 rfl rfl⟩
set_option maxRecDepth 20000 in
theorem rMX5_20 : rMk 5 (135, 0, 27) := ⟨_, rfl, rOk27, by decide +kernel, rIn2 189 rfl rfl, rIn2 190 rfl rfl, rIn2 191 rfl rfl⟩
set_option maxRecDepth 20000 in
theorem rMX5_21 : rMk 5 (145, 0, 28) := ⟨_, rfl, rOk28, by decide +kernel, rIn2 205 rfl rfl, rIn2 206 rfl rfl, rIn2 207 rfl rfl⟩
set_option maxRecDepth 20000 in
theorem rMX5_22 : rMk 5 (148, 0, 30) := ⟨_, rfl, rOk30, by decide +kernel, rIn2 209 rfl rfl, rIn2 210 rfl rfl, rIn2 211 rfl rfl⟩
set_option maxRecDepth 20000 in
theorem rMX5_23 : rMk 5 (151, 0, 37) := ⟨_, rfl, rOk37, by decide +kernel, rIn2 217 rfl rfl, rIn2 218 rfl rfl, rIn2 219 rfl rfl⟩
set_option maxRecDepth 20000 in
theorem rMX5_24 : rMk 5 (155, 0, 40) := ⟨_, rfl, rOk40, by decide +kernel, rIn3 9 rfl rfl, rIn3 10 rfl rfl, rIn3 11 rfl rfl⟩
set_option maxRecDepth 20000 in
theorem rMX5_25 : rMk 5 (158, 0, 111) := ⟨_, rfl, rOk111, by decide +kernel, rIn3 23 rfl rfl, rIn3 25 rfl rfl, rInP 11 rfl rfl⟩
set_option maxRecDepth 20000 in
theorem rMX5_26 : rMk 5 (164, 0, 31) := ⟨_, rfl, rOk31, by decide +kernel, rIn3 31 rfl rfl, rIn3 32 rfl rfl, rIn3 33 rfl rfl⟩
set_option maxRecDepth 20000 in
theorem rMX5_27 : rMk 5 (167, 0, 33) := ⟨_, rfl, rOk33, by decide +kernel, rIn3 35 rfl rfl, rIn3 36 rfl rfl, rIn3 37 rfl rfl⟩
set_option maxRecDepth 20000 in
theorem rMX5_28 : rMk 5 (170, 0, 38) := ⟨_, rfl, rOk38, by decide +kernel, rIn3 51 rfl rfl, rIn2 222 rfl rfl, rIn2 223 rfl rfl⟩
set_option maxRecDepth 20000 in
theorem rMX5_29 : rMk 5 (173, 1, 107) := ⟨_, rfl, rOk107, by decide +kernel, rIn3 64 rfl rfl, rIn3 65 rfl rfl⟩
set_option maxRecDepth 20000 in
theorem rMX5_30 : rMk 5 (176, 0, 113) := ⟨_, rfl, rOk113, by decide +kernel, rIn3 67 rfl rfl, rIn3 69 rfl rfl, rInP 13 rfl rfl⟩
set_option maxRecDepth 20000 in
theorem rMX5_31 : rMk 5 (180, 0, 112) := ⟨_, rfl, rOk112, by decide +kernel, rIn3 91 rfl rfl, rIn3 93 rfl rfl, rInP 15 rfl rfl⟩
set_option maxRecDepth 20000 in
theorem rMX5_32 : rMk 5 (187, 0, 115) := ⟨_, rfl, rOk115, by decide +kernel, rIn3 103 rfl rfl, rIn3 105 rfl rfl, rInP 16 rfl rfl⟩
set_option maxRecDepth 20000 in
theorem rMX5_33 : rMk 5 (193, 1, 118) := ⟨_, rfl, rOk118, by decide +kernel, rIn3 116 rfl rfl, rIn3 117 rfl rfl⟩
set_option maxRecDepth 20000 in
theorem rMX5_34 : rMk 5 (197, 1, 119) := ⟨_, rfl, rOk119, by decide +kernel, rIn3 119 rfl rfl, rIn3 120 rfl rfl⟩
set_option maxRecDepth 20000 in
theorem rMX5_35 : rMk 5 (203, 1, 120) := ⟨_, rfl, rOk120, by decide +kernel, rIn3 123 rfl rfl, rIn3 124 rfl rfl⟩
set_option maxRecDepth 20000 in
theorem rMX5_36 : rMk 5 (207, 0, 117) := ⟨_, rfl, rOk117, by decide +kernel, rIn3 134 rfl rfl, rIn3 136 rfl rfl, rInP 17 rfl rfl⟩
set_option maxRecDepth 20000 in
theorem rMX5_37 : rMk 5 (210, 0, 116) := ⟨_, rfl, rOk116, by decide +kernel, rIn3 142 rfl rfl, rIn3 144 rfl rfl, rInP 18 rfl rfl⟩
set_option maxRecDepth 20000 in
theorem rMX5_38 : rMk 5 (216, 0, 13) := ⟨_, rfl, rOk13, by decide +kernel, rIn3 107 rfl rfl, rIn3 108 rfl rfl, rIn3 109 rfl rfl⟩
set_option maxRecDepth 20000 in
theorem rMX5_39 : rMk 5 (219, 1, 108) := ⟨_, rfl, rOk108, by decide +kernel, rIn3 158 rfl rfl, rIn2 233 rfl rfl⟩
set_option maxRecDepth 20000 in
theorem rMX5_40 : rMk 5 (222, 0, 11) := ⟨_, rfl, rOk11, by decide +kernel, rIn3 163 rfl rfl, rIn3 164 rfl rfl, rIn3 165 rfl rfl⟩
set_option maxRecDepth 20000 in
theorem rMX5_41 : rMk 5 (226, 0, 12) := ⟨_, rfl, rOk12, by decide +kernel, rIn3 171 rfl rfl, rIn3 172 rfl rfl, rIn3 173 rfl rfl⟩
set_option maxRecDepth 20000 in
theorem rMX5_42 : rMk 5 (229, 0, 14) := ⟨_, rfl, rOk14, by decide +kernel, rIn3 175 rfl rfl, rIn3 176 rfl rfl, rIn3 177 rfl rfl⟩
set_option maxRecDepth 20000 in
theorem rMX5_43 : rMk 5 (232, 0, 17) := ⟨_, rfl, rOk17, by decide +kernel, rIn3 187 rfl rfl, rIn3 188 rfl rfl, rIn3 189 rfl rfl⟩
set_option maxRecDepth 20000 in
theorem rMX5_44 : rMk 5 (235, 0, 18) := ⟨_, rfl, rOk18, by decide +kernel, rIn3 191 rfl rfl, rIn3 192 rfl rfl, rIn3 193 rfl rfl⟩
set_option maxRecDepth 20000 in
theorem rMX5_45 : rMk 5 (238, 0, 16) := ⟨_, rfl, rOk16, by decide +kernel, rIn3 195 rfl rfl, rIn1 137 rfl rfl, rIn1 138 rfl rfl⟩
set_option maxRecDepth 20000 in
theorem rMX5_46 : rMk 5 (240, 0, 19) := ⟨_, rfl, rOk19, by decide +kernel, rIn3 200 rfl rfl, rIn3 201 rfl rfl, rIn3 202 rfl rfl⟩
set_option maxRecDepth 20000 in
theorem rMX5_47 : rMk 5 (248, 1, 110) := ⟨_, rfl, rOk110, by decide +kernel, rIn3 204 rfl rfl, rIn3 205 rfl rfl⟩
set_option maxRecDepth 20000 in
theorem rMX5_48 : rMk 5 (251, 0, 1) := ⟨_, rfl, rOk1, by decide +kernel, rIn3 213 rfl rfl, rIn3 214 rfl rfl, rIn3 215 rfl rfl⟩
set_option maxRecDepth 20000 in
theorem rMX5_49 : rMk 5 (252, 0, 2) := ⟨_, rfl, rOk2, by decide +kernel, rIn3 217 rfl rfl, rIn3 218 rfl rfl, rIn3 219 rfl rfl⟩
set_option maxRecDepth 20000 in
theorem rMX5_50 : rMk 5 (255, 0, 3) := ⟨_, rfl, rOk3, by decide +kernel, rIn3 221 rfl rfl, rIn3 222 rfl rfl, rIn3 223 rfl rfl⟩
set_option maxRecDepth 20000 in
theorem rMX5_51 : rMk 5 (264, 0, 32) := ⟨_, rfl, rOk32, by decide +kernel, rIn4 20 rfl rfl, rIn4 21 rfl rfl, rIn4 22 rfl rfl⟩
set_option maxRecDepth 20000 in
theorem rMX5_52 : rMk 5 (270, 7, 0) := ⟨rIn2 235 rfl rfl, rIn2 236 rfl rfl, rIn1 14 rfl rfl, rIn2 237 rfl rfl⟩
set_option maxRecDepth 20000 in
theorem rMX5_53 : rMk 5 (275, 6, 0) := ⟨rIn2 238 rfl rfl, rIn2 239 rfl rfl, rIn1 14 rfl rfl, rIn3 0 rfl rfl⟩
set_option maxRecDepth 20000 in
theorem rMX5_54 : rMk 5 (281, 0, 114) := ⟨_, rfl, rOk114, by decide +kernel, rIn3 71 rfl rfl, rIn3 73 rfl rfl, rInP 14 rfl rfl⟩
theorem rMX5 : ∀ q ∈ (lkM.getD 5 []), rMk 5 q := List.forall_mem_cons.mpr ⟨rMX5_0, List.forall_mem_cons.mpr ⟨rMX5_1, List.forall_mem_cons.mpr ⟨rMX5_2, List.forall_mem_cons.mpr ⟨rMX5_3, List.forall_mem_cons.mpr ⟨rMX5_4, List.forall_mem_cons.mpr ⟨rMX5_5, List.forall_mem_cons.mpr ⟨rMX5_6, List.forall_mem_cons.mpr ⟨rMX5_7, List.forall_mem_cons.mpr ⟨rMX5_8, List.forall_mem_cons.mpr ⟨rMX5_9, List.forall_mem_cons.mpr ⟨rMX5_10, List.forall_mem_cons.mpr ⟨rMX5_11, List.forall_mem_cons.mpr ⟨rMX5_12, List.forall_mem_cons.mpr ⟨rMX5_13, List.forall_mem_cons.mpr ⟨rMX5_14, List.forall_mem_cons.mpr ⟨rMX5_15, List.forall_mem_cons.mpr ⟨rMX5_16, List.forall_mem_cons.mpr ⟨rMX5_17, List.forall_mem_cons.mpr ⟨rMX5_18, List.forall_mem_cons.mpr ⟨rMX5_19, List.forall_mem_cons.mpr ⟨rMX5_20, List.forall_mem_cons.mpr ⟨rMX5_21, List.forall_mem_cons.mpr ⟨rMX5_22, List.forall_mem_cons.mpr ⟨rMX5_23, List.forall_mem_cons.mpr ⟨rMX5_24, List.forall_mem_cons.mpr ⟨rMX5_25, List.forall_mem_cons.mpr ⟨rMX5_26, List.forall_mem_cons.mpr ⟨rMX5_27, List.forall_mem_cons.mpr ⟨rMX5_28, List.forall_mem_cons.mpr ⟨rMX5_29, List.forall_mem_cons.mpr ⟨rMX5_30, List.forall_mem_cons.mpr ⟨rMX5_31, List.forall_mem_cons.mpr ⟨rMX5_32, List.forall_mem_cons.mpr ⟨rMX5_33, List.forall_mem_cons.mpr ⟨rMX5_34, List.forall_mem_cons.mpr ⟨rMX5_35, List.forall_mem_cons.mpr ⟨rMX5_36, List.forall_mem_cons.mpr ⟨rMX5_37, List.forall_mem_cons.mpr ⟨rMX5_38, List.forall_mem_cons.mpr ⟨rMX5_39, List.forall_mem_cons.mpr ⟨rMX5_40, List.forall_mem_cons.mpr ⟨rMX5_41, List.forall_mem_cons.mpr ⟨rMX5_42, List.forall_mem_cons.mpr ⟨rMX5_43, List.forall_mem_cons.mpr ⟨rMX5_44, List.forall_mem_cons.mpr ⟨rMX5_45, List.forall_mem_cons.mpr ⟨rMX5_46, List.forall_mem_cons.mpr ⟨rMX5_47, List.forall_mem_cons.mpr ⟨rMX5_48, List.forall_mem_cons.mpr ⟨rMX5_49, List.forall_mem_cons.mpr ⟨rMX5_50, List.forall_mem_cons.mpr ⟨rMX5_51, List.forall_mem_cons.mpr ⟨rMX5_52, List.forall_mem_cons.mpr ⟨rMX5_53, List.forall_mem_cons.mpr ⟨rMX5_54, fun _ h => absurd h List.not_mem_nil⟩⟩⟩⟩⟩⟩⟩⟩⟩⟩⟩⟩⟩⟩⟩⟩⟩⟩⟩⟩⟩⟩⟩⟩⟩⟩⟩⟩⟩⟩⟩⟩⟩⟩⟩⟩⟩⟩⟩⟩⟩⟩⟩⟩⟩⟩⟩⟩⟩⟩⟩⟩⟩⟩⟩
set_option maxRecDepth 20000 in
theorem rMX6_0 : rMk 6 (1, 5, 0) := ⟨rIn4 38 rfl rfl, rIn1 21 rfl rfl, rIn1 22 rfl rfl⟩
set_option maxRecDepth 20000 in
theorem rMX6_1 : rMk 6 (52, 0, 122) := ⟨_, rfl, rOk122, by decide +kernel, rIn4 39 rfl rfl, rIn4 41 rfl rfl, rInP 24 rfl rfl⟩
set_option maxRecDepth 20000 in
theorem rMX6_2 : rMk 6 (57, 1, 123) := ⟨_, rfl, rOk123, by decide +kernel, rIn4 130 rfl rfl, rIn4 131 rfl rfl⟩
set_option maxRecDepth 20000 in
theorem rMX6_3 : rMk 6 (73, 0, 136) := ⟨_, rfl, rOk136, by decide +kernel, rIn4 145 rfl rfl, rIn4 147 rfl rfl, rInP 26 rfl rfl⟩
set_option maxRecDepth 20000 in
theorem rMX6_4 : rMk 6 (77, 1, 134) := ⟨_, rfl, rOk134, by decide +kernel, rIn4 149 rfl rfl, rIn4 150 rfl rfl⟩
set_option maxRecDepth 20000 in
theorem rMX6_5 : rMk 6 (81, 1, 135) := ⟨_, rfl, rOk135, by decide +kernel, rIn4 152 rfl rfl, rIn4 153 rfl rfl⟩
set_option maxRecDepth 20000 in
theorem rMX6_6 : rMk 6 (94, 0, 137) := ⟨_, rfl, rOk137, by decide +kernel, rIn4 141 rfl rfl, rIn4 143 rfl rfl, rInP 25 rfl rfl⟩
set_option maxRecDepth 20000 in
theorem rMX6_7 : rMk 6 (97, 0, 139) := ⟨_, rfl, rOk139, by decide +kernel, rIn4 167 rfl rfl, rIn4 169 rfl rfl, rInP 30 rfl rfl⟩
set_option maxRecDepth 20000 in
theorem rMX6_8 : rMk 6 (101, 0, 142) := ⟨_, rfl, rOk142, by decide +kernel, rIn4 163 rfl rfl, rIn4 165 rfl rfl, rInP 29 rfl rfl⟩
set_option maxRecDepth 20000 in
theorem rMX6_9 : rMk 6 (104, 0, 140) := ⟨_, rfl, rOk140, by decide +kernel, rIn4 171 rfl rfl, rIn4 173 rfl rfl, rInP 31 rfl rfl⟩
set_option maxRecDepth 20000 in
theorem rMX6_10 : rMk 6 (108, 0, 141) := ⟨_, rfl, rOk141, by decide +kernel, rIn4 175 rfl rfl, rIn4 177 rfl rfl, rInP 32 rfl rfl⟩
set_option maxRecDepth 20000 in
theorem rMX6_11 : rMk 6 (111, 0, 138) := ⟨_, rfl, rOk138, by decide +kernel, rIn4 187 rfl rfl, rIn4 189 rfl rfl, rInP 35 rfl rfl⟩
set_option maxRecDepth 20000 in
theorem rMX6_12 : rMk 6 (115, 0, 144) := ⟨_, rfl, rOk144, by decide +kernel, rIn4 199 rfl rfl, rIn4 201 rfl rfl, rInP 38 rfl rfl⟩
set_option maxRecDepth 20000 in
theorem rMX6_13 : rMk 6 (119, 0, 153) := ⟨_, rfl, rOk153, by decide +kernel, rIn4 191 rfl rfl, rIn4 193 rfl rfl, rInP 36 rfl rfl⟩
set_option maxRecDepth 20000 in
theorem rMX6_14 : rMk 6 (123, 0, 145) := ⟨_, rfl, rOk145, by decide +kernel, rIn4 203 rfl rfl, rIn4 205 rfl rfl, rInP 39 rfl rfl⟩
set_option maxRecDepth 20000 in
theorem rMX6_15 : rMk 6 (127, 0, 143) := ⟨_, rfl, rOk143, by decide +kernel, rIn4 159 rfl rfl, rIn4 161 rfl rfl, rInP 28 rfl rfl⟩
set_option maxRecDepth 20000 in
theorem rMX6_16 : rMk 6 (131, 0, 147) := ⟨_, rfl, rOk147, by decide +kernel, rIn4 179 rfl rfl, rIn4 181 rfl rfl, rInP 33 rfl rfl⟩
set_option maxRecDepth 20000 in
theorem rMX6_17 : rMk 6 (134, 0, 146) := ⟨_, rfl, rOk146, by decide +kernel, rIn4 183 rfl rfl, rIn4 185 rfl rfl, rInP 34 rfl rfl⟩
set_option maxRecDepth 20000 in
theorem rMX6_18 : rMk 6 (138, 1, 128) := ⟨_, rfl, rOk128, by decide +kernel, rIn4 138 rfl rfl, rIn4 139 rfl rfl⟩
set_option maxRecDepth 20000 in
theorem rMX6_19 : rMk 6 (142, 0, 148) := ⟨_, rfl, rOk148, by decide +kernel, rIn4 155 rfl rfl, rIn4 157 rfl rfl, rInP 27 rfl rfl⟩
set_option maxRecDepth 20000 in
theorem rMX6_20 : rMk 6 (154, 0, 127) := ⟨_, rfl, rOk127, by decide +kernel, rIn4 214 rfl rfl, rIn4 216 rfl rfl, rInP 40 rfl rfl⟩
set_option maxRecDepth 20000 in
theorem rMX6_21 : rMk 6 (158, 0, 152) := ⟨_, rfl, rOk152, by decide +kernel, rIn4 195 rfl rfl, rIn4 197 rfl rfl, rInP 37 rfl rfl⟩
set_option maxRecDepth 20000 in
theorem rMX6_22 : rMk 6 (163, 1, 124) := ⟨_, rfl, rOk124, by decide +kernel, rIn4 227 rfl rfl, rIn4 228 rfl rfl⟩
set_option maxRecDepth 20000 in
theorem rMX6_23 : rMk 6 (166, 0, 126) := ⟨_, rfl, rOk126, by decide +kernel, rIn4 239 rfl rfl, rIn5 1 rfl rfl, rInP 42 rfl rfl⟩
set_option maxRecDepth 20000 in
theorem rMX6_24 : rMk 6 (169, 0, 155) := ⟨_, rfl, rOk155, by decide +kernel, rIn5 3 rfl rfl, rIn5 5 rfl rfl, rInP 43 rfl rfl⟩
set_option maxRecDepth 20000 in
theorem rMX6_25 : rMk 6 (172, 1, 131) := ⟨_, rfl, rOk131, by decide +kernel, rIn5 7 rfl rfl, rIn5 8 rfl rfl⟩
set_option maxRecDepth 20000 in
theorem rMX6_26 : rMk 6 (175, 0, 125) := ⟨_, rfl, rOk125, by decide +kernel, rIn4 234 rfl rfl, rIn4 236 rfl rfl, rInP 41 rfl rfl⟩
set_option maxRecDepth 20000 in
theorem rMX6_27 : rMk 6 (180, 0, 156) := ⟨_, rfl, rOk156, by decide +kernel, rIn5 14 rfl rfl, rIn5 16 rfl rfl, rInP 44 rfl rfl⟩
set_option maxRecDepth 20000 in
theorem rMX6_28 : rMk 6 (183, 0, 157) := ⟨_, rfl, rOk157, by decide +kernel, rIn5 18 rfl rfl, rIn5 20 rfl rfl, rInP 45 rfl rfl⟩
set_option maxRecDepth 20000 in
theorem rMX6_29 : rMk 6 (186, 0, 163) := ⟨_, rfl, rOk163, by decide +kernel, rIn5 38 rfl rfl, rIn5 40 rfl rfl, rInP 46 rfl rfl⟩
set_option maxRecDepth 20000 in
theorem rMX6_30 : rMk 6 (189, 0, 167) := ⟨_, rfl, rOk167, by decide +kernel, rIn5 54 rfl rfl, rIn5 56 rfl rfl, rInP 47 rfl rfl⟩
set_option maxRecDepth 20000 in
theorem rMX6_31 : rMk 6 (192, 0, 168) := ⟨_, rfl, rOk168, by decide +kernel, rIn5 58 rfl rfl, rIn5 60 rfl rfl, rInP 48 rfl rfl⟩
set_option maxRecDepth 20000 in
theorem rMX6_32 : rMk 6 (195, 1, 130) := ⟨_, rfl, rOk130, by decide +kernel, rIn5 75 rfl rfl, rIn5 76 rfl rfl⟩
set_option maxRecDepth 20000 in
theorem rMX6_33 : rMk 6 (198, 0, 170) := ⟨_, rfl, rOk170, by decide +kernel, rIn5 71 rfl rfl, rIn5 73 rfl rfl, rInP 50 rfl rfl⟩
set_option maxRecDepth 20000 in
theorem rMX6_34 : rMk 6 (203, 0, 171) := ⟨_, rfl, rOk171, by decide +kernel, rIn5 67 rfl rfl, rIn5 69 rfl rfl, rInP 49 rfl rfl⟩
set_option maxRecDepth 20000 in
theorem rMX6_35 : rMk 6 (207, 0, 174) := ⟨_, rfl, rOk174, by decide +kernel, rIn5 86 rfl rfl, rIn5 88 rfl rfl, rInP 51 rfl rfl⟩
set_option maxRecDepth 20000 in
theorem rMX6_36 : rMk 6 (212, 0, 175) := ⟨_, rfl, rOk175, by decide +kernel, rIn5 96 rfl rfl, rIn5 83 rfl rfl, rIn5 84 rfl rfl⟩
set_option maxRecDepth 20000 in
theorem rMX6_37 : rMk 6 (215, 0, 178) := ⟨_, rfl, rOk178, by decide +kernel, rIn5 109 rfl rfl, rIn5 111 rfl rfl, rInP 54 rfl rfl⟩
set_option maxRecDepth 20000 in
theorem rMX6_38 : rMk 6 (218, 0, 177) := ⟨_, rfl, rOk177, by decide +kernel, rIn5 101 rfl rfl, rIn5 103 rfl rfl, rInP 52 rfl rfl⟩
set_option maxRecDepth 20000 in
theorem rMX6_39 : rMk 6 (221, 0, 179) := ⟨_, rfl, rOk179, by decide +kernel, rIn5 105 rfl rfl, rIn5 107 rfl rfl, rInP 53 rfl rfl⟩
set_option maxRecDepth 20000 in
theorem rMX6_40 : rMk 6 (224, 0, 181) := ⟨_, rfl, rOk181, by decide +kernel, rIn5 117 rfl rfl, rIn5 119 rfl rfl, rInP 55 rfl rfl⟩
set_option maxRecDepth 20000 in
theorem rMX6_41 : rMk 6 (229, 1, 186) := ⟨_, rfl, rOk186, by decide +kernel, rIn5 137 rfl rfl, rIn5 138 rfl rfl⟩
set_option maxRecDepth 20000 in
theorem rMX6_42 : rMk 6 (232, 1, 129) := ⟨_, rfl, rOk129, by decide +kernel, rIn5 141 rfl rfl, rIn5 142 rfl rfl⟩
set_option maxRecDepth 20000 in
theorem rMX6_43 : rMk 6 (235, 0, 188) := ⟨_, rfl, rOk188, by decide +kernel, rIn5 148 rfl rfl, rIn5 150 rfl rfl, rInP 56 rfl rfl⟩
set_option maxRecDepth 20000 in
theorem rMX6_44 : rMk 6 (239, 1, 205) := ⟨_, rfl, rOk205, by decide +kernel, rIn5 172 rfl rfl, rIn5 173 rfl rfl⟩
set_option maxRecDepth 20000 in
theorem rMX6_45 : rMk 6 (242, 0, 196) := ⟨_, rfl, rOk196, by decide +kernel, rIn5 175 rfl rfl, rIn5 177 rfl rfl, rInP 57 rfl rfl⟩
set_option maxRecDepth 20000 in
theorem rMX6_46 : rMk 6 (247, 1, 194) := ⟨_, rfl, rOk194, by decide +kernel, rIn5 184 rfl rfl, rIn5 185 rfl rfl⟩
set_option maxRecDepth 20000 in
theorem rMX6_47 : rMk 6 (253, 1, 195) := ⟨_, rfl, rOk195, by decide +kernel, rIn5 188 rfl rfl, rIn5 189 rfl rfl⟩
set_option maxRecDepth 20000 in
theorem rMX6_48 : rMk 6 (261, 0, 201) := ⟨_, rfl, rOk201, by decide +kernel, rIn5 204 rfl rfl, rIn5 206 rfl rfl, rInP 58 rfl rfl⟩
set_option maxRecDepth 20000 in
theorem rMX6_49 : rMk 6 (265, 0, 209) := ⟨_, rfl, rOk209, by decide +kernel, rIn5 229 rfl rfl, rIn5 231 rfl rfl, rInP 59 rfl rfl⟩
set_option maxRecDepth 20000 in
theorem rMX6_50 : rMk 6 (268, 1, 206) := ⟨_, rfl, rOk206, by decide +kernel, rIn6 1 rfl rfl, rIn6 2 rfl rfl⟩
set_option maxRecDepth 20000 in
theorem rMX6_51 : rMk 6 (275, 0, 213) := ⟨_, rfl, rOk213, by decide +kernel, rIn6 10 rfl rfl, rIn6 12 rfl rfl, rInP 60 rfl rfl⟩
set_option maxRecDepth 20000 in
theorem rMX6_52 : rMk 6 (278, 1, 132) := ⟨_, rfl, rOk132, by decide +kernel, rIn6 14 rfl rfl, rIn6 15 rfl rfl⟩
set_option maxRecDepth 20000 in
theorem rMX6_53 : rMk 6 (284, 0, 215) := ⟨_, rfl, rOk215, by decide +kernel, rIn6 29 rfl rfl, rIn6 31 rfl rfl, rInP 63 rfl rfl⟩
set_option maxRecDepth 20000 in
theorem rMX6_54 : rMk 6 (290, 0, 216) := ⟨_, rfl, rOk216, by decide +kernel, rIn6 33 rfl rfl, rIn6 35 rfl rfl, rInP 64 rfl rfl⟩
set_option maxRecDepth 20000 in
theorem rMX6_55 : rMk 6 (296, 0, 217) := ⟨_, rfl, rOk217, by decide +kernel, rIn6 25 rfl rfl, rIn6 27 rfl rfl, rInP 62 rfl rfl⟩
set_option maxRecDepth 20000 in
theorem rMX6_56 : rMk 6 (299, 0, 218) := ⟨_, rfl, rOk218, by decide +kernel, rIn6 21 rfl rfl, rIn6 23 rfl rfl, rInP 61 rfl rfl⟩
set_option maxRecDepth 20000 in
theorem rMX6_57 : rMk 6 (305, 0, 219) := ⟨_, rfl, rOk219, by decide +kernel, rIn6 41 rfl rfl, rIn6 43 rfl rfl, rInP 66 rfl rfl⟩
set_option maxRecDepth 20000 in
theorem rMX6_58 : rMk 6 (311, 0, 221) := ⟨_, rfl, rOk221, by decide +kernel, rIn6 49 rfl rfl, rIn6 51 rfl rfl, rInP 68 rfl rfl⟩
set_option maxRecDepth 20000 in
theorem rMX6_59 : rMk 6 (314, 0, 220) := ⟨_, rfl, rOk220, by decide +kernel, rIn6 37 rfl rfl, rIn6 39 rfl rfl, rInP 65 rfl rfl⟩
set_option maxRecDepth 20000 in
theorem rMX6_60 : rMk 6 (317, 0, 223) := ⟨_, rfl, rOk223, by decide +kernel, rIn6 57 rfl rfl, rIn6 59 rfl rfl, rInP 70 rfl rfl⟩
set_option maxRecDepth 20000 in
theorem rMX6_61 : rMk 6 (320, 0, 222) := ⟨_, rfl, rOk222, by decide +kernel, rIn6 45 rfl rfl, rIn6 47 rfl rfl, rInP 67 rfl rfl⟩
set_option maxRecDepth 20000 in
theorem rMX6_62 : rMk 6 (323, 0, 224) := ⟨_, rfl, rOk224, by decide +kernel, rIn6 53 rfl rfl, rIn6 55 rfl rfl, rInP 69 rfl rfl⟩
theorem rMX6 : ∀ q ∈ (lkM.getD 6 []), rMk 6 q := List.forall_mem_cons.mpr ⟨rMX6_0, List.forall_mem_cons.mpr ⟨rMX6_1, List.forall_mem_cons.mpr ⟨rMX6_2, List.forall_mem_cons.mpr ⟨rMX6_3, List.forall_mem_cons.mpr ⟨rMX6_4, List.forall_mem_cons.mpr ⟨rMX6_5, List.forall_mem_cons.mpr ⟨rMX6_6, List.forall_mem_cons.mpr ⟨rMX6_7, List.forall_mem_cons.mpr ⟨rMX6_8, List.forall_mem_cons.mpr ⟨rMX6_9, List.forall_mem_cons.mpr ⟨rMX6_10, List.forall_mem_cons.mpr ⟨rMX6_11, List.forall_mem_cons.mpr ⟨rMX6_12, List.forall_mem_cons.mpr ⟨rMX6_13, List.forall_mem_cons.mpr ⟨rMX6_14, List.forall_mem_cons.mpr ⟨rMX6_15, List.forall_mem_cons.mpr ⟨rMX6_16, List.forall_mem_cons.mpr ⟨rMX6_17, List.forall_mem_cons.mpr ⟨rMX6_18, List.forall_mem_cons.mpr ⟨rMX6_19, List.forall_mem_cons.mpr ⟨rMX6_20, List.forall_mem_cons.mpr ⟨rMX6_21, List.forall_mem_cons.mpr ⟨rMX6_22, List.forall_mem_cons.mpr ⟨rMX6_23, List.forall_mem_cons.mpr ⟨rMX6_24, List.forall_mem_cons.mpr ⟨rMX6_25, List.forall_mem_cons.mpr ⟨rMX6_26, List.forall_mem_cons.mpr ⟨rMX6_27, List.forall_mem_cons.mpr ⟨rMX6_28, List.forall_mem_cons.mpr ⟨rMX6_29, List.forall_mem_cons.mpr ⟨rMX6_30, List.forall_mem_cons.mpr ⟨rMX6_31, List.forall_mem_cons.mpr ⟨rMX6_32, List.forall_mem_cons.mpr ⟨rMX6_33, List.forall_mem_cons.mpr ⟨rMX6_34, List.forall_mem_cons.mpr ⟨rMX6_35, List.forall_mem_cons.mpr ⟨rMX6_36, List.forall_mem_cons.mpr ⟨rMX6_37, List.forall_mem_cons.mpr ⟨rMX6_38, List.forall_mem_cons.mpr ⟨rMX6_39, List.forall_mem_cons.mpr ⟨rMX6_40, List.forall_mem_cons.mpr ⟨rMX6_41, List.forall_mem_cons.mpr ⟨rMX6_42, List.forall_mem_cons.mpr ⟨rMX6_43, List.forall_mem_cons.mpr ⟨rMX6_44, List.forall_mem_cons.mpr ⟨rMX6_45, List.forall_mem_cons.mpr ⟨rMX6_46, List.forall_mem_cons.mpr ⟨rMX6_47, List.forall_mem_cons.mpr ⟨rMX6_48, List.forall_mem_cons.mpr ⟨rMX6_49, List.forall_mem_cons.mpr ⟨rMX6_50, List.forall_mem_cons.mpr ⟨rMX6_51, List.forall_mem_cons.mpr ⟨rMX6_52, List.forall_mem_cons.mpr ⟨rMX6_53, List.forall_mem_cons.mpr ⟨rMX6_54, List.forall_mem_cons.mpr ⟨rMX6_55, List.forall_mem_cons.mpr ⟨rMX6_56, List.forall_mem_cons.mpr ⟨rMX6_57, List.forall_mem_cons.mpr ⟨rMX6_58, List.forall_mem_cons.mpr ⟨rMX6_59, List.forall_mem_cons.mpr ⟨rMX6_60, List.forall_mem_cons.mpr ⟨rMX6_61, List.forall_mem_cons.mpr ⟨rMX6_62, fun _ h => absurd h List.not_mem_nil⟩⟩⟩⟩⟩⟩⟩⟩⟩⟩⟩⟩⟩⟩⟩⟩⟩⟩⟩⟩⟩⟩⟩⟩⟩⟩⟩⟩⟩⟩⟩⟩⟩⟩⟩⟩⟩⟩⟩⟩⟩⟩⟩⟩⟩⟩⟩⟩⟩⟩⟩⟩⟩⟩⟩⟩⟩⟩⟩⟩⟩⟩⟩
set_option maxRecDepth 20000 in
theorem rML_0 : rMk 7 (9, 2, 58) := ⟨_, rfl, rOk58, by decide +kernel, rIn1 17 rfl rfl, rIn1 18 rfl rfl, rfl⟩
set_option maxRecDepth 20000 in
theorem rML_1 : rMk 7 (12, 2, 121) := ⟨_, rfl, rOk121, by decide +kernel, rIn4 35 rfl rfl, rIn4 36 rfl rfl, rfl⟩
set_option maxRecDepth 20000 in
theorem rML_2 : rMk 7 (15, 0, 59) := ⟨_, rfl, rOk59, by decide +kernel, rIn1 211 rfl rfl, rIn1 212 rfl rfl, rIn1 213 rfl rfl⟩
set_option maxRecDepth 20000 in
theorem rML_3 : rMk 7 (19, 0, 133) := ⟨_, rfl, rOk133, by decide +kernel, rIn4 125 rfl rfl, rIn4 126 rfl rfl, rIn4 127 rfl rfl⟩
set_option maxRecDepth 20000 in
theorem rML_4 : rMk 7 (20, 0, 60) := ⟨_, rfl, rOk60, by decide +kernel, rIn1 219 rfl rfl, rIn1 220 rfl rfl, rIn1 221 rfl rfl⟩
set_option maxRecDepth 20000 in
theorem rML_5 : rMk 7 (24, 0, 149) := ⟨_, rfl, rOk149, by decide +kernel, rIn4 134 rfl rfl, rIn4 135 rfl rfl, rIn4 136 rfl rfl⟩
set_option maxRecDepth 20000 in
theorem rML_6 : rMk 7 (25, 0, 61) := ⟨_, rfl, rOk61, by decide +kernel, rIn2 121 rfl rfl, rIn2 122 rfl rfl, rIn2 123 rfl rfl⟩
set_option maxRecDepth 20000 in
theorem rML_7 : rMk 7 (29, 0, 150) := ⟨_, rfl, rOk150, by decide +kernel, rIn4 207 rfl rfl, rIn4 208 rfl rfl, rIn4 209 rfl rfl⟩
set_option maxRecDepth 20000 in
theorem rML_8 : rMk 7 (30, 0, 62) := ⟨_, rfl, rOk62, by decide +kernel, rIn2 127 rfl rfl, rIn2 128 rfl rfl, rIn2 129 rfl rfl⟩
set_option maxRecDepth 20000 in
theorem rML_9 : rMk 7 (34, 0, 151) := ⟨_, rfl, rOk151, by decide +kernel, rIn4 218 rfl rfl, rIn4 219 rfl rfl, rIn4 220 rfl rfl⟩
set_option maxRecDepth 20000 in
theorem rML_10 : rMk 7 (35, 0, 63) := ⟨_, rfl, rOk63, by decide +kernel, rIn2 131 rfl rfl, rIn2 132 rfl rfl, rIn2 133 rfl rfl⟩
set_option maxRecDepth 20000 in
theorem rML_11 : rMk 7 (39, 0, 154) := ⟨_, rfl, rOk154, by decide +kernel, rIn4 222 rfl rfl, rIn4 223 rfl rfl, rIn4 224 rfl rfl⟩
set_option maxRecDepth 20000 in
theorem rML_12 : rMk 7 (40, 0, 64) := ⟨_, rfl, rOk64, by decide +kernel, rIn2 136 rfl rfl, rIn2 137 rfl rfl, rIn2 138 rfl rfl⟩
set_option maxRecDepth 20000 in
theorem rML_13 : rMk 7 (43, 0, 158) := ⟨_, rfl, rOk158, by decide +kernel, rIn4 230 rfl rfl, rIn4 231 rfl rfl, rIn4 232 rfl rfl⟩
set_option maxRecDepth 20000 in
theorem rML_14 : rMk 7 (44, 0, 65) := ⟨_, rfl, rOk65, by decide +kernel, rIn2 154 rfl rfl, rIn2 155 rfl rfl, rIn2 156 rfl rfl⟩
set_option maxRecDepth 20000 in
theorem rML_15 : rMk 7 (47, 0, 159) := ⟨_, rfl, rOk159, by decide +kernel, rIn5 10 rfl rfl, rIn5 11 rfl rfl, rIn5 12 rfl rfl⟩
set_option maxRecDepth 20000 in
theorem rML_16 : rMk 7 (48, 0, 66) := ⟨_, rfl, rOk66, by decide +kernel, rIn2 168 rfl rfl, rIn2 169 rfl rfl, rIn2 170 rfl rfl⟩
set_option maxRecDepth 20000 in
theorem rML_17 : rMk 7 (52, 0, 160) := ⟨_, rfl, rOk160, by decide +kernel, rIn5 22 rfl rfl, rIn5 23 rfl rfl, rIn5 24 rfl rfl⟩
set_option maxRecDepth 20000 in
theorem rML_18 : rMk 7 (53, 0, 67) := ⟨_, rfl, rOk67, by decide +kernel, rIn2 172 rfl rfl, rIn2 173 rfl rfl, rIn2 174 rfl rfl⟩
set_option maxRecDepth 20000 in
theorem rML_19 : rMk 7 (56, 0, 161) := ⟨_, rfl, rOk161, by decide +kernel, rIn5 26 rfl rfl, rIn5 27 rfl rfl, rIn5 28 rfl rfl⟩
set_option maxRecDepth 20000 in
theorem rML_20 : rMk 7 (57, 0, 68) := ⟨_, rfl, rOk68, by decide +kernel, rIn2 176 rfl rfl, rIn2 177 rfl rfl, rIn2 178 rfl rfl⟩
set_option maxRecDepth 20000 in
theorem rML_21 : rMk 7 (60, 0, 162) := ⟨_, rfl, rOk162, by decide +kernel, rIn5 30 rfl rfl, rIn5 31 rfl rfl, rIn5 32 rfl rfl⟩
set_option maxRecDepth 20000 in
theorem rML_22 : rMk 7 (61, 0, 69) := ⟨_, rfl, rOk69, by decide +kernel, rIn2 181 rfl rfl, rIn2 182 rfl rfl, rIn2 183 rfl rfl⟩
set_option maxRecDepth 20000 in
theorem rML_23 : rMk 7 (64, 0, 164) := ⟨_, rfl, rOk164, by decide +kernel, rIn5 34 rfl rfl, rIn5 35 rfl rfl, rIn5 36 rfl rfl⟩
set_option maxRecDepth 20000 in
theorem rML_24 : rMk 7 (65, 0, 70) := ⟨_, rfl, rOk70, by decide +kernel, rIn2 193 rfl rfl, rIn2 194 rfl rfl, rIn2 195 rfl rfl⟩
set_option maxRecDepth 20000 in
theorem rML_25 : rMk 7 (68, 0, 165) := ⟨_, rfl, rOk165, by decide +kernel, rIn5 42 rfl rfl, rIn5 43 rfl rfl, rIn5 44 rfl rfl⟩
set_option maxRecDepth 20000 in
theorem rML_26 : rMk 7 (69, 0, 71) := ⟨_, rfl, rOk71, by decide +kernel, rIn2 197 rfl rfl, rIn2 198 rfl rfl, rIn2 199 rfl rfl⟩
set_option maxRecDepth 20000 in
theorem rML_27 : rMk 7 (72, 0, 166) := ⟨_, rfl, rOk166, by decide +kernel, rIn5 46 rfl rfl, rIn5 47 rfl rfl, rIn5 48 rfl rfl⟩
set_option maxRecDepth 20000 in
theorem rML_28 : rMk 7 (73, 0, 72) := ⟨_, rfl, rOk72, by decide +kernel, rIn2 201 rfl rfl, rIn2 202 rfl rfl, rIn2 203 rfl rfl⟩
set_option maxRecDepth 20000 in
theorem rML_29 : rMk 7 (76, 0, 169) := ⟨_, rfl, rOk169, by decide +kernel, rIn5 50 rfl rfl, rIn5 51 rfl rfl, rIn5 52 rfl rfl⟩
set_option maxRecDepth 20000 in
theorem rML_30 : rMk 7 (77, 0, 73) := ⟨_, rfl, rOk73, by decide +kernel, rIn2 213 rfl rfl, rIn2 214 rfl rfl, rIn2 215 rfl rfl⟩
set_option maxRecDepth 20000 in
theorem rML_31 : rMk 7 (80, 0, 172) := ⟨_, rfl, rOk172, by decide +kernel, rIn5 62 rfl rfl, rIn5 63 rfl rfl, rIn5 64 rfl rfl⟩
set_option maxRecDepth 20000 in
theorem rML_32 : rMk 7 (81, 0, 74) := ⟨_, rfl, rOk74, by decide +kernel, rIn3 1 rfl rfl, rIn3 2 rfl rfl, rIn3 3 rfl rfl⟩
set_option maxRecDepth 20000 in
theorem rML_33 : rMk 7 (84, 0, 173) := ⟨_, rfl, rOk173, by decide +kernel, rIn5 78 rfl rfl, rIn5 79 rfl rfl, rIn5 80 rfl rfl⟩
set_option maxRecDepth 20000 in
theorem rML_34 : rMk 7 (85, 0, 75) := ⟨_, rfl, rOk75, by decide +kernel, rIn3 5 rfl rfl, rIn3 6 rfl rfl, rIn3 7 rfl rfl⟩
set_option maxRecDepth 20000 in
theorem rML_35 : rMk 7 (88, 0, 175) := ⟨_, rfl, rOk175, by decide +kernel, rIn5 82 rfl rfl, rIn5 83 rfl rfl, rIn5 84 rfl rfl⟩
set_option maxRecDepth 20000 in
theorem rML_36 : rMk 7 (89, 0, 76) := ⟨_, rfl, rOk76, by decide +kernel, rIn3 19 rfl rfl, rIn3 20 rfl rfl, rIn3 21 rfl rfl⟩
set_option maxRecDepth 20000 in
theorem rML_37 : rMk 7 (92, 0, 176) := ⟨_, rfl, rOk176, by decide +kernel, rIn5 91 rfl rfl, rIn5 92 rfl rfl, rIn5 93 rfl rfl⟩
set_option maxRecDepth 20000 in
theorem rML_38 : rMk 7 (93, 0, 77) := ⟨_, rfl, rOk77, by decide +kernel, rIn3 27 rfl rfl, rIn3 28 rfl rfl, rIn3 29 rfl rfl⟩
set_option maxRecDepth 20000 in
theorem rML_39 : rMk 7 (96, 0, 180) := ⟨_, rfl, rOk180, by decide +kernel, rIn5 97 rfl rfl, rIn5 98 rfl rfl, rIn5 99 rfl rfl⟩
set_option maxRecDepth 20000 in
theorem rML_40 : rMk 7 (97, 0, 78) := ⟨_, rfl, rOk78, by decide +kernel, rIn3 43 rfl rfl, rIn3 44 rfl rfl, rIn3 45 rfl rfl⟩
set_option maxRecDepth 20000 in
theorem rML_41 : rMk 7 (100, 0, 182) := ⟨_, rfl, rOk182, by decide +kernel, rIn5 113 rfl rfl, rIn5 114 rfl rfl, rIn5 115 rfl rfl⟩
set_option maxRecDepth 20000 in
theorem rML_42 : rMk 7 (101, 0, 79) := ⟨_, rfl, rOk79, by decide +kernel, rIn3 47 rfl rfl, rIn3 48 rfl rfl, rIn3 49 rfl rfl⟩
set_option maxRecDepth 20000 in
theorem rML_43 : rMk 7 (104, 0, 183) := ⟨_, rfl, rOk183, by decide +kernel, rIn5 121 rfl rfl, rIn5 122 rfl rfl, rIn5 123 rfl rfl⟩
set_option maxRecDepth 20000 in
theorem rML_44 : rMk 7 (105, 0, 80) := ⟨_, rfl, rOk80, by decide +kernel, rIn3 52 rfl rfl, rIn3 53 rfl rfl, rIn3 54 rfl rfl⟩
set_option maxRecDepth 20000 in
theorem rML_45 : rMk 7 (108, 0, 184) := ⟨_, rfl, rOk184, by decide +kernel, rIn5 125 rfl rfl, rIn5 126 rfl rfl, rIn5 127 rfl rfl⟩
set_option maxRecDepth 20000 in
theorem rML_46 : rMk 7 (109, 0, 81) := ⟨_, rfl, rOk81, by decide +kernel, rIn3 56 rfl rfl, rIn3 57 rfl rfl, rIn3 58 rfl rfl⟩
set_option maxRecDepth 20000 in
theorem rML_47 : rMk 7 (112, 0, 185) := ⟨_, rfl, rOk185, by decide +kernel, rIn5 129 rfl rfl, rIn5 130 rfl rfl, rIn5 131 rfl rfl⟩
set_option maxRecDepth 20000 in
theorem rML_48 : rMk 7 (113, 0, 82) := ⟨_, rfl, rOk82, by decide +kernel, rIn3 60 rfl rfl, rIn3 61 rfl rfl, rIn3 62 rfl rfl⟩
set_option maxRecDepth 20000 in
theorem rML_49 : rMk 7 (116, 0, 187) := ⟨_, rfl, rOk187, by decide +kernel, rIn5 133 rfl rfl, rIn5 134 rfl rfl, rIn5 135 rfl rfl⟩
set_option maxRecDepth 20000 in
theorem rML_50 : rMk 7 (117, 0, 83) := ⟨_, rfl, rOk83, by decide +kernel, rIn3 75 rfl rfl, rIn3 76 rfl rfl, rIn3 77 rfl rfl⟩
set_option maxRecDepth 20000 in
theorem rML_51 : rMk 7 (120, 0, 189) := ⟨_, rfl, rOk189, by decide +kernel, rIn5 144 rfl rfl, rIn5 145 rfl rfl, rIn5 146 rfl rfl⟩
set_option maxRecDepth 20000 in
theorem rML_52 : rMk 7 (121, 0, 84) := ⟨_, rfl, rOk84, by decide +kernel, rIn3 79 rfl rfl, rIn3 80 rfl rfl, rIn3 81 rfl rfl⟩
set_option maxRecDepth 20000 in
theorem rML_53 : rMk 7 (124, 0, 190) := ⟨_, rfl, rOk190, by decide +kernel, rIn5 152 rfl rfl, rIn5 153 rfl rfl, rIn5 154 rfl rfl⟩
set_option maxRecDepth 20000 in
theorem rML_54 : rMk 7 (125, 0, 85) := ⟨_, rfl, rOk85, by decide +kernel, rIn3 83 rfl rfl, rIn3 84 rfl rfl, rIn3 85 rfl rfl⟩
set_option maxRecDepth 20000 in
theorem rML_55 : rMk 7 (128, 0, 191) := ⟨_, rfl, rOk191, by decide +kernel, rIn5 156 rfl rfl, rIn5 157 rfl rfl, rIn5 158 rfl rfl⟩
set_option maxRecDepth 20000 in
theorem rML_56 : rMk 7 (129, 0, 86) := ⟨_, rfl, rOk86, by decide +kernel, rIn3 87 rfl rfl, rIn3 88 rfl rfl, rIn3 89 rfl rfl⟩
set_option maxRecDepth 20000 in
theorem rML_57 : rMk 7 (132, 0, 192) := ⟨_, rfl, rOk192, by decide +kernel, rIn5 160 rfl rfl, rIn5 161 rfl rfl, rIn5 162 rfl rfl⟩
set_option maxRecDepth 20000 in
theorem rML_58 : rMk 7 (133, 0, 87) := ⟨_, rfl, rOk87, by decide +kernel, rIn3 95 rfl rfl, rIn3 96 rfl rfl, rIn3 97 rfl rfl⟩
set_option maxRecDepth 20000 in
theorem rML_59 : rMk 7 (136, 0, 193) := ⟨_, rfl, rOk193, by decide +kernel, rIn5 164 rfl rfl, rIn5 165 rfl rfl, rIn5 166 rfl rfl⟩
set_option maxRecDepth 20000 in
theorem rML_60 : rMk 7 (137, 0, 88) := ⟨_, rfl, rOk88, by decide +kernel, rIn3 99 rfl rfl, rIn3 100 rfl rfl, rIn3 101 rfl rfl⟩
set_option maxRecDepth 20000 in
theorem rML_61 : rMk 7 (140, 0, 197) := ⟨_, rfl, rOk197, by decide +kernel, rIn5 168 rfl rfl, rIn5 169 rfl rfl, rIn5 170 rfl rfl⟩
set_option maxRecDepth 20000 in
theorem rML_62 : rMk 7 (141, 0, 89) := ⟨_, rfl, rOk89, by decide +kernel, rIn3 111 rfl rfl, rIn3 112 rfl rfl, rIn3 113 rfl rfl⟩
set_option maxRecDepth 20000 in
theorem rML_63 : rMk 7 (145, 0, 198) := ⟨_, rfl, rOk198, by decide +kernel, rIn5 179 rfl rfl, rIn5 180 rfl rfl, rIn5 181 rfl rfl⟩
set_option maxRecDepth 20000 in
theorem rML_64 : rMk 7 (146, 0, 90) := ⟨_, rfl, rOk90, by decide +kernel, rIn3 126 rfl rfl, rIn3 127 rfl rfl, rIn3 128 rfl rfl⟩
set_option maxRecDepth 20000 in
theorem rML_65 : rMk 7 (150, 0, 199) := ⟨_, rfl, rOk199, by decide +kernel, rIn5 191 rfl rfl, rIn5 192 rfl rfl, rIn5 193 rfl rfl⟩
set_option maxRecDepth 20000 in
theorem rML_66 : rMk 7 (151, 0, 91) := ⟨_, rfl, rOk91, by decide +kernel, rIn3 130 rfl rfl, rIn3 131 rfl rfl, rIn3 132 rfl rfl⟩
set_option maxRecDepth 20000 in
theorem rML_67 : rMk 7 (154, 0, 200) := ⟨_, rfl, rOk200, by decide +kernel, rIn5 195 rfl rfl, rIn5 196 rfl rfl, rIn5 197 rfl rfl⟩
set_option maxRecDepth 20000 in
theorem rML_68 : rMk 7 (155, 0, 92) := ⟨_, rfl, rOk92, by decide +kernel, rIn3 138 rfl rfl, rIn3 139 rfl rfl, rIn3 140 rfl rfl⟩
set_option maxRecDepth 20000 in
theorem rML_69 : rMk 7 (158, 0, 202) := ⟨_, rfl, rOk202, by decide +kernel, rIn5 200 rfl rfl, rIn5 201 rfl rfl, rIn5 202 rfl rfl⟩
set_option maxRecDepth 20000 in
theorem rML_70 : rMk 7 (159, 0, 93) := ⟨_, rfl, rOk93, by decide +kernel, rIn3 146 rfl rfl, rIn3 147 rfl rfl, rIn3 148 rfl rfl⟩
set_option maxRecDepth 20000 in
theorem rML_71 : rMk 7 (162, 0, 203) := ⟨_, rfl, rOk203, by decide +kernel, rIn5 209 rfl rfl, rIn5 210 rfl rfl, rIn5 211 rfl rfl⟩
set_option maxRecDepth 20000 in
theorem rML_72 : rMk 7 (163, 0, 94) := ⟨_, rfl, rOk94, by decide +kernel, rIn3 150 rfl rfl, rIn3 151 rfl rfl, rIn3 152 rfl rfl⟩
set_option maxRecDepth 20000 in
theorem rML_73 : rMk 7 (166, 0, 204) := ⟨_, rfl, rOk204, by decide +kernel, rIn5 213 rfl rfl, rIn5 214 rfl rfl, rIn5 215 rfl rfl⟩
set_option maxRecDepth 20000 in
theorem rML_74 : rMk 7 (167, 0, 95) := ⟨_, rfl, rOk95, by decide +kernel, rIn3 154 rfl rfl, rIn3 155 rfl rfl, rIn3 156 rfl rfl⟩
set_option maxRecDepth 20000 in
theorem rML_75 : rMk 7 (170, 0, 211) := ⟨_, rfl, rOk211, by decide +kernel, rIn5 233 rfl rfl, rIn5 234 rfl rfl, rIn5 235 rfl rfl⟩
set_option maxRecDepth 20000 in
theorem rML_76 : rMk 7 (171, 0, 96) := ⟨_, rfl, rOk96, by decide +kernel, rIn3 159 rfl rfl, rIn3 160 rfl rfl, rIn3 161 rfl rfl⟩
set_option maxRecDepth 20000 in
theorem rML_77 : rMk 7 (174, 0, 207) := ⟨_, rfl, rOk207, by decide +kernel, rIn5 217 rfl rfl, rIn5 218 rfl rfl, rIn5 219 rfl rfl⟩
set_option maxRecDepth 20000 in
theorem rML_78 : rMk 7 (175, 0, 97) := ⟨_, rfl, rOk97, by decide +kernel, rIn3 167 rfl rfl, rIn3 168 rfl rfl, rIn3 169 rfl rfl⟩
set_option maxRecDepth 20000 in
theorem rML_79 : rMk 7 (178, 0, 208) := ⟨_, rfl, rOk208, by decide +kernel, rIn5 221 rfl rfl, rIn5 222 rfl rfl, rIn5 223 rfl rfl⟩
set_option maxRecDepth 20000 in
theorem rML_80 : rMk 7 (179, 0, 98) := ⟨_, rfl, rOk98, by decide +kernel, rIn3 179 rfl rfl, rIn3 180 rfl rfl, rIn3 181 rfl rfl⟩
set_option maxRecDepth 20000 in
theorem rML_81 : rMk 7 (182, 0, 210) := ⟨_, rfl, rOk210, by decide +kernel, rIn5 225 rfl rfl, rIn5 226 rfl rfl, rIn5 227 rfl rfl⟩
set_option maxRecDepth 20000 in
theorem rML_82 : rMk 7 (183, 0, 99) := ⟨_, rfl, rOk99, by decide +kernel, rIn3 183 rfl rfl, rIn3 184 rfl rfl, rIn3 185 rfl rfl⟩
set_option maxRecDepth 20000 in
theorem rML_83 : rMk 7 (186, 0, 212) := ⟨_, rfl, rOk212, by decide +kernel, rIn5 237 rfl rfl, rIn5 238 rfl rfl, rIn5 239 rfl rfl⟩
set_option maxRecDepth 20000 in
theorem rML_84 : rMk 7 (187, 0, 100) := ⟨_, rfl, rOk100, by decide +kernel, rIn3 196 rfl rfl, rIn3 197 rfl rfl, rIn3 198 rfl rfl⟩
set_option maxRecDepth 20000 in
theorem rML_85 : rMk 7 (190, 0, 214) := ⟨_, rfl, rOk214, by decide +kernel, rIn6 4 rfl rfl, rIn6 5 rfl rfl, rIn6 6 rfl rfl⟩
set_option maxRecDepth 20000 in
theorem rML_86 : rMk 7 (191, 0, 101) := ⟨_, rfl, rOk101, by decide +kernel, rIn3 209 rfl rfl, rIn3 210 rfl rfl, rIn3 211 rfl rfl⟩
set_option maxRecDepth 20000 in
theorem rML_87 : rMk 7 (194, 0, 225) := ⟨_, rfl, rOk225, by decide +kernel, rIn6 17 rfl rfl, rIn6 18 rfl rfl, rIn6 19 rfl rfl⟩
set_option maxRecDepth 20000 in
theorem rML_88 : rMk 7 (195, 0, 102) := ⟨_, rfl, rOk102, by decide +kernel, rIn4 12 rfl rfl, rIn4 13 rfl rfl, rIn4 14 rfl rfl⟩
set_option maxRecDepth 20000 in
theorem rML_89 : rMk 7 (198, 0, 226) := ⟨_, rfl, rOk226, by decide +kernel, rIn6 61 rfl rfl, rIn6 62 rfl rfl, rIn6 63 rfl rfl⟩
set_option maxRecDepth 20000 in
theorem rML_90 : rMk 7 (199, 0, 103) := ⟨_, rfl, rOk103, by decide +kernel, rIn4 16 rfl rfl, rIn4 17 rfl rfl, rIn4 18 rfl rfl⟩
set_option maxRecDepth 20000 in
theorem rML_91 : rMk 7 (202, 0, 227) := ⟨_, rfl, rOk227, by decide +kernel, rIn6 65 rfl rfl, rIn6 66 rfl rfl, rIn6 67 rfl rfl⟩
set_option maxRecDepth 20000 in
theorem rML_92 : rMk 7 (203, 0, 104) := ⟨_, rfl, rOk104, by decide +kernel, rIn4 25 rfl rfl, rIn4 26 rfl rfl, rIn4 27 rfl rfl⟩
set_option maxRecDepth 20000 in
theorem rML_93 : rMk 7 (206, 0, 228) := ⟨_, rfl, rOk228, by decide +kernel, rIn6 69 rfl rfl, rIn6 70 rfl rfl, rIn6 71 rfl rfl⟩
set_option maxRecDepth 20000 in
theorem rML_94 : rMk 7 (207, 0, 105) := ⟨_, rfl, rOk105, by decide +kernel, rIn4 29 rfl rfl, rIn4 30 rfl rfl, rIn4 31 rfl rfl⟩
set_option maxRecDepth 20000 in
theorem rML_95 : rMk 7 (210, 0, 229) := ⟨_, rfl, rOk229, by decide +kernel, rIn6 73 rfl rfl, rIn6 74 rfl rfl, rIn6 75 rfl rfl⟩
theorem rML : ∀ q ∈ (lkM.getD 7 []), rMk 7 q := List.forall_mem_cons.mpr ⟨rML_0, List.forall_mem_cons.mpr ⟨rML_1, List.forall_mem_cons.mpr ⟨rML_2, List.forall_mem_cons.mpr ⟨rML_3, List.forall_mem_cons.mpr ⟨rML_4, List.forall_mem_cons.mpr ⟨rML_5, List.forall_mem_cons.mpr ⟨rML_6, List.forall_mem_cons.mpr ⟨rML_7, List.forall_mem_cons.mpr ⟨rML_8, List.forall_mem_cons.mpr ⟨rML_9, List.forall_mem_cons.mpr ⟨rML_10, List.forall_mem_cons.mpr ⟨rML_11, List.forall_mem_cons.mpr ⟨rML_12, List.forall_mem_cons.mpr ⟨rML_13, List.forall_mem_cons.mpr ⟨rML_14, List.forall_mem_cons.mpr ⟨rML_15, List.forall_mem_cons.mpr ⟨rML_16, List.forall_mem_cons.mpr ⟨rML_17, List.forall_mem_cons.mpr ⟨rML_18, List.forall_mem_cons.mpr ⟨rML_19, List.forall_mem_cons.mpr ⟨rML_20, List.forall_mem_cons.mpr ⟨rML_21, List.forall_mem_cons.mpr ⟨rML_22, List.forall_mem_cons.mpr ⟨rML_23, List.forall_mem_cons.mpr ⟨rML_24, List.forall_mem_cons.mpr ⟨rML_25, List.forall_mem_cons.mpr ⟨rML_26, List.forall_mem_cons.mpr ⟨rML_27, List.forall_mem_cons.mpr ⟨rML_28, List.forall_mem_cons.mpr ⟨rML_29, List.forall_mem_cons.mpr ⟨rML_30, List.forall_mem_cons.mpr ⟨rML_31, List.forall_mem_cons.mpr ⟨rML_32, List.forall_mem_cons.mpr ⟨rML_33, List.forall_mem_cons.mpr ⟨rML_34, List.forall_mem_cons.mpr ⟨rML_35, List.forall_mem_cons.mpr ⟨rML_36, List.forall_mem_cons.mpr ⟨rML_37, List.forall_mem_cons.mpr ⟨rML_38, List.forall_mem_cons.mpr ⟨rML_39, List.forall_mem_cons.mpr ⟨rML_40, List.forall_mem_cons.mpr ⟨rML_41, List.forall_mem_cons.mpr ⟨rML_42, List.forall_mem_cons.mpr ⟨rML_43, List.forall_mem_cons.mpr ⟨rML_44, List.forall_mem_cons.mpr ⟨rML_45, List.forall_mem_cons.mpr ⟨rML_46, List.forall_mem_cons.mpr ⟨rML_47, List.forall_mem_cons.mpr ⟨rML_48, List.forall_mem_cons.mpr ⟨rML_49, List.forall_mem_cons.mpr ⟨rML_50, List.forall_mem_cons.mpr ⟨rML_51, List.forall_mem_cons.mpr ⟨rML_52, List.forall_mem_cons.mpr ⟨rML_53, List.forall_mem_cons.mpr ⟨rML_54, List.forall_mem_cons.mpr ⟨rML_55, List.forall_mem_cons.mpr ⟨rML_56, List.forall_mem_cons.mpr ⟨rML_57, List.forall_mem_cons.mpr ⟨rML_58, List.forall_mem_cons.mpr ⟨rML_59, List.forall_mem_cons.mpr ⟨rML_60, List.forall_mem_cons.mpr ⟨rML_61, List.forall_mem_cons.mpr ⟨rML_62, List.forall_mem_cons.mpr ⟨rML_63, List.forall_mem_cons.mpr ⟨rML_64, List.forall_mem_cons.mpr ⟨rML_65, List.forall_mem_cons.mpr ⟨rML_66, List.forall_mem_cons.mpr ⟨rML_67, List.forall_mem_cons.mpr ⟨rML_68, List.forall_mem_cons.mpr ⟨rML_69, List.forall_mem_cons.mpr ⟨rML_70, List.forall_mem_cons.mpr ⟨rML_71, List.forall_mem_cons.mpr ⟨rML_72, List.forall_mem_cons.mpr ⟨rML_73, List.forall_mem_cons.mpr ⟨rML_74, List.forall_mem_cons.mpr ⟨rML_75, List.forall_mem_cons.mpr ⟨rML_76, List.forall_mem_cons.mpr ⟨rML_77, List.forall_mem_cons.mpr ⟨rML_78, List.forall_mem_cons.mpr ⟨rML_79, List.forall_mem_cons.mpr ⟨rML_80, List.forall_mem_cons.mpr ⟨rML_81, List.forall_mem_cons.mpr ⟨rML_82, List.forall_mem_cons.mpr ⟨rML_83, List.forall_mem_cons.mpr ⟨rML_84, List.forall_mem_cons.mpr ⟨rML_85, List.forall_mem_cons.mpr ⟨rML_86, List.forall_mem_cons.mpr ⟨rML_87, List.forall_mem_cons.mpr ⟨rML_88, List.forall_mem_cons.mpr ⟨rML_89, List.forall_mem_cons.mpr ⟨rML_90, List.forall_mem_cons.mpr ⟨rML_91, List.forall_mem_cons.mpr ⟨rML_92, List.forall_mem_cons.mpr ⟨rML_93, List.forall_mem_cons.mpr ⟨rML_94, List.forall_mem_cons.mpr ⟨rML_95, fun _ h => absurd h List.not_mem_nil⟩⟩⟩⟩⟩⟩⟩⟩⟩⟩⟩⟩⟩⟩⟩⟩⟩⟩⟩⟩⟩⟩⟩⟩⟩⟩⟩⟩⟩⟩⟩⟩⟩⟩⟩⟩⟩⟩⟩⟩⟩⟩⟩⟩⟩⟩⟩⟩⟩⟩⟩⟩⟩⟩⟩⟩⟩⟩⟩⟩⟩⟩⟩⟩⟩⟩⟩⟩⟩⟩⟩⟩⟩⟩⟩⟩⟩⟩⟩⟩⟩⟩⟩⟩⟩⟩⟩⟩⟩⟩⟩⟩⟩⟩⟩⟩
set_option maxRecDepth 20000 in
theorem rMJ0_0 : rMk 8 (335, 0, 233) := ⟨_, rfl, rOk233, by decide +kernel, rIn2 12 rfl rfl, rIn2 13 rfl rfl, rIn2 14 rfl rfl⟩
set_option maxRecDepth 20000 in
theorem rMJ0_1 : rMk 8 (492, 0, 234) := ⟨_, rfl, rOk234, by decide +kernel, rIn2 22 rfl rfl, rIn2 23 rfl rfl, rIn2 24 rfl rfl⟩
set_option maxRecDepth 20000 in
theorem rMJ0_2 : rMk 8 (495, 1, 236) := ⟨_, rfl, rOk236, by decide +kernel, rIn2 26 rfl rfl, rIn2 27 rfl rfl⟩
set_option maxRecDepth 20000 in
theorem rMJ0_3 : rMk 8 (1059, 1, 237) := ⟨_, rfl, rOk237, by decide +kernel, rIn2 34 rfl rfl, rIn2 35 rfl rfl⟩
theorem rMJ0 : ∀ q ∈ (lkM.getD 8 []), rMk 8 q := List.forall_mem_cons.mpr ⟨rMJ0_0, List.forall_mem_cons.mpr ⟨rMJ0_1, List.forall_mem_cons.mpr ⟨rMJ0_2, List.forall_mem_cons.mpr ⟨rMJ0_3, fun _ h => absurd h List.not_mem_nil⟩⟩⟩⟩
set_option maxRecDepth 20000 in
theorem rMJ1_0 : rMk 9 (9, 1, 235) := ⟨_, rfl, rOk235, by decide +kernel, rIn2 29 rfl rfl, rIn2 30 rfl rfl⟩
theorem rMJ1 : ∀ q ∈ (lkM.getD 9 []), rMk 9 q := List.forall_mem_cons.mpr ⟨rMJ1_0, fun _ h => absurd h List.not_mem_nil⟩
theorem rMJ3 : ∀ q ∈ (lkM.getD 10 []), rMk 10 q := fun q h => by cases h
theorem rMJ6 : ∀ q ∈ (lkM.getD 11 []), rMk 11 q := fun q h => by cases h
theorem rMall : ∀ c l, lkM[c]? = some l → ∀ q ∈ l, rMk c q := fun c l h => match c, h with
  | 0, h => by cases h; exact rMX0
  | 1, h => by cases h; exact rMX1
  | 2, h => by cases h; exact rMX2
  | 3, h => by cases h; exact rMX3
  | 4, h => by cases h; exact rMX4
  | 5, h => by cases h; exact rMX5
  | 6, h => by cases h; exact rMX6
  | 7, h => by cases h; exact rML
  | 8, h => by cases h; exact rMJ0
  | 9, h => by cases h; exact rMJ1
  | 10, h => by cases h; exact rMJ3
  | 11, h => by cases h; exact rMJ6
  | n + 12, h => by cases h
set_option maxRecDepth 20000 in
theorem rArrI : Cond.arrayClass .int ∈ rTT := rIn1 84 rfl rfl
set_option maxRecDepth 20000 in
theorem rArrB : Cond.arrayClass .byte ∈ rTT := rIn1 111 rfl rfl
end
section
/-! one step of R is a step of the machine -/
def rA (b : Nat) : Nat → Prop := fun q => b ≤ q
/-- the constants: what holds of the cells below b, and of the tables -/
def rCon (b : Nat) (cv : Nat → Nat) (fm : Value) (E : rE) (U : State) : Prop :=
  (cv 0 < b ∧ va_X (cv 0) E.1 E.2 U U.heap) ∧
  (va_Z "SampleLayers" "UNDER" "[I" (.ref (cv 1)) (rA b) U U.heap ∧ va_T .int (cv 1) 6 (fun j => .int (rUnder.getD j 0)) (rA b) U U.heap) ∧
  (va_Z "SampleLayers$Acts" "OWN_BODIES" "[I" (.ref (cv 2)) (rA b) U U.heap ∧ va_T .int (cv 2) 24 (fun j => .int (rOwn.getD j 0)) (rA b) U U.heap) ∧
  va_Z "java/lang/String" "COMPACT_STRINGS" "Z" (.int 1) (rA b) U U.heap ∧
  va_Z "jdk/internal/util/Preconditions" "SIOOBE_FORMATTER" "Ljava/util/function/BiFunction;" fm (rA b) U U.heap ∧
  vk_S 15 rLen rByt (fun i => cv (10 + i)) (fun i => cv (40 + i)) (rA b) U U.heap ∧
  (∀ (i : Nat) (q : Nat × String), rStrs[i]? = some q → vk_R "SampleLayers$Text" q.1 q.2 (cv (10 + i)) U) ∧
  (va_Nw rN0 U ∧ va_Nw rN1 U ∧ va_Nw rN2 U ∧ va_Nw rN3 U ∧ va_Nw rN4 U)
theorem rCon_call {b : Nat} {cv : Nat → Nat} {fm : Value} {E : rE} {s U : State} {H : Heap} {locs : List Loc} (hb : b ≤ s.heap.size) (h : rCon b cv fm E s) (hS : va_S (rA b) s.heap H locs) (hU : U.heap = H) (hW : s.WarmedH U.vm) : rCon b cv fm E U := by
  obtain ⟨⟨h0, h1⟩, ⟨h2, h3⟩, ⟨h4, h5⟩, h6, h7, h8, h9, n0, n1, n2, n3, n4⟩ := h
  have hq := hS.2.1
  subst hU
  refine ⟨⟨h0, (h1.kept (hq _ (by omega) (by unfold rA; omega))).moved hW.alike⟩, ⟨(h2.kept hq).moved hW.alike, (h3.kept hq).moved hW.alike⟩, ⟨(h4.kept hq).moved hW.alike, (h5.kept hq).moved hW.alike⟩, (h6.kept hq).moved hW.alike, (h7.kept hq).moved hW.alike, (h8.kept hq).moved hW.alike, fun i q hi => (h9 i q hi).warm hW, n0.warmM hW, n1.warmM hW, n2.warmM hW, n3.warmM hW, n4.warmF hW⟩
theorem rCon_blind {b : Nat} {cv : Nat → Nat} {fm : Value} {E : rE} {U : State} (g : JFrame) (mk : MethodId) (a : Array Value) (h : rCon b cv fm E U) : rCon b cv fm E (U.calling g mk a) := by
  obtain ⟨⟨h0, h1⟩, ⟨h2, h3⟩, ⟨h4, h5⟩, h6, h7, h8, h9, n0, n1, n2, n3, n4⟩ := h
  have hr : U.vm.Alike (U.calling g mk a).vm := Vm.Alike.refl U.vm
  exact ⟨⟨h0, h1.moved (U := U.calling g mk a) hr⟩, ⟨h2.moved (U := U.calling g mk a) hr, h3.moved (U := U.calling g mk a) hr⟩, ⟨h4.moved (U := U.calling g mk a) hr, h5.moved (U := U.calling g mk a) hr⟩, h6.moved (U := U.calling g mk a) hr, h7.moved (U := U.calling g mk a) hr, h8.moved (U := U.calling g mk a) hr, fun i q hi => (h9 i q hi).same (U := U.calling g mk a) rfl, n0.same (U := U.calling g mk a) rfl rfl, n1.same (U := U.calling g mk a) rfl rfl, n2.same (U := U.calling g mk a) rfl rfl, n3.same (U := U.calling g mk a) rfl rfl, n4.same (U := U.calling g mk a) rfl rfl⟩
/-- offsets and lengths of a method's instructions -/
def rOff (pc : Nat) : Instr → Bool
  | .ifCond _ o | .if_icmp _ o | .goto o => decide (0 ≤ (pc : Int) + o)
  | .tableswitch d lo hi os => decide (0 ≤ (pc : Int) + d) && (os.toList.all (fun o => decide (0 ≤ (pc : Int) + o)) && (decide (hi + 1 = lo + (os.toList.length : Int)) && (decide (-2147483648 ≤ lo) && decide (hi < 2147483647))))
  | .lookupswitch d ps => decide (0 ≤ (pc : Int) + d) && (ps.toList.all (fun o => decide (0 ≤ (pc : Int) + o.2) && (decide (-2147483648 ≤ o.1) && decide (o.1 < 2147483648))) && (ps.toList.zip (ps.toList.drop 1)).all (fun (a, next) => a.1 < next.1))
  | _ => true
def rChk (pc : Nat) (i : Instr) (len : Nat) : Bool := (Nat.beq (rLenI i) 0 || Nat.beq len (rLenI i)) && rOff pc i
def rCode (l : List (Nat × Instr × Nat)) (cc : ByteArray) : Prop := ∀ q ∈ l, decode cc q.1 = .ok q.2 ∧ rChk q.1 q.2.1 q.2.2 = true
theorem rChk_len {pc len : Nat} {i : Instr} (h : rChk pc i len = true) (h0 : rLenI i ≠ 0) : len = rLenI i := by
  unfold rChk at h
  rw [Bool.and_eq_true, Bool.or_eq_true] at h
  rcases h.1 with z | z
  · exact absurd (Nat.eq_of_beq_eq_true z) h0
  · exact Nat.eq_of_beq_eq_true z
theorem rChk_off {pc len : Nat} {i : Instr} (h : rChk pc i len = true) : rOff pc i = true := by
  unfold rChk at h
  rw [Bool.and_eq_true] at h
  exact h.2
theorem rT_eq {pc : Nat} {o : Int} (h : 0 ≤ (pc : Int) + o) : (pc : Int) + o = ((rT pc o : Nat) : Int) := by
  unfold rT; omega
theorem rI32 {x : Int32} {a : Int} (h1 : -2147483648 ≤ a) (h2 : a < 2147483648) : x = Int32.ofInt a ↔ x.toInt = a := by
  have e : (Int32.ofInt a).toInt = a := by
    rw [Int32.toInt_ofInt]
    exact Int.bmod_eq_of_le (by simp only [Int32.size]; omega) (by simp only [Int32.size]; omega)
  constructor
  · intro h; rw [h, e]
  · intro h; exact Int32.toInt_inj.mp (by rw [h, e])
theorem rTab_ok {G : Int → Prop} {x : Int32} {d : Int} : ∀ (l : List Int) (lo : Int), -2147483648 ≤ lo → lo + (l.length : Int) ≤ 2147483648 → rTab G x d lo l → ((x.toInt < lo ∨ lo + (l.length : Int) ≤ x.toInt) → G d) ∧ ∀ (j : Nat) (o : Int), l[j]? = some o → x.toInt = lo + (j : Int) → G o
  | [], lo, h1, h2, H => ⟨fun _ => H, fun j o hj => by simp at hj⟩
  | a :: l, lo, h1, h2, H => by
    unfold rTab at H
    have hl : ((a :: l).length : Int) = (l.length : Int) + 1 := by simp
    rw [hl] at h2 ⊢
    by_cases ha : a = d
    · rw [show decide (a = d) = true by simpa using ha] at H
      obtain ⟨g1, g2⟩ := rTab_ok l (lo + 1) (by omega) (by omega) H
      refine ⟨fun h => g1 (by omega), fun j o hj hx => ?_⟩
      cases j with
      | zero =>
        simp only [List.getElem?_cons_zero, Option.some.injEq] at hj
        subst hj; subst ha
        exact g1 (Or.inl (by simp at hx; omega))
      | succ j => exact g2 j o (by simpa using hj) (by rw [hx]; push_cast; omega)
    · rw [show decide (a = d) = false by simpa using ha] at H
      obtain ⟨k1, k2⟩ := H
      by_cases hx : x.toInt = lo
      · refine ⟨fun h => by omega, fun j o hj hj2 => ?_⟩
        have : j = 0 := by omega
        subst this
        simp only [List.getElem?_cons_zero, Option.some.injEq] at hj
        subst hj
        exact k1 ((rI32 h1 (by omega)).mpr hx)
      · obtain ⟨g1, g2⟩ := rTab_ok l (lo + 1) (by omega) (by omega) (k2 (fun e => hx ((rI32 h1 (by omega)).mp e)))
        refine ⟨fun h => g1 (by omega), fun j o hj hj2 => ?_⟩
        cases j with
        | zero => exact absurd (by simpa using hj2) hx
        | succ j => exact g2 j o (by simpa using hj) (by rw [hj2]; push_cast; omega)
theorem rSw_ok {G : Int → Prop} {x : Int32} {d : Int} : ∀ (l : List (Int × Int)), (∀ q ∈ l, -2147483648 ≤ q.1 ∧ q.1 < 2147483648) → rSw G x d l → G (Op.lookupswitch.offset l d x.toInt)
  | [], _, H => H
  | (a, o) :: l, h, H => by
    have ha := h (a, o) List.mem_cons_self
    rw [Op.lookupswitch.offset_cons]
    by_cases hx : a = x.toInt
    · rw [if_pos hx]
      exact H.1 ((rI32 ha.1 ha.2).mpr hx.symm)
    · rw [if_neg hx]
      exact rSw_ok l (fun q hq => h q (List.mem_cons_of_mem _ hq)) (H.2 (fun e => hx ((rI32 ha.1 ha.2).mp e).symm))
theorem rSw_mem {d x : Int} : ∀ (l : List (Int × Int)), Op.lookupswitch.offset l d x = d ∨ ∃ q ∈ l, Op.lookupswitch.offset l d x = q.2
  | [] => Or.inl rfl
  | (a, o) :: l => by
    rw [Op.lookupswitch.offset_cons]
    by_cases hx : a = x
    · rw [if_pos hx]; exact Or.inr ⟨_, List.mem_cons_self, rfl⟩
    · rw [if_neg hx]
      rcases rSw_mem (d := d) (x := x) l with h | ⟨q, h1, h2⟩
      · exact Or.inl h
      · exact Or.inr ⟨q, List.mem_cons_of_mem _ h1, h2⟩
theorem rFs_at {b : Nat} {f : Nat → Int32} {l : List (Option (Option Nat))} {j : Nat} {o : Option (Option Nat)} (h : l[j]? = some o) : (rFs b f l 0)[j]? = some (rSv b f j o) := by rw [rFs_get, h, Nat.zero_add]; rfl
theorem rVo (b : Nat) (cv : Nat → Nat) (fm : Value) (f : Nat → Int32) (j : Nat) (o : Option Nat) : rSv b f j (some o) = rV b cv fm (pO o) := by cases o <;> rfl
def rWs (M : rM) : List Cond := Cond.code (rYn M.1) (rBy M.1) M.2.2.2.2.2.2.2.1 M.2.2.2.2.1 :: rTT
def rRm (d : Nat) (M : rM) : Room := { frames := d, cells := M.2.2.2.2.2.1, slots := M.2.2.2.2.2.2.1, locals := 64 * d }
def rPre (D : va_G) (cI cB : ClassId) (b : Nat) (cv : Nat → Nat) (fm : Value) (E : rE) (sh : rSh) (h : rHp) : State → Prop := fun U => va_P D classes (rW b cI cB sh h) U.heap ∧ va_K D classes [(cI, .int), (cB, .byte)] U ∧ U.heap.size = b + sh.length ∧ rCon b cv fm E U
def rB (D : va_G) (cI cB : ClassId) (b : Nat) (u : rSh × rHp) (t : State) : Prop := va_P D classes (rW b cI cB u.1 u.2) t.heap
def rQ (D : va_G) (cI cB : ClassId) (b : Nat) (ret : Option FieldType) (Post : rPost) : Array Value → State → Outcome → State → Prop := match ret with
  | none => va_Qv (fun u : rSh × rHp => Post none u.1 u.2) (rB D cI cB b) (rA b)
  | some .long => va_Ql (fun (r : Int64) (u : rSh × rHp) => Post (some (pL r)) u.1 u.2) (rB D cI cB b) (rA b)
  | some _ => va_Qi (fun (r : Int32) (u : rSh × rHp) => Post (some (pI r)) u.1 u.2) (rB D cI cB b) (rA b)
def rMet (l : Launch) (D : va_G) (cI cB : ClassId) (b : Nat) (cv : Nat → Nat) (fm : Value) (E : rE) (d : Nat) (M : rM) (as : List rPV) (sh : rSh) (h : rHp) (Post : rPost) : Prop :=
  Met l (rYn M.1) (rWs M) (rRm d M) (va_Pc (as.map (rV b cv fm)) (rPre D cI cB b cv fm E sh h)) (rQ D cI cB b M.2.2.2.2.1 Post) M.2.2.2.2.2.1 M.2.2.2.2.2.2.1 (rA b)
theorem rBlind {D : va_G} {cI cB : ClassId} {b : Nat} {cv : Nat → Nat} {fm : Value} {E : rE} {as : List Value} {sh : rSh} {h : rHp} : FrameBlind (va_Pc as (rPre D cI cB b cv fm E sh h)) := fun a U g mk ⟨h0, h1, h2, h3, h4⟩ => ⟨h0, h1, va_K.moved (u := U) (U := U.calling g mk a) (Vm.Alike.refl U.vm) h2, h3, rCon_blind g mk a h4⟩
section SND
variable {p : Program} {l : Launch} {e : Env} {R : Room} {s : State} {m : MethodId} {args : Array Value} {below : List Frame} {meth : Method} {c : Code} {cc : ByteArray} {Q : State → Prop} {M : rM} {E : rE} {D : va_G} {cI cB : ClassId} {b : Nat} {cv : Nat → Nat} {fm : Value} {d : Nat} {K : rM → List rPV → rSh → rHp → rPost → Prop} {Post : rPost} {Z : Nat → rLs → List rPV → rSh → rHp → Nat → Nat → Prop}
/-- the frame at pc, with these locals, this stack, these cells, goes on to Q -/
def rG (p : Program) (l : Launch) (e : Env) (R : Room) (s : State) (m : MethodId) (args : Array Value) (below : List Frame) (meth : Method) (c : Code) (Q : State → Prop) (D : va_G) (cI cB : ClassId) (b : Nat) (cv : Nat → Nat) (fm : Value) (nL : Nat) (pc : Nat) (ls : rLs) (st : List rPV) (sh : rSh) (h : rHp) (n k : Nat) : Prop :=
  ∀ (H : Heap) (locs : List Loc) (la : Array Slot), va_P D classes (rW b cI cB sh h) H → s.heap.size + n = b + sh.length → va_S (rA b) s.heap H locs → rLH b cv fm la ls → ls.length = nL → W p l e R s m args below meth c H locs n k Q (F0 m pc la (st.map (rV b cv fm)))
def rCx (p : Program) (R : Room) (s : State) (m : MethodId) (args : Array Value) (meth : Method) (c : Code) (cc : ByteArray) (M : rM) (E : rE) (D : va_G) (cI cB : ClassId) (b : Nat) (cv : Nat → Nat) (fm : Value) (d : Nat) : Prop :=
  p.tables.exec = Jvm.exec ∧ c.code = cc ∧ c.maxLocals = M.2.2.2.2.2.2.2.1 ∧ s.vm.findClass (rCn M.2.2.1) = some m.cls ∧ (∀ w ∈ rTT, w.before args s = true) ∧ va_K D classes [(cI, .int), (cB, .byte)] s ∧ b ≤ s.heap.size ∧ rCon b cv fm E s ∧ fm.category = 1 ∧ (M.2.2.2.1 = true → meth.name = "<init>") ∧ (d + 1 ≤ R.frames ∧ 64 * (d + 1) ≤ R.locals ∧ M.2.2.2.2.2.1 ≤ R.cells ∧ M.2.2.2.2.2.2.1 ≤ R.slots) ∧ rCode M.2.1 cc
/-- how many cells there are: the room says it -/
theorem rSize {H : Heap} {locs : List Loc} {n k : Nat} {sh : rSh} {h : rHp} {g : JFrame} (hbs : b ≤ s.heap.size) (hP : va_P D classes (rW b cI cB sh h) H) (hz : s.heap.size + n = b + sh.length) (hS : va_S (rA b) s.heap H locs) (kk : H.size = b + sh.length → W p l e R s m args below meth c H locs n k Q g) : W p l e R s m args below meth c H locs n k Q g := by
  intro T hT X
  refine kk ?_ T hT X
  have h1 : T.heap.size ≤ s.heap.size + n := X.same.2.2.1
  rw [hT] at h1
  have h2 := hS.1
  rcases Nat.eq_zero_or_pos sh.length with h0 | h0
  · omega
  · have h3 : sh[sh.length - 1]? = some (sh[sh.length - 1]'(by omega)) := List.getElem?_eq_getElem (by omega)
    have h4 := (hP (sh.length - 1) _ (rW_at h3)).lt
    have h5 : b + (sh.length - 1) < H.size := h4
    omega
theorem rWord {w : Cond} (hts : ∀ w ∈ rTT, w.before args s = true) (h : w ∈ rTT) : w.before args s = true := hts w h
theorem rCls {ci : Nat} {C : String} {T : u_T} {N : Nat} {ty : Nat → FieldType} (h : rKc ci C T N ty) : classes[ci]? = some (C, T, N) := h.1

theorem rGoodC {M' : rM} {i : Nat} (hM : rOkM M' i) : GoodIn rTT (rWs M') := fun w hw => by
  have hw2 : w ∈ rTT := by
    rcases List.mem_cons.mp hw with e | h
    · rw [e, hM.1]; exact hM.2.1
    · exact h
  exact ⟨hw2, good_of_word (List.mem_filter.mp hw2).2⟩
theorem rGoodX {M' : rM} {i : Nat} {ws : List Cond} (hM : rOkM M' i) (h : ∀ w ∈ ws, w ∈ rTT) : GoodIn rTT (ws ++ rWs M') := fun w hw => by
  rcases List.mem_append.mp hw with h1 | h1
  · exact ⟨h w h1, good_of_word (List.mem_filter.mp (h w h1)).2⟩
  · exact rGoodC hM w h1
/-- what comes back from a call, for the caller -/
theorem rBack {M' : rM} {n k mc ms pc : Nat} {st0 rest : List Value} {a : Array Value} {la : Array Slot} {H : Heap} {locs : List Loc} {Pst : rPost} (hS : va_S (rA b) s.heap H locs) (hmc : M'.2.2.2.2.2.1 = mc) (hms : M'.2.2.2.2.2.2.1 = ms)
    (hr : va_Run p l e R s m args below meth c H locs n k mc ms (F0 m pc la st0) rest (rQ D cI cB b M'.2.2.2.2.1 Pst a) (rA b))
    (kk : ∀ (v : Option rPV) (u : rSh × rHp) (H1 : Heap) (locs1 : List Loc), (match M'.2.2.2.2.1 with | none => v = none | some .long => ∃ x, v = some (pL x) | some _ => ∃ x, v = some (pI x)) → Pst v u.1 u.2 → va_P D classes (rW b cI cB u.1 u.2) H1 → va_S (rA b) s.heap H1 locs1 → W p l e R s m args below meth c H1 locs1 (n + mc) (k + ms) Q (F0 m (pc + 3) la ((rPush v []).map (rV b cv fm) ++ rest))) : W p l e R s m args below meth c H locs n k Q (F0 m pc la st0) := by
  generalize M'.2.2.2.2.1 = ret at hr kk
  match ret, hr, kk with
  | none, hr, kk =>
    exact va_callv (a := a) hr hS (fun q _ h => h) (fun q h => h) (fun u t H1 locs1 ht _ hp hB _ _ hS1 => kk none u H1 locs1 rfl hp (by rw [← ht]; exact hB) hS1)
  | some .long, hr, kk =>
    exact va_calll (a := a) hr hS (fun q _ h => h) (fun q h => h) (fun x u t H1 locs1 ht _ hp hB _ _ hS1 => kk (some (pL x)) u H1 locs1 ⟨x, rfl⟩ hp (by rw [← ht]; exact hB) hS1)
  | some .int, hr, kk =>
    exact va_calli (a := a) hr hS (fun q _ h => h) (fun q h => h) (fun x u t H1 locs1 ht _ hp hB _ _ hS1 => kk (some (pI x)) u H1 locs1 ⟨x, rfl⟩ hp (by rw [← ht]; exact hB) hS1)
  | some .boolean, hr, kk =>
    exact va_calli (a := a) hr hS (fun q _ h => h) (fun q h => h) (fun x u t H1 locs1 ht _ hp hB _ _ hS1 => kk (some (pI x)) u H1 locs1 ⟨x, rfl⟩ hp (by rw [← ht]; exact hB) hS1)
  | some .byte, hr, kk =>
    exact va_calli (a := a) hr hS (fun q _ h => h) (fun q h => h) (fun x u t H1 locs1 ht _ hp hB _ _ hS1 => kk (some (pI x)) u H1 locs1 ⟨x, rfl⟩ hp (by rw [← ht]; exact hB) hS1)
  | some .char, hr, kk =>
    exact va_calli (a := a) hr hS (fun q _ h => h) (fun q h => h) (fun x u t H1 locs1 ht _ hp hB _ _ hS1 => kk (some (pI x)) u H1 locs1 ⟨x, rfl⟩ hp (by rw [← ht]; exact hB) hS1)
  | some .short, hr, kk =>
    exact va_calli (a := a) hr hS (fun q _ h => h) (fun q h => h) (fun x u t H1 locs1 ht _ hp hB _ _ hS1 => kk (some (pI x)) u H1 locs1 ⟨x, rfl⟩ hp (by rw [← ht]; exact hB) hS1)
  | some .float, hr, kk =>
    exact va_calli (a := a) hr hS (fun q _ h => h) (fun q h => h) (fun x u t H1 locs1 ht _ hp hB _ _ hS1 => kk (some (pI x)) u H1 locs1 ⟨x, rfl⟩ hp (by rw [← ht]; exact hB) hS1)
  | some .double, hr, kk =>
    exact va_calli (a := a) hr hS (fun q _ h => h) (fun q h => h) (fun x u t H1 locs1 ht _ hp hB _ _ hS1 => kk (some (pI x)) u H1 locs1 ⟨x, rfl⟩ hp (by rw [← ht]; exact hB) hS1)
  | some (.object _), hr, kk =>
    exact va_calli (a := a) hr hS (fun q _ h => h) (fun q h => h) (fun x u t H1 locs1 ht _ hp hB _ _ hS1 => kk (some (pI x)) u H1 locs1 ⟨x, rfl⟩ hp (by rw [← ht]; exact hB) hS1)
  | some (.array _), hr, kk =>
    exact va_calli (a := a) hr hS (fun q _ h => h) (fun q h => h) (fun x u t H1 locs1 ht _ hp hB _ _ hS1 => kk (some (pI x)) u H1 locs1 ⟨x, rfl⟩ hp (by rw [← ht]; exact hB) hS1)
theorem rCatSum {b : Nat} {cv : Nat → Nat} {fm : Value} (hfm : fm.category = 1) : ∀ (r : List rPV), (((r.map (rV b cv fm)).map fun v => v.category).sum) ≤ 2 * r.length
  | [] => by simp
  | v :: r => by
    have := rCatSum (b := b) (cv := cv) hfm r
    have h1 : (rV b cv fm v).category ≤ 2 := by rcases lv_cat (rV b cv fm v) with h | h <;> omega
    simp only [List.map_cons, List.sum_cons, List.length_cons]
    omega
theorem rAsk_ok {M' : rM} {cm : Nat} {as r : List rPV} {sh : rSh} {h : rHp} {X : List rPV → rSh → rHp → Nat → Nat → Prop} {n k : Nat} (hM : rOkM M' cm) (H : rAsk K M' as sh h X r n k) : ∃ Pst : rPost, K M' as sh h Pst ∧ ∀ (v : Option rPV) (sh' : rSh) (h' : rHp), (match M'.2.2.2.2.1 with | none => v = none | some .long => ∃ x, v = some (pL x) | some _ => ∃ x, v = some (pI x)) → Pst v sh' h' → sh'.length = sh.length + M'.2.2.2.2.2.1 ∧ X (rPush v r) sh' h' (n + M'.2.2.2.2.2.1) (k + M'.2.2.2.2.2.2.1) := by
  unfold rAsk at H
  cases hi : M'.2.2.2.1 with
  | true =>
    rw [hi] at H
    have hret := hM.2.2.2.2.2.2.2.2 hi
    refine ⟨_, H, fun v sh' h' hv hp => ?_⟩
    rw [hret] at hv
    subst hv
    exact hp
  | false =>
    rw [hi] at H
    cases h0 : Nat.beq M'.2.2.2.2.2.1 0 with
    | false => rw [h0] at H; exact H.elim
    | true =>
      rw [h0] at H
      have e0 : M'.2.2.2.2.2.1 = 0 := Nat.eq_of_beq_eq_true h0
      rw [e0]
      generalize M'.2.2.2.2.1 = ret at H ⊢
      match ret, H with
      | none, H =>
        refine ⟨_, H, fun v sh' h' hv hp => ?_⟩
        subst hv
        obtain ⟨rfl, hp⟩ := hp
        exact ⟨rfl, hp⟩
      | some .long, H =>
        refine ⟨_, H, fun v sh' h' hv hp => ?_⟩
        obtain ⟨x, rfl⟩ := hv
        obtain ⟨rfl, hp⟩ := hp
        exact ⟨rfl, hp⟩
      | some .int, H =>
        refine ⟨_, H, fun v sh' h' hv hp => ?_⟩
        obtain ⟨x, rfl⟩ := hv
        obtain ⟨rfl, hp⟩ := hp
        exact ⟨rfl, hp⟩
      | some .boolean, H =>
        refine ⟨_, H, fun v sh' h' hv hp => ?_⟩
        obtain ⟨x, rfl⟩ := hv
        obtain ⟨rfl, hp⟩ := hp
        exact ⟨rfl, hp⟩
      | some .byte, H =>
        refine ⟨_, H, fun v sh' h' hv hp => ?_⟩
        obtain ⟨x, rfl⟩ := hv
        obtain ⟨rfl, hp⟩ := hp
        exact ⟨rfl, hp⟩
      | some .char, H =>
        refine ⟨_, H, fun v sh' h' hv hp => ?_⟩
        obtain ⟨x, rfl⟩ := hv
        obtain ⟨rfl, hp⟩ := hp
        exact ⟨rfl, hp⟩
      | some .short, H => exact H.elim
      | some .float, H => exact H.elim
      | some .double, H => exact H.elim
      | some (.object _), H => exact H.elim
      | some (.array _), H => exact H.elim
theorem rInv_ok {n k pc kd cm : Nat} {M' : rM} {ls : rLs} {st : List rPV} {sh : rSh} {h : rHp} (C : rCx p R s m args meth c cc M E D cI cB b cv fm d) (hZ : ∀ pc ls st sh h n k, Z pc ls st sh h n k → rG p l e R s m args below meth c Q D cI cB b cv fm M.2.2.2.2.2.2.2.1 pc ls st sh h n k) (hKM : ∀ (M' : rM) (i : Nat), rOkM M' i → rNth rMs i = some M' → ∀ as sh h P, K M' as sh h P → rMet l D cI cB b cv fm E d M' as sh h P)
    (hM : rOkM M' cm) (hMs : rNth rMs cm = some M') (H : rInv K M (Z (pc + 3)) kd M' ls st sh h n k)
    (hrun : ∀ (H : Heap) (locs : List Loc) (la : Array Slot) (as pre r : List rPV) (Pst : rPost), pre.length = M'.2.2.2.2.2.2.2.2 → st = pre ++ r → as = pre.reverse → rRecv kd M' as sh = true → va_P D classes (rW b cI cB sh h) H → va_S (rA b) s.heap H locs → la.size = M.2.2.2.2.2.2.2.1 → (((r.map (rV b cv fm)).map fun v => v.category).sum ≤ 8) → n + M'.2.2.2.2.2.1 ≤ R.cells → k + M'.2.2.2.2.2.2.1 ≤ R.slots → rMet l D cI cB b cv fm E d M' as sh h Pst → (∀ U : State, U.heap = H → s.WarmedH U.vm → rPre D cI cB b cv fm E sh h U) → va_Run p l e R s m args below meth c H locs n k M'.2.2.2.2.2.1 M'.2.2.2.2.2.2.1 (F0 m pc la (st.map (rV b cv fm))) (r.map (rV b cv fm)) (rQ D cI cB b M'.2.2.2.2.1 Pst (as.map (rV b cv fm)).toArray) (rA b)) : rG p l e R s m args below meth c Q D cI cB b cv fm M.2.2.2.2.2.2.2.1 pc ls st sh h n k := by
  obtain ⟨hx, hb, hml, hown, hts, hK, hbs, hcon, hfm, hin, hR, hcode⟩ := C
  intro Hh locs la hP hz hS hL hn
  unfold rInv at H
  split at H
  · exact H.elim
  rename_i as r hpop
  obtain ⟨pre, hlen, rfl, has⟩ := rPop_ok _ _ _ _ _ hpop
  rw [List.append_nil] at has
  obtain ⟨hb1, H⟩ := bB_ok H
  rw [Bool.and_eq_true] at hb1
  have hr4 := Nat.le_of_ble_eq_true hb1.1
  obtain ⟨hn1, hk1, H⟩ := rBk_ok H
  obtain ⟨Pst, hK1, hback⟩ := rAsk_ok hM H
  have hsum := rCatSum (b := b) (cv := cv) hfm r
  refine rSize hbs hP hz hS (fun hsz => ?_)
  have hrun1 := hrun Hh locs la as pre r Pst hlen rfl has hb1.2 hP hS (by rw [hL.1, hn]) (by omega) (by omega) (by omega) (hKM M' cm hM hMs _ _ _ _ hK1) (fun U hU hW => ⟨by rw [hU]; exact hP, va_K.moved hW.alike hK, by rw [hU]; exact hsz, rCon_call hbs hcon hS hU hW⟩)
  refine rBack (Pst := Pst) (cv := cv) (fm := fm) hS rfl rfl hrun1 (fun v u H1 locs1 hv hp hP1 hS1 => ?_)
  obtain ⟨hl1, hX⟩ := hback v u.1 u.2 hv hp
  have hW := hZ _ _ _ _ _ _ _ hX H1 locs1 la hP1 (by omega) hS1 hL hn
  have e : (rPush v r).map (rV b cv fm) = (rPush v []).map (rV b cv fm) ++ r.map (rV b cv fm) := by cases v <;> rfl
  rw [e] at hW
  exact hW
end SND
end
section
/-- a new object's slots are its fields' first values -/
theorem rBlank_ok {ci N : Nat} {CC : String} {T : u_T} {ty : Nat → FieldType} {sl : List (Option (Option Nat))} (hKc : rKc ci CC T N ty) (hsl : rNth rBlank ci = some sl) : sl.length = N ∧ ∀ (b j : Nat), j < N → defaultValue (ty j) = vp_V (rFs b (fun _ => 0) sl 0) j := by
  have key : ∀ i : Nat, i < 7 → ∀ (C2 : String) (T2 : u_T) (N2 : Nat) (ty2 : Nat → FieldType), rKc i C2 T2 N2 ty2 → ∀ sl, rNth rBlank i = some sl → sl.length = N2 ∧ ∀ j, j < N2 → sl[j]? = some (if (ty2 j).isReference = true then some none else none) ∧ defaultValue (ty2 j) = (if (ty2 j).isReference = true then .null else .int 0) := by
    intro i hi C2 T2 N2 ty2 hK sl hsl
    match i, hi, hK, hsl with
    | 0, hi, hK, hsl =>
      have e := hK.1
      cases e
      cases hsl
      refine ⟨rfl, fun j hj => ?_⟩
      have e2 : ty2 j = tyX0 j := Option.some.inj ((hK.2.2.2.2.1 j hj).symm.trans (tyX0_ok j hj))
      rw [e2]
      rcases (show j = 0 ∨ j = 1 ∨ j = 2 ∨ j = 3 ∨ j = 4 ∨ j = 5 by omega) with rfl | rfl | rfl | rfl | rfl | rfl <;> exact ⟨rfl, rfl⟩
    | 1, hi, hK, hsl =>
      have e := hK.1
      cases e
      cases hsl
      refine ⟨rfl, fun j hj => ?_⟩
      have e2 : ty2 j = tyX1 j := Option.some.inj ((hK.2.2.2.2.1 j hj).symm.trans (tyX1_ok j hj))
      rw [e2]
      rcases (show j = 0 ∨ j = 1 ∨ j = 2 by omega) with rfl | rfl | rfl <;> exact ⟨rfl, rfl⟩
    | 2, hi, hK, hsl =>
      have e := hK.1
      cases e
      cases hsl
      refine ⟨rfl, fun j hj => ?_⟩
      have e2 : ty2 j = tyX2 j := Option.some.inj ((hK.2.2.2.2.1 j hj).symm.trans (tyX2_ok j hj))
      rw [e2]
      rcases (show j = 0 ∨ j = 1 ∨ j = 2 by omega) with rfl | rfl | rfl <;> exact ⟨rfl, rfl⟩
    | 3, hi, hK, hsl =>
      have e := hK.1
      cases e
      cases hsl
      refine ⟨rfl, fun j hj => ?_⟩
      have e2 : ty2 j = tyX3 j := Option.some.inj ((hK.2.2.2.2.1 j hj).symm.trans (tyX3_ok j hj))
      rw [e2]
      rcases (show j = 0 ∨ j = 1 ∨ j = 2 ∨ j = 3 ∨ j = 4 ∨ j = 5 ∨ j = 6 ∨ j = 7 ∨ j = 8 ∨ j = 9 ∨ j = 10 ∨ j = 11 by omega) with rfl | rfl | rfl | rfl | rfl | rfl | rfl | rfl | rfl | rfl | rfl | rfl <;> exact ⟨rfl, rfl⟩
    | 4, hi, hK, hsl =>
      have e := hK.1
      cases e
      cases hsl
      refine ⟨rfl, fun j hj => ?_⟩
      have e2 : ty2 j = tyX4 j := Option.some.inj ((hK.2.2.2.2.1 j hj).symm.trans (tyX4_ok j hj))
      rw [e2]
      rcases (show j = 0 ∨ j = 1 ∨ j = 2 ∨ j = 3 ∨ j = 4 ∨ j = 5 by omega) with rfl | rfl | rfl | rfl | rfl | rfl <;> exact ⟨rfl, rfl⟩
    | 5, hi, hK, hsl =>
      have e := hK.1
      cases e
      cases hsl
      refine ⟨rfl, fun j hj => ?_⟩
      have e2 : ty2 j = tyX5 j := Option.some.inj ((hK.2.2.2.2.1 j hj).symm.trans (tyX5_ok j hj))
      rw [e2]
      rcases (show j = 0 ∨ j = 1 ∨ j = 2 ∨ j = 3 ∨ j = 4 ∨ j = 5 ∨ j = 6 ∨ j = 7 ∨ j = 8 ∨ j = 9 by omega) with rfl | rfl | rfl | rfl | rfl | rfl | rfl | rfl | rfl | rfl <;> exact ⟨rfl, rfl⟩
    | 6, hi, hK, hsl =>
      have e := hK.1
      cases e
      cases hsl
      refine ⟨rfl, fun j hj => ?_⟩
      have e2 : ty2 j = tyX6 j := Option.some.inj ((hK.2.2.2.2.1 j hj).symm.trans (tyX6_ok j hj))
      rw [e2]
      rcases (show j = 0 ∨ j = 1 ∨ j = 2 ∨ j = 3 ∨ j = 4 ∨ j = 5 ∨ j = 6 ∨ j = 7 ∨ j = 8 ∨ j = 9 ∨ j = 10 ∨ j = 11 ∨ j = 12 ∨ j = 13 ∨ j = 14 ∨ j = 15 ∨ j = 16 ∨ j = 17 ∨ j = 18 ∨ j = 19 ∨ j = 20 ∨ j = 21 ∨ j = 22 ∨ j = 23 ∨ j = 24 ∨ j = 25 ∨ j = 26 by omega) with rfl | rfl | rfl | rfl | rfl | rfl | rfl | rfl | rfl | rfl | rfl | rfl | rfl | rfl | rfl | rfl | rfl | rfl | rfl | rfl | rfl | rfl | rfl | rfl | rfl | rfl | rfl <;> exact ⟨rfl, rfl⟩
    | n + 7, hi, _, _ => exact absurd hi (by omega)
  have h7 : ci < 7 := (List.getElem?_eq_some_iff.mp hKc.1).1
  obtain ⟨h1, h2⟩ := key ci h7 CC T N ty hKc sl hsl
  refine ⟨h1, fun b j hj => ?_⟩
  obtain ⟨h3, h4⟩ := h2 j hj
  have h5 : vp_V (rFs b (fun _ => 0) sl 0) j = rSv b (fun _ => 0) j (if (ty j).isReference = true then some none else none) := by
    unfold vp_V
    rw [List.getD_eq_getElem?_getD, rFs_at h3]
    rfl
  rw [h4, h5]
  by_cases hr : (ty j).isReference = true
  · rw [if_pos hr, if_pos hr]; rfl
  · rw [if_neg hr, if_neg hr]; rfl
theorem rNat : nativeFrameWords "java/lang/System" "arraycopy" 5 + 11 ≤ 40 := by decide +kernel
theorem rByint {n : Nat} (h : n ≤ 1000) : n * componentBytes .int ≤ 536870912 := by
  have e : componentBytes .int = 4 := rfl
  rw [e]; omega
theorem rBybyte {n : Nat} (h : n ≤ 1000) : n * componentBytes .byte ≤ 536870912 := by
  have e : componentBytes .byte = 1 := rfl
  rw [e]; omega
section SND2
variable {p : Program} {l : Launch} {e : Env} {R : Room} {s : State} {m : MethodId} {args : Array Value} {below : List Frame} {meth : Method} {c : Code} {cc : ByteArray} {Q : State → Prop} {M : rM} {E : rE} {D : va_G} {cI cB : ClassId} {b : Nat} {cv : Nat → Nat} {fm : Value} {d : Nat} {K : rM → List rPV → rSh → rHp → rPost → Prop} {Post : rPost} {Z : Nat → rLs → List rPV → rSh → rHp → Nat → Nat → Prop}
set_option maxHeartbeats 4000000 in
set_option maxRecDepth 20000 in
theorem rG_step {pc : Nat} {ls : rLs} {st : List rPV} {sh : rSh} {h : rHp} {n k : Nat} (C : rCx p R s m args meth c cc M E D cI cB b cv fm d) (hZ : ∀ pc ls st sh h n k, Z pc ls st sh h n k → rG p l e R s m args below meth c Q D cI cB b cv fm M.2.2.2.2.2.2.2.1 pc ls st sh h n k) (hKM : ∀ (M' : rM) (i : Nat), rOkM M' i → rNth rMs i = some M' → ∀ as sh h P, K M' as sh h P → rMet l D cI cB b cv fm E d M' as sh h P)
    (hI : ∀ (x : Int32) (ty : FieldType) (pc : Nat) (sh : rSh) (h : rHp) (n k : Nat) (H : Heap) (locs : List Loc) (la : Array Slot), M.2.2.2.2.1 = some ty → (ty = .int ∨ ty = .boolean ∨ ty = .byte ∨ ty = .char) → narrow ty (.int x) = .int x → decode cc pc = .ok (.ireturn, 1) → Post (some (pI x)) sh h → n ≤ M.2.2.2.2.2.1 → k ≤ M.2.2.2.2.2.2.1 → va_P D classes (rW b cI cB sh h) H → va_S (rA b) s.heap H locs → W p l e R s m args below meth c H locs n k Q (F0 m pc la [.int x]))
    (hL0 : ∀ (x : Int64) (pc : Nat) (sh : rSh) (h : rHp) (n k : Nat) (H : Heap) (locs : List Loc) (la : Array Slot), M.2.2.2.2.1 = some .long → decode cc pc = .ok (.lreturn, 1) → Post (some (pL x)) sh h → n ≤ M.2.2.2.2.2.1 → k ≤ M.2.2.2.2.2.2.1 → va_P D classes (rW b cI cB sh h) H → va_S (rA b) s.heap H locs → W p l e R s m args below meth c H locs n k Q (F0 m pc la [.long x]))
    (hV0 : ∀ (pc : Nat) (sh : rSh) (h : rHp) (n k : Nat) (H : Heap) (locs : List Loc) (la : Array Slot), M.2.2.2.2.1 = none → decode cc pc = .ok (.return_, 1) → Post none sh h → n ≤ M.2.2.2.2.2.1 → k ≤ M.2.2.2.2.2.2.1 → va_P D classes (rW b cI cB sh h) H → va_S (rA b) s.heap H locs → W p l e R s m args below meth c H locs n k Q (F0 m pc la []))
    (H00 : rStp E K M Post Z pc ls st sh h n k) : rG p l e R s m args below meth c Q D cI cB b cv fm M.2.2.2.2.2.2.2.1 pc ls st sh h n k := by
  have C0 := C
  obtain ⟨hx, hb, hml, hown, hts, hK, hbs, hcon, hfm, hin, hR, hcode⟩ := C
  obtain ⟨⟨i, len⟩, hf, H⟩ := oM_ok H00
  clear H00
  obtain ⟨hd, hck⟩ := hcode _ (rFet_ok _ _ _ hf)
  intro Hh locs la hP hz hS hL hn
  have hDD : va_D (rA b) (rW b cI cB sh h) := rW_D (fun q h => h)
  have hoff := rChk_off hck
  have hlen := rChk_len hck
  clear hck
  dsimp only at H hd hlen hoff
  cases i with
  | iconst z =>
    obtain rfl : len = 1 := hlen (show ¬ (1 : Nat) = 0 by decide)
    exact lv_iconst hx hb hd rfl (hZ _ _ _ _ _ _ _ H Hh locs la hP hz hS hL hn)
  | bipush z =>
    obtain rfl : len = 2 := hlen (show ¬ (2 : Nat) = 0 by decide)
    exact lv_bipush hx hb hd rfl (hZ _ _ _ _ _ _ _ H Hh locs la hP hz hS hL hn)
  | sipush z =>
    obtain rfl : len = 3 := hlen (show ¬ (3 : Nat) = 0 by decide)
    exact lv_sipush hx hb hd rfl (hZ _ _ _ _ _ _ _ H Hh locs la hP hz hS hL hn)
  | lconst z =>
    obtain rfl : len = 1 := hlen (show ¬ (1 : Nat) = 0 by decide)
    exact lv_lconst hx hb hd rfl (hZ _ _ _ _ _ _ _ H Hh locs la hP hz hS hL hn)
  | ldc x =>
    obtain rfl : len = 2 := hlen (show ¬ (2 : Nat) = 0 by decide)
    rcases oE_ok H with ⟨v, hv, H⟩ | ⟨-, H⟩
    · obtain ⟨l1, h1, h2⟩ := rLk2_ok hv
      exact lv_ldc hx hb hown (hts _ (rIall _ _ h1 _ h2)) hd (hZ _ _ _ _ _ _ _ H Hh locs la hP hz hS hL hn)
    · obtain ⟨i, hi, H⟩ := oM_ok H
      obtain ⟨l1, h1, h2⟩ := rLk2_ok hi
      obtain ⟨e1, tx, e2, e3⟩ := rSall _ _ h1 _ h2
      have hk := hZ _ _ _ _ _ _ _ H Hh locs la hP hz hS hL hn
      have e4 : rV b cv fm (pC (i + 10)) = .ref (cv (10 + i)) := by
        show (if i + 10 = 3 then fm else Value.ref (cv (i + 10))) = _
        rw [if_neg (by omega), Nat.add_comm]
      rw [List.map_cons, e4] at hk
      exact va_ldcS hx hb (own := rCn M.2.2.1) hown (by rw [e1]; exact hcon.2.2.2.2.2.2.1 i (x, tx) e2) hd hk
  | ldc_w x =>
    obtain rfl : len = 3 := hlen (show ¬ (3 : Nat) = 0 by decide)
    obtain ⟨v, hv, H⟩ := oM_ok H
    obtain ⟨l1, h1, h2⟩ := rLk2_ok hv
    exact lv_ldcw hx hb hown (hts _ (rIall _ _ h1 _ h2)) hd (hZ _ _ _ _ _ _ _ H Hh locs la hP hz hS hL hn)
  | ldc2_w x =>
    obtain rfl : len = 3 := hlen (show ¬ (3 : Nat) = 0 by decide)
    obtain ⟨v, hv, H⟩ := oM_ok H
    obtain ⟨l1, h1, h2⟩ := rLk2_ok hv
    exact lv_ldc2 hx hb hown (hts _ (rJall _ _ h1 _ h2)) hd (hZ _ _ _ _ _ _ _ H Hh locs la hP hz hS hL hn)
  | iload_n j =>
    obtain rfl : len = 1 := hlen (show ¬ (1 : Nat) = 0 by decide)
    obtain ⟨x, hj, H⟩ := lI_ok H
    exact lv_iload_n hx hb hd rfl (hL.2.2 _ _ hj) (hZ _ _ _ _ _ _ _ H Hh locs la hP hz hS hL hn)
  | iload j =>
    obtain rfl : len = 2 := hlen (show ¬ (2 : Nat) = 0 by decide)
    obtain ⟨x, hj, H⟩ := lI_ok H
    exact lv_iload hx hb hd (hL.2.2 _ _ hj) (hZ _ _ _ _ _ _ _ H Hh locs la hP hz hS hL hn)
  | lload_n j =>
    obtain rfl : len = 1 := hlen (show ¬ (1 : Nat) = 0 by decide)
    obtain ⟨x, hj, H⟩ := lL_ok H
    exact lv_lload_n hx hb hd rfl (hL.2.2 _ _ hj) (hZ _ _ _ _ _ _ _ H Hh locs la hP hz hS hL hn)
  | lload j =>
    obtain rfl : len = 2 := hlen (show ¬ (2 : Nat) = 0 by decide)
    obtain ⟨x, hj, H⟩ := lL_ok H
    exact lv_lload hx hb hd (hL.2.2 _ _ hj) (hZ _ _ _ _ _ _ _ H Hh locs la hP hz hS hL hn)
  | aload_n j =>
    obtain rfl : len = 1 := hlen (show ¬ (1 : Nat) = 0 by decide)
    rcases lRC_ok H with ⟨x, hj, H⟩ | ⟨x, hj, h3, H⟩
    · exact lv_aload_n hx hb hd rfl (hL.2.2 _ _ hj) (hZ _ _ _ _ _ _ _ H Hh locs la hP hz hS hL hn)
    · have hk := hZ _ _ _ _ _ _ _ H Hh locs la hP hz hS hL hn
      have e4 : rV b cv fm (pC x) = .ref (cv x) := if_neg h3
      have hj2 := hL.2.2 _ _ hj
      rw [e4] at hj2
      rw [List.map_cons, e4] at hk
      exact lv_aload_n hx hb hd rfl hj2 hk
  | istore_n j =>
    obtain rfl : len = 1 := hlen (show ¬ (1 : Nat) = 0 by decide)
    obtain ⟨x, r, rfl, H⟩ := sI_ok H
    obtain ⟨hj, H⟩ := bB_ok H
    have hj := Nat.le_of_ble_eq_true hj
    exact lv_istore_n hx hb hd rfl (rLH_has hL) hj rfl (fun la1 hl1 => hZ _ _ _ _ _ _ _ H Hh locs la1 hP hz hS (rLH_set1 (v := pI x) hfm hj hl1) (by rw [rSet1_len]; exact hn))
  | istore j =>
    obtain rfl : len = 2 := hlen (show ¬ (2 : Nat) = 0 by decide)
    obtain ⟨x, r, rfl, H⟩ := sI_ok H
    obtain ⟨hj, H⟩ := bB_ok H
    have hj := Nat.le_of_ble_eq_true hj
    exact lv_istore hx hb hd (rLH_has hL) hj rfl (fun la1 hl1 => hZ _ _ _ _ _ _ _ H Hh locs la1 hP hz hS (rLH_set1 (v := pI x) hfm hj hl1) (by rw [rSet1_len]; exact hn))
  | lstore_n j =>
    obtain rfl : len = 1 := hlen (show ¬ (1 : Nat) = 0 by decide)
    obtain ⟨x, r, rfl, H⟩ := sL_ok H
    obtain ⟨hj, H⟩ := bB_ok H
    have hj := Nat.le_of_ble_eq_true hj
    exact lv_lstore_n hx hb hd rfl (rLH_has hL) hj rfl (fun la1 hl1 => hZ _ _ _ _ _ _ _ H Hh locs la1 hP hz hS (rLH_set2 hfm hj hl1) (by rw [rSet2_len]; exact hn))
  | lstore j =>
    obtain rfl : len = 2 := hlen (show ¬ (2 : Nat) = 0 by decide)
    obtain ⟨x, r, rfl, H⟩ := sL_ok H
    obtain ⟨hj, H⟩ := bB_ok H
    have hj := Nat.le_of_ble_eq_true hj
    exact lv_lstore hx hb hd (rLH_has hL) hj rfl (fun la1 hl1 => hZ _ _ _ _ _ _ _ H Hh locs la1 hP hz hS (rLH_set2 hfm hj hl1) (by rw [rSet2_len]; exact hn))
  | astore_n j =>
    obtain rfl : len = 1 := hlen (show ¬ (1 : Nat) = 0 by decide)
    obtain ⟨x, r, rfl, H⟩ := sR_ok H
    obtain ⟨hj, H⟩ := bB_ok H
    have hj := Nat.le_of_ble_eq_true hj
    exact lv_astore_n hx hb hd rfl (rLH_has hL) hj rfl (fun la1 hl1 => hZ _ _ _ _ _ _ _ H Hh locs la1 hP hz hS (rLH_set1 (v := pR x) hfm hj hl1) (by rw [rSet1_len]; exact hn))
  | iinc j z =>
    obtain rfl : len = 3 := hlen (show ¬ (3 : Nat) = 0 by decide)
    obtain ⟨x, hj0, H⟩ := lI_ok H
    obtain ⟨hj, H⟩ := bB_ok H
    have hj := Nat.le_of_ble_eq_true hj
    obtain ⟨i1, hi1⟩ := List.getElem?_of_mem (rLv_of (b := b) (cv := cv) (fm := fm) ls 0 j _ (by rw [← rNth_eq]; exact hj0))
    rw [Nat.zero_add] at hi1
    exact lv_iinc hx hb hd (rLH_has hL) hi1 rfl hj rfl (fun la1 hl1 => hZ _ _ _ _ _ _ _ H Hh locs la1 hP hz hS (rLH_set1 (v := pI (x + Int32.ofInt z)) hfm hj hl1) (by rw [rSet1_len]; exact hn))
  | iadd =>
    obtain rfl : len = 1 := hlen (show ¬ (1 : Nat) = 0 by decide)
    obtain ⟨y, r, rfl, H⟩ := sI_ok H
    obtain ⟨x, r, rfl, H⟩ := sI_ok H
    exact lv_iadd hx hb hd (hZ _ _ _ _ _ _ _ H Hh locs la hP hz hS hL hn)
  | isub =>
    obtain rfl : len = 1 := hlen (show ¬ (1 : Nat) = 0 by decide)
    obtain ⟨y, r, rfl, H⟩ := sI_ok H
    obtain ⟨x, r, rfl, H⟩ := sI_ok H
    exact lv_isub hx hb hd (hZ _ _ _ _ _ _ _ H Hh locs la hP hz hS hL hn)
  | imul =>
    obtain rfl : len = 1 := hlen (show ¬ (1 : Nat) = 0 by decide)
    obtain ⟨y, r, rfl, H⟩ := sI_ok H
    obtain ⟨x, r, rfl, H⟩ := sI_ok H
    exact lv_imul hx hb hd (hZ _ _ _ _ _ _ _ H Hh locs la hP hz hS hL hn)
  | iand =>
    obtain rfl : len = 1 := hlen (show ¬ (1 : Nat) = 0 by decide)
    obtain ⟨y, r, rfl, H⟩ := sI_ok H
    obtain ⟨x, r, rfl, H⟩ := sI_ok H
    exact lv_iand hx hb hd (hZ _ _ _ _ _ _ _ H Hh locs la hP hz hS hL hn)
  | ior =>
    obtain rfl : len = 1 := hlen (show ¬ (1 : Nat) = 0 by decide)
    obtain ⟨y, r, rfl, H⟩ := sI_ok H
    obtain ⟨x, r, rfl, H⟩ := sI_ok H
    exact lv_ior hx hb hd (hZ _ _ _ _ _ _ _ H Hh locs la hP hz hS hL hn)
  | ixor =>
    obtain rfl : len = 1 := hlen (show ¬ (1 : Nat) = 0 by decide)
    obtain ⟨y, r, rfl, H⟩ := sI_ok H
    obtain ⟨x, r, rfl, H⟩ := sI_ok H
    exact lv_ixor hx hb hd (hZ _ _ _ _ _ _ _ H Hh locs la hP hz hS hL hn)
  | ishl =>
    obtain rfl : len = 1 := hlen (show ¬ (1 : Nat) = 0 by decide)
    obtain ⟨y, r, rfl, H⟩ := sI_ok H
    obtain ⟨x, r, rfl, H⟩ := sI_ok H
    exact lv_ishl hx hb hd (hZ _ _ _ _ _ _ _ H Hh locs la hP hz hS hL hn)
  | ishr =>
    obtain rfl : len = 1 := hlen (show ¬ (1 : Nat) = 0 by decide)
    obtain ⟨y, r, rfl, H⟩ := sI_ok H
    obtain ⟨x, r, rfl, H⟩ := sI_ok H
    exact lv_ishr hx hb hd (hZ _ _ _ _ _ _ _ H Hh locs la hP hz hS hL hn)
  | idiv =>
    obtain rfl : len = 1 := hlen (show ¬ (1 : Nat) = 0 by decide)
    obtain ⟨y, r, rfl, H⟩ := sI_ok H
    obtain ⟨x, r, rfl, hy, H⟩ := sI_ok H
    exact lv_idiv hx hb hd hy (hZ _ _ _ _ _ _ _ H Hh locs la hP hz hS hL hn)
  | irem =>
    obtain rfl : len = 1 := hlen (show ¬ (1 : Nat) = 0 by decide)
    obtain ⟨y, r, rfl, H⟩ := sI_ok H
    obtain ⟨x, r, rfl, hy, H⟩ := sI_ok H
    exact lv_irem hx hb hd hy (hZ _ _ _ _ _ _ _ H Hh locs la hP hz hS hL hn)
  | ineg =>
    obtain rfl : len = 1 := hlen (show ¬ (1 : Nat) = 0 by decide)
    obtain ⟨x, r, rfl, H⟩ := sI_ok H
    exact lv_ineg hx hb hd (hZ _ _ _ _ _ _ _ H Hh locs la hP hz hS hL hn)
  | iushr =>
    obtain rfl : len = 1 := hlen (show ¬ (1 : Nat) = 0 by decide)
    obtain ⟨y, r, rfl, H⟩ := sI_ok H
    obtain ⟨x, r, rfl, H⟩ := sI_ok H
    exact lv_iushr hx hb hd rfl (hZ _ _ _ _ _ _ _ H Hh locs la hP hz hS hL hn)
  | ladd =>
    obtain rfl : len = 1 := hlen (show ¬ (1 : Nat) = 0 by decide)
    obtain ⟨y, r, rfl, H⟩ := sL_ok H
    obtain ⟨x, r, rfl, H⟩ := sL_ok H
    exact lv_ladd hx hb hd (hZ _ _ _ _ _ _ _ H Hh locs la hP hz hS hL hn)
  | lsub =>
    obtain rfl : len = 1 := hlen (show ¬ (1 : Nat) = 0 by decide)
    obtain ⟨y, r, rfl, H⟩ := sL_ok H
    obtain ⟨x, r, rfl, H⟩ := sL_ok H
    exact lv_lsub hx hb hd (hZ _ _ _ _ _ _ _ H Hh locs la hP hz hS hL hn)
  | lmul =>
    obtain rfl : len = 1 := hlen (show ¬ (1 : Nat) = 0 by decide)
    obtain ⟨y, r, rfl, H⟩ := sL_ok H
    obtain ⟨x, r, rfl, H⟩ := sL_ok H
    exact lv_lmul hx hb hd (hZ _ _ _ _ _ _ _ H Hh locs la hP hz hS hL hn)
  | land =>
    obtain rfl : len = 1 := hlen (show ¬ (1 : Nat) = 0 by decide)
    obtain ⟨y, r, rfl, H⟩ := sL_ok H
    obtain ⟨x, r, rfl, H⟩ := sL_ok H
    exact lv_land hx hb hd (hZ _ _ _ _ _ _ _ H Hh locs la hP hz hS hL hn)
  | lor =>
    obtain rfl : len = 1 := hlen (show ¬ (1 : Nat) = 0 by decide)
    obtain ⟨y, r, rfl, H⟩ := sL_ok H
    obtain ⟨x, r, rfl, H⟩ := sL_ok H
    exact lv_lor hx hb hd (hZ _ _ _ _ _ _ _ H Hh locs la hP hz hS hL hn)
  | ldiv =>
    obtain rfl : len = 1 := hlen (show ¬ (1 : Nat) = 0 by decide)
    obtain ⟨y, r, rfl, H⟩ := sL_ok H
    obtain ⟨x, r, rfl, hy, H⟩ := sL_ok H
    exact lv_ldiv hx hb hd hy (hZ _ _ _ _ _ _ _ H Hh locs la hP hz hS hL hn)
  | lrem =>
    obtain rfl : len = 1 := hlen (show ¬ (1 : Nat) = 0 by decide)
    obtain ⟨y, r, rfl, H⟩ := sL_ok H
    obtain ⟨x, r, rfl, hy, H⟩ := sL_ok H
    exact lv_lrem hx hb hd hy (hZ _ _ _ _ _ _ _ H Hh locs la hP hz hS hL hn)
  | lshl =>
    obtain rfl : len = 1 := hlen (show ¬ (1 : Nat) = 0 by decide)
    obtain ⟨y, r, rfl, H⟩ := sI_ok H
    obtain ⟨x, r, rfl, H⟩ := sL_ok H
    exact lv_lshl hx hb hd rfl (hZ _ _ _ _ _ _ _ H Hh locs la hP hz hS hL hn)
  | lshr =>
    obtain rfl : len = 1 := hlen (show ¬ (1 : Nat) = 0 by decide)
    obtain ⟨y, r, rfl, H⟩ := sI_ok H
    obtain ⟨x, r, rfl, H⟩ := sL_ok H
    exact lv_lshr hx hb hd rfl (hZ _ _ _ _ _ _ _ H Hh locs la hP hz hS hL hn)
  | lushr =>
    obtain rfl : len = 1 := hlen (show ¬ (1 : Nat) = 0 by decide)
    obtain ⟨y, r, rfl, H⟩ := sI_ok H
    obtain ⟨x, r, rfl, H⟩ := sL_ok H
    exact lv_lushr hx hb hd rfl (hZ _ _ _ _ _ _ _ H Hh locs la hP hz hS hL hn)
  | i2l =>
    obtain rfl : len = 1 := hlen (show ¬ (1 : Nat) = 0 by decide)
    obtain ⟨x, r, rfl, H⟩ := sI_ok H
    exact lv_i2l hx hb hd rfl (hZ _ _ _ _ _ _ _ H Hh locs la hP hz hS hL hn)
  | l2i =>
    obtain rfl : len = 1 := hlen (show ¬ (1 : Nat) = 0 by decide)
    obtain ⟨x, r, rfl, H⟩ := sL_ok H
    exact lv_l2i hx hb hd rfl (hZ _ _ _ _ _ _ _ H Hh locs la hP hz hS hL hn)
  | i2b =>
    obtain rfl : len = 1 := hlen (show ¬ (1 : Nat) = 0 by decide)
    obtain ⟨x, r, rfl, H⟩ := sI_ok H
    exact lv_i2b hx hb hd rfl (hZ _ _ _ _ _ _ _ H Hh locs la hP hz hS hL hn)
  | i2s =>
    obtain rfl : len = 1 := hlen (show ¬ (1 : Nat) = 0 by decide)
    obtain ⟨x, r, rfl, H⟩ := sI_ok H
    exact lv_i2s hx hb hd rfl (hZ _ _ _ _ _ _ _ H Hh locs la hP hz hS hL hn)
  | i2c =>
    obtain rfl : len = 1 := hlen (show ¬ (1 : Nat) = 0 by decide)
    obtain ⟨x, r, rfl, H⟩ := sI_ok H
    exact lv_i2c hx hb hd rfl (hZ _ _ _ _ _ _ _ H Hh locs la hP hz hS hL hn)
  | lcmp =>
    obtain rfl : len = 1 := hlen (show ¬ (1 : Nat) = 0 by decide)
    obtain ⟨y, r, rfl, H⟩ := sL_ok H
    obtain ⟨x, r, rfl, H⟩ := sL_ok H
    exact W.lcmp hx hb hd (hZ _ _ _ _ _ _ _ H Hh locs la hP hz hS hL hn)
  | dup =>
    obtain rfl : len = 1 := hlen (show ¬ (1 : Nat) = 0 by decide)
    obtain ⟨v, r, rfl, hv, H⟩ := sV_ok (f := fun v r => Z (pc + 1) ls (v :: v :: r) sh h n k) H
    have hc : ∀ v : rPV, (∀ x, v ≠ pL x) → (rV b cv fm v).category = 1 := fun v hv => by
      rcases lv_cat (rV b cv fm v) with e | e
      · exact e
      · obtain ⟨x, hx⟩ := rV_cat hfm v e
        exact absurd hx (hv x)
    exact lv_dup hx hb hd (hc v hv) (hZ _ _ _ _ _ _ _ H Hh locs la hP hz hS hL hn)
  | pop =>
    obtain rfl : len = 1 := hlen (show ¬ (1 : Nat) = 0 by decide)
    obtain ⟨v, r, rfl, hv, H⟩ := sV_ok (f := fun _ r => Z (pc + 1) ls r sh h n k) H
    have hc : ∀ v : rPV, (∀ x, v ≠ pL x) → (rV b cv fm v).category = 1 := fun v hv => by
      rcases lv_cat (rV b cv fm v) with e | e
      · exact e
      · obtain ⟨x, hx⟩ := rV_cat hfm v e
        exact absurd hx (hv x)
    exact lv_pop hx hb hd (hc v hv) (hZ _ _ _ _ _ _ _ H Hh locs la hP hz hS hL hn)
  | dup2 =>
    obtain rfl : len = 1 := hlen (show ¬ (1 : Nat) = 0 by decide)
    obtain ⟨v, r, rfl, hv, H⟩ := sV_ok (f := fun v r => sV r (fun u r => Z (pc + 1) ls (v :: u :: v :: u :: r) sh h n k)) H
    obtain ⟨u, r, rfl, hu, H⟩ := sV_ok (f := fun u r => Z (pc + 1) ls (v :: u :: v :: u :: r) sh h n k) H
    have hc : ∀ v : rPV, (∀ x, v ≠ pL x) → (rV b cv fm v).category = 1 := fun v hv => by
      rcases lv_cat (rV b cv fm v) with e | e
      · exact e
      · obtain ⟨x, hx⟩ := rV_cat hfm v e
        exact absurd hx (hv x)
    exact lv_dup2_11 hx hb hd (hc v hv) (hc u hu) (hZ _ _ _ _ _ _ _ H Hh locs la hP hz hS hL hn)
  | ifCond cnd o =>
    obtain rfl : len = 3 := hlen (show ¬ (3 : Nat) = 0 by decide)
    cases cnd with
    | eq =>
      obtain ⟨x, r, rfl, H⟩ := sI_ok H
      exact lv_if_eq hx hb hd (rT_eq (of_decide_eq_true hoff)) (fun hq => hZ _ _ _ _ _ _ _ (H.1 hq) Hh locs la hP hz hS hL hn) (fun hq => hZ _ _ _ _ _ _ _ (H.2 hq) Hh locs la hP hz hS hL hn)
    | ne =>
      obtain ⟨x, r, rfl, H⟩ := sI_ok H
      exact lv_if_ne hx hb hd (rT_eq (of_decide_eq_true hoff)) (fun hq => hZ _ _ _ _ _ _ _ (H.2 hq) Hh locs la hP hz hS hL hn) (fun hq => hZ _ _ _ _ _ _ _ (H.1 hq) Hh locs la hP hz hS hL hn)
    | lt =>
      obtain ⟨x, r, rfl, H⟩ := sI_ok H
      exact lv_if_lt hx hb hd (rT_eq (of_decide_eq_true hoff)) (fun hq => hZ _ _ _ _ _ _ _ (H.1 hq) Hh locs la hP hz hS hL hn) (fun hq => hZ _ _ _ _ _ _ _ (H.2 hq) Hh locs la hP hz hS hL hn)
    | ge =>
      obtain ⟨x, r, rfl, H⟩ := sI_ok H
      exact lv_if_ge hx hb hd (rT_eq (of_decide_eq_true hoff)) (fun hq => hZ _ _ _ _ _ _ _ (H.1 hq) Hh locs la hP hz hS hL hn) (fun hq => hZ _ _ _ _ _ _ _ (H.2 hq) Hh locs la hP hz hS hL hn)
    | gt =>
      obtain ⟨x, r, rfl, H⟩ := sI_ok H
      exact lv_if_gt hx hb hd (rT_eq (of_decide_eq_true hoff)) (fun hq => hZ _ _ _ _ _ _ _ (H.1 hq) Hh locs la hP hz hS hL hn) (fun hq => hZ _ _ _ _ _ _ _ (H.2 hq) Hh locs la hP hz hS hL hn)
    | le =>
      obtain ⟨x, r, rfl, H⟩ := sI_ok H
      exact lv_if_le hx hb hd (rT_eq (of_decide_eq_true hoff)) (fun hq => hZ _ _ _ _ _ _ _ (H.1 hq) Hh locs la hP hz hS hL hn) (fun hq => hZ _ _ _ _ _ _ _ (H.2 hq) Hh locs la hP hz hS hL hn)
  | if_icmp cnd o =>
    obtain rfl : len = 3 := hlen (show ¬ (3 : Nat) = 0 by decide)
    cases cnd with
    | eq =>
      obtain ⟨y, r, rfl, H⟩ := sI_ok H
      obtain ⟨x, r, rfl, H⟩ := sI_ok H
      exact lv_icmp_eq hx hb hd (rT_eq (of_decide_eq_true hoff)) (fun hq => hZ _ _ _ _ _ _ _ (H.1 hq) Hh locs la hP hz hS hL hn) (fun hq => hZ _ _ _ _ _ _ _ (H.2 hq) Hh locs la hP hz hS hL hn)
    | ne =>
      obtain ⟨y, r, rfl, H⟩ := sI_ok H
      obtain ⟨x, r, rfl, H⟩ := sI_ok H
      exact lv_icmp_ne hx hb hd (rT_eq (of_decide_eq_true hoff)) (fun hq => hZ _ _ _ _ _ _ _ (H.2 hq) Hh locs la hP hz hS hL hn) (fun hq => hZ _ _ _ _ _ _ _ (H.1 hq) Hh locs la hP hz hS hL hn)
    | lt =>
      obtain ⟨y, r, rfl, H⟩ := sI_ok H
      obtain ⟨x, r, rfl, H⟩ := sI_ok H
      exact lv_icmp_lt hx hb hd (rT_eq (of_decide_eq_true hoff)) (fun hq => hZ _ _ _ _ _ _ _ (H.1 hq) Hh locs la hP hz hS hL hn) (fun hq => hZ _ _ _ _ _ _ _ (H.2 hq) Hh locs la hP hz hS hL hn)
    | ge =>
      obtain ⟨y, r, rfl, H⟩ := sI_ok H
      obtain ⟨x, r, rfl, H⟩ := sI_ok H
      exact lv_icmp_ge hx hb hd (rT_eq (of_decide_eq_true hoff)) (fun hq => hZ _ _ _ _ _ _ _ (H.1 hq) Hh locs la hP hz hS hL hn) (fun hq => hZ _ _ _ _ _ _ _ (H.2 hq) Hh locs la hP hz hS hL hn)
    | gt =>
      obtain ⟨y, r, rfl, H⟩ := sI_ok H
      obtain ⟨x, r, rfl, H⟩ := sI_ok H
      exact lv_icmp_gt hx hb hd (rT_eq (of_decide_eq_true hoff)) (fun hq => hZ _ _ _ _ _ _ _ (H.1 hq) Hh locs la hP hz hS hL hn) (fun hq => hZ _ _ _ _ _ _ _ (H.2 hq) Hh locs la hP hz hS hL hn)
    | le =>
      obtain ⟨y, r, rfl, H⟩ := sI_ok H
      obtain ⟨x, r, rfl, H⟩ := sI_ok H
      exact lv_icmp_le hx hb hd (rT_eq (of_decide_eq_true hoff)) (fun hq => hZ _ _ _ _ _ _ _ (H.1 hq) Hh locs la hP hz hS hL hn) (fun hq => hZ _ _ _ _ _ _ _ (H.2 hq) Hh locs la hP hz hS hL hn)
  | goto o =>
    obtain rfl : len = 3 := hlen (show ¬ (3 : Nat) = 0 by decide)
    exact lv_goto hx hb hd (rT_eq (of_decide_eq_true hoff)) (hZ _ _ _ _ _ _ _ H Hh locs la hP hz hS hL hn)
  | tableswitch df lo hi os =>
    obtain ⟨x, r, rfl, H⟩ := sI_ok H
    simp only [rOff, Bool.and_eq_true, List.all_eq_true, decide_eq_true_eq] at hoff
    obtain ⟨o1, o2, o3, o4, o5⟩ := hoff
    obtain ⟨g1, g2⟩ := rTab_ok os.toList lo o4 (by omega) H
    by_cases hxx : x.toInt < lo ∨ hi < x.toInt
    · exact lv_tableOut hx hb hd hxx (rT_eq o1) (hZ _ _ _ _ _ _ _ (g1 (by omega)) Hh locs la hP hz hS hL hn)
    · have hj : (x.toInt - lo).toNat < os.toList.length := by omega
      have hj2 : os.toList[(x.toInt - lo).toNat]? = some (os.toList[(x.toInt - lo).toNat]'hj) := List.getElem?_eq_getElem hj
      exact lv_tableIn hx hb hd (by omega) (by omega) (by rw [← Array.getElem?_toList]; exact hj2) (rT_eq (o2 _ (List.mem_of_getElem? hj2))) (hZ _ _ _ _ _ _ _ (g2 _ _ hj2 (by omega)) Hh locs la hP hz hS hL hn)
  | lookupswitch df ps =>
    obtain ⟨x, r, rfl, H⟩ := sI_ok H
    unfold rOff at hoff
    rw [Bool.and_eq_true, Bool.and_eq_true] at hoff
    obtain ⟨o1, o2, o3⟩ := hoff
    have o1 := of_decide_eq_true o1
    simp only [List.all_eq_true, Bool.and_eq_true, decide_eq_true_eq] at o2
    have hk := rSw_ok ps.toList (fun q hq => ⟨(o2 q hq).2.1, (o2 q hq).2.2⟩) H
    refine lv_lookup hx hb hd o3 rfl (rT_eq ?_) (hZ _ _ _ _ _ _ _ hk Hh locs la hP hz hS hL hn)
    rcases rSw_mem (d := df) (x := x.toInt) ps.toList with e | ⟨q, h1, h2⟩
    · rw [e]; exact o1
    · rw [h2]; exact (o2 q h1).1
  | getfield x =>
    obtain rfl : len = 3 := hlen (show ¬ (3 : Nat) = 0 by decide)
    rcases sRC_ok H with ⟨a, r, rfl, H⟩ | ⟨a, r, rfl, H⟩
    · obtain ⟨⟨ci, j, kd⟩, hq, H⟩ := oM_ok H
      obtain ⟨l1, h1, h2⟩ := rLk2_ok hq
      obtain ⟨CC, T, N, ty, hKc, hjN, hlk, -⟩ := rFall _ _ h1 _ h2
      obtain ⟨sl, hsh, H⟩ := fO_ok H
      have hsame : ∀ x, s.fieldFound? (T j).1 (T j).2.1 (T j).2.2.1 = some x → s.fieldFound? CC (T j).2.1 (T j).2.2.1 = some x := fun x hx => by rw [← hKc.2.2.2.2.2.1 j hjN]; exact hx
      rcases fS_ok H with ⟨hj, H⟩ | ⟨o, hj, H⟩
      · exact va_get (C := CC) (T := T) (N := N) hx hb hts hKc.2.2.1 hown hK hP a (rW_at hsh) hKc.1 j hjN (hts _ hlk) hsame (rFs_at hj) hd (hZ _ _ _ _ _ _ _ H Hh locs la hP hz hS hL hn)
      · have hk := hZ _ _ _ _ _ _ _ H Hh locs la hP hz hS hL hn
        rw [List.map_cons, ← rVo b cv fm (h a) j o] at hk
        exact va_get (C := CC) (T := T) (N := N) hx hb hts hKc.2.2.1 hown hK hP a (rW_at hsh) hKc.1 j hjN (hts _ hlk) hsame (rFs_at hj) hd hk
    · obtain ⟨i, hi, H1⟩ := oM_ok H
      clear H
      obtain ⟨rfl, hi15⟩ := rSt_ok hi
      obtain ⟨bb, hq, H2⟩ := oM_ok H1
      obtain ⟨l1, h1, h2⟩ := rLk2_ok hq
      have hlk := rZall _ _ h1 _ h2
      have e4 : rV b cv fm (pC (10 + i)) = .ref (cv (10 + i)) := if_neg (by omega)
      rw [List.map_cons, e4]
      have hstr := hcon.2.2.2.2.2.1.1 i hi15
      cases bb with
      | true =>
        have hk := hZ _ _ _ _ _ _ _ H2 Hh locs la hP hz hS hL hn
        have e5 : rV b cv fm (pC (i + 40)) = .ref (cv (40 + i)) := by
          show (if i + 40 = 3 then fm else Value.ref (cv (i + 40))) = _
          rw [if_neg (by omega), Nat.add_comm]
        rw [List.map_cons, e5] at hk
        exact vk_getf hx hb hstr.2.2.1 hS hown (hts _ hlk) (fun x hx => hx) hd hk
      | false =>
        exact vk_getf hx hb hstr.2.1 hS hown (hts _ hlk) (fun x hx => hx) hd (hZ _ _ _ _ _ _ _ H2 Hh locs la hP hz hS hL hn)
  | putfield x =>
    obtain rfl : len = 3 := hlen (show ¬ (3 : Nat) = 0 by decide)
    obtain ⟨⟨ci, j, kd⟩, hq, H⟩ := oM_ok H
    obtain ⟨l1, h1, h2⟩ := rLk2_ok hq
    obtain ⟨CC, T, N, ty, hKc, hjN, hlk, hfin⟩ := rFall _ _ h1 _ h2
    have hsame : ∀ x, s.fieldFound? (T j).1 (T j).2.1 (T j).2.2.1 = some x → s.fieldFound? CC (T j).2.1 (T j).2.2.1 = some x := fun x hx => by rw [← hKc.2.2.2.2.2.1 j hjN]; exact hx
    dsimp only at H hfin hjN hlk hKc
    match kd, H, hfin with
    | 0, H, hfin =>
      obtain ⟨v, r, rfl, H1⟩ := sI_ok (f := fun v r => sR r (fun a r => fO sh a ci (fun sl => fS sl j (Z (pc + 3) ls r sh (rUp h a j v) n k) (fun _ => False)))) H
      clear H
      obtain ⟨a, r, rfl, H2⟩ := sR_ok H1
      clear H1
      obtain ⟨sl, hsh, H⟩ := fO_ok H2
      rcases fS_ok H with ⟨hj, H⟩ | ⟨o, hj, H⟩
      · refine va_put (C := CC) (T := T) (N := N) hx hb hts hKc.2.2.1 ty hKc.2.2.2.2.1 hKc.2.2.2.1 hown hK hP hDD hS a (rW_at hsh) hKc.1 j hjN (hts _ hlk) hsame hfin.1 (ty := .int) (v := .int v) (by rw [hKc.2.2.2.2.1 j hjN, hfin.2]) rfl rfl (by rw [rFs_len]; exact (List.getElem?_eq_some_iff.mp hj).1) hd (fun H1 locs1 hP1 hD1 hS1 => ?_)
        rw [rW_put hsh hj] at hP1
        exact hZ _ _ _ _ _ _ _ H H1 locs1 la hP1 hz hS1 hL hn
      · exact H.elim
    | 1, H, hfin =>
      obtain ⟨v, r, rfl, H1⟩ := sI_ok (f := fun v r => sR r (fun a r => fO sh a ci (fun sl => fS sl j ((v = 0 ∨ v = 1) ∧ Z (pc + 3) ls r sh (rUp h a j v) n k) (fun _ => False)))) H
      clear H
      obtain ⟨a, r, rfl, H2⟩ := sR_ok H1
      clear H1
      obtain ⟨sl, hsh, H⟩ := fO_ok H2
      rcases fS_ok H with ⟨hj, H⟩ | ⟨o, hj, H⟩
      · obtain ⟨hv, H⟩ := H
        refine va_put (C := CC) (T := T) (N := N) hx hb hts hKc.2.2.1 ty hKc.2.2.2.2.1 hKc.2.2.2.1 hown hK hP hDD hS a (rW_at hsh) hKc.1 j hjN (hts _ hlk) hsame hfin.1 (ty := .boolean) (v := .int v) (by rw [hKc.2.2.2.2.1 j hjN, hfin.2]) (by rcases hv with rfl | rfl <;> rfl) (by rcases hv with rfl | rfl <;> rfl) (by rw [rFs_len]; exact (List.getElem?_eq_some_iff.mp hj).1) hd (fun H1 locs1 hP1 hD1 hS1 => ?_)
        rw [rW_put hsh hj] at hP1
        exact hZ _ _ _ _ _ _ _ H H1 locs1 la hP1 hz hS1 hL hn
      · exact H.elim
    | kd + 2, H, hfin =>
      obtain ⟨y, r, rfl, H1⟩ := sR_ok (f := fun y r => sR r (fun a r => fO sh a ci (fun sl => fS sl j False (fun _ => bB (M.2.2.2.1 && Nat.beq ci M.2.2.1) (Z (pc + 3) ls r (sh.set a (.inl (ci, sl.set j (some (some y))))) h n k))))) H
      clear H
      obtain ⟨a, r, rfl, H2⟩ := sR_ok H1
      clear H1
      obtain ⟨sl, hsh, H⟩ := fO_ok H2
      rcases fS_ok H with ⟨hj, H⟩ | ⟨o, hj, H⟩
      · exact H.elim
      · obtain ⟨hb1, H⟩ := bB_ok H
        rw [Bool.and_eq_true] at hb1
        have hci : ci = M.2.2.1 := Nat.eq_of_beq_eq_true hb1.2
        have hjl := (List.getElem?_eq_some_iff.mp hj).1
        refine va_putF (C := CC) (T := T) (N := N) hx hb hts hKc.2.2.1 ty hKc.2.2.2.2.1 hKc.2.2.2.1 hown hK hP hDD hS a (rW_at hsh) hKc.1 j hjN (hts _ hlk) hsame hfin.1 (hin hb1.1) (by rw [hKc.2.2.2.2.2.1 j hjN, hKc.2.1, hci]) (ty := ty j) (v := .ref (b + y)) (hKc.2.2.2.2.1 j hjN) (hfin.2 _).1 (hfin.2 _).2 (by rw [rFs_len]; exact hjl) hd (fun H1 locs1 hP1 hD1 hS1 => ?_)
        rw [rW_putR hsh hjl] at hP1
        exact hZ _ _ _ _ _ _ _ H H1 locs1 la hP1 (by rw [List.length_set]; exact hz) hS1 hL hn
  | getstatic x =>
    obtain rfl : len = 3 := hlen (show ¬ (3 : Nat) = 0 by decide)
    obtain ⟨⟨v, bb⟩, hq, H⟩ := oM_ok H
    obtain ⟨l1, h1, h2⟩ := rLk2_ok hq
    obtain ⟨hv, hlk⟩ := rGall _ _ h1 _ h2
    dsimp only at hv hlk H
    obtain ⟨-, ⟨hz1, -⟩, ⟨hz2, -⟩, hz3, hz4, -, -, hn0, hn1, hn2, hn3, hn4⟩ := hcon
    have key : va_Z (rGs v).1 (rGs v).2.1 (rGs v).2.2 (rV b cv fm v) (rA b) s s.heap := by
      rcases hv with rfl | rfl | rfl | rfl
      · exact hz3
      · exact hz1
      · exact hz2
      · exact hz4
    cases bb with
    | false => exact va_gets hx hb key hS hown (hts _ hlk) (fun x hx => hx) hd (hZ _ _ _ _ _ _ _ H Hh locs la hP hz hS hL hn)
    | true =>
      have hw : (Cond.fieldLinkNest (rCn M.2.2.1) x (rGs v).1 (rGs v).2.1 (rGs v).2.2 "SampleLayers").before args s = true := by
        have hlk2 : Cond.fieldLinkNest (rCn M.2.2.1) x (rGs v).1 (rGs v).2.1 (rGs v).2.2 "SampleLayers" ∈ [rN0, rN1, rN2, rN3, rN4] := hlk
        simp only [List.mem_cons, List.not_mem_nil, or_false] at hlk2
        rcases hlk2 with q | q | q | q | q
        · cases q
        · cases q
        · cases q
        · cases q
        · rw [q]; exact va_Nw.use rfl hn4
      exact va_getsN hx hb key hS hown hw (fun x hx => hx) hd (hZ _ _ _ _ _ _ _ H Hh locs la hP hz hS hL hn)
  | iaload =>
    obtain rfl : len = 1 := hlen (show ¬ (1 : Nat) = 0 by decide)
    obtain ⟨j, r, rfl, H⟩ := sI_ok H
    rcases sRC_ok H with ⟨a, r, rfl, H⟩ | ⟨a, r, rfl, H⟩
    · rcases fA_ok H with ⟨mm, hsh, hv, H⟩ | ⟨mm, hsh, H⟩
      · exact va_iald hx hb hK hP a 0 (rW_at hsh) rfl hv hd (hZ _ _ _ _ _ _ _ H Hh locs la hP hz hS hL hn)
      · exact H.elim
    · obtain ⟨q, hq, hv, H⟩ := oM_ok H
      have hk := hZ _ _ _ _ _ _ _ H Hh locs la hP hz hS hL hn
      match a, hq with
      | 0, hq =>
        cases hq
        exact va_sld hx hb hcon.1.2 (by have := hcon.1.1; omega) (by have := hcon.1.1; unfold rA; omega) hS hv hd hk
      | 1, hq =>
        cases hq
        exact va_ti hx hb hcon.2.1.2 hS hv rfl hd hk
      | 2, hq =>
        cases hq
        exact va_ti hx hb hcon.2.2.1.2 hS hv rfl hd hk
      | a + 3, hq => cases hq
  | baload =>
    obtain rfl : len = 1 := hlen (show ¬ (1 : Nat) = 0 by decide)
    obtain ⟨j, r, rfl, H⟩ := sI_ok H
    rcases sRC_ok H with ⟨a, r, rfl, H⟩ | ⟨a, r, rfl, H⟩
    · rcases fA_ok H with ⟨mm, hsh, H⟩ | ⟨mm, hsh, hv, H⟩
      · exact H.elim
      · exact va_bald hx hb hK hP a 1 (rW_at hsh) rfl hv hd (hZ _ _ _ _ _ _ _ H Hh locs la hP hz hS hL hn)
    · obtain ⟨i, hi, hv, H1⟩ := oM_ok H
      clear H
      obtain ⟨rfl, hi15⟩ := rSb_ok hi
      have e4 : rV b cv fm (pC (40 + i)) = .ref (cv (40 + i)) := if_neg (by omega)
      have hstr := (hcon.2.2.2.2.2.1.1 i hi15).2.2.2
      rw [List.map_cons, List.map_cons, e4]
      exact va_tb hx hb hstr hS hv rfl hd (hZ _ _ _ _ _ _ _ H1 Hh locs la hP hz hS hL hn)
  | iastore =>
    obtain rfl : len = 1 := hlen (show ¬ (1 : Nat) = 0 by decide)
    obtain ⟨v, r, rfl, H⟩ := sI_ok H
    obtain ⟨j, r, rfl, H⟩ := sI_ok H
    obtain ⟨a, r, rfl, H⟩ := sR_ok H
    rcases fA_ok H with ⟨mm, hsh, hv, H⟩ | ⟨mm, hsh, H⟩
    · refine va_iast hx hb hK hP hDD hS a 0 (rW_at hsh) rfl hv hd (fun H1 locs1 hP1 hD1 hS1 => ?_)
      have e := rW_putA (b := b) (cI := cI) (cB := cB) (h := h) (j := j.toNatClampNeg) (x := v) hsh
      rw [e] at hP1
      exact hZ _ _ _ _ _ _ _ H H1 locs1 la hP1 hz hS1 hL hn
    · exact H.elim
  | bastore =>
    obtain rfl : len = 1 := hlen (show ¬ (1 : Nat) = 0 by decide)
    obtain ⟨v, r, rfl, H⟩ := sI_ok H
    obtain ⟨j, r, rfl, H⟩ := sI_ok H
    obtain ⟨a, r, rfl, H⟩ := sR_ok H
    rcases fA_ok H with ⟨mm, hsh, H⟩ | ⟨mm, hsh, hv, H⟩
    · exact H.elim
    · refine va_bast hx hb hK hP hDD hS a 1 (rW_at hsh) rfl hv hd (fun H1 locs1 hP1 hD1 hS1 => ?_)
      have e := rW_putA (b := b) (cI := cI) (cB := cB) (h := h) (j := j.toNatClampNeg) (x := v.toInt8.toInt32) hsh
      rw [vp_nar_byte, e] at hP1
      exact hZ _ _ _ _ _ _ _ H H1 locs1 la hP1 hz hS1 hL hn
  | arraylength =>
    obtain rfl : len = 1 := hlen (show ¬ (1 : Nat) = 0 by decide)
    rcases sRC_ok H with ⟨a, r, rfl, H⟩ | ⟨a, r, rfl, H⟩
    · rcases fA_ok H with ⟨mm, hsh, H⟩ | ⟨mm, hsh, H⟩
      · exact va_alen hx hb hK hP a 0 (rW_at hsh) rfl rfl hd (hZ _ _ _ _ _ _ _ H Hh locs la hP hz hS hL hn)
      · exact va_alen hx hb hK hP a 1 (rW_at hsh) rfl rfl hd (hZ _ _ _ _ _ _ _ H Hh locs la hP hz hS hL hn)
    · rcases oE_ok H with ⟨i, hi, H1⟩ | ⟨-, H1⟩
      · clear H
        obtain ⟨rfl, hi15⟩ := rSb_ok hi
        have e4 : rV b cv fm (pC (40 + i)) = .ref (cv (40 + i)) := if_neg (by omega)
        have hstr := (hcon.2.2.2.2.2.1.1 i hi15).2.2.2
        rw [List.map_cons, e4]
        exact va_tlen hx hb hstr hS rfl hd (hZ _ _ _ _ _ _ _ H1 Hh locs la hP hz hS hL hn)
      · obtain ⟨h0, H2⟩ := bB_ok H1
        clear H H1
        have h0 : a = 0 := Nat.eq_of_beq_eq_true h0
        subst h0
        exact va_slen hx hb hcon.1.2 (by have := hcon.1.1; omega) (by have := hcon.1.1; unfold rA; omega) hS hd (hZ _ _ _ _ _ _ _ H2 Hh locs la hP hz hS hL hn)
  | newarray ty =>
    obtain rfl : len = 2 := hlen (show ¬ (2 : Nat) = 0 by decide)
    cases ty with
    | int =>
      obtain ⟨mm, r, rfl, ⟨hm1, hm2⟩, H⟩ := sI_ok H
      obtain ⟨hn1, hk1, H⟩ := rBk_ok H
      refine rSize hbs hP hz hS (fun hsz => ?_)
      refine va_newaK hx hb (atype := .int) (hts _ rArrI) rfl hd rfl hm1 rfl (rByint hm2) (by omega) (by omega) rfl (fun H1 cA e1 z1 o1 hAr hNm => ?_)
      have hcA : cA = cI := by
        have h3 := (hK.2 0 _ rfl).2
        exact Option.some.inj (hNm.symm.trans h3)
      subst hcA
      have hP1 : va_P D classes (rW b cA cB (sh ++ [.inr (false, mm.toNatClampNeg)]) (rZ h sh.length)) H1 := by
        rw [rW_push]
        refine (hP.kept (fun k x hx => o1 x.1 (hP k x hx).lt)).app (fun k x hx => ?_)
        have hz0 : k < 1 := (List.getElem?_eq_some_iff.mp hx).1
        rw [show k = 0 by omega] at hx
        cases hx
        rw [hsz] at e1
        exact e1
      have hk := hZ _ _ _ _ _ _ _ H H1 locs la hP1 (by rw [List.length_append]; simp only [List.length_cons, List.length_nil]; omega) ⟨Nat.le_trans hS.1 (by omega), fun x h1 h2 => (o1 x (Nat.lt_of_lt_of_le h1 hS.1)).trans (hS.2.1 x h1 h2), hS.2.2⟩ hL hn
      rw [List.map_cons] at hk
      have e6 : rV b cv fm (pR sh.length) = .ref Hh.size := by rw [hsz]; rfl
      rw [e6] at hk
      exact hk
    | byte =>
      obtain ⟨mm, r, rfl, ⟨hm1, hm2⟩, H⟩ := sI_ok H
      obtain ⟨hn1, hk1, H⟩ := rBk_ok H
      refine rSize hbs hP hz hS (fun hsz => ?_)
      refine va_newaK hx hb (atype := .byte) (hts _ rArrB) rfl hd rfl hm1 rfl (rBybyte hm2) (by omega) (by omega) rfl (fun H1 cA e1 z1 o1 hAr hNm => ?_)
      have hcA : cA = cB := by
        have h3 := (hK.2 1 _ rfl).2
        exact Option.some.inj (hNm.symm.trans h3)
      subst hcA
      have hP1 : va_P D classes (rW b cI cA (sh ++ [.inr (true, mm.toNatClampNeg)]) (rZ h sh.length)) H1 := by
        rw [rW_push]
        refine (hP.kept (fun k x hx => o1 x.1 (hP k x hx).lt)).app (fun k x hx => ?_)
        have hz0 : k < 1 := (List.getElem?_eq_some_iff.mp hx).1
        rw [show k = 0 by omega] at hx
        cases hx
        rw [hsz] at e1
        exact e1
      have hk := hZ _ _ _ _ _ _ _ H H1 locs la hP1 (by rw [List.length_append]; simp only [List.length_cons, List.length_nil]; omega) ⟨Nat.le_trans hS.1 (by omega), fun x h1 h2 => (o1 x (Nat.lt_of_lt_of_le h1 hS.1)).trans (hS.2.1 x h1 h2), hS.2.2⟩ hL hn
      rw [List.map_cons] at hk
      have e6 : rV b cv fm (pR sh.length) = .ref Hh.size := by rw [hsz]; rfl
      rw [e6] at hk
      exact hk
    | _ => exact (show False from H).elim
  | new x =>
    obtain rfl : len = 3 := hlen (show ¬ (3 : Nat) = 0 by decide)
    obtain ⟨ci, hq, H⟩ := oM_ok H
    obtain ⟨l1, h1, h2⟩ := rLk2_ok hq
    obtain ⟨hc7, hlk⟩ := rCnew _ _ h1 _ h2
    obtain ⟨sl, hsl, H⟩ := oM_ok H
    obtain ⟨hn1, hk1, H⟩ := rBk_ok H
    obtain ⟨CC, T, N, ty, hKc⟩ := rKcl ci hc7
    obtain ⟨hN, hdf⟩ := rBlank_ok hKc hsl
    have hKn := hK.1 ci _ hKc.1
    refine rSize hbs hP hz hS (fun hsz => ?_)
    refine W.newcK hx hb hown (by rw [hKc.2.1]; exact hts _ hlk) (hts _ hKc.2.2.2.2.2.2.1) (hts _ hKc.2.2.2.2.2.2.2) rfl hd (by omega) (by omega) hKn.2.1 rfl (fun H1 kC hkC e1 z1 o1 => ?_)
    have hP1 : va_P D classes (rW b cI cB (sh ++ [.inl (ci, sl)]) (rZ h sh.length)) H1 := by
      rw [rW_push]
      refine (hP.kept (fun k x hx => o1 x.1 (hP k x hx).lt)).app (fun k x hx => ?_)
      have hz0 : k < 1 := (List.getElem?_eq_some_iff.mp hx).1
      rw [show k = 0 by omega] at hx
      cases hx
      rw [hsz] at e1
      exact ⟨_, hKc.1, (u_born ty hts hKc.2.2.1 hKn hkC e1 hKc.2.2.2.2.1).to (fun j hj => hdf b j hj)⟩
    have hk := hZ _ _ _ _ _ _ _ H H1 locs la hP1 (by rw [List.length_append]; simp only [List.length_cons, List.length_nil]; omega) ⟨Nat.le_trans hS.1 (by omega), fun x h1 h2 => (o1 x (Nat.lt_of_lt_of_le h1 hS.1)).trans (hS.2.1 x h1 h2), hS.2.2⟩ hL hn
    rw [List.map_cons] at hk
    have e6 : rV b cv fm (pR sh.length) = .ref Hh.size := by rw [hsz]; rfl
    rw [e6, hN] at hk
    exact hk
  | invokevirtual x =>
    obtain rfl : len = 3 := hlen (show ¬ (3 : Nat) = 0 by decide)
    obtain ⟨⟨kd, cm⟩, hq, H⟩ := oM_ok H
    obtain ⟨l1, h1, h2⟩ := rLk2_ok hq
    have hMk := rMall _ _ h1 _ h2
    obtain ⟨h0, H⟩ := bB_ok H
    have h0 : kd = 0 := Nat.eq_of_beq_eq_true h0
    subst h0
    obtain ⟨M', hM', hM, hna, hlk, hins, hsel⟩ := hMk
    dsimp only at hM' hM hna hlk hins hsel
    obtain ⟨M2, hM2, H⟩ := oM_ok H
    dsimp only at hM2 H
    cases hM'.symm.trans hM2
    refine rInv_ok C0 hZ hKM hM hM' H (fun H0 locs la as pre r Pst hlen hst has hrecv hP hS hla hsum hc1 hc2 hMet hPre => ?_) Hh locs la hP hz hS hL hn
    subst hst
    subst has
    have hin4 : ∀ w ∈ ([.methodLink (rCn M.2.2.1) x (rYn M'.1), .instanceMethod (rYn M'.1), .selects (rYn M'.1).cls (rYn M'.1) (rYn M'.1), .initialized (rYn M'.1).cls] : List Cond), w ∈ rTT := by
      rw [hM.1]
      exact List.forall_mem_cons.mpr ⟨hlk, List.forall_mem_cons.mpr ⟨hins, List.forall_mem_cons.mpr ⟨hsel, List.forall_mem_cons.mpr ⟨hM.2.2.1, fun _ h => absurd h List.not_mem_nil⟩⟩⟩⟩
    have hy := hM.2.2.2.2.2.1
    rw [← hM.1] at hy hna
    obtain ⟨a0, tl, hpre, b0, hb0, hrc⟩ : ∃ a0 tl, pre.reverse = a0 :: tl ∧ ∃ b0, rV b cv fm a0 = .ref b0 ∧ ∃ cellB : Cell, H0[b0]? = some cellB ∧ cellB.vm.isStatics = false ∧ s.vm.findClass (rYn M'.1).cls = some cellB.cls := by
      rw [show (rYn M'.1).cls = rCn M'.2.2.1 by rw [hM.1]; exact hM.2.2.2.1]
      revert hrecv
      cases pre.reverse with
      | nil => intro hrecv; cases hrecv
      | cons a0 tl =>
        intro hrecv
        refine ⟨a0, tl, rfl, ?_⟩
        match a0, hrecv with
        | .inr (.inr (.inl (some a))), hrecv =>
          refine ⟨b + a, rfl, ?_⟩
          change (match rNth sh a with | some (.inl (cj, _)) => Nat.beq cj M'.2.2.1 | _ => false) = true at hrecv
          split at hrecv
          · rename_i cj sl hcj
            rw [rNth_eq] at hcj
            have e9 : cj = M'.2.2.1 := Nat.eq_of_beq_eq_true hrecv
            have hat := hP a _ (rW_at hcj)
            obtain ⟨q', g1, cell, g2, g3, g4, -⟩ := hat
            have hq7 : cj < 7 := (List.getElem?_eq_some_iff.mp g1).1
            obtain ⟨CC, T, N, ty, hKc⟩ := rKcl cj hq7
            cases g1.symm.trans hKc.1
            refine ⟨cell, g2, by rw [g4]; rfl, ?_⟩
            rw [← e9, ← hKc.2.1, g3]
            exact (hK.1 cj _ hKc.1).2.1
          · cases hrecv
        | .inr (.inr (.inr cc0)), hrecv =>
          change (match rSt cc0 with | some _ => Nat.beq 8 M'.2.2.1 | none => false) = true at hrecv
          split at hrecv
          · rename_i i0 hi0
            obtain ⟨rfl, hi15⟩ := rSt_ok hi0
            have e9 : 8 = M'.2.2.1 := Nat.eq_of_beq_eq_true hrecv
            refine ⟨cv (10 + i0), if_neg (by omega), ?_⟩
            rw [← e9]
            exact vk_recv (adK := fun i => cv (10 + i)) (adV := fun i => cv (40 + i)) hcon.2.2.2.2.2.1 hi15 hS
          · cases hrecv
        | .inl _, hrecv => cases hrecv
        | .inr (.inl _), hrecv => cases hrecv
        | .inr (.inr (.inl none)), hrecv => cases hrecv
    have hpre2 : pre = tl.reverse ++ [a0] := by
      have := congrArg List.reverse hpre
      rw [List.reverse_reverse, List.reverse_cons] at this
      exact this
    have hlen2 : tl.length + 1 = M'.2.2.2.2.2.2.2.2 := by
      rw [← hlen, ← List.length_reverse (as := pre), hpre]; rfl
    rw [hpre]
    have hrunV := va_runV (e := e) (below := below) (meth := meth) (locs := locs) (cells := n) (slots := k) (As := tl.map (rV b cv fm)) (rest := r.map (rV b cv fm)) (g := F0 m pc la ((pre ++ r).map (rV b cv fm))) (b := b0) ⟨hx, hb, hml, hown, hts⟩ hMet (cwV tl.length hts (rGoodX hM hin4) rfl rfl rfl ⟨rfl, hy.1, hy.2, by
      rw [← hlen2] at hna
      revert hna
      cases parseMethodDescriptor (rYn M'.1).desc with
      | none => intro hna; cases hna
      | some dd => intro hna; simpa using hna⟩ ⟨by show d + 1 ≤ R.frames; omega, by show 8 + (_ + 11) + 64 * d ≤ R.locals; have := hM.2.2.2.2.2.2.2.1; omega⟩) ⟨rBlind, hrc, fun U hU hW => ⟨by rw [hpre, List.map_cons, hb0], hPre U hU hW⟩⟩ rfl (by rw [List.length_map]) hla (by rw [hpre2]; simp [hb0]) (lv_room hsum) hd ⟨hc1, hc2⟩
    rw [List.map_cons, hb0]
    exact hrunV
  | invokestatic x =>
    obtain rfl : len = 3 := hlen (show ¬ (3 : Nat) = 0 by decide)
    obtain ⟨⟨kd, cm⟩, hq, H⟩ := oM_ok H
    obtain ⟨l1, h1, h2⟩ := rLk2_ok hq
    have hMk := rMall _ _ h1 _ h2
    dsimp only at H
    match kd, H, hMk with
    | 0, H, _ => exact (show False from H).elim
    | 1, H, hMk =>
      obtain ⟨M', hM', hM, hna, hlk, hst⟩ := hMk
      dsimp only at hM' hM hna hlk hst
      obtain ⟨M2, hM2, H⟩ := oM_ok H
      cases hM'.symm.trans hM2
      refine rInv_ok C0 hZ hKM hM hM' H (fun H0 locs la as pre r Pst hlen hst0 has hrecv hP hS hla hsum hc1 hc2 hMet hPre => ?_) Hh locs la hP hz hS hL hn
      subst hst0
      subst has
      have hin4 : ∀ w ∈ ([.methodLink (rCn M.2.2.1) x (rYn M'.1), .static (rYn M'.1), .initialized (rYn M'.1).cls] : List Cond), w ∈ rTT := by
        rw [hM.1]
        exact List.forall_mem_cons.mpr ⟨hlk, List.forall_mem_cons.mpr ⟨hst, List.forall_mem_cons.mpr ⟨hM.2.2.1, fun _ h => absurd h List.not_mem_nil⟩⟩⟩
      have hy := hM.2.2.2.2.2.1
      rw [← hM.1] at hy hna
      exact va_runS (As := pre.reverse.map (rV b cv fm)) ⟨hx, hb, hml, hown, hts⟩ hMet (va_cwS M'.2.2.2.2.2.2.2.2 hts (rGoodX hM hin4) rfl rfl rfl ⟨hy.1, hy.2, hna⟩ ⟨by show d + 1 ≤ R.frames; omega, by show 8 + (_ + 11) + 64 * d ≤ R.locals; have := hM.2.2.2.2.2.2.2.1; omega⟩) ⟨rBlind, fun U hU hW => ⟨rfl, hPre U hU hW⟩⟩ rfl (by simp [hlen]) hla (by simp) (lv_room hsum) hd ⟨hc1, hc2⟩
    | 2, H, _ => exact (show False from H).elim
    | 3, H, hMk =>
      obtain ⟨M', hM', hM, hna, hlk, hst⟩ := hMk
      dsimp only at hM' hM hna hlk hst
      obtain ⟨M2, hM2, H⟩ := oM_ok H
      cases hM'.symm.trans hM2
      refine rInv_ok C0 hZ hKM hM hM' H (fun H0 locs la as pre r Pst hlen hst0 has hrecv hP hS hla hsum hc1 hc2 hMet hPre => ?_) Hh locs la hP hz hS hL hn
      subst hst0
      subst has
      have hw : va_Nw (.methodLinkNest (rCn M.2.2.1) x (rYn M'.1) "SampleLayers") s := by
        rw [hM.1]
        obtain ⟨-, -, -, -, -, -, -, hn0, hn1, hn2, hn3, hn4⟩ := hcon
        have hlk2 : Cond.methodLinkNest (rCn M.2.2.1) x (rYn cm) "SampleLayers" ∈ [rN0, rN1, rN2, rN3, rN4] := hlk
        simp only [List.mem_cons, List.not_mem_nil, or_false] at hlk2
        rcases hlk2 with q | q | q | q | q
        · rw [q]; exact hn0
        · rw [q]; exact hn1
        · rw [q]; exact hn2
        · rw [q]; exact hn3
        · cases q
      have hy := hM.2.2.2.2.2.1
      rw [← hM.1] at hy hna hst
      exact va_runSN (As := pre.reverse.map (rV b cv fm)) ⟨hx, hb, hml, hown, hts⟩ hMet ⟨va_cnB M'.2.2.2.2.2.2.2.2 hts (rGoodC hM) rfl rfl rfl hw (by rw [hM.1]; exact hts _ hM.2.2.1) ⟨hy.1, hy.2, hna⟩ ⟨by show d + 1 ≤ R.frames; omega, by show 8 + (_ + 11) + 64 * d ≤ R.locals; have := hM.2.2.2.2.2.2.2.1; omega⟩, hts _ hst, trivial⟩ ⟨rBlind, fun U hU hW => ⟨rfl, hPre U hU hW⟩⟩ rfl (by simp [hlen]) hla (by simp) (lv_room hsum) hd ⟨hc1, hc2⟩
    | 4, H, hMk =>
      obtain ⟨mm, r, rfl, H1⟩ := sI_ok H
      clear H
      obtain ⟨dp, r, rfl, H2⟩ := sI_ok H1
      clear H1
      obtain ⟨o, r, rfl, H3⟩ := sR_ok H2
      clear H2
      obtain ⟨sp, r, rfl, H4⟩ := sI_ok H3
      clear H3
      obtain ⟨i, r, rfl, H5⟩ := sR_ok H4
      clear H4
      rcases fA_ok H5 with ⟨ni, hi, H6⟩ | ⟨ni, hi, H6⟩
      · rcases fA_ok H6 with ⟨no, ho, ⟨c1, c2, c3, c4, c5⟩, H7⟩ | ⟨no, ho, H7⟩
        · obtain ⟨hb1, H8⟩ := bB_ok H7
          have hr4 := Nat.le_of_ble_eq_true hb1
          have hsum := rCatSum (b := b) (cv := cv) hfm r
          refine va_copyi hx hb (by rw [hml, hL.1, hn]) hown (hts _ hMk.1) (hts _ hMk.2.1) (hts _ hMk.2.2.1) (hts _ hMk.2.2.2) hK hP hDD hS i o 0 0 (rW_at hi) (rW_at ho) rfl rfl rfl c1 c2 c3 c4 c5 (fun _ _ => rfl) (by omega) (by have := rNat; omega) hd (fun H1 locs1 hP1 hD1 hS1 => ?_)
          have e := rW_cpy (b := b) (cI := cI) (cB := cB) (h := h) (i := i) (sp := sp.toNatClampNeg) (dp := dp.toNatClampNeg) (m := mm.toNatClampNeg) ho
          rw [e] at hP1
          exact hZ _ _ _ _ _ _ _ H8 H1 locs1 la hP1 hz hS1 hL hn
        · exact H7.elim
      · exact H6.elim
    | 5, H, _ => exact (show False from H).elim
    | 6, H, hMk =>
      obtain ⟨yy, r, rfl, H1⟩ := sI_ok H
      clear H
      obtain ⟨xx, r, rfl, H2⟩ := sI_ok H1
      clear H1
      obtain ⟨hb1, H3⟩ := bB_ok H2
      obtain ⟨hcn, hsn, H⟩ := rBk_ok H3
      have hr4 := Nat.le_of_ble_eq_true hb1
      have hsum := rCatSum (b := b) (cv := cv) hfm r
      exact va_mmax hx hb (by rw [hml, hL.1, hn]) hown (hts _ hMk.1) (hts _ hMk.2.1) (hts _ hMk.2.2.1) (hts _ hMk.2.2.2) (by omega) (by omega) (by omega) (by omega) hd (hZ _ _ _ _ _ _ _ H Hh locs la hP hz hS hL hn)
    | 7, H, hMk =>
      obtain ⟨yy, r, rfl, H1⟩ := sI_ok H
      clear H
      obtain ⟨xx, r, rfl, H2⟩ := sI_ok H1
      clear H1
      obtain ⟨hb1, H3⟩ := bB_ok H2
      obtain ⟨hcn, hsn, H⟩ := rBk_ok H3
      have hr4 := Nat.le_of_ble_eq_true hb1
      have hsum := rCatSum (b := b) (cv := cv) hfm r
      exact va_mmin hx hb (by rw [hml, hL.1, hn]) hown (hts _ hMk.1) (hts _ hMk.2.1) (hts _ hMk.2.2.1) (hts _ hMk.2.2.2) (by omega) (by omega) (by omega) (by omega) hd (hZ _ _ _ _ _ _ _ H Hh locs la hP hz hS hL hn)
    | kd + 8, H, _ => exact (show False from H).elim
  | invokespecial x =>
    obtain rfl : len = 3 := hlen (show ¬ (3 : Nat) = 0 by decide)
    obtain ⟨⟨kd, cm⟩, hq, H⟩ := oM_ok H
    obtain ⟨l1, h1, h2⟩ := rLk2_ok hq
    have hMk := rMall _ _ h1 _ h2
    dsimp only at H
    match kd, H, hMk with
    | 0, H, _ => exact (show False from H).elim
    | 1, H, _ => exact (show False from H).elim
    | 2, H, hMk =>
      obtain ⟨M', hM', hM, hna, hlk, hins, hnm⟩ := hMk
      dsimp only at hM' hM hna hlk hins hnm
      obtain ⟨M2, hM2, H⟩ := oM_ok H
      cases hM'.symm.trans hM2
      have hret := hM.2.2.2.2.2.2.2.2 (hM.2.2.2.2.2.2.1.mpr hnm)
      refine rInv_ok C0 hZ hKM hM hM' H (fun H0 locs la as pre r Pst hlen hst0 has hrecv hP hS hla hsum hc1 hc2 hMet hPre => ?_) Hh locs la hP hz hS hL hn
      subst hst0
      subst has
      have hy := hM.2.2.2.2.2.1
      rw [← hM.1] at hy hna hnm hlk hins
      obtain ⟨a0, tl, hpre, b0, hb0⟩ : ∃ a0 tl, pre.reverse = a0 :: tl ∧ ∃ b0, rV b cv fm a0 = .ref b0 := by
        revert hrecv
        cases pre.reverse with
        | nil => intro hrecv; cases hrecv
        | cons a0 tl =>
          intro hrecv
          refine ⟨a0, tl, rfl, ?_⟩
          match a0, hrecv with
          | .inr (.inr (.inl (some a))), hrecv => exact ⟨b + a, rfl⟩
          | .inr (.inr (.inr cc0)), hrecv => cases hrecv
          | .inl _, hrecv => cases hrecv
          | .inr (.inl _), hrecv => cases hrecv
          | .inr (.inr (.inl none)), hrecv => cases hrecv
      have hpre2 : pre = tl.reverse ++ [a0] := by
        have := congrArg List.reverse hpre
        rw [List.reverse_reverse, List.reverse_cons] at this
        exact this
      have hlen2 : tl.length + 1 = M'.2.2.2.2.2.2.2.2 := by
        rw [← hlen, ← List.length_reverse (as := pre), hpre]; rfl
      have hrunI := va_runI (e := e) (below := below) (meth := meth) (locs := locs) (cells := n) (slots := k) (As := tl.map (rV b cv fm)) (rest := r.map (rV b cv fm)) (g := F0 m pc la ((pre ++ r).map (rV b cv fm))) (b := b0) ⟨hx, hb, hml, hown, hts⟩ hMet (cwI tl.length hts (rGoodC hM) (by rw [rWs, hret]) rfl rfl (by rw [hM.1]; exact hts _ hM.2.2.1) (hts _ hlk) (hts _ hins) hnm ⟨hy.1, hy.2, by
        rw [← hlen2] at hna
        revert hna
        cases parseMethodDescriptor (rYn M'.1).desc with
        | none => intro hna; cases hna
        | some dd => intro hna; simpa using hna⟩ ⟨by show d + 1 ≤ R.frames; omega, by show 8 + (_ + 11) + 64 * d ≤ R.locals; have := hM.2.2.2.2.2.2.2.1; omega⟩) ⟨rBlind, fun U hU hW => ⟨by rw [hpre, List.map_cons, hb0], hPre U hU hW⟩⟩ rfl (by rw [List.length_map]) hla (by rw [hpre2]; simp [hb0]) (lv_room hsum) hd ⟨hc1, hc2⟩
      rw [hpre, List.map_cons, hb0]
      exact hrunI
    | 3, H, _ => exact (show False from H).elim
    | 4, H, _ => exact (show False from H).elim
    | 5, H, hMk =>
      obtain ⟨a, r, rfl, H1⟩ := sR_ok H
      clear H
      obtain ⟨hb1, H⟩ := bB_ok H1
      have hr4 := Nat.le_of_ble_eq_true hb1
      have hsum := rCatSum (b := b) (cv := cv) hfm r
      exact W.objInit hx hb hown (hts _ hMk.1) (hts _ hMk.2.1) (hts _ hMk.2.2) rfl (by rw [hml, ← hn, ← hL.1]) rfl hd (by omega) (by show 2 * 0 + _ + 12 ≤ _; omega) (hZ _ _ _ _ _ _ _ H Hh locs la hP hz hS hL hn)
    | kd + 6, H, _ => exact (show False from H).elim
  | ireturn =>
    obtain rfl : len = 1 := hlen (show ¬ (1 : Nat) = 0 by decide)
    obtain ⟨x, r, rfl, H1⟩ := sI_ok H
    clear H
    obtain ⟨rfl, H⟩ := sN_ok H1
    clear H1
    cases hret : M.2.2.2.2.1 with
    | none => rw [hret] at H; exact (show False from H).elim
    | some ty =>
      rw [hret] at H
      match ty, hret, H with
      | .int, hret, H =>
        obtain ⟨h1, h2, H⟩ := rBk_ok H
        exact hI x _ pc sh h n k Hh locs la hret (Or.inl rfl) rfl hd H h1 h2 hP hS
      | .boolean, hret, H =>
        obtain ⟨hv, H⟩ := H
        obtain ⟨h1, h2, H⟩ := rBk_ok H
        exact hI x _ pc sh h n k Hh locs la hret (Or.inr (Or.inl rfl)) (by rcases hv with rfl | rfl <;> rfl) hd H h1 h2 hP hS
      | .byte, hret, H =>
        obtain ⟨hv, H⟩ := H
        obtain ⟨h1, h2, H⟩ := rBk_ok H
        exact hI x _ pc sh h n k Hh locs la hret (Or.inr (Or.inr (Or.inl rfl))) hv hd H h1 h2 hP hS
      | .char, hret, H =>
        obtain ⟨hv, H⟩ := H
        obtain ⟨h1, h2, H⟩ := rBk_ok H
        exact hI x _ pc sh h n k Hh locs la hret (Or.inr (Or.inr (Or.inr rfl))) hv hd H h1 h2 hP hS
      | .short, hret, H => exact (show False from H).elim
      | .long, hret, H => exact (show False from H).elim
      | .float, hret, H => exact (show False from H).elim
      | .double, hret, H => exact (show False from H).elim
      | .object _, hret, H => exact (show False from H).elim
      | .array _, hret, H => exact (show False from H).elim
  | lreturn =>
    obtain rfl : len = 1 := hlen (show ¬ (1 : Nat) = 0 by decide)
    obtain ⟨x, r, rfl, H1⟩ := sL_ok H
    clear H
    obtain ⟨rfl, H⟩ := sN_ok H1
    clear H1
    cases hret : M.2.2.2.2.1 with
    | none => rw [hret] at H; exact (show False from H).elim
    | some ty =>
      rw [hret] at H
      match ty, hret, H with
      | .long, hret, H =>
        obtain ⟨h1, h2, H⟩ := rBk_ok H
        exact hL0 x pc sh h n k Hh locs la hret hd H h1 h2 hP hS
      | .int, hret, H => exact (show False from H).elim
      | .boolean, hret, H => exact (show False from H).elim
      | .byte, hret, H => exact (show False from H).elim
      | .char, hret, H => exact (show False from H).elim
      | .short, hret, H => exact (show False from H).elim
      | .float, hret, H => exact (show False from H).elim
      | .double, hret, H => exact (show False from H).elim
      | .object _, hret, H => exact (show False from H).elim
      | .array _, hret, H => exact (show False from H).elim
  | return_ =>
    obtain rfl : len = 1 := hlen (show ¬ (1 : Nat) = 0 by decide)
    obtain ⟨rfl, H1⟩ := sN_ok H
    clear H
    have H := H1
    clear H1
    cases hret : M.2.2.2.2.1 with
    | some ty => rw [hret] at H; exact (show False from H).elim
    | none =>
      rw [hret] at H
      obtain ⟨h1, h2, H⟩ := rBk_ok H
      exact hV0 pc sh h n k Hh locs la hret hd H h1 h2 hP hS
  | _ => exact (show False from H).elim
end SND2
end
section
/-! a method that comes to its end in R meets its contract on the machine -/
section MET
variable {p : Program} {l : Launch} {e : Env} {R : Room} {s : State} {m : MethodId} {args : Array Value} {below : List Frame} {meth : Method} {c : Code} {cc : ByteArray} {Q : State → Prop} {M : rM} {E : rE} {D : va_G} {cI cB : ClassId} {b : Nat} {cv : Nat → Nat} {fm : Value} {d : Nat} {K : rM → List rPV → rSh → rHp → rPost → Prop} {Post : rPost}
theorem rG_body {pc : Nat} {ls : rLs} {st : List rPV} {sh : rSh} {h : rHp} {n k : Nat} (C : rCx p R s m args meth c cc M E D cI cB b cv fm d) (hKM : ∀ (M' : rM) (i : Nat), rOkM M' i → rNth rMs i = some M' → ∀ as sh h P, K M' as sh h P → rMet l D cI cB b cv fm E d M' as sh h P)
    (hI : ∀ (x : Int32) (ty : FieldType) (pc : Nat) (sh : rSh) (h : rHp) (n k : Nat) (H : Heap) (locs : List Loc) (la : Array Slot), M.2.2.2.2.1 = some ty → (ty = .int ∨ ty = .boolean ∨ ty = .byte ∨ ty = .char) → narrow ty (.int x) = .int x → decode cc pc = .ok (.ireturn, 1) → Post (some (pI x)) sh h → n ≤ M.2.2.2.2.2.1 → k ≤ M.2.2.2.2.2.2.1 → va_P D classes (rW b cI cB sh h) H → va_S (rA b) s.heap H locs → W p l e R s m args below meth c H locs n k Q (F0 m pc la [.int x]))
    (hL0 : ∀ (x : Int64) (pc : Nat) (sh : rSh) (h : rHp) (n k : Nat) (H : Heap) (locs : List Loc) (la : Array Slot), M.2.2.2.2.1 = some .long → decode cc pc = .ok (.lreturn, 1) → Post (some (pL x)) sh h → n ≤ M.2.2.2.2.2.1 → k ≤ M.2.2.2.2.2.2.1 → va_P D classes (rW b cI cB sh h) H → va_S (rA b) s.heap H locs → W p l e R s m args below meth c H locs n k Q (F0 m pc la [.long x]))
    (hV0 : ∀ (pc : Nat) (sh : rSh) (h : rHp) (n k : Nat) (H : Heap) (locs : List Loc) (la : Array Slot), M.2.2.2.2.1 = none → decode cc pc = .ok (.return_, 1) → Post none sh h → n ≤ M.2.2.2.2.2.1 → k ≤ M.2.2.2.2.2.2.1 → va_P D classes (rW b cI cB sh h) H → va_S (rA b) s.heap H locs → W p l e R s m args below meth c H locs n k Q (F0 m pc la []))
    (H : rR E K M Post pc ls st sh h n k) : rG p l e R s m args below meth c Q D cI cB b cv fm M.2.2.2.2.2.2.2.1 pc ls st sh h n k := by
  refine H (rG p l e R s m args below meth c Q D cI cB b cv fm M.2.2.2.2.2.2.2.1) (fun pc ls st sh h n k ⟨Z, P, hZ, hP, hs⟩ => ?_)
  exact rG_step (Post := P) (Z := Z) C hZ hKM (fun x ty pc sh h n k H locs la a1 a2 a3 a4 a5 => hI x ty pc sh h n k H locs la a1 a2 a3 a4 (hP _ _ _ a5)) (fun x pc sh h n k H locs la a1 a2 a3 => hL0 x pc sh h n k H locs la a1 a2 (hP _ _ _ a3)) (fun pc sh h n k H locs la a1 a2 a3 => hV0 pc sh h n k H locs la a1 a2 (hP _ _ _ a3)) hs
theorem rLoc_len {M : rM} {as : List rPV} (h : (rEnt as).length ≤ M.2.2.2.2.2.2.2.1) : (rLoc M as).length = M.2.2.2.2.2.2.2.1 := by
  unfold rLoc
  rw [List.length_append, List.length_replicate]
  omega
theorem rLoc_has {M : rM} {as : List rPV} (hfm : fm.category = 1) (h : (rEnt as).length ≤ M.2.2.2.2.2.2.2.1) {la : Array Slot} (hl : lv_has la M.2.2.2.2.2.2.2.1 (lv_args 0 (as.map (rV b cv fm)))) : rLH b cv fm la (rLoc M as) := by
  refine ⟨by rw [hl.1, rLoc_len h], hl.2.1, fun i v hv => ?_⟩
  rw [rNth_eq] at hv
  unfold rLoc at hv
  by_cases hi : i < (rEnt as).length
  · rw [List.getElem?_append_left hi] at hv
    have := rEnt_ok (b := b) (cv := cv) hfm as 0 i v hv
    rw [Nat.zero_add] at this
    exact hl.2.2 _ this
  · rw [List.getElem?_append_right (by omega)] at hv
    have := List.eq_of_mem_replicate (List.mem_of_getElem? hv)
    cases this
set_option maxHeartbeats 1000000 in
theorem rMet_ok (hfm : fm.category = 1) (hcd : ∀ (M' : rM) (i : Nat), rOkM M' i → rNth rMs i = some M' → rCode M'.2.1 (rBy i)) : ∀ (d : Nat) (M' : rM) (i : Nat), rOkM M' i → rNth rMs i = some M' → ∀ as sh h P, rCall E d M' as sh h P → rMet l D cI cB b cv fm E d M' as sh h P := by
  intro d
  induction d with
  | zero => intro M' i hM hMs as sh h P H; exact H.elim
  | succ d ih =>
    intro M' i hM hMs as sh h P H
    obtain ⟨hb1, H⟩ := bB_ok H
    have hlen := Nat.le_of_ble_eq_true hb1
    refine Met.ofW (cc := rBy M'.1) (maxL := M'.2.2.2.2.2.2.2.1) (ret := M'.2.2.2.2.1) (by rw [hM.1]; exact hM.2.2.2.2.1) rfl ?_
    intro p e s m args below meth c s₁ B hml hv
    obtain ⟨rfl, hP, hK, hsz, hcon⟩ := hv
    have hx := B.exec
    have hb := B.bytes
    have hr := B.returns
    have hts := atoms_spec (ws := rWs M') B.pre
    have hown : s.vm.findClass (rYn M'.1).cls = some m.cls := findClass_of_methodNamed B.named
    have hlocks := B.notSynchronized
    have hin : meth.name = (rYn M'.1).name := (name_of_methodNamed B.named B.method).1
    have hl := lv_entry (as.map (rV b cv fm)) (n := M'.2.2.2.2.2.2.2.1) (by rw [rEnt_len hfm]; exact hlen)
    rw [lg_entry_eq]
    generalize (lg_sl (as.map (rV b cv fm)) ++ List.replicate (M'.2.2.2.2.2.2.2.1 - (lg_sl (as.map (rV b cv fm))).length) Slot.unset).toArray = la at hl ⊢
    have hLH := rLoc_has hfm hlen hl
    have C : rCx p (headSpec (rWs M') (rRm (d + 1) M')).room s m (as.map (rV b cv fm)).toArray meth c (rBy M'.1) M' E D cI cB b cv fm d := by
      refine ⟨hx, hb, hml, ?_, fun w hw => hts w (List.mem_cons_of_mem _ hw), hK, by omega, hcon, hfm, fun h1 => ?_, ⟨Nat.le_refl _, Nat.le_refl _, Nat.le_refl _, Nat.le_refl _⟩, ?_⟩
      · rw [← hM.2.2.2.1, ← hM.1]; exact hown
      · rw [hin, hM.1]; exact hM.2.2.2.2.2.2.1.mp h1
      · rw [hM.1]; exact hcd M' i hM hMs
    refine rG_body (Q := MQ below (rQ D cI cB b M'.2.2.2.2.1 P) (as.map (rV b cv fm)).toArray s M'.2.2.2.2.2.1 M'.2.2.2.2.2.2.1 (rA b)) C (fun M2 i2 h1 h2 as sh h P hc => ih M2 i2 h1 h2 as sh h P hc) ?_ ?_ ?_ H s.heap [] la hP (by omega) va_S.rf hLH (rLoc_len hlen)
    · intro x ty pc sh1 h1 n k H1 locs la hret hty hn hd hpost hn1 hk1 hP1 hS1
      refine W.widen hn1 hk1 ?_
      refine W.zret hx hb (by rw [hr, hret]) hn (fun t ht hW => ?_) hS1.2.2 hd
      rw [hret]
      rcases hty with rfl | rfl | rfl | rfl <;> exact ⟨⟨x, (sh1, h1), rfl, hpost, by show va_P D classes _ t.heap; rw [ht]; exact hP1⟩, hS1.F ht⟩
    · intro x pc sh1 h1 n k H1 locs la hret hd hpost hn1 hk1 hP1 hS1
      refine W.widen hn1 hk1 ?_
      refine W.lret hx hb (by rw [hr, hret]) (fun t ht hW => ?_) hS1.2.2 hd
      rw [hret]
      exact ⟨⟨x, (sh1, h1), rfl, hpost, by show va_P D classes _ t.heap; rw [ht]; exact hP1⟩, hS1.F ht⟩
    · intro pc sh1 h1 n k H1 locs la hret hd hpost hn1 hk1 hP1 hS1
      refine W.widen hn1 hk1 ?_
      refine W.vret hx hb (by rw [hr, hret]) (fun t ht hW => ?_) hS1.2.2 hd
      rw [hret]
      exact ⟨⟨(sh1, h1), rfl, hpost, by show va_P D classes _ t.heap; rw [ht]; exact hP1⟩, hS1.F ht⟩
end MET
end
section
/-! the programs are the code's (by program) -/
theorem rc0 : rCode pAc_init (rBy 0) := by unfold rCode; decide +kernel
theorem rc1 : rCode pAc_clear (rBy 1) := by unfold rCode; decide +kernel
theorem rc2 : rCode pAc_holdOne (rBy 2) := by unfold rCode; decide +kernel
theorem rc3 : rCode pAc_answer (rBy 3) := by unfold rCode; decide +kernel
theorem rc4 : rCode pAc_own (rBy 4) := by unfold rCode; decide +kernel
theorem rc5 : rCode pAc_inherited (rBy 5) := by unfold rCode; decide +kernel
theorem rc6 : rCode pAc_bodyFor (rBy 6) := by unfold rCode; decide +kernel
theorem rc7 : rCode pAc_run (rBy 7) := by unfold rCode; decide +kernel
theorem rc8 : rCode pAc_part (rBy 8) := by unfold rCode; decide +kernel
theorem rc9 : rCode pAc_note (rBy 9) := by unfold rCode; decide +kernel
theorem rc10 : rCode pSe_init (rBy 10) := by unfold rCode; decide +kernel
theorem rc11 : rCode pSe_begin (rBy 11) := by unfold rCode; decide +kernel
theorem rc12 : rCode pSe_holds (rBy 12) := by unfold rCode; decide +kernel
theorem rc13 : rCode pSe_number (rBy 13) := by unfold rCode; decide +kernel
theorem rc14 : rCode pSe_write (rBy 14) := by unfold rCode; decide +kernel
theorem rc15 : rCode pSf_init (rBy 15) := by unfold rCode; decide +kernel
theorem rc16 : rCode pSf_clear (rBy 16) := by unfold rCode; decide +kernel
theorem rc17 : rCode pSf_holdThing (rBy 17) := by unfold rCode; decide +kernel
theorem rc18 : rCode pSf_holdRow (rBy 18) := by unfold rCode; decide +kernel
theorem rc19 : rCode pSf_holdsRow (rBy 19) := by unfold rCode; decide +kernel
theorem rc20 : rCode pSt_init (rBy 20) := by unfold rCode; decide +kernel
theorem rc21 : rCode pSt_begin (rBy 21) := by unfold rCode; decide +kernel
theorem rc22 : rCode pSt_become (rBy 22) := by unfold rCode; decide +kernel
theorem rc23 : rCode pSt_has (rBy 23) := by unfold rCode; decide +kernel
theorem rc24 : rCode pSt_lies (rBy 24) := by unfold rCode; decide +kernel
theorem rc25 : rCode pSt_add (rBy 25) := by unfold rCode; decide +kernel
theorem rc26 : rCode pSt_layIn (rBy 26) := by unfold rCode; decide +kernel
theorem rc27 : rCode pSt_setLying (rBy 27) := by unfold rCode; decide +kernel
theorem rc28 : rCode pSt_setIn (rBy 28) := by unfold rCode; decide +kernel
theorem rc29 : rCode pSt_setAbove (rBy 29) := by unfold rCode; decide +kernel
theorem rc30 : rCode pSt_uppermost (rBy 30) := by unfold rCode; decide +kernel
theorem rc31 : rCode pSt_worthLying (rBy 31) := by unfold rCode; decide +kernel
theorem rc32 : rCode pSt_pitsInUse (rBy 32) := by unfold rCode; decide +kernel
theorem rc33 : rCode pSt_cover (rBy 33) := by unfold rCode; decide +kernel
theorem rc34 : rCode pSt_kindsIn (rBy 34) := by unfold rCode; decide +kernel
theorem rc35 : rCode pSt_speaking (rBy 35) := by unfold rCode; decide +kernel
theorem rc36 : rCode pSt_hiding (rBy 36) := by unfold rCode; decide +kernel
theorem rc37 : rCode pSt_passYears (rBy 37) := by unfold rCode; decide +kernel
theorem rc38 : rCode pSt_passYear (rBy 38) := by unfold rCode; decide +kernel
theorem rc39 : rCode pSt_dig (rBy 39) := by unfold rCode; decide +kernel
theorem rc40 : rCode pSt_passDrawnYear (rBy 40) := by unfold rCode; decide +kernel
theorem rc41 : rCode pSt_draw (rBy 41) := by unfold rCode; decide +kernel
theorem rc42 : rCode pTx_init (rBy 42) := by unfold rCode; decide +kernel
theorem rc43 : rCode pTx_clear (rBy 43) := by unfold rCode; decide +kernel
theorem rc44 : rCode pTx_append (rBy 44) := by unfold rCode; decide +kernel
theorem rc45 : rCode pTx_readInto (rBy 45) := by unfold rCode; decide +kernel
theorem rc46 : rCode pTx_readStatement (rBy 46) := by unfold rCode; decide +kernel
theorem rc47 : rCode pTx_readThing (rBy 47) := by unfold rCode; decide +kernel
theorem rc48 : rCode pTx_apply (rBy 48) := by unfold rCode; decide +kernel
theorem rc49 : rCode pTx_mostOfSetting (rBy 49) := by unfold rCode; decide +kernel
theorem rc50 : rCode pTx_kindNamed (rBy 50) := by unfold rCode; decide +kernel
theorem rc51 : rCode pTx_settingNamed (rBy 51) := by unfold rCode; decide +kernel
theorem rc52 : rCode pTx_readNumber (rBy 52) := by unfold rCode; decide +kernel
theorem rc53 : rCode pTx_needEndOfStatement (rBy 53) := by unfold rCode; decide +kernel
theorem rc54 : rCode pTx_fail (rBy 54) := by unfold rCode; decide +kernel
theorem rc55 : rCode pTx_next (rBy 55) := by unfold rCode; decide +kernel
theorem rc56 : rCode pTx_sortOf (rBy 56) := by unfold rCode; decide +kernel
theorem rc57 : rCode pTx_isName (rBy 57) := by unfold rCode; decide +kernel
theorem rc58 : rCode pLa_init (rBy 58) := by unfold rCode; decide +kernel
theorem rc59 : rCode pLa_feed (rBy 59) := by unfold rCode; decide +kernel
theorem rc60 : rCode pLa_street (rBy 60) := by unfold rCode; decide +kernel
theorem rc61 : rCode pLa_set (rBy 61) := by unfold rCode; decide +kernel
theorem rc62 : rCode pLa_lawOf (rBy 62) := by unfold rCode; decide +kernel
theorem rc63 : rCode pLa_thing (rBy 63) := by unfold rCode; decide +kernel
theorem rc64 : rCode pLa_of (rBy 64) := by unfold rCode; decide +kernel
theorem rc65 : rCode pLa_does (rBy 65) := by unfold rCode; decide +kernel
theorem rc66 : rCode pLa_mind (rBy 66) := by unfold rCode; decide +kernel
theorem rc67 : rCode pLa_value (rBy 67) := by unfold rCode; decide +kernel
theorem rc68 : rCode pLa_lay (rBy 68) := by unfold rCode; decide +kernel
theorem rc69 : rCode pLa_take (rBy 69) := by unfold rCode; decide +kernel
theorem rc70 : rCode pLa_bring (rBy 70) := by unfold rCode; decide +kernel
theorem rc71 : rCode pLa_think (rBy 71) := by unfold rCode; decide +kernel
theorem rc72 : rCode pLa_pit (rBy 72) := by unfold rCode; decide +kernel
theorem rc73 : rCode pLa_years (rBy 73) := by unfold rCode; decide +kernel
theorem rc74 : rCode pLa_seed (rBy 74) := by unfold rCode; decide +kernel
theorem rc75 : rCode pLa_year (rBy 75) := by unfold rCode; decide +kernel
theorem rc76 : rCode pLa_luck (rBy 76) := by unfold rCode; decide +kernel
theorem rc77 : rCode pLa_state (rBy 77) := by unfold rCode; decide +kernel
theorem rc78 : rCode pLa_thought (rBy 78) := by unfold rCode; decide +kernel
theorem rc79 : rCode pLa_dug (rBy 79) := by unfold rCode; decide +kernel
theorem rc80 : rCode pLa_empty (rBy 80) := by unfold rCode; decide +kernel
theorem rc81 : rCode pLa_praised (rBy 81) := by unfold rCode; decide +kernel
theorem rc82 : rCode pLa_pitFor (rBy 82) := by unfold rCode; decide +kernel
theorem rc83 : rCode pLa_kindFor (rBy 83) := by unfold rCode; decide +kernel
theorem rc84 : rCode pLa_worthFor (rBy 84) := by unfold rCode; decide +kernel
theorem rc85 : rCode pLa_beginFor (rBy 85) := by unfold rCode; decide +kernel
theorem rc86 : rCode pLa_awayFor (rBy 86) := by unfold rCode; decide +kernel
theorem rc87 : rCode pLa_above (rBy 87) := by unfold rCode; decide +kernel
theorem rc88 : rCode pLa_fits (rBy 88) := by unfold rCode; decide +kernel
theorem rc89 : rCode pLa_odds (rBy 89) := by unfold rCode; decide +kernel
theorem rc90 : rCode pLa_hope (rBy 90) := by unfold rCode; decide +kernel
theorem rc91 : rCode pLa_prove (rBy 91) := by unfold rCode; decide +kernel
theorem rc92 : rCode pLa_row (rBy 92) := by unfold rCode; decide +kernel
theorem rc93 : rCode pLa_alterRow (rBy 93) := by unfold rCode; decide +kernel
theorem rc94 : rCode pLa_judge (rBy 94) := by unfold rCode; decide +kernel
theorem rc95 : rCode pLa_minds (rBy 95) := by unfold rCode; decide +kernel
theorem rc96 : rCode pLa_sheet (rBy 96) := by unfold rCode; decide +kernel
theorem rc97 : rCode pLa_put (rBy 97) := by unfold rCode; decide +kernel
theorem rc98 : rCode pLa_item (rBy 98) := by unfold rCode; decide +kernel
theorem rc99 : rCode pLa_shelf (rBy 99) := by unfold rCode; decide +kernel
theorem rc100 : rCode pLa_taken (rBy 100) := by unfold rCode; decide +kernel
theorem rc101 : rCode pLa_act (rBy 101) := by unfold rCode; decide +kernel
theorem rc102 : rCode pLa_trace (rBy 102) := by unfold rCode; decide +kernel
theorem rc103 : rCode pLa_many (rBy 103) := by unfold rCode; decide +kernel
theorem rc104 : rCode pLa_keep (rBy 104) := by unfold rCode; decide +kernel
theorem rc105 : rCode pLa_again (rBy 105) := by unfold rCode; decide +kernel
theorem rc106 : rCode pLa_within (rBy 106) := by unfold rCode; decide +kernel
theorem rc107 : rCode pLa_isNear (rBy 107) := by unfold rCode; decide +kernel
theorem rc108 : rCode pLa_held (rBy 108) := by unfold rCode; decide +kernel
theorem rc109 : rCode pLa_mostOfLaw (rBy 109) := by unfold rCode; decide +kernel
theorem rc110 : rCode pLa_isUnder (rBy 110) := by unfold rCode; decide +kernel
theorem rc111 : rCode pLa_opinionBehind (rBy 111) := by unfold rCode; decide +kernel
theorem rc112 : rCode pLa_opinionWithout (rBy 112) := by unfold rCode; decide +kernel
theorem rc113 : rCode pLa_bestChange (rBy 113) := by unfold rCode; decide +kernel
theorem rc114 : rCode pLa_changeTried (rBy 114) := by unfold rCode; decide +kernel
theorem rc115 : rCode pLa_fitsWith (rBy 115) := by unfold rCode; decide +kernel
theorem rc116 : rCode pLa_hasRow (rBy 116) := by unfold rCode; decide +kernel
theorem rc117 : rCode pLa_triedPart (rBy 117) := by unfold rCode; decide +kernel
theorem rc118 : rCode pLa_ways (rBy 118) := by unfold rCode; decide +kernel
theorem rc119 : rCode pLa_power (rBy 119) := by unfold rCode; decide +kernel
theorem rc120 : rCode pLa_partOf (rBy 120) := by unfold rCode; decide +kernel
theorem rc121 : rCode pMo_init (rBy 121) := by unfold rCode; decide +kernel
theorem rc122 : rCode pMo_begins (rBy 122) := by unfold rCode; decide +kernel
theorem rc123 : rCode pMo_isIn (rBy 123) := by unfold rCode; decide +kernel
theorem rc124 : rCode pMo_isPit (rBy 124) := by unfold rCode; decide +kernel
theorem rc125 : rCode pMo_isOne (rBy 125) := by unfold rCode; decide +kernel
theorem rc126 : rCode pMo_its (rBy 126) := by unfold rCode; decide +kernel
theorem rc127 : rCode pMo_becomes (rBy 127) := by unfold rCode; decide +kernel
theorem rc128 : rCode pMo_copyRow (rBy 128) := by unfold rCode; decide +kernel
theorem rc129 : rCode pMo_greatest (rBy 129) := by unfold rCode; decide +kernel
theorem rc130 : rCode pMo_within (rBy 130) := by unfold rCode; decide +kernel
theorem rc131 : rCode pMo_size (rBy 131) := by unfold rCode; decide +kernel
theorem rc132 : rCode pMo_isUnder (rBy 132) := by unfold rCode; decide +kernel
theorem rc133 : rCode pMo_feed (rBy 133) := by unfold rCode; decide +kernel
theorem rc134 : rCode pMo_isAlpha (rBy 134) := by unfold rCode; decide +kernel
theorem rc135 : rCode pMo_isDigit (rBy 135) := by unfold rCode; decide +kernel
theorem rc136 : rCode pMo_byteAt (rBy 136) := by unfold rCode; decide +kernel
theorem rc137 : rCode pMo_nextToken (rBy 137) := by unfold rCode; decide +kernel
theorem rc138 : rCode pMo_needs (rBy 138) := by unfold rCode; decide +kernel
theorem rc139 : rCode pMo_isName (rBy 139) := by unfold rCode; decide +kernel
theorem rc140 : rCode pMo_isSame (rBy 140) := by unfold rCode; decide +kernel
theorem rc141 : rCode pMo_isFour (rBy 141) := by unfold rCode; decide +kernel
theorem rc142 : rCode pMo_isFive (rBy 142) := by unfold rCode; decide +kernel
theorem rc143 : rCode pMo_kindHere (rBy 143) := by unfold rCode; decide +kernel
theorem rc144 : rCode pMo_numberTo (rBy 144) := by unfold rCode; decide +kernel
theorem rc145 : rCode pMo_perhaps (rBy 145) := by unfold rCode; decide +kernel
theorem rc146 : rCode pMo_thingHere (rBy 146) := by unfold rCode; decide +kernel
theorem rc147 : rCode pMo_ownHere (rBy 147) := by unfold rCode; decide +kernel
theorem rc148 : rCode pMo_itemHere (rBy 148) := by unfold rCode; decide +kernel
theorem rc149 : rCode pMo_street (rBy 149) := by unfold rCode; decide +kernel
theorem rc150 : rCode pMo_set (rBy 150) := by unfold rCode; decide +kernel
theorem rc151 : rCode pMo_lawOf (rBy 151) := by unfold rCode; decide +kernel
theorem rc152 : rCode pMo_lies (rBy 152) := by unfold rCode; decide +kernel
theorem rc153 : rCode pMo_comes (rBy 153) := by unfold rCode; decide +kernel
theorem rc154 : rCode pMo_thing (rBy 154) := by unfold rCode; decide +kernel
theorem rc155 : rCode pMo_aboveOf (rBy 155) := by unfold rCode; decide +kernel
theorem rc156 : rCode pMo_speaks (rBy 156) := by unfold rCode; decide +kernel
theorem rc157 : rCode pMo_hides (rBy 157) := by unfold rCode; decide +kernel
theorem rc158 : rCode pMo_of (rBy 158) := by unfold rCode; decide +kernel
theorem rc159 : rCode pMo_does (rBy 159) := by unfold rCode; decide +kernel
theorem rc160 : rCode pMo_mind (rBy 160) := by unfold rCode; decide +kernel
theorem rc161 : rCode pMo_value (rBy 161) := by unfold rCode; decide +kernel
theorem rc162 : rCode pMo_lay (rBy 162) := by unfold rCode; decide +kernel
theorem rc163 : rCode pMo_lying (rBy 163) := by unfold rCode; decide +kernel
theorem rc164 : rCode pMo_take (rBy 164) := by unfold rCode; decide +kernel
theorem rc165 : rCode pMo_bring (rBy 165) := by unfold rCode; decide +kernel
theorem rc166 : rCode pMo_think (rBy 166) := by unfold rCode; decide +kernel
theorem rc167 : rCode pMo_lyingIn (rBy 167) := by unfold rCode; decide +kernel
theorem rc168 : rCode pMo_top (rBy 168) := by unfold rCode; decide +kernel
theorem rc169 : rCode pMo_pit (rBy 169) := by unfold rCode; decide +kernel
theorem rc170 : rCode pMo_goesOn (rBy 170) := by unfold rCode; decide +kernel
theorem rc171 : rCode pMo_goes (rBy 171) := by unfold rCode; decide +kernel
theorem rc172 : rCode pMo_years (rBy 172) := by unfold rCode; decide +kernel
theorem rc173 : rCode pMo_seed (rBy 173) := by unfold rCode; decide +kernel
theorem rc174 : rCode pMo_drawn (rBy 174) := by unfold rCode; decide +kernel
theorem rc175 : rCode pMo_year (rBy 175) := by unfold rCode; decide +kernel
theorem rc176 : rCode pMo_luck (rBy 176) := by unfold rCode; decide +kernel
theorem rc177 : rCode pMo_worthOfAll (rBy 177) := by unfold rCode; decide +kernel
theorem rc178 : rCode pMo_kindsIn (rBy 178) := by unfold rCode; decide +kernel
theorem rc179 : rCode pMo_cover (rBy 179) := by unfold rCode; decide +kernel
theorem rc180 : rCode pMo_state (rBy 180) := by unfold rCode; decide +kernel
theorem rc181 : rCode pMo_thoughtBehind (rBy 181) := by unfold rCode; decide +kernel
theorem rc182 : rCode pMo_thought (rBy 182) := by unfold rCode; decide +kernel
theorem rc183 : rCode pMo_dug (rBy 183) := by unfold rCode; decide +kernel
theorem rc184 : rCode pMo_empty (rBy 184) := by unfold rCode; decide +kernel
theorem rc185 : rCode pMo_praised (rBy 185) := by unfold rCode; decide +kernel
theorem rc186 : rCode pMo_isShort (rBy 186) := by unfold rCode; decide +kernel
theorem rc187 : rCode pMo_pitFor (rBy 187) := by unfold rCode; decide +kernel
theorem rc188 : rCode pMo_mostBy (rBy 188) := by unfold rCode; decide +kernel
theorem rc189 : rCode pMo_kindFor (rBy 189) := by unfold rCode; decide +kernel
theorem rc190 : rCode pMo_worthFor (rBy 190) := by unfold rCode; decide +kernel
theorem rc191 : rCode pMo_beginFor (rBy 191) := by unfold rCode; decide +kernel
theorem rc192 : rCode pMo_awayFor (rBy 192) := by unfold rCode; decide +kernel
theorem rc193 : rCode pMo_above (rBy 193) := by unfold rCode; decide +kernel
theorem rc194 : rCode pMo_product (rBy 194) := by unfold rCode; decide +kernel
theorem rc195 : rCode pMo_partOf (rBy 195) := by unfold rCode; decide +kernel
theorem rc196 : rCode pMo_isTold (rBy 196) := by unfold rCode; decide +kernel
theorem rc197 : rCode pMo_fits (rBy 197) := by unfold rCode; decide +kernel
theorem rc198 : rCode pMo_odds (rBy 198) := by unfold rCode; decide +kernel
theorem rc199 : rCode pMo_hope (rBy 199) := by unfold rCode; decide +kernel
theorem rc200 : rCode pMo_prove (rBy 200) := by unfold rCode; decide +kernel
theorem rc201 : rCode pMo_isRow (rBy 201) := by unfold rCode; decide +kernel
theorem rc202 : rCode pMo_row (rBy 202) := by unfold rCode; decide +kernel
theorem rc203 : rCode pMo_alterRow (rBy 203) := by unfold rCode; decide +kernel
theorem rc204 : rCode pMo_judge (rBy 204) := by unfold rCode; decide +kernel
theorem rc205 : rCode pMo_isSheet (rBy 205) := by unfold rCode; decide +kernel
theorem rc206 : rCode pMo_isShelf (rBy 206) := by unfold rCode; decide +kernel
theorem rc207 : rCode pMo_sheet (rBy 207) := by unfold rCode; decide +kernel
theorem rc208 : rCode pMo_put (rBy 208) := by unfold rCode; decide +kernel
theorem rc209 : rCode pMo_lacks (rBy 209) := by unfold rCode; decide +kernel
theorem rc210 : rCode pMo_item (rBy 210) := by unfold rCode; decide +kernel
theorem rc211 : rCode pMo_minds (rBy 211) := by unfold rCode; decide +kernel
theorem rc212 : rCode pMo_shelf (rBy 212) := by unfold rCode; decide +kernel
theorem rc213 : rCode pMo_heldOn (rBy 213) := by unfold rCode; decide +kernel
theorem rc214 : rCode pMo_taken (rBy 214) := by unfold rCode; decide +kernel
theorem rc215 : rCode pMo_runs (rBy 215) := by unfold rCode; decide +kernel
theorem rc216 : rCode pMo_sinksPlain (rBy 216) := by unfold rCode; decide +kernel
theorem rc217 : rCode pMo_sinksOfRubbish (rBy 217) := by unfold rCode; decide +kernel
theorem rc218 : rCode pMo_sinks (rBy 218) := by unfold rCode; decide +kernel
theorem rc219 : rCode pMo_showsPlain (rBy 219) := by unfold rCode; decide +kernel
theorem rc220 : rCode pMo_shows (rBy 220) := by unfold rCode; decide +kernel
theorem rc221 : rCode pMo_partsPlain (rBy 221) := by unfold rCode; decide +kernel
theorem rc222 : rCode pMo_parts (rBy 222) := by unfold rCode; decide +kernel
theorem rc223 : rCode pMo_asksPlain (rBy 223) := by unfold rCode; decide +kernel
theorem rc224 : rCode pMo_asks (rBy 224) := by unfold rCode; decide +kernel
theorem rc225 : rCode pMo_act (rBy 225) := by unfold rCode; decide +kernel
theorem rc226 : rCode pMo_trace (rBy 226) := by unfold rCode; decide +kernel
theorem rc227 : rCode pMo_many (rBy 227) := by unfold rCode; decide +kernel
theorem rc228 : rCode pMo_keep (rBy 228) := by unfold rCode; decide +kernel
theorem rc229 : rCode pMo_again (rBy 229) := by unfold rCode; decide +kernel
theorem rc230 : rCode pJi_bitCount (rBy 230) := by unfold rCode; decide +kernel
theorem rc231 : rCode pJs_length (rBy 231) := by unfold rCode; decide +kernel
theorem rc232 : rCode pJs_charAt (rBy 232) := by unfold rCode; decide +kernel
theorem rc233 : rCode pJs_coder (rBy 233) := by unfold rCode; decide +kernel
theorem rc234 : rCode pJs_isLatin1 (rBy 234) := by unfold rCode; decide +kernel
theorem rc235 : rCode pJs_checkIndex (rBy 235) := by unfold rCode; decide +kernel
theorem rc236 : rCode pJl_charAt (rBy 236) := by unfold rCode; decide +kernel
theorem rc237 : rCode pJp_checkIndex (rBy 237) := by unfold rCode; decide +kernel
end
section
def pLw_0 : List (Nat × Instr × Nat) := [(0, .new 7, 3), (3, .dup, 1), (4, .invokespecial 9, 3), (7, .astore_n 1, 1), (8, .new 10, 3), (11, .dup, 1), (12, .invokespecial 12, 3), (15, .astore_n 2, 1), (16, .iconst 0, 1), (17, .istore_n 3, 1), (18, .iload_n 3, 1), (19, .aload_n 0, 1), (20, .arraylength, 1), (21, .iconst 5, 1), (22, .isub, 1), (23, .if_icmp .gt 1682, 3), (26, .aload_n 0, 1), (27, .iload_n 3, 1), (28, .iaload, 1), (29, .bipush 63, 2), (31, .iand, 1), (32, .tableswitch 1667 0 46 #[204, 267, 280, 313, 336, 389, 422, 455, 498, 531, 564, 587, 610, 633, 666, 689, 712, 725, 748, 771, 794, 817, 830, 853, 886, 919, 962, 985, 1018, 1041, 1084, 1128, 1162, 1195, 1228, 1271, 1294, 1347, 1390, 1433, 1476, 1519, 1552, 1595, 1618, 1641, 1654], 204), (236, .aload_n 1, 1), (237, .aload_n 0, 1), (238, .iload_n 3, 1)]
theorem rcL0 : rCode pLw_0 code := by unfold rCode; decide +kernel
def pLw_1 : List (Nat × Instr × Nat) := [(239, .iconst 1, 1), (240, .iadd, 1), (241, .iaload, 1), (242, .i2l, 1), (243, .bipush 32, 2), (245, .lshl, 1), (246, .aload_n 0, 1), (247, .iload_n 3, 1), (248, .iconst 2, 1), (249, .iadd, 1), (250, .iaload, 1), (251, .i2l, 1), (252, .ldc2_w 13, 3), (255, .land, 1), (256, .lor, 1), (257, .aload_n 0, 1), (258, .iload_n 3, 1), (259, .iconst 3, 1), (260, .iadd, 1), (261, .iaload, 1), (262, .invokevirtual 15, 3), (265, .aload_n 2, 1), (266, .aload_n 0, 1), (267, .iload_n 3, 1), (268, .iconst 1, 1)]
theorem rcL1 : rCode pLw_1 code := by unfold rCode; decide +kernel
def pLw_2 : List (Nat × Instr × Nat) := [(269, .iadd, 1), (270, .iaload, 1), (271, .i2l, 1), (272, .bipush 32, 2), (274, .lshl, 1), (275, .aload_n 0, 1), (276, .iload_n 3, 1), (277, .iconst 2, 1), (278, .iadd, 1), (279, .iaload, 1), (280, .i2l, 1), (281, .ldc2_w 13, 3), (284, .land, 1), (285, .lor, 1), (286, .aload_n 0, 1), (287, .iload_n 3, 1), (288, .iconst 3, 1), (289, .iadd, 1), (290, .iaload, 1), (291, .invokevirtual 19, 3), (294, .if_icmp .eq 1405, 3), (297, .iconst 0, 1), (298, .ireturn, 1), (299, .aload_n 1, 1), (300, .invokevirtual 20, 3)]
theorem rcL2 : rCode pLw_2 code := by unfold rCode; decide +kernel
def pLw_3 : List (Nat × Instr × Nat) := [(303, .aload_n 2, 1), (304, .invokevirtual 24, 3), (307, .if_icmp .eq 1392, 3), (310, .iconst 0, 1), (311, .ireturn, 1), (312, .aload_n 1, 1), (313, .aload_n 0, 1), (314, .iload_n 3, 1), (315, .iconst 1, 1), (316, .iadd, 1), (317, .iaload, 1), (318, .aload_n 0, 1), (319, .iload_n 3, 1), (320, .iconst 2, 1), (321, .iadd, 1), (322, .iaload, 1), (323, .invokevirtual 25, 3), (326, .aload_n 2, 1), (327, .aload_n 0, 1), (328, .iload_n 3, 1), (329, .iconst 1, 1), (330, .iadd, 1), (331, .iaload, 1), (332, .aload_n 0, 1), (333, .iload_n 3, 1)]
theorem rcL3 : rCode pLw_3 code := by unfold rCode; decide +kernel
def pLw_4 : List (Nat × Instr × Nat) := [(334, .iconst 2, 1), (335, .iadd, 1), (336, .iaload, 1), (337, .invokevirtual 29, 3), (340, .if_icmp .eq 1359, 3), (343, .iconst 0, 1), (344, .ireturn, 1), (345, .aload_n 1, 1), (346, .aload_n 0, 1), (347, .iload_n 3, 1), (348, .iconst 1, 1), (349, .iadd, 1), (350, .iaload, 1), (351, .invokevirtual 30, 3), (354, .aload_n 2, 1), (355, .aload_n 0, 1), (356, .iload_n 3, 1), (357, .iconst 1, 1), (358, .iadd, 1), (359, .iaload, 1), (360, .invokevirtual 34, 3), (363, .if_icmp .eq 1336, 3), (366, .iconst 0, 1), (367, .ireturn, 1), (368, .aload_n 1, 1)]
theorem rcL4 : rCode pLw_4 code := by unfold rCode; decide +kernel
def pLw_5 : List (Nat × Instr × Nat) := [(369, .aload_n 0, 1), (370, .iload_n 3, 1), (371, .iconst 1, 1), (372, .iadd, 1), (373, .iaload, 1), (374, .aload_n 0, 1), (375, .iload_n 3, 1), (376, .iconst 2, 1), (377, .iadd, 1), (378, .iaload, 1), (379, .aload_n 0, 1), (380, .iload_n 3, 1), (381, .iconst 3, 1), (382, .iadd, 1), (383, .iaload, 1), (384, .aload_n 0, 1), (385, .iload_n 3, 1), (386, .iconst 4, 1), (387, .iadd, 1), (388, .iaload, 1), (389, .invokevirtual 35, 3), (392, .aload_n 2, 1), (393, .aload_n 0, 1), (394, .iload_n 3, 1), (395, .iconst 1, 1)]
theorem rcL5 : rCode pLw_5 code := by unfold rCode; decide +kernel
def pLw_6 : List (Nat × Instr × Nat) := [(396, .iadd, 1), (397, .iaload, 1), (398, .aload_n 0, 1), (399, .iload_n 3, 1), (400, .iconst 2, 1), (401, .iadd, 1), (402, .iaload, 1), (403, .aload_n 0, 1), (404, .iload_n 3, 1), (405, .iconst 3, 1), (406, .iadd, 1), (407, .iaload, 1), (408, .aload_n 0, 1), (409, .iload_n 3, 1), (410, .iconst 4, 1), (411, .iadd, 1), (412, .iaload, 1), (413, .invokevirtual 39, 3), (416, .if_icmp .eq 1283, 3), (419, .iconst 0, 1), (420, .ireturn, 1), (421, .aload_n 1, 1), (422, .aload_n 0, 1), (423, .iload_n 3, 1), (424, .iconst 1, 1)]
theorem rcL6 : rCode pLw_6 code := by unfold rCode; decide +kernel
def pLw_7 : List (Nat × Instr × Nat) := [(425, .iadd, 1), (426, .iaload, 1), (427, .aload_n 0, 1), (428, .iload_n 3, 1), (429, .iconst 2, 1), (430, .iadd, 1), (431, .iaload, 1), (432, .invokevirtual 40, 3), (435, .aload_n 2, 1), (436, .aload_n 0, 1), (437, .iload_n 3, 1), (438, .iconst 1, 1), (439, .iadd, 1), (440, .iaload, 1), (441, .aload_n 0, 1), (442, .iload_n 3, 1), (443, .iconst 2, 1), (444, .iadd, 1), (445, .iaload, 1), (446, .invokevirtual 43, 3), (449, .if_icmp .eq 1250, 3), (452, .iconst 0, 1), (453, .ireturn, 1), (454, .aload_n 1, 1), (455, .aload_n 0, 1)]
theorem rcL7 : rCode pLw_7 code := by unfold rCode; decide +kernel
def pLw_8 : List (Nat × Instr × Nat) := [(456, .iload_n 3, 1), (457, .iconst 1, 1), (458, .iadd, 1), (459, .iaload, 1), (460, .aload_n 0, 1), (461, .iload_n 3, 1), (462, .iconst 2, 1), (463, .iadd, 1), (464, .iaload, 1), (465, .invokevirtual 44, 3), (468, .aload_n 2, 1), (469, .aload_n 0, 1), (470, .iload_n 3, 1), (471, .iconst 1, 1), (472, .iadd, 1), (473, .iaload, 1), (474, .aload_n 0, 1), (475, .iload_n 3, 1), (476, .iconst 2, 1), (477, .iadd, 1), (478, .iaload, 1), (479, .invokevirtual 47, 3), (482, .if_icmp .eq 1217, 3), (485, .iconst 0, 1), (486, .ireturn, 1)]
theorem rcL8 : rCode pLw_8 code := by unfold rCode; decide +kernel
def pLw_9 : List (Nat × Instr × Nat) := [(487, .aload_n 1, 1), (488, .aload_n 0, 1), (489, .iload_n 3, 1), (490, .iconst 1, 1), (491, .iadd, 1), (492, .iaload, 1), (493, .aload_n 0, 1), (494, .iload_n 3, 1), (495, .iconst 2, 1), (496, .iadd, 1), (497, .iaload, 1), (498, .aload_n 0, 1), (499, .iload_n 3, 1), (500, .iconst 3, 1), (501, .iadd, 1), (502, .iaload, 1), (503, .invokevirtual 48, 3), (506, .aload_n 2, 1), (507, .aload_n 0, 1), (508, .iload_n 3, 1), (509, .iconst 1, 1), (510, .iadd, 1), (511, .iaload, 1), (512, .aload_n 0, 1), (513, .iload_n 3, 1)]
theorem rcL9 : rCode pLw_9 code := by unfold rCode; decide +kernel
end
section
def pLw_10 : List (Nat × Instr × Nat) := [(514, .iconst 2, 1), (515, .iadd, 1), (516, .iaload, 1), (517, .aload_n 0, 1), (518, .iload_n 3, 1), (519, .iconst 3, 1), (520, .iadd, 1), (521, .iaload, 1), (522, .invokevirtual 52, 3), (525, .if_icmp .eq 1174, 3), (528, .iconst 0, 1), (529, .ireturn, 1), (530, .aload_n 1, 1), (531, .aload_n 0, 1), (532, .iload_n 3, 1), (533, .iconst 1, 1), (534, .iadd, 1), (535, .iaload, 1), (536, .aload_n 0, 1), (537, .iload_n 3, 1), (538, .iconst 2, 1), (539, .iadd, 1), (540, .iaload, 1), (541, .invokevirtual 53, 3), (544, .aload_n 2, 1)]
theorem rcL10 : rCode pLw_10 code := by unfold rCode; decide +kernel
def pLw_11 : List (Nat × Instr × Nat) := [(545, .aload_n 0, 1), (546, .iload_n 3, 1), (547, .iconst 1, 1), (548, .iadd, 1), (549, .iaload, 1), (550, .aload_n 0, 1), (551, .iload_n 3, 1), (552, .iconst 2, 1), (553, .iadd, 1), (554, .iaload, 1), (555, .invokevirtual 56, 3), (558, .if_icmp .eq 1141, 3), (561, .iconst 0, 1), (562, .ireturn, 1), (563, .aload_n 1, 1), (564, .aload_n 0, 1), (565, .iload_n 3, 1), (566, .iconst 1, 1), (567, .iadd, 1), (568, .iaload, 1), (569, .aload_n 0, 1), (570, .iload_n 3, 1), (571, .iconst 2, 1), (572, .iadd, 1), (573, .iaload, 1)]
theorem rcL11 : rCode pLw_11 code := by unfold rCode; decide +kernel
def pLw_12 : List (Nat × Instr × Nat) := [(574, .invokevirtual 57, 3), (577, .aload_n 2, 1), (578, .aload_n 0, 1), (579, .iload_n 3, 1), (580, .iconst 1, 1), (581, .iadd, 1), (582, .iaload, 1), (583, .aload_n 0, 1), (584, .iload_n 3, 1), (585, .iconst 2, 1), (586, .iadd, 1), (587, .iaload, 1), (588, .invokevirtual 60, 3), (591, .if_icmp .eq 1108, 3), (594, .iconst 0, 1), (595, .ireturn, 1), (596, .aload_n 1, 1), (597, .aload_n 0, 1), (598, .iload_n 3, 1), (599, .iconst 1, 1), (600, .iadd, 1), (601, .iaload, 1), (602, .invokevirtual 61, 3), (605, .aload_n 2, 1), (606, .aload_n 0, 1)]
theorem rcL12 : rCode pLw_12 code := by unfold rCode; decide +kernel
def pLw_13 : List (Nat × Instr × Nat) := [(607, .iload_n 3, 1), (608, .iconst 1, 1), (609, .iadd, 1), (610, .iaload, 1), (611, .invokevirtual 64, 3), (614, .if_icmp .eq 1085, 3), (617, .iconst 0, 1), (618, .ireturn, 1), (619, .aload_n 1, 1), (620, .aload_n 0, 1), (621, .iload_n 3, 1), (622, .iconst 1, 1), (623, .iadd, 1), (624, .iaload, 1), (625, .invokevirtual 65, 3), (628, .aload_n 2, 1), (629, .aload_n 0, 1), (630, .iload_n 3, 1), (631, .iconst 1, 1), (632, .iadd, 1), (633, .iaload, 1), (634, .invokevirtual 68, 3), (637, .if_icmp .eq 1062, 3), (640, .iconst 0, 1), (641, .ireturn, 1)]
theorem rcL13 : rCode pLw_13 code := by unfold rCode; decide +kernel
def pLw_14 : List (Nat × Instr × Nat) := [(642, .aload_n 1, 1), (643, .aload_n 0, 1), (644, .iload_n 3, 1), (645, .iconst 1, 1), (646, .iadd, 1), (647, .iaload, 1), (648, .invokevirtual 69, 3), (651, .aload_n 2, 1), (652, .aload_n 0, 1), (653, .iload_n 3, 1), (654, .iconst 1, 1), (655, .iadd, 1), (656, .iaload, 1), (657, .invokevirtual 72, 3), (660, .if_icmp .eq 1039, 3), (663, .iconst 0, 1), (664, .ireturn, 1), (665, .aload_n 1, 1), (666, .aload_n 0, 1), (667, .iload_n 3, 1), (668, .iconst 1, 1), (669, .iadd, 1), (670, .iaload, 1), (671, .aload_n 0, 1), (672, .iload_n 3, 1)]
theorem rcL14 : rCode pLw_14 code := by unfold rCode; decide +kernel
def pLw_15 : List (Nat × Instr × Nat) := [(673, .iconst 2, 1), (674, .iadd, 1), (675, .iaload, 1), (676, .invokevirtual 73, 3), (679, .aload_n 2, 1), (680, .aload_n 0, 1), (681, .iload_n 3, 1), (682, .iconst 1, 1), (683, .iadd, 1), (684, .iaload, 1), (685, .aload_n 0, 1), (686, .iload_n 3, 1), (687, .iconst 2, 1), (688, .iadd, 1), (689, .iaload, 1), (690, .invokevirtual 76, 3), (693, .if_icmp .eq 1006, 3), (696, .iconst 0, 1), (697, .ireturn, 1), (698, .aload_n 1, 1), (699, .aload_n 0, 1), (700, .iload_n 3, 1), (701, .iconst 1, 1), (702, .iadd, 1), (703, .iaload, 1)]
theorem rcL15 : rCode pLw_15 code := by unfold rCode; decide +kernel
def pLw_16 : List (Nat × Instr × Nat) := [(704, .invokevirtual 77, 3), (707, .aload_n 2, 1), (708, .aload_n 0, 1), (709, .iload_n 3, 1), (710, .iconst 1, 1), (711, .iadd, 1), (712, .iaload, 1), (713, .invokevirtual 80, 3), (716, .if_icmp .eq 983, 3), (719, .iconst 0, 1), (720, .ireturn, 1), (721, .aload_n 1, 1), (722, .aload_n 0, 1), (723, .iload_n 3, 1), (724, .iconst 1, 1), (725, .iadd, 1), (726, .iaload, 1), (727, .invokevirtual 81, 3), (730, .aload_n 2, 1), (731, .aload_n 0, 1), (732, .iload_n 3, 1), (733, .iconst 1, 1), (734, .iadd, 1), (735, .iaload, 1), (736, .invokevirtual 84, 3)]
theorem rcL16 : rCode pLw_16 code := by unfold rCode; decide +kernel
def pLw_17 : List (Nat × Instr × Nat) := [(739, .if_icmp .eq 960, 3), (742, .iconst 0, 1), (743, .ireturn, 1), (744, .aload_n 1, 1), (745, .invokevirtual 85, 3), (748, .aload_n 2, 1), (749, .invokevirtual 88, 3), (752, .if_icmp .eq 947, 3), (755, .iconst 0, 1), (756, .ireturn, 1), (757, .aload_n 1, 1), (758, .aload_n 0, 1), (759, .iload_n 3, 1), (760, .iconst 1, 1), (761, .iadd, 1), (762, .iaload, 1), (763, .invokevirtual 89, 3), (766, .aload_n 2, 1), (767, .aload_n 0, 1), (768, .iload_n 3, 1), (769, .iconst 1, 1), (770, .iadd, 1), (771, .iaload, 1), (772, .invokevirtual 92, 3), (775, .if_icmp .eq 924, 3)]
theorem rcL17 : rCode pLw_17 code := by unfold rCode; decide +kernel
def pLw_18 : List (Nat × Instr × Nat) := [(778, .iconst 0, 1), (779, .ireturn, 1), (780, .aload_n 1, 1), (781, .aload_n 0, 1), (782, .iload_n 3, 1), (783, .iconst 1, 1), (784, .iadd, 1), (785, .iaload, 1), (786, .invokevirtual 93, 3), (789, .aload_n 2, 1), (790, .aload_n 0, 1), (791, .iload_n 3, 1), (792, .iconst 1, 1), (793, .iadd, 1), (794, .iaload, 1), (795, .invokevirtual 96, 3), (798, .if_icmp .eq 901, 3), (801, .iconst 0, 1), (802, .ireturn, 1), (803, .aload_n 1, 1), (804, .aload_n 0, 1), (805, .iload_n 3, 1), (806, .iconst 1, 1), (807, .iadd, 1), (808, .iaload, 1)]
theorem rcL18 : rCode pLw_18 code := by unfold rCode; decide +kernel
def pLw_19 : List (Nat × Instr × Nat) := [(809, .invokevirtual 97, 3), (812, .aload_n 2, 1), (813, .aload_n 0, 1), (814, .iload_n 3, 1), (815, .iconst 1, 1), (816, .iadd, 1), (817, .iaload, 1), (818, .invokevirtual 100, 3), (821, .if_icmp .eq 878, 3), (824, .iconst 0, 1), (825, .ireturn, 1), (826, .aload_n 1, 1), (827, .aload_n 0, 1), (828, .iload_n 3, 1), (829, .iconst 1, 1), (830, .iadd, 1), (831, .iaload, 1), (832, .invokevirtual 101, 3), (835, .aload_n 2, 1), (836, .aload_n 0, 1), (837, .iload_n 3, 1), (838, .iconst 1, 1), (839, .iadd, 1), (840, .iaload, 1), (841, .invokevirtual 104, 3)]
theorem rcL19 : rCode pLw_19 code := by unfold rCode; decide +kernel
end
section
def pLw_20 : List (Nat × Instr × Nat) := [(844, .if_icmp .eq 855, 3), (847, .iconst 0, 1), (848, .ireturn, 1), (849, .aload_n 1, 1), (850, .invokevirtual 105, 3), (853, .aload_n 2, 1), (854, .invokevirtual 108, 3), (857, .if_icmp .eq 842, 3), (860, .iconst 0, 1), (861, .ireturn, 1), (862, .aload_n 1, 1), (863, .aload_n 0, 1), (864, .iload_n 3, 1), (865, .iconst 1, 1), (866, .iadd, 1), (867, .iaload, 1), (868, .invokevirtual 109, 3), (871, .aload_n 2, 1), (872, .aload_n 0, 1), (873, .iload_n 3, 1), (874, .iconst 1, 1), (875, .iadd, 1), (876, .iaload, 1), (877, .invokevirtual 112, 3), (880, .if_icmp .eq 819, 3)]
theorem rcL20 : rCode pLw_20 code := by unfold rCode; decide +kernel
def pLw_21 : List (Nat × Instr × Nat) := [(883, .iconst 0, 1), (884, .ireturn, 1), (885, .aload_n 1, 1), (886, .aload_n 0, 1), (887, .iload_n 3, 1), (888, .iconst 1, 1), (889, .iadd, 1), (890, .iaload, 1), (891, .aload_n 0, 1), (892, .iload_n 3, 1), (893, .iconst 2, 1), (894, .iadd, 1), (895, .iaload, 1), (896, .invokevirtual 113, 3), (899, .aload_n 2, 1), (900, .aload_n 0, 1), (901, .iload_n 3, 1), (902, .iconst 1, 1), (903, .iadd, 1), (904, .iaload, 1), (905, .aload_n 0, 1), (906, .iload_n 3, 1), (907, .iconst 2, 1), (908, .iadd, 1), (909, .iaload, 1)]
theorem rcL21 : rCode pLw_21 code := by unfold rCode; decide +kernel
def pLw_22 : List (Nat × Instr × Nat) := [(910, .invokevirtual 116, 3), (913, .if_icmp .eq 786, 3), (916, .iconst 0, 1), (917, .ireturn, 1), (918, .aload_n 1, 1), (919, .aload_n 0, 1), (920, .iload_n 3, 1), (921, .iconst 1, 1), (922, .iadd, 1), (923, .iaload, 1), (924, .aload_n 0, 1), (925, .iload_n 3, 1), (926, .iconst 2, 1), (927, .iadd, 1), (928, .iaload, 1), (929, .invokevirtual 117, 3), (932, .aload_n 2, 1), (933, .aload_n 0, 1), (934, .iload_n 3, 1), (935, .iconst 1, 1), (936, .iadd, 1), (937, .iaload, 1), (938, .aload_n 0, 1), (939, .iload_n 3, 1), (940, .iconst 2, 1)]
theorem rcL22 : rCode pLw_22 code := by unfold rCode; decide +kernel
def pLw_23 : List (Nat × Instr × Nat) := [(941, .iadd, 1), (942, .iaload, 1), (943, .invokevirtual 120, 3), (946, .if_icmp .eq 753, 3), (949, .iconst 0, 1), (950, .ireturn, 1), (951, .aload_n 1, 1), (952, .aload_n 0, 1), (953, .iload_n 3, 1), (954, .iconst 1, 1), (955, .iadd, 1), (956, .iaload, 1), (957, .aload_n 0, 1), (958, .iload_n 3, 1), (959, .iconst 2, 1), (960, .iadd, 1), (961, .iaload, 1), (962, .aload_n 0, 1), (963, .iload_n 3, 1), (964, .iconst 3, 1), (965, .iadd, 1), (966, .iaload, 1), (967, .invokevirtual 121, 3), (970, .aload_n 2, 1), (971, .aload_n 0, 1)]
theorem rcL23 : rCode pLw_23 code := by unfold rCode; decide +kernel
def pLw_24 : List (Nat × Instr × Nat) := [(972, .iload_n 3, 1), (973, .iconst 1, 1), (974, .iadd, 1), (975, .iaload, 1), (976, .aload_n 0, 1), (977, .iload_n 3, 1), (978, .iconst 2, 1), (979, .iadd, 1), (980, .iaload, 1), (981, .aload_n 0, 1), (982, .iload_n 3, 1), (983, .iconst 3, 1), (984, .iadd, 1), (985, .iaload, 1), (986, .invokevirtual 124, 3), (989, .if_icmp .eq 710, 3), (992, .iconst 0, 1), (993, .ireturn, 1), (994, .aload_n 1, 1), (995, .aload_n 0, 1), (996, .iload_n 3, 1), (997, .iconst 1, 1), (998, .iadd, 1), (999, .iaload, 1), (1000, .invokevirtual 125, 3)]
theorem rcL24 : rCode pLw_24 code := by unfold rCode; decide +kernel
def pLw_25 : List (Nat × Instr × Nat) := [(1003, .aload_n 2, 1), (1004, .aload_n 0, 1), (1005, .iload_n 3, 1), (1006, .iconst 1, 1), (1007, .iadd, 1), (1008, .iaload, 1), (1009, .invokevirtual 128, 3), (1012, .if_icmp .eq 687, 3), (1015, .iconst 0, 1), (1016, .ireturn, 1), (1017, .aload_n 1, 1), (1018, .aload_n 0, 1), (1019, .iload_n 3, 1), (1020, .iconst 1, 1), (1021, .iadd, 1), (1022, .iaload, 1), (1023, .aload_n 0, 1), (1024, .iload_n 3, 1), (1025, .iconst 2, 1), (1026, .iadd, 1), (1027, .iaload, 1), (1028, .invokevirtual 129, 3), (1031, .aload_n 2, 1), (1032, .aload_n 0, 1), (1033, .iload_n 3, 1)]
theorem rcL25 : rCode pLw_25 code := by unfold rCode; decide +kernel
def pLw_26 : List (Nat × Instr × Nat) := [(1034, .iconst 1, 1), (1035, .iadd, 1), (1036, .iaload, 1), (1037, .aload_n 0, 1), (1038, .iload_n 3, 1), (1039, .iconst 2, 1), (1040, .iadd, 1), (1041, .iaload, 1), (1042, .invokevirtual 132, 3), (1045, .if_icmp .eq 654, 3), (1048, .iconst 0, 1), (1049, .ireturn, 1), (1050, .aload_n 1, 1), (1051, .aload_n 0, 1), (1052, .iload_n 3, 1), (1053, .iconst 1, 1), (1054, .iadd, 1), (1055, .iaload, 1), (1056, .invokevirtual 133, 3), (1059, .aload_n 2, 1), (1060, .aload_n 0, 1), (1061, .iload_n 3, 1), (1062, .iconst 1, 1), (1063, .iadd, 1), (1064, .iaload, 1)]
theorem rcL26 : rCode pLw_26 code := by unfold rCode; decide +kernel
def pLw_27 : List (Nat × Instr × Nat) := [(1065, .invokevirtual 136, 3), (1068, .if_icmp .eq 631, 3), (1071, .iconst 0, 1), (1072, .ireturn, 1), (1073, .aload_n 1, 1), (1074, .aload_n 0, 1), (1075, .iload_n 3, 1), (1076, .iconst 1, 1), (1077, .iadd, 1), (1078, .iaload, 1), (1079, .aload_n 0, 1), (1080, .iload_n 3, 1), (1081, .iconst 2, 1), (1082, .iadd, 1), (1083, .iaload, 1), (1084, .aload_n 0, 1), (1085, .iload_n 3, 1), (1086, .iconst 3, 1), (1087, .iadd, 1), (1088, .iaload, 1), (1089, .invokevirtual 137, 3), (1092, .aload_n 2, 1), (1093, .aload_n 0, 1), (1094, .iload_n 3, 1), (1095, .iconst 1, 1)]
theorem rcL27 : rCode pLw_27 code := by unfold rCode; decide +kernel
def pLw_28 : List (Nat × Instr × Nat) := [(1096, .iadd, 1), (1097, .iaload, 1), (1098, .aload_n 0, 1), (1099, .iload_n 3, 1), (1100, .iconst 2, 1), (1101, .iadd, 1), (1102, .iaload, 1), (1103, .aload_n 0, 1), (1104, .iload_n 3, 1), (1105, .iconst 3, 1), (1106, .iadd, 1), (1107, .iaload, 1), (1108, .invokevirtual 140, 3), (1111, .if_icmp .eq 588, 3), (1114, .iconst 0, 1), (1115, .ireturn, 1), (1116, .aload_n 1, 1), (1117, .aload_n 0, 1), (1118, .iload_n 3, 1), (1119, .iconst 1, 1), (1120, .iadd, 1), (1121, .iaload, 1), (1122, .aload_n 0, 1), (1123, .iload_n 3, 1), (1124, .iconst 2, 1)]
theorem rcL28 : rCode pLw_28 code := by unfold rCode; decide +kernel
def pLw_29 : List (Nat × Instr × Nat) := [(1125, .iadd, 1), (1126, .iaload, 1), (1127, .aload_n 0, 1), (1128, .iload_n 3, 1), (1129, .iconst 3, 1), (1130, .iadd, 1), (1131, .iaload, 1), (1132, .invokevirtual 141, 3), (1135, .aload_n 2, 1), (1136, .aload_n 0, 1), (1137, .iload_n 3, 1), (1138, .iconst 1, 1), (1139, .iadd, 1), (1140, .iaload, 1), (1141, .aload_n 0, 1), (1142, .iload_n 3, 1), (1143, .iconst 2, 1), (1144, .iadd, 1), (1145, .iaload, 1), (1146, .aload_n 0, 1), (1147, .iload_n 3, 1), (1148, .iconst 3, 1), (1149, .iadd, 1), (1150, .iaload, 1), (1151, .invokevirtual 145, 3)]
theorem rcL29 : rCode pLw_29 code := by unfold rCode; decide +kernel
end
section
def pLw_30 : List (Nat × Instr × Nat) := [(1154, .lcmp, 1), (1155, .ifCond .eq 544, 3), (1158, .iconst 0, 1), (1159, .ireturn, 1), (1160, .aload_n 1, 1), (1161, .aload_n 0, 1), (1162, .iload_n 3, 1), (1163, .iconst 1, 1), (1164, .iadd, 1), (1165, .iaload, 1), (1166, .aload_n 0, 1), (1167, .iload_n 3, 1), (1168, .iconst 2, 1), (1169, .iadd, 1), (1170, .iaload, 1), (1171, .invokevirtual 146, 3), (1174, .aload_n 2, 1), (1175, .aload_n 0, 1), (1176, .iload_n 3, 1), (1177, .iconst 1, 1), (1178, .iadd, 1), (1179, .iaload, 1), (1180, .aload_n 0, 1), (1181, .iload_n 3, 1), (1182, .iconst 2, 1)]
theorem rcL30 : rCode pLw_30 code := by unfold rCode; decide +kernel
def pLw_31 : List (Nat × Instr × Nat) := [(1183, .iadd, 1), (1184, .iaload, 1), (1185, .invokevirtual 150, 3), (1188, .lcmp, 1), (1189, .ifCond .eq 510, 3), (1192, .iconst 0, 1), (1193, .ireturn, 1), (1194, .aload_n 1, 1), (1195, .aload_n 0, 1), (1196, .iload_n 3, 1), (1197, .iconst 1, 1), (1198, .iadd, 1), (1199, .iaload, 1), (1200, .aload_n 0, 1), (1201, .iload_n 3, 1), (1202, .iconst 2, 1), (1203, .iadd, 1), (1204, .iaload, 1), (1205, .invokevirtual 151, 3), (1208, .aload_n 2, 1), (1209, .aload_n 0, 1), (1210, .iload_n 3, 1), (1211, .iconst 1, 1), (1212, .iadd, 1), (1213, .iaload, 1)]
theorem rcL31 : rCode pLw_31 code := by unfold rCode; decide +kernel
def pLw_32 : List (Nat × Instr × Nat) := [(1214, .aload_n 0, 1), (1215, .iload_n 3, 1), (1216, .iconst 2, 1), (1217, .iadd, 1), (1218, .iaload, 1), (1219, .invokevirtual 154, 3), (1222, .if_icmp .eq 477, 3), (1225, .iconst 0, 1), (1226, .ireturn, 1), (1227, .aload_n 1, 1), (1228, .aload_n 0, 1), (1229, .iload_n 3, 1), (1230, .iconst 1, 1), (1231, .iadd, 1), (1232, .iaload, 1), (1233, .aload_n 0, 1), (1234, .iload_n 3, 1), (1235, .iconst 2, 1), (1236, .iadd, 1), (1237, .iaload, 1), (1238, .invokevirtual 155, 3), (1241, .aload_n 2, 1), (1242, .aload_n 0, 1), (1243, .iload_n 3, 1), (1244, .iconst 1, 1)]
theorem rcL32 : rCode pLw_32 code := by unfold rCode; decide +kernel
def pLw_33 : List (Nat × Instr × Nat) := [(1245, .iadd, 1), (1246, .iaload, 1), (1247, .aload_n 0, 1), (1248, .iload_n 3, 1), (1249, .iconst 2, 1), (1250, .iadd, 1), (1251, .iaload, 1), (1252, .invokevirtual 158, 3), (1255, .if_icmp .eq 444, 3), (1258, .iconst 0, 1), (1259, .ireturn, 1), (1260, .aload_n 1, 1), (1261, .aload_n 0, 1), (1262, .iload_n 3, 1), (1263, .iconst 1, 1), (1264, .iadd, 1), (1265, .iaload, 1), (1266, .aload_n 0, 1), (1267, .iload_n 3, 1), (1268, .iconst 2, 1), (1269, .iadd, 1), (1270, .iaload, 1), (1271, .aload_n 0, 1), (1272, .iload_n 3, 1), (1273, .iconst 3, 1)]
theorem rcL33 : rCode pLw_33 code := by unfold rCode; decide +kernel
def pLw_34 : List (Nat × Instr × Nat) := [(1274, .iadd, 1), (1275, .iaload, 1), (1276, .invokevirtual 159, 3), (1279, .aload_n 2, 1), (1280, .aload_n 0, 1), (1281, .iload_n 3, 1), (1282, .iconst 1, 1), (1283, .iadd, 1), (1284, .iaload, 1), (1285, .aload_n 0, 1), (1286, .iload_n 3, 1), (1287, .iconst 2, 1), (1288, .iadd, 1), (1289, .iaload, 1), (1290, .aload_n 0, 1), (1291, .iload_n 3, 1), (1292, .iconst 3, 1), (1293, .iadd, 1), (1294, .iaload, 1), (1295, .invokevirtual 162, 3), (1298, .if_icmp .eq 401, 3), (1301, .iconst 0, 1), (1302, .ireturn, 1), (1303, .aload_n 1, 1), (1304, .aload_n 0, 1)]
theorem rcL34 : rCode pLw_34 code := by unfold rCode; decide +kernel
def pLw_35 : List (Nat × Instr × Nat) := [(1305, .iload_n 3, 1), (1306, .iconst 1, 1), (1307, .iadd, 1), (1308, .iaload, 1), (1309, .invokevirtual 163, 3), (1312, .aload_n 2, 1), (1313, .aload_n 0, 1), (1314, .iload_n 3, 1), (1315, .iconst 1, 1), (1316, .iadd, 1), (1317, .iaload, 1), (1318, .invokevirtual 166, 3), (1321, .if_icmp .eq 378, 3), (1324, .iconst 0, 1), (1325, .ireturn, 1), (1326, .aload_n 1, 1), (1327, .aload_n 0, 1), (1328, .iload_n 3, 1), (1329, .iconst 1, 1), (1330, .iadd, 1), (1331, .iaload, 1), (1332, .aload_n 0, 1), (1333, .iload_n 3, 1), (1334, .iconst 2, 1), (1335, .iadd, 1)]
theorem rcL35 : rCode pLw_35 code := by unfold rCode; decide +kernel
def pLw_36 : List (Nat × Instr × Nat) := [(1336, .iaload, 1), (1337, .aload_n 0, 1), (1338, .iload_n 3, 1), (1339, .iconst 3, 1), (1340, .iadd, 1), (1341, .iaload, 1), (1342, .aload_n 0, 1), (1343, .iload_n 3, 1), (1344, .iconst 4, 1), (1345, .iadd, 1), (1346, .iaload, 1), (1347, .invokevirtual 167, 3), (1350, .aload_n 2, 1), (1351, .aload_n 0, 1), (1352, .iload_n 3, 1), (1353, .iconst 1, 1), (1354, .iadd, 1), (1355, .iaload, 1), (1356, .aload_n 0, 1), (1357, .iload_n 3, 1), (1358, .iconst 2, 1), (1359, .iadd, 1), (1360, .iaload, 1), (1361, .aload_n 0, 1), (1362, .iload_n 3, 1)]
theorem rcL36 : rCode pLw_36 code := by unfold rCode; decide +kernel
def pLw_37 : List (Nat × Instr × Nat) := [(1363, .iconst 3, 1), (1364, .iadd, 1), (1365, .iaload, 1), (1366, .aload_n 0, 1), (1367, .iload_n 3, 1), (1368, .iconst 4, 1), (1369, .iadd, 1), (1370, .iaload, 1), (1371, .invokevirtual 170, 3), (1374, .if_icmp .eq 325, 3), (1377, .iconst 0, 1), (1378, .ireturn, 1), (1379, .aload_n 1, 1), (1380, .aload_n 0, 1), (1381, .iload_n 3, 1), (1382, .iconst 1, 1), (1383, .iadd, 1), (1384, .iaload, 1), (1385, .aload_n 0, 1), (1386, .iload_n 3, 1), (1387, .iconst 2, 1), (1388, .iadd, 1), (1389, .iaload, 1), (1390, .aload_n 0, 1), (1391, .iload_n 3, 1)]
theorem rcL37 : rCode pLw_37 code := by unfold rCode; decide +kernel
def pLw_38 : List (Nat × Instr × Nat) := [(1392, .iconst 3, 1), (1393, .iadd, 1), (1394, .iaload, 1), (1395, .invokevirtual 171, 3), (1398, .aload_n 2, 1), (1399, .aload_n 0, 1), (1400, .iload_n 3, 1), (1401, .iconst 1, 1), (1402, .iadd, 1), (1403, .iaload, 1), (1404, .aload_n 0, 1), (1405, .iload_n 3, 1), (1406, .iconst 2, 1), (1407, .iadd, 1), (1408, .iaload, 1), (1409, .aload_n 0, 1), (1410, .iload_n 3, 1), (1411, .iconst 3, 1), (1412, .iadd, 1), (1413, .iaload, 1), (1414, .invokevirtual 174, 3), (1417, .if_icmp .eq 282, 3), (1420, .iconst 0, 1), (1421, .ireturn, 1), (1422, .aload_n 1, 1)]
theorem rcL38 : rCode pLw_38 code := by unfold rCode; decide +kernel
def pLw_39 : List (Nat × Instr × Nat) := [(1423, .aload_n 0, 1), (1424, .iload_n 3, 1), (1425, .iconst 1, 1), (1426, .iadd, 1), (1427, .iaload, 1), (1428, .aload_n 0, 1), (1429, .iload_n 3, 1), (1430, .iconst 2, 1), (1431, .iadd, 1), (1432, .iaload, 1), (1433, .aload_n 0, 1), (1434, .iload_n 3, 1), (1435, .iconst 3, 1), (1436, .iadd, 1), (1437, .iaload, 1), (1438, .invokevirtual 175, 3), (1441, .aload_n 2, 1), (1442, .aload_n 0, 1), (1443, .iload_n 3, 1), (1444, .iconst 1, 1), (1445, .iadd, 1), (1446, .iaload, 1), (1447, .aload_n 0, 1), (1448, .iload_n 3, 1), (1449, .iconst 2, 1)]
theorem rcL39 : rCode pLw_39 code := by unfold rCode; decide +kernel
end
section
def pLw_40 : List (Nat × Instr × Nat) := [(1450, .iadd, 1), (1451, .iaload, 1), (1452, .aload_n 0, 1), (1453, .iload_n 3, 1), (1454, .iconst 3, 1), (1455, .iadd, 1), (1456, .iaload, 1), (1457, .invokevirtual 178, 3), (1460, .if_icmp .eq 239, 3), (1463, .iconst 0, 1), (1464, .ireturn, 1), (1465, .aload_n 1, 1), (1466, .aload_n 0, 1), (1467, .iload_n 3, 1), (1468, .iconst 1, 1), (1469, .iadd, 1), (1470, .iaload, 1), (1471, .aload_n 0, 1), (1472, .iload_n 3, 1), (1473, .iconst 2, 1), (1474, .iadd, 1), (1475, .iaload, 1), (1476, .aload_n 0, 1), (1477, .iload_n 3, 1), (1478, .iconst 3, 1)]
theorem rcL40 : rCode pLw_40 code := by unfold rCode; decide +kernel
def pLw_41 : List (Nat × Instr × Nat) := [(1479, .iadd, 1), (1480, .iaload, 1), (1481, .invokevirtual 179, 3), (1484, .aload_n 2, 1), (1485, .aload_n 0, 1), (1486, .iload_n 3, 1), (1487, .iconst 1, 1), (1488, .iadd, 1), (1489, .iaload, 1), (1490, .aload_n 0, 1), (1491, .iload_n 3, 1), (1492, .iconst 2, 1), (1493, .iadd, 1), (1494, .iaload, 1), (1495, .aload_n 0, 1), (1496, .iload_n 3, 1), (1497, .iconst 3, 1), (1498, .iadd, 1), (1499, .iaload, 1), (1500, .invokevirtual 182, 3), (1503, .if_icmp .eq 196, 3), (1506, .iconst 0, 1), (1507, .ireturn, 1), (1508, .aload_n 1, 1), (1509, .aload_n 0, 1)]
theorem rcL41 : rCode pLw_41 code := by unfold rCode; decide +kernel
def pLw_42 : List (Nat × Instr × Nat) := [(1510, .iload_n 3, 1), (1511, .iconst 1, 1), (1512, .iadd, 1), (1513, .iaload, 1), (1514, .aload_n 0, 1), (1515, .iload_n 3, 1), (1516, .iconst 2, 1), (1517, .iadd, 1), (1518, .iaload, 1), (1519, .aload_n 0, 1), (1520, .iload_n 3, 1), (1521, .iconst 3, 1), (1522, .iadd, 1), (1523, .iaload, 1), (1524, .invokevirtual 183, 3), (1527, .aload_n 2, 1), (1528, .aload_n 0, 1), (1529, .iload_n 3, 1), (1530, .iconst 1, 1), (1531, .iadd, 1), (1532, .iaload, 1), (1533, .aload_n 0, 1), (1534, .iload_n 3, 1), (1535, .iconst 2, 1), (1536, .iadd, 1)]
theorem rcL42 : rCode pLw_42 code := by unfold rCode; decide +kernel
def pLw_43 : List (Nat × Instr × Nat) := [(1537, .iaload, 1), (1538, .aload_n 0, 1), (1539, .iload_n 3, 1), (1540, .iconst 3, 1), (1541, .iadd, 1), (1542, .iaload, 1), (1543, .invokevirtual 186, 3), (1546, .if_icmp .eq 153, 3), (1549, .iconst 0, 1), (1550, .ireturn, 1), (1551, .aload_n 1, 1), (1552, .aload_n 0, 1), (1553, .iload_n 3, 1), (1554, .iconst 1, 1), (1555, .iadd, 1), (1556, .iaload, 1), (1557, .aload_n 0, 1), (1558, .iload_n 3, 1), (1559, .iconst 2, 1), (1560, .iadd, 1), (1561, .iaload, 1), (1562, .invokevirtual 187, 3), (1565, .aload_n 2, 1), (1566, .aload_n 0, 1), (1567, .iload_n 3, 1)]
theorem rcL43 : rCode pLw_43 code := by unfold rCode; decide +kernel
def pLw_44 : List (Nat × Instr × Nat) := [(1568, .iconst 1, 1), (1569, .iadd, 1), (1570, .iaload, 1), (1571, .aload_n 0, 1), (1572, .iload_n 3, 1), (1573, .iconst 2, 1), (1574, .iadd, 1), (1575, .iaload, 1), (1576, .invokevirtual 190, 3), (1579, .if_icmp .eq 120, 3), (1582, .iconst 0, 1), (1583, .ireturn, 1), (1584, .aload_n 1, 1), (1585, .aload_n 0, 1), (1586, .iload_n 3, 1), (1587, .iconst 1, 1), (1588, .iadd, 1), (1589, .iaload, 1), (1590, .aload_n 0, 1), (1591, .iload_n 3, 1), (1592, .iconst 2, 1), (1593, .iadd, 1), (1594, .iaload, 1), (1595, .aload_n 0, 1), (1596, .iload_n 3, 1)]
theorem rcL44 : rCode pLw_44 code := by unfold rCode; decide +kernel
def pLw_45 : List (Nat × Instr × Nat) := [(1597, .iconst 3, 1), (1598, .iadd, 1), (1599, .iaload, 1), (1600, .invokevirtual 191, 3), (1603, .aload_n 2, 1), (1604, .aload_n 0, 1), (1605, .iload_n 3, 1), (1606, .iconst 1, 1), (1607, .iadd, 1), (1608, .iaload, 1), (1609, .aload_n 0, 1), (1610, .iload_n 3, 1), (1611, .iconst 2, 1), (1612, .iadd, 1), (1613, .iaload, 1), (1614, .aload_n 0, 1), (1615, .iload_n 3, 1), (1616, .iconst 3, 1), (1617, .iadd, 1), (1618, .iaload, 1), (1619, .invokevirtual 194, 3), (1622, .if_icmp .eq 77, 3), (1625, .iconst 0, 1), (1626, .ireturn, 1), (1627, .aload_n 1, 1)]
theorem rcL45 : rCode pLw_45 code := by unfold rCode; decide +kernel
def pLw_46 : List (Nat × Instr × Nat) := [(1628, .aload_n 0, 1), (1629, .iload_n 3, 1), (1630, .iconst 1, 1), (1631, .iadd, 1), (1632, .iaload, 1), (1633, .invokevirtual 195, 3), (1636, .aload_n 2, 1), (1637, .aload_n 0, 1), (1638, .iload_n 3, 1), (1639, .iconst 1, 1), (1640, .iadd, 1), (1641, .iaload, 1), (1642, .invokevirtual 198, 3), (1645, .if_icmp .eq 54, 3), (1648, .iconst 0, 1), (1649, .ireturn, 1), (1650, .aload_n 1, 1), (1651, .aload_n 0, 1), (1652, .iload_n 3, 1), (1653, .iconst 1, 1), (1654, .iadd, 1), (1655, .iaload, 1), (1656, .invokevirtual 199, 3), (1659, .aload_n 2, 1), (1660, .aload_n 0, 1)]
theorem rcL46 : rCode pLw_46 code := by unfold rCode; decide +kernel
def pLw_47 : List (Nat × Instr × Nat) := [(1661, .iload_n 3, 1), (1662, .iconst 1, 1), (1663, .iadd, 1), (1664, .iaload, 1), (1665, .invokevirtual 202, 3), (1668, .if_icmp .eq 31, 3), (1671, .iconst 0, 1), (1672, .ireturn, 1), (1673, .aload_n 1, 1), (1674, .invokevirtual 203, 3), (1677, .aload_n 2, 1), (1678, .invokevirtual 206, 3), (1681, .if_icmp .eq 18, 3), (1684, .iconst 0, 1), (1685, .ireturn, 1), (1686, .aload_n 1, 1), (1687, .invokevirtual 207, 3), (1690, .aload_n 2, 1), (1691, .invokevirtual 210, 3), (1694, .if_icmp .eq 5, 3), (1697, .iconst 0, 1), (1698, .ireturn, 1), (1699, .iinc 3 5, 3), (1702, .goto (-1684), 3), (1705, .iconst 1, 1)]
theorem rcL47 : rCode pLw_47 code := by unfold rCode; decide +kernel
def pLw_48 : List (Nat × Instr × Nat) := [(1706, .ireturn, 1)]
theorem rcL48 : rCode pLw_48 code := by unfold rCode; decide +kernel
set_option maxRecDepth 100000 in
theorem pLw_all : pLw_law = pLw_0 ++ (pLw_1 ++ (pLw_2 ++ (pLw_3 ++ (pLw_4 ++ (pLw_5 ++ (pLw_6 ++ (pLw_7 ++ (pLw_8 ++ (pLw_9 ++ (pLw_10 ++ (pLw_11 ++ (pLw_12 ++ (pLw_13 ++ (pLw_14 ++ (pLw_15 ++ (pLw_16 ++ (pLw_17 ++ (pLw_18 ++ (pLw_19 ++ (pLw_20 ++ (pLw_21 ++ (pLw_22 ++ (pLw_23 ++ (pLw_24 ++ (pLw_25 ++ (pLw_26 ++ (pLw_27 ++ (pLw_28 ++ (pLw_29 ++ (pLw_30 ++ (pLw_31 ++ (pLw_32 ++ (pLw_33 ++ (pLw_34 ++ (pLw_35 ++ (pLw_36 ++ (pLw_37 ++ (pLw_38 ++ (pLw_39 ++ (pLw_40 ++ (pLw_41 ++ (pLw_42 ++ (pLw_43 ++ (pLw_44 ++ (pLw_45 ++ (pLw_46 ++ (pLw_47 ++ (pLw_48)))))))))))))))))))))))))))))))))))))))))))))))) := by decide +kernel
theorem rcLaw : rCode pLw_law (rBy 238) := by
  show ∀ q ∈ pLw_law, decode code q.1 = .ok q.2 ∧ rChk q.1 q.2.1 q.2.2 = true
  rw [pLw_all]
  exact List.forall_mem_append.mpr ⟨rcL0, List.forall_mem_append.mpr ⟨rcL1, List.forall_mem_append.mpr ⟨rcL2, List.forall_mem_append.mpr ⟨rcL3, List.forall_mem_append.mpr ⟨rcL4, List.forall_mem_append.mpr ⟨rcL5, List.forall_mem_append.mpr ⟨rcL6, List.forall_mem_append.mpr ⟨rcL7, List.forall_mem_append.mpr ⟨rcL8, List.forall_mem_append.mpr ⟨rcL9, List.forall_mem_append.mpr ⟨rcL10, List.forall_mem_append.mpr ⟨rcL11, List.forall_mem_append.mpr ⟨rcL12, List.forall_mem_append.mpr ⟨rcL13, List.forall_mem_append.mpr ⟨rcL14, List.forall_mem_append.mpr ⟨rcL15, List.forall_mem_append.mpr ⟨rcL16, List.forall_mem_append.mpr ⟨rcL17, List.forall_mem_append.mpr ⟨rcL18, List.forall_mem_append.mpr ⟨rcL19, List.forall_mem_append.mpr ⟨rcL20, List.forall_mem_append.mpr ⟨rcL21, List.forall_mem_append.mpr ⟨rcL22, List.forall_mem_append.mpr ⟨rcL23, List.forall_mem_append.mpr ⟨rcL24, List.forall_mem_append.mpr ⟨rcL25, List.forall_mem_append.mpr ⟨rcL26, List.forall_mem_append.mpr ⟨rcL27, List.forall_mem_append.mpr ⟨rcL28, List.forall_mem_append.mpr ⟨rcL29, List.forall_mem_append.mpr ⟨rcL30, List.forall_mem_append.mpr ⟨rcL31, List.forall_mem_append.mpr ⟨rcL32, List.forall_mem_append.mpr ⟨rcL33, List.forall_mem_append.mpr ⟨rcL34, List.forall_mem_append.mpr ⟨rcL35, List.forall_mem_append.mpr ⟨rcL36, List.forall_mem_append.mpr ⟨rcL37, List.forall_mem_append.mpr ⟨rcL38, List.forall_mem_append.mpr ⟨rcL39, List.forall_mem_append.mpr ⟨rcL40, List.forall_mem_append.mpr ⟨rcL41, List.forall_mem_append.mpr ⟨rcL42, List.forall_mem_append.mpr ⟨rcL43, List.forall_mem_append.mpr ⟨rcL44, List.forall_mem_append.mpr ⟨rcL45, List.forall_mem_append.mpr ⟨rcL46, List.forall_mem_append.mpr ⟨rcL47, rcL48⟩⟩⟩⟩⟩⟩⟩⟩⟩⟩⟩⟩⟩⟩⟩⟩⟩⟩⟩⟩⟩⟩⟩⟩⟩⟩⟩⟩⟩⟩⟩⟩⟩⟩⟩⟩⟩⟩⟩⟩⟩⟩⟩⟩⟩⟩⟩⟩
theorem rCodes : ∀ (M' : rM) (i : Nat), rOkM M' i → rNth rMs i = some M' → rCode M'.2.1 (rBy i) := fun M' i hM h => match i, hM, h with
  | 0, hM, h => by cases h; exact rc0
  | 1, hM, h => by cases h; exact rc1
  | 2, hM, h => by cases h; exact rc2
  | 3, hM, h => by cases h; exact rc3
  | 4, hM, h => by cases h; exact rc4
  | 5, hM, h => by cases h; exact rc5
  | 6, hM, h => by cases h; exact rc6
  | 7, hM, h => by cases h; exact rc7
  | 8, hM, h => by cases h; exact rc8
  | 9, hM, h => by cases h; exact rc9
  | 10, hM, h => by cases h; exact rc10
  | 11, hM, h => by cases h; exact rc11
  | 12, hM, h => by cases h; exact rc12
  | 13, hM, h => by cases h; exact rc13
  | 14, hM, h => by cases h; exact rc14
  | 15, hM, h => by cases h; exact rc15
  | 16, hM, h => by cases h; exact rc16
  | 17, hM, h => by cases h; exact rc17
  | 18, hM, h => by cases h; exact rc18
  | 19, hM, h => by cases h; exact rc19
  | 20, hM, h => by cases h; exact rc20
  | 21, hM, h => by cases h; exact rc21
  | 22, hM, h => by cases h; exact rc22
  | 23, hM, h => by cases h; exact rc23
  | 24, hM, h => by cases h; exact rc24
  | 25, hM, h => by cases h; exact rc25
  | 26, hM, h => by cases h; exact rc26
  | 27, hM, h => by cases h; exact rc27
  | 28, hM, h => by cases h; exact rc28
  | 29, hM, h => by cases h; exact rc29
  | 30, hM, h => by cases h; exact rc30
  | 31, hM, h => by cases h; exact rc31
  | 32, hM, h => by cases h; exact rc32
  | 33, hM, h => by cases h; exact rc33
  | 34, hM, h => by cases h; exact rc34
  | 35, hM, h => by cases h; exact rc35
  | 36, hM, h => by cases h; exact rc36
  | 37, hM, h => by cases h; exact rc37
  | 38, hM, h => by cases h; exact rc38
  | 39, hM, h => by cases h; exact rc39
  | 40, hM, h => by cases h; exact rc40
  | 41, hM, h => by cases h; exact rc41
  | 42, hM, h => by cases h; exact rc42
  | 43, hM, h => by cases h; exact rc43
  | 44, hM, h => by cases h; exact rc44
  | 45, hM, h => by cases h; exact rc45
  | 46, hM, h => by cases h; exact rc46
  | 47, hM, h => by cases h; exact rc47
  | 48, hM, h => by cases h; exact rc48
  | 49, hM, h => by cases h; exact rc49
  | 50, hM, h => by cases h; exact rc50
  | 51, hM, h => by cases h; exact rc51
  | 52, hM, h => by cases h; exact rc52
  | 53, hM, h => by cases h; exact rc53
  | 54, hM, h => by cases h; exact rc54
  | 55, hM, h => by cases h; exact rc55
  | 56, hM, h => by cases h; exact rc56
  | 57, hM, h => by cases h; exact rc57
  | 58, hM, h => by cases h; exact rc58
  | 59, hM, h => by cases h; exact rc59
  | 60, hM, h => by cases h; exact rc60
  | 61, hM, h => by cases h; exact rc61
  | 62, hM, h => by cases h; exact rc62
  | 63, hM, h => by cases h; exact rc63
  | 64, hM, h => by cases h; exact rc64
  | 65, hM, h => by cases h; exact rc65
  | 66, hM, h => by cases h; exact rc66
  | 67, hM, h => by cases h; exact rc67
  | 68, hM, h => by cases h; exact rc68
  | 69, hM, h => by cases h; exact rc69
  | 70, hM, h => by cases h; exact rc70
  | 71, hM, h => by cases h; exact rc71
  | 72, hM, h => by cases h; exact rc72
  | 73, hM, h => by cases h; exact rc73
  | 74, hM, h => by cases h; exact rc74
  | 75, hM, h => by cases h; exact rc75
  | 76, hM, h => by cases h; exact rc76
  | 77, hM, h => by cases h; exact rc77
  | 78, hM, h => by cases h; exact rc78
  | 79, hM, h => by cases h; exact rc79
  | 80, hM, h => by cases h; exact rc80
  | 81, hM, h => by cases h; exact rc81
  | 82, hM, h => by cases h; exact rc82
  | 83, hM, h => by cases h; exact rc83
  | 84, hM, h => by cases h; exact rc84
  | 85, hM, h => by cases h; exact rc85
  | 86, hM, h => by cases h; exact rc86
  | 87, hM, h => by cases h; exact rc87
  | 88, hM, h => by cases h; exact rc88
  | 89, hM, h => by cases h; exact rc89
  | 90, hM, h => by cases h; exact rc90
  | 91, hM, h => by cases h; exact rc91
  | 92, hM, h => by cases h; exact rc92
  | 93, hM, h => by cases h; exact rc93
  | 94, hM, h => by cases h; exact rc94
  | 95, hM, h => by cases h; exact rc95
  | 96, hM, h => by cases h; exact rc96
  | 97, hM, h => by cases h; exact rc97
  | 98, hM, h => by cases h; exact rc98
  | 99, hM, h => by cases h; exact rc99
  | 100, hM, h => by cases h; exact rc100
  | 101, hM, h => by cases h; exact rc101
  | 102, hM, h => by cases h; exact rc102
  | 103, hM, h => by cases h; exact rc103
  | 104, hM, h => by cases h; exact rc104
  | 105, hM, h => by cases h; exact rc105
  | 106, hM, h => by cases h; exact rc106
  | 107, hM, h => by cases h; exact rc107
  | 108, hM, h => by cases h; exact rc108
  | 109, hM, h => by cases h; exact rc109
  | 110, hM, h => by cases h; exact rc110
  | 111, hM, h => by cases h; exact rc111
  | 112, hM, h => by cases h; exact rc112
  | 113, hM, h => by cases h; exact rc113
  | 114, hM, h => by cases h; exact rc114
  | 115, hM, h => by cases h; exact rc115
  | 116, hM, h => by cases h; exact rc116
  | 117, hM, h => by cases h; exact rc117
  | 118, hM, h => by cases h; exact rc118
  | 119, hM, h => by cases h; exact rc119
  | 120, hM, h => by cases h; exact rc120
  | 121, hM, h => by cases h; exact rc121
  | 122, hM, h => by cases h; exact rc122
  | 123, hM, h => by cases h; exact rc123
  | 124, hM, h => by cases h; exact rc124
  | 125, hM, h => by cases h; exact rc125
  | 126, hM, h => by cases h; exact rc126
  | 127, hM, h => by cases h; exact rc127
  | 128, hM, h => by cases h; exact rc128
  | 129, hM, h => by cases h; exact rc129
  | 130, hM, h => by cases h; exact rc130
  | 131, hM, h => by cases h; exact rc131
  | 132, hM, h => by cases h; exact rc132
  | 133, hM, h => by cases h; exact rc133
  | 134, hM, h => by cases h; exact rc134
  | 135, hM, h => by cases h; exact rc135
  | 136, hM, h => by cases h; exact rc136
  | 137, hM, h => by cases h; exact rc137
  | 138, hM, h => by cases h; exact rc138
  | 139, hM, h => by cases h; exact rc139
  | 140, hM, h => by cases h; exact rc140
  | 141, hM, h => by cases h; exact rc141
  | 142, hM, h => by cases h; exact rc142
  | 143, hM, h => by cases h; exact rc143
  | 144, hM, h => by cases h; exact rc144
  | 145, hM, h => by cases h; exact rc145
  | 146, hM, h => by cases h; exact rc146
  | 147, hM, h => by cases h; exact rc147
  | 148, hM, h => by cases h; exact rc148
  | 149, hM, h => by cases h; exact rc149
  | 150, hM, h => by cases h; exact rc150
  | 151, hM, h => by cases h; exact rc151
  | 152, hM, h => by cases h; exact rc152
  | 153, hM, h => by cases h; exact rc153
  | 154, hM, h => by cases h; exact rc154
  | 155, hM, h => by cases h; exact rc155
  | 156, hM, h => by cases h; exact rc156
  | 157, hM, h => by cases h; exact rc157
  | 158, hM, h => by cases h; exact rc158
  | 159, hM, h => by cases h; exact rc159
  | 160, hM, h => by cases h; exact rc160
  | 161, hM, h => by cases h; exact rc161
  | 162, hM, h => by cases h; exact rc162
  | 163, hM, h => by cases h; exact rc163
  | 164, hM, h => by cases h; exact rc164
  | 165, hM, h => by cases h; exact rc165
  | 166, hM, h => by cases h; exact rc166
  | 167, hM, h => by cases h; exact rc167
  | 168, hM, h => by cases h; exact rc168
  | 169, hM, h => by cases h; exact rc169
  | 170, hM, h => by cases h; exact rc170
  | 171, hM, h => by cases h; exact rc171
  | 172, hM, h => by cases h; exact rc172
  | 173, hM, h => by cases h; exact rc173
  | 174, hM, h => by cases h; exact rc174
  | 175, hM, h => by cases h; exact rc175
  | 176, hM, h => by cases h; exact rc176
  | 177, hM, h => by cases h; exact rc177
  | 178, hM, h => by cases h; exact rc178
  | 179, hM, h => by cases h; exact rc179
  | 180, hM, h => by cases h; exact rc180
  | 181, hM, h => by cases h; exact rc181
  | 182, hM, h => by cases h; exact rc182
  | 183, hM, h => by cases h; exact rc183
  | 184, hM, h => by cases h; exact rc184
  | 185, hM, h => by cases h; exact rc185
  | 186, hM, h => by cases h; exact rc186
  | 187, hM, h => by cases h; exact rc187
  | 188, hM, h => by cases h; exact rc188
  | 189, hM, h => by cases h; exact rc189
  | 190, hM, h => by cases h; exact rc190
  | 191, hM, h => by cases h; exact rc191
  | 192, hM, h => by cases h; exact rc192
  | 193, hM, h => by cases h; exact rc193
  | 194, hM, h => by cases h; exact rc194
  | 195, hM, h => by cases h; exact rc195
  | 196, hM, h => by cases h; exact rc196
  | 197, hM, h => by cases h; exact rc197
  | 198, hM, h => by cases h; exact rc198
  | 199, hM, h => by cases h; exact rc199
  | 200, hM, h => by cases h; exact rc200
  | 201, hM, h => by cases h; exact rc201
  | 202, hM, h => by cases h; exact rc202
  | 203, hM, h => by cases h; exact rc203
  | 204, hM, h => by cases h; exact rc204
  | 205, hM, h => by cases h; exact rc205
  | 206, hM, h => by cases h; exact rc206
  | 207, hM, h => by cases h; exact rc207
  | 208, hM, h => by cases h; exact rc208
  | 209, hM, h => by cases h; exact rc209
  | 210, hM, h => by cases h; exact rc210
  | 211, hM, h => by cases h; exact rc211
  | 212, hM, h => by cases h; exact rc212
  | 213, hM, h => by cases h; exact rc213
  | 214, hM, h => by cases h; exact rc214
  | 215, hM, h => by cases h; exact rc215
  | 216, hM, h => by cases h; exact rc216
  | 217, hM, h => by cases h; exact rc217
  | 218, hM, h => by cases h; exact rc218
  | 219, hM, h => by cases h; exact rc219
  | 220, hM, h => by cases h; exact rc220
  | 221, hM, h => by cases h; exact rc221
  | 222, hM, h => by cases h; exact rc222
  | 223, hM, h => by cases h; exact rc223
  | 224, hM, h => by cases h; exact rc224
  | 225, hM, h => by cases h; exact rc225
  | 226, hM, h => by cases h; exact rc226
  | 227, hM, h => by cases h; exact rc227
  | 228, hM, h => by cases h; exact rc228
  | 229, hM, h => by cases h; exact rc229
  | 230, hM, h => by cases h; exact rc230
  | 231, hM, h => by cases h; exact rc231
  | 232, hM, h => by cases h; exact rc232
  | 233, hM, h => by cases h; exact rc233
  | 234, hM, h => by cases h; exact rc234
  | 235, hM, h => by cases h; exact rc235
  | 236, hM, h => by cases h; exact rc236
  | 237, hM, h => by cases h; exact rc237
  | 238, hM, h => by cases h; exact rcLaw
  | n + 239, hM, h => by cases h
end
section
/-! the law's entry: what the Statement gives of the start, and R for the law itself -/
theorem rLt1 {w : Cond} (i : Nat) (h : tables_1_1[i]? = some w) : w ∈ lw_tbl := List.mem_append_right _ (List.mem_append_left _ (List.mem_of_getElem? h))
theorem rLt2 {w : Cond} (i : Nat) (h : tables_1_2[i]? = some w) : w ∈ lw_tbl := List.mem_append_right _ (List.mem_append_right _ (List.mem_append_left _ (List.mem_of_getElem? h)))
theorem rLt3 {w : Cond} (i : Nat) (h : tables_1_3[i]? = some w) : w ∈ lw_tbl := List.mem_append_right _ (List.mem_append_right _ (List.mem_append_right _ (List.mem_append_left _ (List.mem_of_getElem? h))))
theorem rLt4 {w : Cond} (i : Nat) (h : tables_1_4[i]? = some w) : w ∈ lw_tbl := List.mem_append_right _ (List.mem_append_right _ (List.mem_append_right _ (List.mem_append_right _ (List.mem_append_left _ (List.mem_of_getElem? h)))))
theorem rLt5 {w : Cond} (i : Nat) (h : tables_1_5[i]? = some w) : w ∈ lw_tbl := List.mem_append_right _ (List.mem_append_right _ (List.mem_append_right _ (List.mem_append_right _ (List.mem_append_right _ (List.mem_append_left _ (List.mem_of_getElem? h))))))
theorem rLt6 {w : Cond} (i : Nat) (h : tables_1_6[i]? = some w) : w ∈ lw_tbl := List.mem_append_right _ (List.mem_append_right _ (List.mem_append_right _ (List.mem_append_right _ (List.mem_append_right _ (List.mem_append_right _ ((List.mem_of_getElem? h)))))))
set_option maxRecDepth 20000 in
theorem rStr_in : ∀ (i : Nat) (q : Nat × String), rStrs[i]? = some q → Cond.stringRef "SampleLayers$Text" q.1 q.2 ∈ lw_tbl := fun i q h => match i, h with
  | 0, h => by cases h; exact rLt2 3 rfl
  | 1, h => by cases h; exact rLt2 56 rfl
  | 2, h => by cases h; exact rLt2 57 rfl
  | 3, h => by cases h; exact rLt2 58 rfl
  | 4, h => by cases h; exact rLt2 59 rfl
  | 5, h => by cases h; exact rLt2 60 rfl
  | 6, h => by cases h; exact rLt2 69 rfl
  | 7, h => by cases h; exact rLt2 74 rfl
  | 8, h => by cases h; exact rLt2 75 rfl
  | 9, h => by cases h; exact rLt2 92 rfl
  | 10, h => by cases h; exact rLt2 93 rfl
  | 11, h => by cases h; exact rLt2 94 rfl
  | 12, h => by cases h; exact rLt2 95 rfl
  | 13, h => by cases h; exact rLt2 96 rfl
  | 14, h => by cases h; exact rLt2 97 rfl
  | n + 15, h => by cases h
set_option maxRecDepth 20000 in
theorem rStU : Cond.laysStatic "SampleLayers" "UNDER" "[I" ∈ lw_tbl ∧ Cond.initialized "SampleLayers" ∈ lw_tbl := ⟨rLt3 208 rfl, rLt1 1 rfl⟩
set_option maxRecDepth 20000 in
theorem rStO : Cond.laysStatic "SampleLayers$Acts" "OWN_BODIES" "[I" ∈ lw_tbl ∧ Cond.initialized "SampleLayers$Acts" ∈ lw_tbl := ⟨rLt3 234 rfl, rLt1 6 rfl⟩
set_option maxRecDepth 20000 in
theorem rStC : Cond.laysStatic "java/lang/String" "COMPACT_STRINGS" "Z" ∈ lw_tbl ∧ Cond.initialized "java/lang/String" ∈ lw_tbl := ⟨rLt2 17 rfl, rLt1 8 rfl⟩
set_option maxRecDepth 20000 in
theorem rStF : Cond.laysStatic "jdk/internal/util/Preconditions" "SIOOBE_FORMATTER" "Ljava/util/function/BiFunction;" ∈ lw_tbl ∧ Cond.initialized "jdk/internal/util/Preconditions" ∈ lw_tbl := ⟨rLt2 33 rfl, rLt1 10 rfl⟩
abbrev rGiven : List Cond := flatC (Jvm.Cond.and given_1 narrow_1)
abbrev rTu : Term := .static "SampleLayers" "UNDER" "[I"
abbrev rTo : Term := .static "SampleLayers$Acts" "OWN_BODIES" "[I"
abbrev rTs (i : Nat) : Term := .string "SampleLayers$Text" (rStrs.getD i (0, "")).1
abbrev rTv (i : Nat) : Term := .field (rTs i) "java/lang/String" "value" "[B"

section GIV
variable {args : Array Value} {s : State}
theorem gL {a b : Cond} (h : (Cond.and a b).before args s = true) : a.before args s = true := by
  rw [Cond.before_and, Bool.and_eq_true] at h
  exact h.1
theorem gR {a b : Cond} (h : (Cond.and a b).before args s = true) : b.before args s = true := by
  rw [Cond.before_and, Bool.and_eq_true] at h
  exact h.2
theorem rg1 (hn : narrow_1.before args s = true) : (Cond.arrayOf rTu .int).before args s = true ∧ (Cond.eq (.length rTu) (.int (Int32.ofNat 6))).before args s = true ∧ ∀ j, j < 6 → (Cond.eq (.elem rTu (.int (Int32.ofNat j))) (.int (rUnder.getD j 0))).before args s = true := ⟨gL (gL (gL (gR (gL (gL (gL (gL hn))))))), gR (gL (gL (gR (gL (gL (gL (gL hn))))))), fun j hj => match j, hj with
  | 0, _ => gL (gR (gL (gR (gL (gL (gL (gL hn)))))))
  | 1, _ => gR (gR (gL (gR (gL (gL (gL (gL hn)))))))
  | 2, _ => gL (gL (gR (gR (gL (gL (gL (gL hn)))))))
  | 3, _ => gR (gL (gR (gR (gL (gL (gL (gL hn)))))))
  | 4, _ => gL (gR (gR (gR (gL (gL (gL (gL hn)))))))
  | 5, _ => gL (gR (gR (gR (gR (gL (gL (gL (gL hn))))))))
  | n + 6, h => absurd h (by omega)⟩
theorem rg2 (hn : narrow_1.before args s = true) : (Cond.arrayOf rTo .int).before args s = true ∧ (Cond.eq (.length rTo) (.int (Int32.ofNat 24))).before args s = true ∧ ∀ j, j < 24 → (Cond.eq (.elem rTo (.int (Int32.ofNat j))) (.int (rOwn.getD j 0))).before args s = true := ⟨gL (gL (gL (gL (gR (gL (gL (gL hn))))))), gR (gL (gL (gL (gR (gL (gL (gL hn))))))), fun j hj => match j, hj with
  | 0, _ => gL (gR (gL (gL (gR (gL (gL (gL hn)))))))
  | 1, _ => gR (gR (gL (gL (gR (gL (gL (gL hn)))))))
  | 2, _ => gL (gL (gR (gL (gR (gL (gL (gL hn)))))))
  | 3, _ => gR (gL (gR (gL (gR (gL (gL (gL hn)))))))
  | 4, _ => gL (gR (gR (gL (gR (gL (gL (gL hn)))))))
  | 5, _ => gL (gR (gR (gR (gL (gR (gL (gL (gL hn))))))))
  | 6, _ => gR (gR (gR (gR (gL (gR (gL (gL (gL hn))))))))
  | 7, _ => gL (gL (gL (gR (gR (gL (gL (gL hn)))))))
  | 8, _ => gR (gL (gL (gR (gR (gL (gL (gL hn)))))))
  | 9, _ => gL (gR (gL (gR (gR (gL (gL (gL hn)))))))
  | 10, _ => gR (gR (gL (gR (gR (gL (gL (gL hn)))))))
  | 11, _ => gL (gL (gR (gR (gR (gL (gL (gL hn)))))))
  | 12, _ => gR (gL (gR (gR (gR (gL (gL (gL hn)))))))
  | 13, _ => gL (gR (gR (gR (gR (gL (gL (gL hn)))))))
  | 14, _ => gL (gR (gR (gR (gR (gR (gL (gL (gL hn))))))))
  | 15, _ => gR (gR (gR (gR (gR (gR (gL (gL (gL hn))))))))
  | 16, _ => gL (gL (gL (gL (gL (gR (gL (gL hn)))))))
  | 17, _ => gR (gL (gL (gL (gL (gR (gL (gL hn)))))))
  | 18, _ => gL (gR (gL (gL (gL (gR (gL (gL hn)))))))
  | 19, _ => gR (gR (gL (gL (gL (gR (gL (gL hn)))))))
  | 20, _ => gL (gL (gR (gL (gL (gR (gL (gL hn)))))))
  | 21, _ => gR (gL (gR (gL (gL (gR (gL (gL hn)))))))
  | 22, _ => gL (gR (gR (gL (gL (gR (gL (gL hn)))))))
  | 23, _ => gL (gR (gR (gR (gL (gL (gR (gL (gL hn))))))))
  | n + 24, h => absurd h (by omega)⟩
theorem rg3 (hn : narrow_1.before args s = true) : (Cond.eq (.static "java/lang/String" "COMPACT_STRINGS" "Z") (.int 1)).before args s = true ∧ (Cond.isRef (.static "jdk/internal/util/Preconditions" "SIOOBE_FORMATTER" "Ljava/util/function/BiFunction;")).before args s = true := ⟨gL (gR (gL (gL (gL (gL (gL (gL hn))))))), gR (gR (gL (gL (gL (gL (gL (gL hn)))))))⟩
theorem rg4 (hn : narrow_1.before args s = true) : ∀ i, i < 15 → (Cond.exactly (rTs i) "java/lang/String").before args s = true ∧ (Cond.eq (.field (rTs i) "java/lang/String" "coder" "B") (.int 0)).before args s = true ∧ (Cond.arrayOf (rTv i) .byte).before args s = true ∧ (Cond.eq (.length (rTv i)) (.int (Int32.ofNat (rLen.getD i 0)))).before args s = true := fun i hi => match i, hi with
  | 0, _ => ⟨gR (gR (gR (gR (gL (gL (gR (gL (gL hn)))))))), gL (gL (gL (gR (gL (gR (gL (gL hn))))))), gR (gL (gL (gR (gL (gR (gL (gL hn))))))), gL (gR (gL (gR (gL (gR (gL (gL hn)))))))⟩
  | 1, _ => ⟨gR (gR (gR (gR (gR (gL (gR (gL (gL hn)))))))), gL (gL (gL (gL (gR (gR (gL (gL hn))))))), gR (gL (gL (gL (gR (gR (gL (gL hn))))))), gL (gR (gL (gL (gR (gR (gL (gL hn)))))))⟩
  | 2, _ => ⟨gR (gL (gL (gR (gR (gR (gL (gL hn))))))), gL (gR (gL (gR (gR (gR (gL (gL hn))))))), gR (gR (gL (gR (gR (gR (gL (gL hn))))))), gL (gL (gR (gR (gR (gR (gL (gL hn)))))))⟩
  | 3, _ => ⟨gR (gL (gR (gL (gL (gL (gR (gL hn))))))), gL (gR (gR (gL (gL (gL (gR (gL hn))))))), gR (gR (gR (gL (gL (gL (gR (gL hn))))))), gL (gL (gL (gR (gL (gL (gR (gL hn)))))))⟩
  | 4, _ => ⟨gR (gL (gL (gL (gR (gL (gR (gL hn))))))), gL (gR (gL (gL (gR (gL (gR (gL hn))))))), gR (gR (gL (gL (gR (gL (gR (gL hn))))))), gL (gL (gR (gL (gR (gL (gR (gL hn)))))))⟩
  | 5, _ => ⟨gL (gL (gR (gR (gR (gL (gR (gL hn))))))), gR (gL (gR (gR (gR (gL (gR (gL hn))))))), gL (gR (gR (gR (gR (gL (gR (gL hn))))))), gL (gR (gR (gR (gR (gR (gL (gR (gL hn))))))))⟩
  | 6, _ => ⟨gR (gR (gR (gR (gL (gL (gR (gR (gL hn)))))))), gL (gL (gL (gR (gL (gR (gR (gL hn))))))), gR (gL (gL (gR (gL (gR (gR (gL hn))))))), gL (gR (gL (gR (gL (gR (gR (gL hn)))))))⟩
  | 7, _ => ⟨gL (gR (gL (gL (gR (gR (gR (gL hn))))))), gR (gR (gL (gL (gR (gR (gR (gL hn))))))), gL (gL (gR (gL (gR (gR (gR (gL hn))))))), gR (gL (gR (gL (gR (gR (gR (gL hn)))))))⟩
  | 8, _ => ⟨gL (gL (gL (gL (gL (gL (gL (gR hn))))))), gR (gL (gL (gL (gL (gL (gL (gR hn))))))), gL (gR (gL (gL (gL (gL (gL (gR hn))))))), gR (gR (gL (gL (gL (gL (gL (gR hn)))))))⟩
  | 9, _ => ⟨gL (gL (gL (gL (gR (gL (gL (gR hn))))))), gR (gL (gL (gL (gR (gL (gL (gR hn))))))), gL (gR (gL (gL (gR (gL (gL (gR hn))))))), gR (gR (gL (gL (gR (gL (gL (gR hn)))))))⟩
  | 10, _ => ⟨gR (gL (gL (gL (gL (gR (gL (gR hn))))))), gL (gR (gL (gL (gL (gR (gL (gR hn))))))), gR (gR (gL (gL (gL (gR (gL (gR hn))))))), gL (gL (gR (gL (gL (gR (gL (gR hn)))))))⟩
  | 11, _ => ⟨gL (gL (gR (gL (gR (gR (gL (gR hn))))))), gR (gL (gR (gL (gR (gR (gL (gR hn))))))), gL (gR (gR (gL (gR (gR (gL (gR hn))))))), gL (gR (gR (gR (gL (gR (gR (gL (gR hn))))))))⟩
  | 12, _ => ⟨gL (gL (gR (gL (gL (gL (gR (gR hn))))))), gR (gL (gR (gL (gL (gL (gR (gR hn))))))), gL (gR (gR (gL (gL (gL (gR (gR hn))))))), gR (gR (gR (gL (gL (gL (gR (gR hn)))))))⟩
  | 13, _ => ⟨gR (gR (gR (gR (gL (gR (gL (gR (gR hn)))))))), gL (gL (gL (gR (gR (gL (gR (gR hn))))))), gR (gL (gL (gR (gR (gL (gR (gR hn))))))), gL (gR (gL (gR (gR (gL (gR (gR hn)))))))⟩
  | 14, _ => ⟨gR (gR (gL (gR (gL (gR (gR (gR hn))))))), gL (gL (gR (gR (gL (gR (gR (gR hn))))))), gR (gL (gR (gR (gL (gR (gR (gR hn))))))), gL (gR (gR (gR (gL (gR (gR (gR hn)))))))⟩
  | n + 15, h => absurd h (by omega)
theorem rg5_0 (hn : narrow_1.before args s = true) : ∀ j, j < 5 → (Cond.eq (.elem (rTv 0) (.int (Int32.ofNat j))) (.int ((rByt.getD 0 []).getD j 0))).before args s = true := fun j hj => match j, hj with
  | 0, _ => gR (gR (gL (gR (gL (gR (gL (gL hn)))))))
  | 1, _ => gL (gL (gR (gR (gL (gR (gL (gL hn)))))))
  | 2, _ => gR (gL (gR (gR (gL (gR (gL (gL hn)))))))
  | 3, _ => gL (gR (gR (gR (gL (gR (gL (gL hn)))))))
  | 4, _ => gL (gR (gR (gR (gR (gL (gR (gL (gL hn))))))))
  | n + 5, h => absurd h (by omega)
theorem rg5_1 (hn : narrow_1.before args s = true) : ∀ j, j < 6 → (Cond.eq (.elem (rTv 1) (.int (Int32.ofNat j))) (.int ((rByt.getD 1 []).getD j 0))).before args s = true := fun j hj => match j, hj with
  | 0, _ => gR (gR (gL (gL (gR (gR (gL (gL hn)))))))
  | 1, _ => gL (gL (gR (gL (gR (gR (gL (gL hn)))))))
  | 2, _ => gR (gL (gR (gL (gR (gR (gL (gL hn)))))))
  | 3, _ => gL (gR (gR (gL (gR (gR (gL (gL hn)))))))
  | 4, _ => gL (gR (gR (gR (gL (gR (gR (gL (gL hn))))))))
  | 5, _ => gR (gR (gR (gR (gL (gR (gR (gL (gL hn))))))))
  | n + 6, h => absurd h (by omega)
theorem rg5_2 (hn : narrow_1.before args s = true) : ∀ j, j < 7 → (Cond.eq (.elem (rTv 2) (.int (Int32.ofNat j))) (.int ((rByt.getD 2 []).getD j 0))).before args s = true := fun j hj => match j, hj with
  | 0, _ => gR (gL (gR (gR (gR (gR (gL (gL hn)))))))
  | 1, _ => gL (gR (gR (gR (gR (gR (gL (gL hn)))))))
  | 2, _ => gL (gR (gR (gR (gR (gR (gR (gL (gL hn))))))))
  | 3, _ => gR (gR (gR (gR (gR (gR (gR (gL (gL hn))))))))
  | 4, _ => gL (gL (gL (gL (gL (gL (gR (gL hn)))))))
  | 5, _ => gR (gL (gL (gL (gL (gL (gR (gL hn)))))))
  | 6, _ => gL (gR (gL (gL (gL (gL (gR (gL hn)))))))
  | n + 7, h => absurd h (by omega)
theorem rg5_3 (hn : narrow_1.before args s = true) : ∀ j, j < 6 → (Cond.eq (.elem (rTv 3) (.int (Int32.ofNat j))) (.int ((rByt.getD 3 []).getD j 0))).before args s = true := fun j hj => match j, hj with
  | 0, _ => gR (gL (gL (gR (gL (gL (gR (gL hn)))))))
  | 1, _ => gL (gR (gL (gR (gL (gL (gR (gL hn)))))))
  | 2, _ => gR (gR (gL (gR (gL (gL (gR (gL hn)))))))
  | 3, _ => gL (gL (gR (gR (gL (gL (gR (gL hn)))))))
  | 4, _ => gR (gL (gR (gR (gL (gL (gR (gL hn)))))))
  | 5, _ => gL (gR (gR (gR (gL (gL (gR (gL hn)))))))
  | n + 6, h => absurd h (by omega)
theorem rg5_4 (hn : narrow_1.before args s = true) : ∀ j, j < 4 → (Cond.eq (.elem (rTv 4) (.int (Int32.ofNat j))) (.int ((rByt.getD 4 []).getD j 0))).before args s = true := fun j hj => match j, hj with
  | 0, _ => gR (gL (gR (gL (gR (gL (gR (gL hn)))))))
  | 1, _ => gL (gR (gR (gL (gR (gL (gR (gL hn)))))))
  | 2, _ => gL (gR (gR (gR (gL (gR (gL (gR (gL hn))))))))
  | 3, _ => gR (gR (gR (gR (gL (gR (gL (gR (gL hn))))))))
  | n + 4, h => absurd h (by omega)
theorem rg5_5 (hn : narrow_1.before args s = true) : ∀ j, j < 4 → (Cond.eq (.elem (rTv 5) (.int (Int32.ofNat j))) (.int ((rByt.getD 5 []).getD j 0))).before args s = true := fun j hj => match j, hj with
  | 0, _ => gR (gR (gR (gR (gR (gR (gL (gR (gL hn))))))))
  | 1, _ => gL (gL (gL (gL (gL (gR (gR (gL hn)))))))
  | 2, _ => gR (gL (gL (gL (gL (gR (gR (gL hn)))))))
  | 3, _ => gL (gR (gL (gL (gL (gR (gR (gL hn)))))))
  | n + 4, h => absurd h (by omega)
theorem rg5_6 (hn : narrow_1.before args s = true) : ∀ j, j < 2 → (Cond.eq (.elem (rTv 6) (.int (Int32.ofNat j))) (.int ((rByt.getD 6 []).getD j 0))).before args s = true := fun j hj => match j, hj with
  | 0, _ => gR (gR (gL (gR (gL (gR (gR (gL hn)))))))
  | 1, _ => gL (gL (gR (gR (gL (gR (gR (gL hn)))))))
  | n + 2, h => absurd h (by omega)
theorem rg5_7 (hn : narrow_1.before args s = true) : ∀ j, j < 5 → (Cond.eq (.elem (rTv 7) (.int (Int32.ofNat j))) (.int ((rByt.getD 7 []).getD j 0))).before args s = true := fun j hj => match j, hj with
  | 0, _ => gL (gR (gR (gL (gR (gR (gR (gL hn)))))))
  | 1, _ => gL (gR (gR (gR (gL (gR (gR (gR (gL hn))))))))
  | 2, _ => gR (gR (gR (gR (gL (gR (gR (gR (gL hn))))))))
  | 3, _ => gL (gL (gL (gR (gR (gR (gR (gL hn)))))))
  | 4, _ => gR (gL (gL (gR (gR (gR (gR (gL hn)))))))
  | n + 5, h => absurd h (by omega)
theorem rg5_8 (hn : narrow_1.before args s = true) : ∀ j, j < 5 → (Cond.eq (.elem (rTv 8) (.int (Int32.ofNat j))) (.int ((rByt.getD 8 []).getD j 0))).before args s = true := fun j hj => match j, hj with
  | 0, _ => gL (gL (gR (gL (gL (gL (gL (gR hn)))))))
  | 1, _ => gR (gL (gR (gL (gL (gL (gL (gR hn)))))))
  | 2, _ => gL (gR (gR (gL (gL (gL (gL (gR hn)))))))
  | 3, _ => gR (gR (gR (gL (gL (gL (gL (gR hn)))))))
  | 4, _ => gL (gL (gL (gR (gL (gL (gL (gR hn)))))))
  | n + 5, h => absurd h (by omega)
theorem rg5_9 (hn : narrow_1.before args s = true) : ∀ j, j < 6 → (Cond.eq (.elem (rTv 9) (.int (Int32.ofNat j))) (.int ((rByt.getD 9 []).getD j 0))).before args s = true := fun j hj => match j, hj with
  | 0, _ => gL (gL (gR (gL (gR (gL (gL (gR hn)))))))
  | 1, _ => gR (gL (gR (gL (gR (gL (gL (gR hn)))))))
  | 2, _ => gL (gR (gR (gL (gR (gL (gL (gR hn)))))))
  | 3, _ => gL (gR (gR (gR (gL (gR (gL (gL (gR hn))))))))
  | 4, _ => gR (gR (gR (gR (gL (gR (gL (gL (gR hn))))))))
  | 5, _ => gL (gL (gL (gR (gR (gL (gL (gR hn)))))))
  | n + 6, h => absurd h (by omega)
theorem rg5_10 (hn : narrow_1.before args s = true) : ∀ j, j < 7 → (Cond.eq (.elem (rTv 10) (.int (Int32.ofNat j))) (.int ((rByt.getD 10 []).getD j 0))).before args s = true := fun j hj => match j, hj with
  | 0, _ => gR (gL (gR (gL (gL (gR (gL (gR hn)))))))
  | 1, _ => gL (gR (gR (gL (gL (gR (gL (gR hn)))))))
  | 2, _ => gL (gR (gR (gR (gL (gL (gR (gL (gR hn))))))))
  | 3, _ => gR (gR (gR (gR (gL (gL (gR (gL (gR hn))))))))
  | 4, _ => gL (gL (gL (gR (gL (gR (gL (gR hn)))))))
  | 5, _ => gR (gL (gL (gR (gL (gR (gL (gR hn)))))))
  | 6, _ => gL (gR (gL (gR (gL (gR (gL (gR hn)))))))
  | n + 7, h => absurd h (by omega)
theorem rg5_11 (hn : narrow_1.before args s = true) : ∀ j, j < 3 → (Cond.eq (.elem (rTv 11) (.int (Int32.ofNat j))) (.int ((rByt.getD 11 []).getD j 0))).before args s = true := fun j hj => match j, hj with
  | 0, _ => gR (gR (gR (gR (gL (gR (gR (gL (gR hn))))))))
  | 1, _ => gL (gL (gL (gR (gR (gR (gL (gR hn)))))))
  | 2, _ => gR (gL (gL (gR (gR (gR (gL (gR hn)))))))
  | n + 3, h => absurd h (by omega)
theorem rg5_12 (hn : narrow_1.before args s = true) : ∀ j, j < 5 → (Cond.eq (.elem (rTv 12) (.int (Int32.ofNat j))) (.int ((rByt.getD 12 []).getD j 0))).before args s = true := fun j hj => match j, hj with
  | 0, _ => gL (gL (gL (gR (gL (gL (gR (gR hn)))))))
  | 1, _ => gR (gL (gL (gR (gL (gL (gR (gR hn)))))))
  | 2, _ => gL (gR (gL (gR (gL (gL (gR (gR hn)))))))
  | 3, _ => gR (gR (gL (gR (gL (gL (gR (gR hn)))))))
  | 4, _ => gL (gL (gR (gR (gL (gL (gR (gR hn)))))))
  | n + 5, h => absurd h (by omega)
theorem rg5_13 (hn : narrow_1.before args s = true) : ∀ j, j < 5 → (Cond.eq (.elem (rTv 13) (.int (Int32.ofNat j))) (.int ((rByt.getD 13 []).getD j 0))).before args s = true := fun j hj => match j, hj with
  | 0, _ => gR (gR (gL (gR (gR (gL (gR (gR hn)))))))
  | 1, _ => gL (gL (gR (gR (gR (gL (gR (gR hn)))))))
  | 2, _ => gR (gL (gR (gR (gR (gL (gR (gR hn)))))))
  | 3, _ => gL (gR (gR (gR (gR (gL (gR (gR hn)))))))
  | 4, _ => gL (gR (gR (gR (gR (gR (gL (gR (gR hn))))))))
  | n + 5, h => absurd h (by omega)
theorem rg5_14 (hn : narrow_1.before args s = true) : ∀ j, j < 4 → (Cond.eq (.elem (rTv 14) (.int (Int32.ofNat j))) (.int ((rByt.getD 14 []).getD j 0))).before args s = true := fun j hj => match j, hj with
  | 0, _ => gL (gR (gR (gR (gR (gL (gR (gR (gR hn))))))))
  | 1, _ => gR (gR (gR (gR (gR (gL (gR (gR (gR hn))))))))
  | 2, _ => gL (gL (gL (gL (gR (gR (gR (gR hn)))))))
  | 3, _ => gR (gL (gL (gL (gR (gR (gR (gR hn)))))))
  | n + 4, h => absurd h (by omega)
theorem rg5 (hn : narrow_1.before args s = true) : ∀ i, i < 15 → ∀ j, j < rLen.getD i 0 → (Cond.eq (.elem (rTv i) (.int (Int32.ofNat j))) (.int ((rByt.getD i []).getD j 0))).before args s = true := fun i hi => match i, hi with
  | 0, _ => rg5_0 hn
  | 1, _ => rg5_1 hn
  | 2, _ => rg5_2 hn
  | 3, _ => rg5_3 hn
  | 4, _ => rg5_4 hn
  | 5, _ => rg5_5 hn
  | 6, _ => rg5_6 hn
  | 7, _ => rg5_7 hn
  | 8, _ => rg5_8 hn
  | 9, _ => rg5_9 hn
  | 10, _ => rg5_10 hn
  | 11, _ => rg5_11 hn
  | 12, _ => rg5_12 hn
  | 13, _ => rg5_13 hn
  | 14, _ => rg5_14 hn
  | n + 15, h => absurd h (by omega)
theorem rg6_0 (hn : narrow_1.before args s = true) : ∀ j, j < 15 → 0 ≠ j → (Cond.not (Cond.eq (rTs 0) (rTs j))).before args s = true ∨ (Cond.not (Cond.eq (rTs j) (rTs 0))).before args s = true := fun j hj hne => match j, hj, hne with
  | 0, _, hne => absurd rfl hne
  | 1, _, _ => Or.inl (gL (gL (gL (gR (gR (gR (gL (gL hn))))))))
  | 2, _, _ => Or.inl (gR (gR (gL (gL (gL (gL (gR (gL hn))))))))
  | 3, _, _ => Or.inl (gL (gR (gR (gR (gR (gL (gL (gR (gL hn)))))))))
  | 4, _, _ => Or.inl (gL (gL (gL (gR (gR (gL (gR (gL hn))))))))
  | 5, _, _ => Or.inl (gR (gR (gL (gL (gL (gR (gR (gL hn))))))))
  | 6, _, _ => Or.inl (gR (gL (gR (gR (gL (gR (gR (gL hn))))))))
  | 7, _, _ => Or.inl (gL (gR (gL (gR (gR (gR (gR (gL hn))))))))
  | 8, _, _ => Or.inl (gR (gL (gL (gR (gL (gL (gL (gR hn))))))))
  | 9, _, _ => Or.inl (gR (gL (gL (gR (gR (gL (gL (gR hn))))))))
  | 10, _, _ => Or.inl (gR (gR (gL (gR (gL (gR (gL (gR hn))))))))
  | 11, _, _ => Or.inl (gL (gR (gL (gR (gR (gR (gL (gR hn))))))))
  | 12, _, _ => Or.inl (gR (gL (gR (gR (gL (gL (gR (gR hn))))))))
  | 13, _, _ => Or.inl (gR (gR (gR (gR (gR (gR (gL (gR (gR hn)))))))))
  | 14, _, _ => Or.inl (gL (gR (gL (gL (gR (gR (gR (gR hn))))))))
  | n + 15, h, _ => absurd h (by omega)
theorem rg6_1 (hn : narrow_1.before args s = true) : ∀ j, j < 15 → 1 ≠ j → (Cond.not (Cond.eq (rTs 1) (rTs j))).before args s = true ∨ (Cond.not (Cond.eq (rTs j) (rTs 1))).before args s = true := fun j hj hne => match j, hj, hne with
  | 0, _, _ => Or.inr (gL (gL (gL (gR (gR (gR (gL (gL hn))))))))
  | 1, _, hne => absurd rfl hne
  | 2, _, _ => Or.inl (gL (gL (gR (gL (gL (gL (gR (gL hn))))))))
  | 3, _, _ => Or.inl (gR (gR (gR (gR (gR (gL (gL (gR (gL hn)))))))))
  | 4, _, _ => Or.inl (gR (gL (gL (gR (gR (gL (gR (gL hn))))))))
  | 5, _, _ => Or.inl (gL (gL (gR (gL (gL (gR (gR (gL hn))))))))
  | 6, _, _ => Or.inl (gL (gR (gR (gR (gL (gR (gR (gL hn))))))))
  | 7, _, _ => Or.inl (gR (gR (gL (gR (gR (gR (gR (gL hn))))))))
  | 8, _, _ => Or.inl (gL (gR (gL (gR (gL (gL (gL (gR hn))))))))
  | 9, _, _ => Or.inl (gL (gR (gL (gR (gR (gL (gL (gR hn))))))))
  | 10, _, _ => Or.inl (gL (gL (gR (gR (gL (gR (gL (gR hn))))))))
  | 11, _, _ => Or.inl (gR (gR (gL (gR (gR (gR (gL (gR hn))))))))
  | 12, _, _ => Or.inl (gL (gR (gR (gR (gL (gL (gR (gR hn))))))))
  | 13, _, _ => Or.inl (gL (gL (gL (gL (gL (gR (gR (gR hn))))))))
  | 14, _, _ => Or.inl (gR (gR (gL (gL (gR (gR (gR (gR hn))))))))
  | n + 15, h, _ => absurd h (by omega)
theorem rg6_2 (hn : narrow_1.before args s = true) : ∀ j, j < 15 → 2 ≠ j → (Cond.not (Cond.eq (rTs 2) (rTs j))).before args s = true ∨ (Cond.not (Cond.eq (rTs j) (rTs 2))).before args s = true := fun j hj hne => match j, hj, hne with
  | 0, _, _ => Or.inr (gR (gR (gL (gL (gL (gL (gR (gL hn))))))))
  | 1, _, _ => Or.inr (gL (gL (gR (gL (gL (gL (gR (gL hn))))))))
  | 2, _, hne => absurd rfl hne
  | 3, _, _ => Or.inl (gL (gL (gL (gL (gR (gL (gR (gL hn))))))))
  | 4, _, _ => Or.inl (gL (gR (gL (gR (gR (gL (gR (gL hn))))))))
  | 5, _, _ => Or.inl (gR (gL (gR (gL (gL (gR (gR (gL hn))))))))
  | 6, _, _ => Or.inl (gL (gR (gR (gR (gR (gL (gR (gR (gL hn)))))))))
  | 7, _, _ => Or.inl (gL (gL (gR (gR (gR (gR (gR (gL hn))))))))
  | 8, _, _ => Or.inl (gR (gR (gL (gR (gL (gL (gL (gR hn))))))))
  | 9, _, _ => Or.inl (gR (gR (gL (gR (gR (gL (gL (gR hn))))))))
  | 10, _, _ => Or.inl (gR (gL (gR (gR (gL (gR (gL (gR hn))))))))
  | 11, _, _ => Or.inl (gL (gL (gR (gR (gR (gR (gL (gR hn))))))))
  | 12, _, _ => Or.inl (gL (gR (gR (gR (gR (gL (gL (gR (gR hn)))))))))
  | 13, _, _ => Or.inl (gR (gL (gL (gL (gL (gR (gR (gR hn))))))))
  | 14, _, _ => Or.inl (gL (gL (gR (gL (gR (gR (gR (gR hn))))))))
  | n + 15, h, _ => absurd h (by omega)
theorem rg6_3 (hn : narrow_1.before args s = true) : ∀ j, j < 15 → 3 ≠ j → (Cond.not (Cond.eq (rTs 3) (rTs j))).before args s = true ∨ (Cond.not (Cond.eq (rTs j) (rTs 3))).before args s = true := fun j hj hne => match j, hj, hne with
  | 0, _, _ => Or.inr (gL (gR (gR (gR (gR (gL (gL (gR (gL hn)))))))))
  | 1, _, _ => Or.inr (gR (gR (gR (gR (gR (gL (gL (gR (gL hn)))))))))
  | 2, _, _ => Or.inr (gL (gL (gL (gL (gR (gL (gR (gL hn))))))))
  | 3, _, hne => absurd rfl hne
  | 4, _, _ => Or.inl (gR (gR (gL (gR (gR (gL (gR (gL hn))))))))
  | 5, _, _ => Or.inl (gL (gR (gR (gL (gL (gR (gR (gL hn))))))))
  | 6, _, _ => Or.inl (gR (gR (gR (gR (gR (gL (gR (gR (gL hn)))))))))
  | 7, _, _ => Or.inl (gR (gL (gR (gR (gR (gR (gR (gL hn))))))))
  | 8, _, _ => Or.inl (gL (gL (gR (gR (gL (gL (gL (gR hn))))))))
  | 9, _, _ => Or.inl (gL (gL (gR (gR (gR (gL (gL (gR hn))))))))
  | 10, _, _ => Or.inl (gL (gR (gR (gR (gL (gR (gL (gR hn))))))))
  | 11, _, _ => Or.inl (gR (gL (gR (gR (gR (gR (gL (gR hn))))))))
  | 12, _, _ => Or.inl (gR (gR (gR (gR (gR (gL (gL (gR (gR hn)))))))))
  | 13, _, _ => Or.inl (gL (gR (gL (gL (gL (gR (gR (gR hn))))))))
  | 14, _, _ => Or.inl (gR (gL (gR (gL (gR (gR (gR (gR hn))))))))
  | n + 15, h, _ => absurd h (by omega)
theorem rg6_4 (hn : narrow_1.before args s = true) : ∀ j, j < 15 → 4 ≠ j → (Cond.not (Cond.eq (rTs 4) (rTs j))).before args s = true ∨ (Cond.not (Cond.eq (rTs j) (rTs 4))).before args s = true := fun j hj hne => match j, hj, hne with
  | 0, _, _ => Or.inr (gL (gL (gL (gR (gR (gL (gR (gL hn))))))))
  | 1, _, _ => Or.inr (gR (gL (gL (gR (gR (gL (gR (gL hn))))))))
  | 2, _, _ => Or.inr (gL (gR (gL (gR (gR (gL (gR (gL hn))))))))
  | 3, _, _ => Or.inr (gR (gR (gL (gR (gR (gL (gR (gL hn))))))))
  | 4, _, hne => absurd rfl hne
  | 5, _, _ => Or.inl (gL (gR (gR (gR (gL (gL (gR (gR (gL hn)))))))))
  | 6, _, _ => Or.inl (gL (gL (gL (gL (gR (gR (gR (gL hn))))))))
  | 7, _, _ => Or.inl (gL (gR (gR (gR (gR (gR (gR (gL hn))))))))
  | 8, _, _ => Or.inl (gR (gL (gR (gR (gL (gL (gL (gR hn))))))))
  | 9, _, _ => Or.inl (gR (gL (gR (gR (gR (gL (gL (gR hn))))))))
  | 10, _, _ => Or.inl (gL (gR (gR (gR (gR (gL (gR (gL (gR hn)))))))))
  | 11, _, _ => Or.inl (gL (gR (gR (gR (gR (gR (gL (gR hn))))))))
  | 12, _, _ => Or.inl (gL (gL (gL (gL (gR (gL (gR (gR hn))))))))
  | 13, _, _ => Or.inl (gR (gR (gL (gL (gL (gR (gR (gR hn))))))))
  | 14, _, _ => Or.inl (gL (gR (gR (gL (gR (gR (gR (gR hn))))))))
  | n + 15, h, _ => absurd h (by omega)
theorem rg6_5 (hn : narrow_1.before args s = true) : ∀ j, j < 15 → 5 ≠ j → (Cond.not (Cond.eq (rTs 5) (rTs j))).before args s = true ∨ (Cond.not (Cond.eq (rTs j) (rTs 5))).before args s = true := fun j hj hne => match j, hj, hne with
  | 0, _, _ => Or.inr (gR (gR (gL (gL (gL (gR (gR (gL hn))))))))
  | 1, _, _ => Or.inr (gL (gL (gR (gL (gL (gR (gR (gL hn))))))))
  | 2, _, _ => Or.inr (gR (gL (gR (gL (gL (gR (gR (gL hn))))))))
  | 3, _, _ => Or.inr (gL (gR (gR (gL (gL (gR (gR (gL hn))))))))
  | 4, _, _ => Or.inr (gL (gR (gR (gR (gL (gL (gR (gR (gL hn)))))))))
  | 5, _, hne => absurd rfl hne
  | 6, _, _ => Or.inl (gR (gL (gL (gL (gR (gR (gR (gL hn))))))))
  | 7, _, _ => Or.inl (gL (gR (gR (gR (gR (gR (gR (gR (gL hn)))))))))
  | 8, _, _ => Or.inl (gL (gR (gR (gR (gL (gL (gL (gR hn))))))))
  | 9, _, _ => Or.inl (gL (gR (gR (gR (gR (gL (gL (gR hn))))))))
  | 10, _, _ => Or.inl (gR (gR (gR (gR (gR (gL (gR (gL (gR hn)))))))))
  | 11, _, _ => Or.inl (gL (gR (gR (gR (gR (gR (gR (gL (gR hn)))))))))
  | 12, _, _ => Or.inl (gR (gL (gL (gL (gR (gL (gR (gR hn))))))))
  | 13, _, _ => Or.inl (gL (gL (gR (gL (gL (gR (gR (gR hn))))))))
  | 14, _, _ => Or.inl (gL (gR (gR (gR (gL (gR (gR (gR (gR hn)))))))))
  | n + 15, h, _ => absurd h (by omega)
theorem rg6_6 (hn : narrow_1.before args s = true) : ∀ j, j < 15 → 6 ≠ j → (Cond.not (Cond.eq (rTs 6) (rTs j))).before args s = true ∨ (Cond.not (Cond.eq (rTs j) (rTs 6))).before args s = true := fun j hj hne => match j, hj, hne with
  | 0, _, _ => Or.inr (gR (gL (gR (gR (gL (gR (gR (gL hn))))))))
  | 1, _, _ => Or.inr (gL (gR (gR (gR (gL (gR (gR (gL hn))))))))
  | 2, _, _ => Or.inr (gL (gR (gR (gR (gR (gL (gR (gR (gL hn)))))))))
  | 3, _, _ => Or.inr (gR (gR (gR (gR (gR (gL (gR (gR (gL hn)))))))))
  | 4, _, _ => Or.inr (gL (gL (gL (gL (gR (gR (gR (gL hn))))))))
  | 5, _, _ => Or.inr (gR (gL (gL (gL (gR (gR (gR (gL hn))))))))
  | 6, _, hne => absurd rfl hne
  | 7, _, _ => Or.inl (gR (gR (gR (gR (gR (gR (gR (gR (gL hn)))))))))
  | 8, _, _ => Or.inl (gL (gR (gR (gR (gR (gL (gL (gL (gR hn)))))))))
  | 9, _, _ => Or.inl (gL (gR (gR (gR (gR (gR (gL (gL (gR hn)))))))))
  | 10, _, _ => Or.inl (gL (gL (gL (gL (gR (gR (gL (gR hn))))))))
  | 11, _, _ => Or.inl (gR (gR (gR (gR (gR (gR (gR (gL (gR hn)))))))))
  | 12, _, _ => Or.inl (gL (gR (gL (gL (gR (gL (gR (gR hn))))))))
  | 13, _, _ => Or.inl (gR (gL (gR (gL (gL (gR (gR (gR hn))))))))
  | 14, _, _ => Or.inl (gR (gR (gR (gR (gL (gR (gR (gR (gR hn)))))))))
  | n + 15, h, _ => absurd h (by omega)
theorem rg6_7 (hn : narrow_1.before args s = true) : ∀ j, j < 15 → 7 ≠ j → (Cond.not (Cond.eq (rTs 7) (rTs j))).before args s = true ∨ (Cond.not (Cond.eq (rTs j) (rTs 7))).before args s = true := fun j hj hne => match j, hj, hne with
  | 0, _, _ => Or.inr (gL (gR (gL (gR (gR (gR (gR (gL hn))))))))
  | 1, _, _ => Or.inr (gR (gR (gL (gR (gR (gR (gR (gL hn))))))))
  | 2, _, _ => Or.inr (gL (gL (gR (gR (gR (gR (gR (gL hn))))))))
  | 3, _, _ => Or.inr (gR (gL (gR (gR (gR (gR (gR (gL hn))))))))
  | 4, _, _ => Or.inr (gL (gR (gR (gR (gR (gR (gR (gL hn))))))))
  | 5, _, _ => Or.inr (gL (gR (gR (gR (gR (gR (gR (gR (gL hn)))))))))
  | 6, _, _ => Or.inr (gR (gR (gR (gR (gR (gR (gR (gR (gL hn)))))))))
  | 7, _, hne => absurd rfl hne
  | 8, _, _ => Or.inl (gR (gR (gR (gR (gR (gL (gL (gL (gR hn)))))))))
  | 9, _, _ => Or.inl (gR (gR (gR (gR (gR (gR (gL (gL (gR hn)))))))))
  | 10, _, _ => Or.inl (gR (gL (gL (gL (gR (gR (gL (gR hn))))))))
  | 11, _, _ => Or.inl (gL (gL (gL (gL (gL (gL (gR (gR hn))))))))
  | 12, _, _ => Or.inl (gR (gR (gL (gL (gR (gL (gR (gR hn))))))))
  | 13, _, _ => Or.inl (gL (gR (gR (gL (gL (gR (gR (gR hn))))))))
  | 14, _, _ => Or.inl (gL (gL (gL (gR (gR (gR (gR (gR hn))))))))
  | n + 15, h, _ => absurd h (by omega)
theorem rg6_8 (hn : narrow_1.before args s = true) : ∀ j, j < 15 → 8 ≠ j → (Cond.not (Cond.eq (rTs 8) (rTs j))).before args s = true ∨ (Cond.not (Cond.eq (rTs j) (rTs 8))).before args s = true := fun j hj hne => match j, hj, hne with
  | 0, _, _ => Or.inr (gR (gL (gL (gR (gL (gL (gL (gR hn))))))))
  | 1, _, _ => Or.inr (gL (gR (gL (gR (gL (gL (gL (gR hn))))))))
  | 2, _, _ => Or.inr (gR (gR (gL (gR (gL (gL (gL (gR hn))))))))
  | 3, _, _ => Or.inr (gL (gL (gR (gR (gL (gL (gL (gR hn))))))))
  | 4, _, _ => Or.inr (gR (gL (gR (gR (gL (gL (gL (gR hn))))))))
  | 5, _, _ => Or.inr (gL (gR (gR (gR (gL (gL (gL (gR hn))))))))
  | 6, _, _ => Or.inr (gL (gR (gR (gR (gR (gL (gL (gL (gR hn)))))))))
  | 7, _, _ => Or.inr (gR (gR (gR (gR (gR (gL (gL (gL (gR hn)))))))))
  | 8, _, hne => absurd rfl hne
  | 9, _, _ => Or.inl (gL (gL (gL (gL (gL (gR (gL (gR hn))))))))
  | 10, _, _ => Or.inl (gL (gR (gL (gL (gR (gR (gL (gR hn))))))))
  | 11, _, _ => Or.inl (gR (gL (gL (gL (gL (gL (gR (gR hn))))))))
  | 12, _, _ => Or.inl (gL (gL (gR (gL (gR (gL (gR (gR hn))))))))
  | 13, _, _ => Or.inl (gL (gR (gR (gR (gL (gL (gR (gR (gR hn)))))))))
  | 14, _, _ => Or.inl (gR (gL (gL (gR (gR (gR (gR (gR hn))))))))
  | n + 15, h, _ => absurd h (by omega)
theorem rg6_9 (hn : narrow_1.before args s = true) : ∀ j, j < 15 → 9 ≠ j → (Cond.not (Cond.eq (rTs 9) (rTs j))).before args s = true ∨ (Cond.not (Cond.eq (rTs j) (rTs 9))).before args s = true := fun j hj hne => match j, hj, hne with
  | 0, _, _ => Or.inr (gR (gL (gL (gR (gR (gL (gL (gR hn))))))))
  | 1, _, _ => Or.inr (gL (gR (gL (gR (gR (gL (gL (gR hn))))))))
  | 2, _, _ => Or.inr (gR (gR (gL (gR (gR (gL (gL (gR hn))))))))
  | 3, _, _ => Or.inr (gL (gL (gR (gR (gR (gL (gL (gR hn))))))))
  | 4, _, _ => Or.inr (gR (gL (gR (gR (gR (gL (gL (gR hn))))))))
  | 5, _, _ => Or.inr (gL (gR (gR (gR (gR (gL (gL (gR hn))))))))
  | 6, _, _ => Or.inr (gL (gR (gR (gR (gR (gR (gL (gL (gR hn)))))))))
  | 7, _, _ => Or.inr (gR (gR (gR (gR (gR (gR (gL (gL (gR hn)))))))))
  | 8, _, _ => Or.inr (gL (gL (gL (gL (gL (gR (gL (gR hn))))))))
  | 9, _, hne => absurd rfl hne
  | 10, _, _ => Or.inl (gR (gR (gL (gL (gR (gR (gL (gR hn))))))))
  | 11, _, _ => Or.inl (gL (gR (gL (gL (gL (gL (gR (gR hn))))))))
  | 12, _, _ => Or.inl (gR (gL (gR (gL (gR (gL (gR (gR hn))))))))
  | 13, _, _ => Or.inl (gR (gR (gR (gR (gL (gL (gR (gR (gR hn)))))))))
  | 14, _, _ => Or.inl (gL (gR (gL (gR (gR (gR (gR (gR hn))))))))
  | n + 15, h, _ => absurd h (by omega)
theorem rg6_10 (hn : narrow_1.before args s = true) : ∀ j, j < 15 → 10 ≠ j → (Cond.not (Cond.eq (rTs 10) (rTs j))).before args s = true ∨ (Cond.not (Cond.eq (rTs j) (rTs 10))).before args s = true := fun j hj hne => match j, hj, hne with
  | 0, _, _ => Or.inr (gR (gR (gL (gR (gL (gR (gL (gR hn))))))))
  | 1, _, _ => Or.inr (gL (gL (gR (gR (gL (gR (gL (gR hn))))))))
  | 2, _, _ => Or.inr (gR (gL (gR (gR (gL (gR (gL (gR hn))))))))
  | 3, _, _ => Or.inr (gL (gR (gR (gR (gL (gR (gL (gR hn))))))))
  | 4, _, _ => Or.inr (gL (gR (gR (gR (gR (gL (gR (gL (gR hn)))))))))
  | 5, _, _ => Or.inr (gR (gR (gR (gR (gR (gL (gR (gL (gR hn)))))))))
  | 6, _, _ => Or.inr (gL (gL (gL (gL (gR (gR (gL (gR hn))))))))
  | 7, _, _ => Or.inr (gR (gL (gL (gL (gR (gR (gL (gR hn))))))))
  | 8, _, _ => Or.inr (gL (gR (gL (gL (gR (gR (gL (gR hn))))))))
  | 9, _, _ => Or.inr (gR (gR (gL (gL (gR (gR (gL (gR hn))))))))
  | 10, _, hne => absurd rfl hne
  | 11, _, _ => Or.inl (gR (gR (gL (gL (gL (gL (gR (gR hn))))))))
  | 12, _, _ => Or.inl (gL (gR (gR (gL (gR (gL (gR (gR hn))))))))
  | 13, _, _ => Or.inl (gL (gL (gL (gR (gL (gR (gR (gR hn))))))))
  | 14, _, _ => Or.inl (gR (gR (gL (gR (gR (gR (gR (gR hn))))))))
  | n + 15, h, _ => absurd h (by omega)
theorem rg6_11 (hn : narrow_1.before args s = true) : ∀ j, j < 15 → 11 ≠ j → (Cond.not (Cond.eq (rTs 11) (rTs j))).before args s = true ∨ (Cond.not (Cond.eq (rTs j) (rTs 11))).before args s = true := fun j hj hne => match j, hj, hne with
  | 0, _, _ => Or.inr (gL (gR (gL (gR (gR (gR (gL (gR hn))))))))
  | 1, _, _ => Or.inr (gR (gR (gL (gR (gR (gR (gL (gR hn))))))))
  | 2, _, _ => Or.inr (gL (gL (gR (gR (gR (gR (gL (gR hn))))))))
  | 3, _, _ => Or.inr (gR (gL (gR (gR (gR (gR (gL (gR hn))))))))
  | 4, _, _ => Or.inr (gL (gR (gR (gR (gR (gR (gL (gR hn))))))))
  | 5, _, _ => Or.inr (gL (gR (gR (gR (gR (gR (gR (gL (gR hn)))))))))
  | 6, _, _ => Or.inr (gR (gR (gR (gR (gR (gR (gR (gL (gR hn)))))))))
  | 7, _, _ => Or.inr (gL (gL (gL (gL (gL (gL (gR (gR hn))))))))
  | 8, _, _ => Or.inr (gR (gL (gL (gL (gL (gL (gR (gR hn))))))))
  | 9, _, _ => Or.inr (gL (gR (gL (gL (gL (gL (gR (gR hn))))))))
  | 10, _, _ => Or.inr (gR (gR (gL (gL (gL (gL (gR (gR hn))))))))
  | 11, _, hne => absurd rfl hne
  | 12, _, _ => Or.inl (gL (gR (gR (gR (gL (gR (gL (gR (gR hn)))))))))
  | 13, _, _ => Or.inl (gR (gL (gL (gR (gL (gR (gR (gR hn))))))))
  | 14, _, _ => Or.inl (gL (gL (gR (gR (gR (gR (gR (gR hn))))))))
  | n + 15, h, _ => absurd h (by omega)
theorem rg6_12 (hn : narrow_1.before args s = true) : ∀ j, j < 15 → 12 ≠ j → (Cond.not (Cond.eq (rTs 12) (rTs j))).before args s = true ∨ (Cond.not (Cond.eq (rTs j) (rTs 12))).before args s = true := fun j hj hne => match j, hj, hne with
  | 0, _, _ => Or.inr (gR (gL (gR (gR (gL (gL (gR (gR hn))))))))
  | 1, _, _ => Or.inr (gL (gR (gR (gR (gL (gL (gR (gR hn))))))))
  | 2, _, _ => Or.inr (gL (gR (gR (gR (gR (gL (gL (gR (gR hn)))))))))
  | 3, _, _ => Or.inr (gR (gR (gR (gR (gR (gL (gL (gR (gR hn)))))))))
  | 4, _, _ => Or.inr (gL (gL (gL (gL (gR (gL (gR (gR hn))))))))
  | 5, _, _ => Or.inr (gR (gL (gL (gL (gR (gL (gR (gR hn))))))))
  | 6, _, _ => Or.inr (gL (gR (gL (gL (gR (gL (gR (gR hn))))))))
  | 7, _, _ => Or.inr (gR (gR (gL (gL (gR (gL (gR (gR hn))))))))
  | 8, _, _ => Or.inr (gL (gL (gR (gL (gR (gL (gR (gR hn))))))))
  | 9, _, _ => Or.inr (gR (gL (gR (gL (gR (gL (gR (gR hn))))))))
  | 10, _, _ => Or.inr (gL (gR (gR (gL (gR (gL (gR (gR hn))))))))
  | 11, _, _ => Or.inr (gL (gR (gR (gR (gL (gR (gL (gR (gR hn)))))))))
  | 12, _, hne => absurd rfl hne
  | 13, _, _ => Or.inl (gL (gR (gL (gR (gL (gR (gR (gR hn))))))))
  | 14, _, _ => Or.inl (gR (gL (gR (gR (gR (gR (gR (gR hn))))))))
  | n + 15, h, _ => absurd h (by omega)
theorem rg6_13 (hn : narrow_1.before args s = true) : ∀ j, j < 15 → 13 ≠ j → (Cond.not (Cond.eq (rTs 13) (rTs j))).before args s = true ∨ (Cond.not (Cond.eq (rTs j) (rTs 13))).before args s = true := fun j hj hne => match j, hj, hne with
  | 0, _, _ => Or.inr (gR (gR (gR (gR (gR (gR (gL (gR (gR hn)))))))))
  | 1, _, _ => Or.inr (gL (gL (gL (gL (gL (gR (gR (gR hn))))))))
  | 2, _, _ => Or.inr (gR (gL (gL (gL (gL (gR (gR (gR hn))))))))
  | 3, _, _ => Or.inr (gL (gR (gL (gL (gL (gR (gR (gR hn))))))))
  | 4, _, _ => Or.inr (gR (gR (gL (gL (gL (gR (gR (gR hn))))))))
  | 5, _, _ => Or.inr (gL (gL (gR (gL (gL (gR (gR (gR hn))))))))
  | 6, _, _ => Or.inr (gR (gL (gR (gL (gL (gR (gR (gR hn))))))))
  | 7, _, _ => Or.inr (gL (gR (gR (gL (gL (gR (gR (gR hn))))))))
  | 8, _, _ => Or.inr (gL (gR (gR (gR (gL (gL (gR (gR (gR hn)))))))))
  | 9, _, _ => Or.inr (gR (gR (gR (gR (gL (gL (gR (gR (gR hn)))))))))
  | 10, _, _ => Or.inr (gL (gL (gL (gR (gL (gR (gR (gR hn))))))))
  | 11, _, _ => Or.inr (gR (gL (gL (gR (gL (gR (gR (gR hn))))))))
  | 12, _, _ => Or.inr (gL (gR (gL (gR (gL (gR (gR (gR hn))))))))
  | 13, _, hne => absurd rfl hne
  | 14, _, _ => Or.inl (gL (gR (gR (gR (gR (gR (gR (gR hn))))))))
  | n + 15, h, _ => absurd h (by omega)
theorem rg6_14 (hn : narrow_1.before args s = true) : ∀ j, j < 15 → 14 ≠ j → (Cond.not (Cond.eq (rTs 14) (rTs j))).before args s = true ∨ (Cond.not (Cond.eq (rTs j) (rTs 14))).before args s = true := fun j hj hne => match j, hj, hne with
  | 0, _, _ => Or.inr (gL (gR (gL (gL (gR (gR (gR (gR hn))))))))
  | 1, _, _ => Or.inr (gR (gR (gL (gL (gR (gR (gR (gR hn))))))))
  | 2, _, _ => Or.inr (gL (gL (gR (gL (gR (gR (gR (gR hn))))))))
  | 3, _, _ => Or.inr (gR (gL (gR (gL (gR (gR (gR (gR hn))))))))
  | 4, _, _ => Or.inr (gL (gR (gR (gL (gR (gR (gR (gR hn))))))))
  | 5, _, _ => Or.inr (gL (gR (gR (gR (gL (gR (gR (gR (gR hn)))))))))
  | 6, _, _ => Or.inr (gR (gR (gR (gR (gL (gR (gR (gR (gR hn)))))))))
  | 7, _, _ => Or.inr (gL (gL (gL (gR (gR (gR (gR (gR hn))))))))
  | 8, _, _ => Or.inr (gR (gL (gL (gR (gR (gR (gR (gR hn))))))))
  | 9, _, _ => Or.inr (gL (gR (gL (gR (gR (gR (gR (gR hn))))))))
  | 10, _, _ => Or.inr (gR (gR (gL (gR (gR (gR (gR (gR hn))))))))
  | 11, _, _ => Or.inr (gL (gL (gR (gR (gR (gR (gR (gR hn))))))))
  | 12, _, _ => Or.inr (gR (gL (gR (gR (gR (gR (gR (gR hn))))))))
  | 13, _, _ => Or.inr (gL (gR (gR (gR (gR (gR (gR (gR hn))))))))
  | 14, _, hne => absurd rfl hne
  | n + 15, h, _ => absurd h (by omega)
theorem rg6 (hn : narrow_1.before args s = true) : ∀ i, i < 15 → ∀ j, j < 15 → i ≠ j → (Cond.not (Cond.eq (rTs i) (rTs j))).before args s = true ∨ (Cond.not (Cond.eq (rTs j) (rTs i))).before args s = true := fun i hi => match i, hi with
  | 0, _ => rg6_0 hn
  | 1, _ => rg6_1 hn
  | 2, _ => rg6_2 hn
  | 3, _ => rg6_3 hn
  | 4, _ => rg6_4 hn
  | 5, _ => rg6_5 hn
  | 6, _ => rg6_6 hn
  | 7, _ => rg6_7 hn
  | 8, _ => rg6_8 hn
  | 9, _ => rg6_9 hn
  | 10, _ => rg6_10 hn
  | 11, _ => rg6_11 hn
  | 12, _ => rg6_12 hn
  | 13, _ => rg6_13 hn
  | 14, _ => rg6_14 hn
  | n + 15, h => absurd h (by omega)
end GIV
theorem rg7 : ∀ i, i < 15 → rLen.getD i 0 < 2 ^ 31 := by decide +kernel
def rCv (sb tU tO : Nat) (adK adV : Nat → Nat) (k : Nat) : Nat := if k = 0 then sb else if k = 1 then tU else if k = 2 then tO else if k < 40 then adK (k - 10) else adV (k - 40)
theorem rCv_K {sb tU tO : Nat} {adK adV : Nat → Nat} {i : Nat} (h : i < 15) : rCv sb tU tO adK adV (10 + i) = adK i := by
  unfold rCv
  rw [if_neg (by omega), if_neg (by omega), if_neg (by omega), if_pos (by omega), Nat.add_sub_cancel_left]
theorem rCv_V {sb tU tO : Nat} {adK adV : Nat → Nat} {i : Nat} : rCv sb tU tO adK adV (40 + i) = adV i := by
  unfold rCv
  rw [if_neg (by omega), if_neg (by omega), if_neg (by omega), if_neg (by omega), Nat.add_sub_cancel_left]
/-- the constants, at the law's start -/
theorem rCon_start {args : Array Value} {s : State} {sb L : Nat} {xs : Nat → Int32} (hts : ∀ w ∈ lw_tbl, w.before args s = true) (hX : va_X sb L xs s s.heap) (hbl : sb < s.heap.size) (hgv : (Jvm.Cond.and given_1 narrow_1).before args s = true) : ∃ (cv : Nat → Nat) (fm : Value), fm.category = 1 ∧ cv 0 = sb ∧ rCon s.heap.size cv fm (L, xs) s := by
  have hn : narrow_1.before args s = true := gR hgv
  have hA : ∀ a : Nat, a < s.heap.size → ¬ rA s.heap.size a := fun a h => by unfold rA; omega
  obtain ⟨tU, hU1, hU2⟩ := va_Tof (f := fun j => .int (rUnder.getD j 0)) (A := rA s.heap.size) (by decide) (rg1 hn).1 (va_eqt (rg1 hn).2.1) (fun j hj => va_eqt ((rg1 hn).2.2 j hj)) hA
  obtain ⟨tO, hO1, hO2⟩ := va_Tof (f := fun j => .int (rOwn.getD j 0)) (A := rA s.heap.size) (by decide) (rg2 hn).1 (va_eqt (rg2 hn).2.1) (fun j hj => va_eqt ((rg2 hn).2.2 j hj)) hA
  have hZU := va_Zof (hts _ rStU.1) (hts _ rStU.2) hU1 hA
  have hZO := va_Zof (hts _ rStO.1) (hts _ rStO.2) hO1 hA
  have hZC := va_Zof (hts _ rStC.1) (hts _ rStC.2) (va_eqi (rg3 hn).1) hA
  have hZF := va_Zqof (hts _ rStF.1) (hts _ rStF.2) (rg3 hn).2 hA
  obtain ⟨fm, hfm, hZF⟩ : ∃ fm : Value, fm.category = 1 ∧ va_Z "jdk/internal/util/Preconditions" "SIOOBE_FORMATTER" "Ljava/util/function/BiFunction;" fm (rA s.heap.size) s s.heap := by
    rcases hZF with h | ⟨t, h⟩
    · exact ⟨_, rfl, h⟩
    · exact ⟨_, rfl, h⟩
  obtain ⟨adK, adV, hS, hSe⟩ := vk_Sof (N := 15) (tm := rTs) (len := rLen) (byt := rByt) (A := rA s.heap.size) rg7 (fun i hi => (rg4 hn i hi).1) (fun i hi => (rg4 hn i hi).2.1) (fun i hi => (rg4 hn i hi).2.2.1) (fun i hi => (rg4 hn i hi).2.2.2) (fun i hi j hj => rg5 hn i hi j hj) (fun i j hi hj hij => rg6 hn i hi j hj hij) hA
  refine ⟨rCv sb tU tO adK adV, fm, hfm, rfl, ⟨hbl, hX⟩, ⟨hZU, hU2⟩, ⟨hZO, hO2⟩, hZC, hZF, ⟨fun i hi => ?_, fun i j hi hj e => ?_⟩, fun i q hq => ?_, va_Nw.of rfl (hts _ rN0_in), va_Nw.of rfl (hts _ rN1_in), va_Nw.of rfl (hts _ rN2_in), va_Nw.of rfl (hts _ rN3_in), va_Nw.of rfl (hts _ rN4_in)⟩
  · have h := hS.1 i hi
    show va_O "java/lang/String" (rCv sb tU tO adK adV (10 + i)) _ _ _ ∧ _
    dsimp only
    rw [rCv_K hi, rCv_V]
    exact h
  · dsimp only at e
    rw [rCv_K hi, rCv_K hj] at e
    exact hS.2 i j hi hj e
  · have hi : i < 15 := (List.getElem?_eq_some_iff.mp hq).1
    rw [rCv_K hi]
    have h2 := hSe i hi
    have e : rStrs.getD i (0, "") = q := by rw [List.getD_eq_getElem?_getD, hq]; rfl
    rw [show rTs i = Term.string "SampleLayers$Text" q.1 by rw [← e]] at h2
    exact vk_R.of (hts _ (rStr_in i q hq)) h2
/-- the classes and arrays, at the law's start -/
theorem rK_start {args : Array Value} {s : State} (hts : ∀ w ∈ rTT, w.before args s = true) : ∃ (D : va_G) (cI cB : ClassId), va_K D classes [(cI, .int), (cB, .byte)] s := by
  have h0 : ∀ k : Nat, ∃ q : ClassId × (Nat → Nat), k < 7 → ∀ r : vw_C, classes[k]? = some r → u_Kn s r.1 r.2.1 r.2.2 q.1 q.2 := by
    intro k
    by_cases hk : k < 7
    · obtain ⟨C, T, N, ty, hKc⟩ := rKcl k hk
      obtain ⟨cC, iS, h⟩ := u_known (C := C) (T := T) (N := N) (n := N) hts hKc.2.2.1 (hts _ hKc.2.2.2.2.2.2.1)
      refine ⟨(cC, iS), fun _ r hr => ?_⟩
      cases hKc.1.symm.trans hr
      exact h
    · exact ⟨(0, fun _ => 0), fun h => absurd h hk⟩
  obtain ⟨f, hf⟩ := Classical.axiomOfChoice h0
  obtain ⟨cI, kI, compI, i1, i2, i3⟩ := Cond.arrayClass_spec (hts _ rArrI)
  obtain ⟨cB, kB, compB, b1, b2, b3⟩ := Cond.arrayClass_spec (hts _ rArrB)
  refine ⟨(fun k => (f k).1, fun k => (f k).2), cI, cB, fun k r hr => hf k ((List.getElem?_eq_some_iff.mp hr).1) r hr, fun k q hq => ?_⟩
  match k, hq with
  | 0, hq =>
    cases hq
    exact ⟨fun n z => ⟨fun k h => (by cases h), kI, i2, compI, i3⟩, i1⟩
  | 1, hq =>
    cases hq
    exact ⟨fun n z => ⟨fun k h => (by cases h), kB, b2, compB, b3⟩, b1⟩
  | k + 2, hq => cases hq
/-! THE CLAIM OUT OF ONE WALK OF THE LAW'S BODY. Your part is whole_start (and what it stands on); all else here is the same for every law, but numbers. -/
def R_law : String := "SampleLayersLaw"
def lw_P (b : Addr) (xs : List Int32) (args : Array Value) (s : State) : Prop := args = #[.ref b] ∧ s.IntsAt b xs ∧ xs.length ≤ 2560 ∧ (Jvm.Cond.and given_1 narrow_1).before args s = true
def lw_Q (_ : Array Value) (s : State) (o : Outcome) (t : State) : Prop := o = .returned (some (.int 1)) ∧ Framed s o t [] 600000 7302250
def lw_Z (below : List Frame) (a : Array Value) (s : State) : State → Prop := fun t => ∃ o, t.status = .running ∧ Ended t below o ∧ lw_Q a s o t
/-- the law's own end, with 1 on the stack, nothing written that was there before, its room as the claim has it -/
theorem lw_ret {p : Program} {l : Launch} {e : Env} {s : State} {m : MethodId} {below : List Frame} {meth : Method} {c : Code} {b : Nat} (hx : p.tables.exec = Jvm.exec) (hb : c.code = code) (hr : meth.sig.returnType = ret) (hlocks : meth.locks = false) {pc : Nat} {H : Heap} {ls : Array Slot} (hdg : decode code pc = .ok (.ireturn, 1)) : W p l e room_1 s m #[Value.ref b] below meth c H [] 600000 7302250 (lw_Z below #[Value.ref b] s) (F0 m pc ls [.int 1]) := by
  intro T hT X
  obtain ⟨fs, hret, hrun, hended, hW, hframe⟩ := X.leave (v := some (.int 1)) (hlocks := hlocks) (fun h => by rw [hr] at h; cases h)
  have hmeth' : T.vm.method? m = some meth := X.method'
  refine ⟨T.setFrames fs, ?_, .returned (some (.int 1)), hrun, hended, rfl, ⟨_, rfl⟩, hW, hframe⟩
  jvm_step X.here [X.here.top, hx, hb, hdg, hmeth', hr, ret, narrow_b1]
  (try refine ⟨rfl, ?_⟩); (try refine ⟨rfl, ?_⟩)
  first | (intro acts; rw [hret _ acts rfl rfl rfl]) | rw [hret _ _ rfl rfl rfl]
  exact Steps.refl _
/-- what holds at the law's entry: the machine, the code, the tables' words (any of lw_tbl by 'hts w (by decide +kernel)'), the script of L ints xs at the cell b, what the Statement gives of the start (any of its parts by flat_of_before) -/
def lw_At (p : Program) (s : State) (m : MethodId) (meth : Method) (c : Code) (b L : Nat) (xs : Nat → Int32) : Prop :=
  p.tables.exec = Jvm.exec ∧ c.code = code ∧ meth.sig.returnType = ret ∧ c.maxLocals = 4 ∧ s.vm.findClass R_law = some m.cls ∧ (∀ w ∈ lw_tbl, w.before #[Value.ref b] s = true) ∧ va_X b L xs s s.heap ∧ b < s.heap.size ∧ meth.locks = false ∧ (Jvm.Cond.and given_1 narrow_1).before #[Value.ref b] s = true
set_option maxHeartbeats 1000000 in
theorem whole_of_R (hRR : ∀ (L : Nat) (xs : Nat → Int32), L ≤ 2560 → ∀ h : rHp, rR (L, xs) (rCall (L, xs) 40) mLw_law (fun v _ _ => v = some (pI 1)) 0 [some (pC 0), none, none, none] [] [] h 0 0) {p : Program} {e : Env} {s : State} {m : MethodId} {below : List Frame} {meth : Method} {c : Code} (l : Launch) {b L : Nat} {xs : Nat → Int32} (hL : L ≤ 2560) (C0 : lw_At p s m meth c b L xs) : W p l e room_1 s m #[Value.ref b] below meth c s.heap [] 0 0 (lw_Z below #[Value.ref b] s) (entryFrame m ([Value.ref b] : List Value).toArray 4) := by
  obtain ⟨hx, hb, hr, hml, hown, hts, hX, hbl, hlocks, hgv⟩ := C0
  have htt : ∀ w ∈ rTT, w.before #[Value.ref b] s = true := fun w hw => hts w (List.mem_filter.mp hw).1
  obtain ⟨cv, fm, hfm, hcv, hcon⟩ := rCon_start hts hX hbl hgv
  obtain ⟨D, cI, cB, hK⟩ := rK_start htt
  have hl := lv_entry ([.ref b]) (n := 4) (Nat.le_of_ble_eq_true rfl)
  rw [lg_entry_eq]
  generalize (lg_sl ([.ref b]) ++ List.replicate (4 - (lg_sl ([.ref b])).length) Slot.unset).toArray = la at hl ⊢
  have hLH : rLH s.heap.size cv fm la [some (pC 0), none, none, none] := by
    refine ⟨hl.1, hl.2.1, fun i v hv => ?_⟩
    match i, hv with
    | 0, hv =>
      cases hv
      have h := hl.2.2 (0, .ref b) List.mem_cons_self
      show la[0]? = some (.val (if (0 : Nat) = 3 then fm else .ref (cv 0)))
      rw [if_neg (by decide), hcv]
      exact h
    | 1, hv => cases hv
    | 2, hv => cases hv
    | 3, hv => cases hv
    | i + 4, hv => cases hv
  have C : rCx p room_1 s m #[Value.ref b] meth c code mLw_law (L, xs) D cI cB s.heap.size cv fm 40 := by
    refine ⟨hx, hb, hml, hown, htt, hK, Nat.le_refl _, hcon, hfm, (fun h => by cases h), ⟨Nat.le_of_ble_eq_true rfl, Nat.le_of_ble_eq_true rfl, Nat.le_of_ble_eq_true rfl, Nat.le_of_ble_eq_true rfl⟩, rcLaw⟩
  have hP : va_P D classes (rW s.heap.size cI cB [] (fun _ _ => 0)) s.heap := fun k q h => by simp [rW, rWf] at h
  refine rG_body (Post := fun v _ _ => v = some (pI 1)) C (rMet_ok hfm rCodes 40) ?_ ?_ ?_ (hRR L xs hL (fun _ _ => 0)) s.heap [] la hP rfl va_S.rf hLH rfl
  · intro x ty pc sh h n k H locs la hret hty hn hd hpost hn1 hk1 hP1 hS1
    cases hpost
    refine va_forget hS1.2.2 (W.widen (k := 600000) (n := 7302250) (Nat.le_trans hn1 (Nat.le_of_ble_eq_true rfl)) (Nat.le_trans hk1 (Nat.le_of_ble_eq_true rfl)) ?_)
    exact lw_ret hx hb hr hlocks hd
  · intro x pc sh h n k H locs la hret
    cases hret
  · intro pc sh h n k H locs la hret
    cases hret
end
section
/-! what each method's code asks (by program, out of the printed decode rows): the walk between loop heads is the kernel's -/
def SH : rSh := [.inl (5, [some (some 1), some (some 8), some (some 15), some (some 22), some (some 24), some (some 28), some (some 32), some (some 34), none, none]), .inl (3, [some (some 2), some (some 3), some (some 4), some (some 5), some (some 7), some (some 6), none, none, none, none, none, none]), .inr (false, 8), .inr (false, 8), .inr (false, 8), .inr (false, 8), .inr (false, 8), .inr (false, 4), .inl (3, [some (some 9), some (some 10), some (some 11), some (some 12), some (some 14), some (some 13), none, none, none, none, none, none]), .inr (false, 8), .inr (false, 8), .inr (false, 8), .inr (false, 8), .inr (false, 8), .inr (false, 4), .inl (3, [some (some 16), some (some 17), some (some 18), some (some 19), some (some 21), some (some 20), none, none, none, none, none, none]), .inr (false, 8), .inr (false, 8), .inr (false, 8), .inr (false, 8), .inr (false, 8), .inr (false, 4), .inl (4, [some (some 23), none, none, none, none, none]), .inr (true, 200), .inl (1, [some (some 25), some (some 26), some (some 27)]), .inr (false, 4), .inr (false, 4), .inr (false, 160), .inl (2, [some (some 29), some (some 30), some (some 31)]), .inr (false, 4), .inr (false, 4), .inr (false, 4), .inl (0, [some (some 33), none, none, none, none, none]), .inr (false, 30), .inr (false, 30), .inl (6, [some (some 36), some (some 37), some (some 38), some (some 39), some (some 40), none, some (some 41), none, none, none, none, none, none, some (some 42), none, some (some 43), some (some 44), some (some 45), some (some 46), some (some 47), some (some 48), some (some 49), none, none, none, none, none]), .inr (false, 50), .inr (false, 50), .inr (false, 50), .inr (false, 50), .inr (false, 50), .inr (false, 200), .inr (false, 30), .inr (false, 4), .inr (false, 4), .inr (false, 160), .inr (false, 4), .inr (false, 4), .inr (false, 4), .inr (false, 30)]
def oI (o : Option Int32) : Option rPV := match o with | none => none | some x => some (pI x)
def oL (o : Option Int64) : Option rPV := match o with | none => none | some x => some (pL x)
theorem rCall_mono {E : rE} {d : Nat} {M : rM} {as : List rPV} {sh : rSh} {h : rHp} {P Q : rPost} (hPQ : ∀ v sh h, P v sh h → Q v sh h) (H : rCall E d M as sh h P) : rCall E d M as sh h Q := by
  cases d with
  | zero => exact H
  | succ d =>
    obtain ⟨h1, h2⟩ := bB_ok H
    show bB _ _
    rw [h1]
    exact rR_mono hPQ h2
theorem rPi_mono {sh : rSh} {f g : Int32 → rHp → Prop} (h : ∀ x h, f x h → g x h) : ∀ v s t, rPi sh f v s t → rPi sh g v s t := by
  intro v s t ⟨h1, h2⟩
  refine ⟨h1, ?_⟩
  split at h2
  · exact h _ _ h2
  · exact h2.elim
theorem rPl_mono {sh : rSh} {f g : Int64 → rHp → Prop} (h : ∀ x h, f x h → g x h) : ∀ v s t, rPl sh f v s t → rPl sh g v s t := by
  intro v s t ⟨h1, h2⟩
  refine ⟨h1, ?_⟩
  split at h2
  · exact h _ _ h2
  · exact h2.elim
theorem rPn_mono {sh : rSh} {f g : rHp → Prop} (h : ∀ h, f h → g h) : ∀ v s t, rPn sh f v s t → rPn sh g v s t := by
  intro v s t ⟨h1, h2⟩
  refine ⟨h1, ?_⟩
  split at h2
  · exact h _ h2
  · exact h2.elim
theorem kc_bm100 : (Int8.ofInt (-100)).toInt32 = (-100:Int32) := by decide +kernel
theorem kc_bm11 : (Int8.ofInt (-11)).toInt32 = (-11:Int32) := by decide +kernel
theorem kc_bm12 : (Int8.ofInt (-12)).toInt32 = (-12:Int32) := by decide +kernel
theorem kc_bm13 : (Int8.ofInt (-13)).toInt32 = (-13:Int32) := by decide +kernel
theorem kc_bm14 : (Int8.ofInt (-14)).toInt32 = (-14:Int32) := by decide +kernel
theorem kc_bm15 : (Int8.ofInt (-15)).toInt32 = (-15:Int32) := by decide +kernel
theorem kc_bm2 : (Int8.ofInt (-2)).toInt32 = (-2:Int32) := by decide +kernel
theorem kc_bm3 : (Int8.ofInt (-3)).toInt32 = (-3:Int32) := by decide +kernel
theorem kc_bm9 : (Int8.ofInt (-9)).toInt32 = (-9:Int32) := by decide +kernel
theorem kc_b100 : (Int8.ofInt 100).toInt32 = (100:Int32) := by decide +kernel
theorem kc_b101 : (Int8.ofInt 101).toInt32 = (101:Int32) := by decide +kernel
theorem kc_b102 : (Int8.ofInt 102).toInt32 = (102:Int32) := by decide +kernel
theorem kc_b103 : (Int8.ofInt 103).toInt32 = (103:Int32) := by decide +kernel
theorem kc_b104 : (Int8.ofInt 104).toInt32 = (104:Int32) := by decide +kernel
theorem kc_b105 : (Int8.ofInt 105).toInt32 = (105:Int32) := by decide +kernel
theorem kc_b108 : (Int8.ofInt 108).toInt32 = (108:Int32) := by decide +kernel
theorem kc_b109 : (Int8.ofInt 109).toInt32 = (109:Int32) := by decide +kernel
theorem kc_b10 : (Int8.ofInt 10).toInt32 = (10:Int32) := by decide +kernel
theorem kc_b110 : (Int8.ofInt 110).toInt32 = (110:Int32) := by decide +kernel
theorem kc_b111 : (Int8.ofInt 111).toInt32 = (111:Int32) := by decide +kernel
theorem kc_b112 : (Int8.ofInt 112).toInt32 = (112:Int32) := by decide +kernel
theorem kc_b114 : (Int8.ofInt 114).toInt32 = (114:Int32) := by decide +kernel
theorem kc_b115 : (Int8.ofInt 115).toInt32 = (115:Int32) := by decide +kernel
theorem kc_b116 : (Int8.ofInt 116).toInt32 = (116:Int32) := by decide +kernel
theorem kc_b117 : (Int8.ofInt 117).toInt32 = (117:Int32) := by decide +kernel
theorem kc_b118 : (Int8.ofInt 118).toInt32 = (118:Int32) := by decide +kernel
theorem kc_b119 : (Int8.ofInt 119).toInt32 = (119:Int32) := by decide +kernel
theorem kc_b11 : (Int8.ofInt 11).toInt32 = (11:Int32) := by decide +kernel
theorem kc_b122 : (Int8.ofInt 122).toInt32 = (122:Int32) := by decide +kernel
theorem kc_b12 : (Int8.ofInt 12).toInt32 = (12:Int32) := by decide +kernel
theorem kc_b13 : (Int8.ofInt 13).toInt32 = (13:Int32) := by decide +kernel
theorem kc_b16 : (Int8.ofInt 16).toInt32 = (16:Int32) := by decide +kernel
theorem kc_b20 : (Int8.ofInt 20).toInt32 = (20:Int32) := by decide +kernel
theorem kc_b30 : (Int8.ofInt 30).toInt32 = (30:Int32) := by decide +kernel
theorem kc_b31 : (Int8.ofInt 31).toInt32 = (31:Int32) := by decide +kernel
theorem kc_b32 : (Int8.ofInt 32).toInt32 = (32:Int32) := by decide +kernel
theorem kc_b40 : (Int8.ofInt 40).toInt32 = (40:Int32) := by decide +kernel
theorem kc_b41 : (Int8.ofInt 41).toInt32 = (41:Int32) := by decide +kernel
theorem kc_b48 : (Int8.ofInt 48).toInt32 = (48:Int32) := by decide +kernel
theorem kc_b50 : (Int8.ofInt 50).toInt32 = (50:Int32) := by decide +kernel
theorem kc_b51 : (Int8.ofInt 51).toInt32 = (51:Int32) := by decide +kernel
theorem kc_b57 : (Int8.ofInt 57).toInt32 = (57:Int32) := by decide +kernel
theorem kc_b59 : (Int8.ofInt 59).toInt32 = (59:Int32) := by decide +kernel
theorem kc_b60 : (Int8.ofInt 60).toInt32 = (60:Int32) := by decide +kernel
theorem kc_b61 : (Int8.ofInt 61).toInt32 = (61:Int32) := by decide +kernel
theorem kc_b63 : (Int8.ofInt 63).toInt32 = (63:Int32) := by decide +kernel
theorem kc_b64 : (Int8.ofInt 64).toInt32 = (64:Int32) := by decide +kernel
theorem kc_b6 : (Int8.ofInt 6).toInt32 = (6:Int32) := by decide +kernel
theorem kc_b70 : (Int8.ofInt 70).toInt32 = (70:Int32) := by decide +kernel
theorem kc_b7 : (Int8.ofInt 7).toInt32 = (7:Int32) := by decide +kernel
theorem kc_b8 : (Int8.ofInt 8).toInt32 = (8:Int32) := by decide +kernel
theorem kc_b97 : (Int8.ofInt 97).toInt32 = (97:Int32) := by decide +kernel
theorem kc_b98 : (Int8.ofInt 98).toInt32 = (98:Int32) := by decide +kernel
theorem kc_b99 : (Int8.ofInt 99).toInt32 = (99:Int32) := by decide +kernel
theorem kc_b9 : (Int8.ofInt 9).toInt32 = (9:Int32) := by decide +kernel
theorem kc_s1000 : (Int16.ofInt 1000).toInt32 = (1000:Int32) := by decide +kernel
theorem kc_s12345 : (Int16.ofInt 12345).toInt32 = (12345:Int32) := by decide +kernel
theorem kc_s200 : (Int16.ofInt 200).toInt32 = (200:Int32) := by decide +kernel
theorem kc_s255 : (Int16.ofInt 255).toInt32 = (255:Int32) := by decide +kernel
theorem kc_s999 : (Int16.ofInt 999).toInt32 = (999:Int32) := by decide +kernel

set_option maxRecDepth 100000 in
set_option maxHeartbeats 1000000 in
theorem vAc_clear {E : rE} {d : Nat} {Post : rPost} {h : rHp} (H : Post none SH (rUp (rUp h 32 1 (0:Int32)) 32 5 (0:Int32))) : rCall E (d + 1) mAc_clear [pR 32] SH h Post := rEx_ok (zCut []) 8 (⟨Or.inl rfl, H⟩)
set_option maxRecDepth 100000 in
set_option maxHeartbeats 1000000 in
theorem vAc_holdOne {E : rE} {d : Nat} {Post : rPost} {h : rHp} {a1 : Int32} {a2 : Int32} {a3 : Int32} (H : Post none SH (rUp (rUp (rUp h 32 2 a1) 32 3 a2) 32 4 a3)) : rCall E (d + 1) mAc_holdOne [pR 32, pI a1, pI a2, pI a3] SH h Post := rEx_ok (zCut []) 11 H
set_option maxRecDepth 100000 in
set_option maxHeartbeats 1000000 in
theorem vAc_answer {E : rE} {d : Nat} {Post : rPost} {h : rHp} {a1 : Int32} {a2 : Int32} (H : rCall E d mAc_own [pR 32, pI a1, pI a2, pI (0:Int32)] SH h (rPi SH (fun x2 g1 => ((g1 32 5) = 0 → Post (some (pI x2)) SH g1) ∧ (¬ (g1 32 5) = 0 → Post (some (pI (-15:Int32))) SH g1)))) : rCall E (d + 1) mAc_answer [pR 32, pI a1, pI a2] SH h Post := by
  have H : rCall E d mAc_own [pR 32, pI a1, pI a2, pI (0:Int32)] SH h (rPi SH (fun x2 g1 => ((g1 32 5) = 0 → Post (some (pI x2)) SH g1) ∧ (¬ (g1 32 5) = 0 → Post (some (pI (Int8.ofInt (-15)).toInt32)) SH g1))) := by simp only [kc_bm15]; exact H
  exact rEx_ok (zCut []) 13 H
set_option maxRecDepth 100000 in
set_option maxHeartbeats 1000000 in
theorem vAc_own {E : rE} {d : Nat} {Post : rPost} {h : rHp} {a1 : Int32} {a2 : Int32} {a3 : Int32} (H : rCall E d mAc_bodyFor [pI (h 32 3), pI a1] SH h (rPi SH (fun x2 g1 => rCall E d mAc_run [pR 32, pI x2, pI a2, pI a3] SH g1 (rPi SH (fun x4 g3 => Post (some (pI x4)) SH g3))))) : rCall E (d + 1) mAc_own [pR 32, pI a1, pI a2, pI a3] SH h Post := rEx_ok (zCut []) 10 H
set_option maxRecDepth 100000 in
set_option maxHeartbeats 1000000 in
theorem vAc_inherited {E : rE} {d : Nat} {Post : rPost} {h : rHp} {a1 : Int32} {a2 : Int32} {a3 : Int32} {a4 : Int32} (H : vp_in a1 6 ∧ rCall E d mAc_bodyFor [pI (rUnder.getD a1.toNatClampNeg 0), pI a2] SH h (rPi SH (fun x2 g1 => rCall E d mAc_run [pR 32, pI x2, pI a3, pI a4] SH g1 (rPi SH (fun x4 g3 => Post (some (pI x4)) SH g3))))) : rCall E (d + 1) mAc_inherited [pR 32, pI a1, pI a2, pI a3, pI a4] SH h Post := rEx_ok (zCut []) 11 H
set_option maxRecDepth 100000 in
set_option maxHeartbeats 1000000 in
theorem vAc_bodyFor {E : rE} {d : Nat} {Post : rPost} {h : rHp} {a1 : Int32} {a2 : Int32} (H : rR E (rCall E d) mAc_bodyFor Post 4 [some (pI a1), some (pI a2), some (pI a1), some (pI (0:Int32)), none] [] SH h 0 0) : rCall E (d + 1) mAc_bodyFor [pI a1, pI a2] SH h Post := rEx_ok (zCut [4]) 6 H
set_option maxRecDepth 100000 in
set_option maxHeartbeats 1000000 in
theorem vAc_bodyFor_4 {E : rE} {d : Nat} {Post : rPost} {h : rHp} {v0 : Int32} {v1 : Int32} {v2 : Int32} {v3 : Int32} {o4 : Option Int32} (H : ((6:Int32) ≤ v3 → Post (some (pI (0:Int32))) SH h) ∧ (¬ (6:Int32) ≤ v3 → rCall E d mLa_within [pI v2, pI (5:Int32)] SH h (rPi SH (fun x2 g1 => (x2 = 0 → Post (some (pI (0:Int32))) SH g1) ∧ (¬ x2 = 0 → vp_in ((v2 * (4:Int32)) + v1) 24 ∧ ((rOwn.getD ((v2 * (4:Int32)) + v1).toNatClampNeg 0) = 0 → vp_in v2 6 ∧ rR E (rCall E d) mAc_bodyFor Post 4 [some (pI v0), some (pI v1), some (pI (rUnder.getD v2.toNatClampNeg 0)), some (pI (v3 + (1:Int32))), some (pI (rOwn.getD ((v2 * (4:Int32)) + v1).toNatClampNeg 0))] [] SH g1 0 0) ∧ (¬ (rOwn.getD ((v2 * (4:Int32)) + v1).toNatClampNeg 0) = 0 → Post (some (pI (rOwn.getD ((v2 * (4:Int32)) + v1).toNatClampNeg 0))) SH g1)))))) : rR E (rCall E d) mAc_bodyFor Post 4 [some (pI v0), some (pI v1), some (pI v2), some (pI v3), oI o4] [] SH h 0 0 := by
  have H : ((Int8.ofInt 6).toInt32 ≤ v3 → Post (some (pI (0:Int32))) SH h) ∧ (¬ (Int8.ofInt 6).toInt32 ≤ v3 → rCall E d mLa_within [pI v2, pI (5:Int32)] SH h (rPi SH (fun x2 g1 => (x2 = 0 → Post (some (pI (0:Int32))) SH g1) ∧ (¬ x2 = 0 → vp_in ((v2 * (4:Int32)) + v1) 24 ∧ ((rOwn.getD ((v2 * (4:Int32)) + v1).toNatClampNeg 0) = 0 → vp_in v2 6 ∧ rR E (rCall E d) mAc_bodyFor Post 4 [some (pI v0), some (pI v1), some (pI (rUnder.getD v2.toNatClampNeg 0)), some (pI (v3 + (1:Int32))), some (pI (rOwn.getD ((v2 * (4:Int32)) + v1).toNatClampNeg 0))] [] SH g1 0 0) ∧ (¬ (rOwn.getD ((v2 * (4:Int32)) + v1).toNatClampNeg 0) = 0 → Post (some (pI (rOwn.getD ((v2 * (4:Int32)) + v1).toNatClampNeg 0))) SH g1))))) := by simp only [kc_b6]; exact H
  exact (match o4, H with | none, H => rEx_ok (zCut [4]) 25 H | some _, H => rEx_ok (zCut [4]) 25 H)
set_option maxRecDepth 100000 in
set_option maxHeartbeats 1000000 in
theorem vAc_run {E : rE} {d : Nat} {Post : rPost} {h : rHp} {a1 : Int32} {a2 : Int32} {a3 : Int32} (H : ((h 32 5) = 0 → (a3 ≤ (40:Int32) → rCall E d mAc_note [pR 32, pI a1] SH h (rPn SH (fun g1 => (a1 = (10:Int32) → Post (some (pI ((a2 * (2:Int32)) + (g1 32 2)))) SH g1) ∧ (¬ a1 = (10:Int32) → (a1 = (11:Int32) → rCall E d mAc_own [pR 32, pI (0:Int32), pI a2, pI (a3 + (1:Int32))] SH g1 (rPi SH (fun x3 g2 => Post (some (pI ((x3 * (3:Int32)) - (g2 32 4)))) SH g2))) ∧ (¬ a1 = (11:Int32) → (a1 = (12:Int32) → rCall E d mAc_part [pR 32, pI a2] SH g1 (rPi SH (fun x5 g4 => Post (some (pI x5)) SH g4))) ∧ (¬ a1 = (12:Int32) → (a1 = (13:Int32) → rCall E d mAc_own [pR 32, pI (1:Int32), pI a2, pI (a3 + (1:Int32))] SH g1 (rPi SH (fun x7 g6 => Post (some (pI (x7 ^^^ (70:Int32)))) SH g6))) ∧ (¬ a1 = (13:Int32) → (a1 = (20:Int32) → rCall E d mAc_inherited [pR 32, pI (1:Int32), pI (1:Int32), pI a2, pI (a3 + (1:Int32))] SH g1 (rPi SH (fun x9 g8 => Post (some (pI (x9 + (8:Int32)))) SH g8))) ∧ (¬ a1 = (20:Int32) → (a1 = (30:Int32) → rCall E d mAc_inherited [pR 32, pI (2:Int32), pI (0:Int32), pI a2, pI (a3 + (1:Int32))] SH g1 (rPi SH (fun x11 g10 => Post (some (pI ((0:Int32) - x11))) SH g10))) ∧ (¬ a1 = (30:Int32) → (a1 = (31:Int32) → rCall E d mAc_inherited [pR 32, pI (2:Int32), pI (3:Int32), pI a2, pI (a3 + (1:Int32))] SH g1 (rPi SH (fun x13 g12 => rCall E d mAc_own [pR 32, pI (2:Int32), pI (g12 32 2), pI (a3 + (1:Int32))] SH g12 (rPi SH (fun x15 g14 => Post (some (pI (x13 - x15))) SH g14))))) ∧ (¬ a1 = (31:Int32) → (a1 = (40:Int32) → rCall E d mAc_inherited [pR 32, pI (4:Int32), pI (0:Int32), pI a2, pI (a3 + (1:Int32))] SH g1 (rPi SH (fun x17 g16 => Post (some (pI (x17 ^^^ (5:Int32)))) SH g16))) ∧ (¬ a1 = (40:Int32) → (a1 = (41:Int32) → rCall E d mAc_inherited [pR 32, pI (4:Int32), pI (1:Int32), pI a2, pI (a3 + (1:Int32))] SH g1 (rPi SH (fun x19 g18 => rCall E d mAc_own [pR 32, pI (0:Int32), pI (g18 32 4), pI (a3 + (1:Int32))] SH g18 (rPi SH (fun x21 g20 => Post (some (pI (x19 - x21))) SH g20))))) ∧ (¬ a1 = (41:Int32) → (a1 = (50:Int32) → rCall E d mAc_inherited [pR 32, pI (3:Int32), pI (2:Int32), pI (a2 + (9:Int32)), pI (a3 + (1:Int32))] SH g1 (rPi SH (fun x23 g22 => Post (some (pI (x23 * (2:Int32)))) SH g22))) ∧ (¬ a1 = (50:Int32) → (a1 = (51:Int32) → rCall E d mAc_inherited [pR 32, pI (3:Int32), pI (0:Int32), pI a2, pI (a3 + (1:Int32))] SH g1 (rPi SH (fun x25 g24 => Post (some (pI (x25 - (g24 32 2)))) SH g24))) ∧ (¬ a1 = (51:Int32) → (a1 = (60:Int32) → rCall E d mAc_inherited [pR 32, pI (5:Int32), pI (3:Int32), pI a2, pI (a3 + (1:Int32))] SH g1 (rPi SH (fun x27 g26 => Post (some (pI (x27 + (g26 32 4)))) SH g26))) ∧ (¬ a1 = (60:Int32) → (a1 = (61:Int32) → rCall E d mAc_inherited [pR 32, pI (5:Int32), pI (2:Int32), pI a2, pI (a3 + (1:Int32))] SH g1 (rPi SH (fun x29 g28 => rCall E d mAc_own [pR 32, pI (0:Int32), pI (g28 32 2), pI (a3 + (1:Int32))] SH g28 (rPi SH (fun x31 g30 => Post (some (pI (x29 ^^^ x31))) SH g30))))) ∧ (¬ a1 = (61:Int32) → Post (some (pI (0:Int32))) SH g1)))))))))))))))) ∧ (¬ a3 ≤ (40:Int32) → Post (some (pI (0:Int32))) SH h)) ∧ (¬ (h 32 5) = 0 → Post (some (pI (0:Int32))) SH h)) : rCall E (d + 1) mAc_run [pR 32, pI a1, pI a2, pI a3] SH h Post := by
  have H : ((h 32 5) = 0 → (a3 ≤ (Int8.ofInt 40).toInt32 → rCall E d mAc_note [pR 32, pI a1] SH h (rPn SH (fun g1 => (a1 = (10:Int32) → Post (some (pI ((a2 * (2:Int32)) + (g1 32 2)))) SH g1) ∧ (¬ a1 = (10:Int32) → (a1 = (11:Int32) → rCall E d mAc_own [pR 32, pI (0:Int32), pI a2, pI (a3 + (1:Int32))] SH g1 (rPi SH (fun x3 g2 => Post (some (pI ((x3 * (3:Int32)) - (g2 32 4)))) SH g2))) ∧ (¬ a1 = (11:Int32) → (a1 = (12:Int32) → rCall E d mAc_part [pR 32, pI a2] SH g1 (rPi SH (fun x5 g4 => Post (some (pI x5)) SH g4))) ∧ (¬ a1 = (12:Int32) → (a1 = (13:Int32) → rCall E d mAc_own [pR 32, pI (1:Int32), pI a2, pI (a3 + (1:Int32))] SH g1 (rPi SH (fun x7 g6 => Post (some (pI (x7 ^^^ (Int8.ofInt 70).toInt32))) SH g6))) ∧ (¬ a1 = (13:Int32) → (a1 = (20:Int32) → rCall E d mAc_inherited [pR 32, pI (1:Int32), pI (1:Int32), pI a2, pI (a3 + (1:Int32))] SH g1 (rPi SH (fun x9 g8 => Post (some (pI (x9 + (Int8.ofInt 8).toInt32))) SH g8))) ∧ (¬ a1 = (20:Int32) → (a1 = (30:Int32) → rCall E d mAc_inherited [pR 32, pI (2:Int32), pI (0:Int32), pI a2, pI (a3 + (1:Int32))] SH g1 (rPi SH (fun x11 g10 => Post (some (pI ((0:Int32) - x11))) SH g10))) ∧ (¬ a1 = (30:Int32) → (a1 = (31:Int32) → rCall E d mAc_inherited [pR 32, pI (2:Int32), pI (3:Int32), pI a2, pI (a3 + (1:Int32))] SH g1 (rPi SH (fun x13 g12 => rCall E d mAc_own [pR 32, pI (2:Int32), pI (g12 32 2), pI (a3 + (1:Int32))] SH g12 (rPi SH (fun x15 g14 => Post (some (pI (x13 - x15))) SH g14))))) ∧ (¬ a1 = (31:Int32) → (a1 = (40:Int32) → rCall E d mAc_inherited [pR 32, pI (4:Int32), pI (0:Int32), pI a2, pI (a3 + (1:Int32))] SH g1 (rPi SH (fun x17 g16 => Post (some (pI (x17 ^^^ (5:Int32)))) SH g16))) ∧ (¬ a1 = (40:Int32) → (a1 = (41:Int32) → rCall E d mAc_inherited [pR 32, pI (4:Int32), pI (1:Int32), pI a2, pI (a3 + (1:Int32))] SH g1 (rPi SH (fun x19 g18 => rCall E d mAc_own [pR 32, pI (0:Int32), pI (g18 32 4), pI (a3 + (1:Int32))] SH g18 (rPi SH (fun x21 g20 => Post (some (pI (x19 - x21))) SH g20))))) ∧ (¬ a1 = (41:Int32) → (a1 = (50:Int32) → rCall E d mAc_inherited [pR 32, pI (3:Int32), pI (2:Int32), pI (a2 + (Int8.ofInt 9).toInt32), pI (a3 + (1:Int32))] SH g1 (rPi SH (fun x23 g22 => Post (some (pI (x23 * (2:Int32)))) SH g22))) ∧ (¬ a1 = (50:Int32) → (a1 = (51:Int32) → rCall E d mAc_inherited [pR 32, pI (3:Int32), pI (0:Int32), pI a2, pI (a3 + (1:Int32))] SH g1 (rPi SH (fun x25 g24 => Post (some (pI (x25 - (g24 32 2)))) SH g24))) ∧ (¬ a1 = (51:Int32) → (a1 = (60:Int32) → rCall E d mAc_inherited [pR 32, pI (5:Int32), pI (3:Int32), pI a2, pI (a3 + (1:Int32))] SH g1 (rPi SH (fun x27 g26 => Post (some (pI (x27 + (g26 32 4)))) SH g26))) ∧ (¬ a1 = (60:Int32) → (a1 = (61:Int32) → rCall E d mAc_inherited [pR 32, pI (5:Int32), pI (2:Int32), pI a2, pI (a3 + (1:Int32))] SH g1 (rPi SH (fun x29 g28 => rCall E d mAc_own [pR 32, pI (0:Int32), pI (g28 32 2), pI (a3 + (1:Int32))] SH g28 (rPi SH (fun x31 g30 => Post (some (pI (x29 ^^^ x31))) SH g30))))) ∧ (¬ a1 = (61:Int32) → Post (some (pI (0:Int32))) SH g1)))))))))))))))) ∧ (¬ a3 ≤ (Int8.ofInt 40).toInt32 → Post (some (pI (0:Int32))) SH h)) ∧ (¬ (h 32 5) = 0 → Post (some (pI (0:Int32))) SH h) := by simp only [kc_b40, kc_b70, kc_b8, kc_b9]; exact H
  exact rEx_ok (zCut []) 30 H
set_option maxRecDepth 100000 in
set_option maxHeartbeats 1000000 in
theorem vAc_part {E : rE} {d : Nat} {Post : rPost} {h : rHp} {a1 : Int32} (H : (((h 32 4) - (h 32 2)) = 0 → Post (some (pI (0:Int32))) SH (rUp h 32 5 (1:Int32))) ∧ (¬ ((h 32 4) - (h 32 2)) = 0 → ¬ ((h 32 4) - (h 32 2)) = 0 ∧ Post (some (pI (a1 / ((h 32 4) - (h 32 2))))) SH h)) : rCall E (d + 1) mAc_part [pR 32, pI a1] SH h Post := rEx_ok (zCut []) 14 (And.intro (fun k1 => ⟨Or.inr rfl, (H.1 k1)⟩) (fun k1 => H.2 k1))
set_option maxRecDepth 100000 in
set_option maxHeartbeats 1000000 in
theorem vAc_note {E : rE} {d : Nat} {Post : rPost} {h : rHp} {a1 : Int32} (H : ((30:Int32) ≤ (h 32 1) → Post none SH h) ∧ (¬ (30:Int32) ≤ (h 32 1) → vp_in (h 32 1) 30 ∧ Post none SH (rUp (rUp h 33 (h 32 1).toNatClampNeg a1) 32 1 ((h 32 1) + (1:Int32))))) : rCall E (d + 1) mAc_note [pR 32, pI a1] SH h Post := by
  have H : ((Int8.ofInt 30).toInt32 ≤ (h 32 1) → Post none SH h) ∧ (¬ (Int8.ofInt 30).toInt32 ≤ (h 32 1) → vp_in (h 32 1) 30 ∧ Post none SH (rUp (rUp h 33 (h 32 1).toNatClampNeg a1) 32 1 ((h 32 1) + (1:Int32)))) := by simp only [kc_b30]; exact H
  exact rEx_ok (zCut []) 18 H
set_option maxRecDepth 100000 in
set_option maxHeartbeats 1000000 in
theorem vSe_begin {E : rE} {d : Nat} {Post : rPost} {h : rHp} {a1 : Int32} {a2 : Int32} {a3 : Int32} (H : vp_in a1 4 ∧ vp_in a1 4 ∧ rR E (rCall E d) mSe_begin Post 17 [some (pR 24), some (pI a1), some (pI a2), some (pI a3), some (pI (0:Int32))] [] SH (rUp (rUp h 25 a1.toNatClampNeg a2) 26 a1.toNatClampNeg a3) 0 0) : rCall E (d + 1) mSe_begin [pR 24, pI a1, pI a2, pI a3] SH h Post := rEx_ok (zCut [17]) 14 H
set_option maxRecDepth 100000 in
set_option maxHeartbeats 1000000 in
theorem vSe_begin_17 {E : rE} {d : Nat} {Post : rPost} {h : rHp} {v1 : Int32} {v2 : Int32} {v3 : Int32} {v4 : Int32} (H : ((40:Int32) ≤ v4 → Post none SH h) ∧ (¬ (40:Int32) ≤ v4 → vp_in ((v1 * (40:Int32)) + v4) 160 ∧ rR E (rCall E d) mSe_begin Post 17 [some (pR 24), some (pI v1), some (pI v2), some (pI v3), some (pI (v4 + (1:Int32)))] [] SH (rUp h 27 ((v1 * (40:Int32)) + v4).toNatClampNeg (0:Int32)) 0 0)) : rR E (rCall E d) mSe_begin Post 17 [some (pR 24), some (pI v1), some (pI v2), some (pI v3), some (pI v4)] [] SH h 0 0 := by
  have H : ((Int8.ofInt 40).toInt32 ≤ v4 → Post none SH h) ∧ (¬ (Int8.ofInt 40).toInt32 ≤ v4 → vp_in ((v1 * (Int8.ofInt 40).toInt32) + v4) 160 ∧ rR E (rCall E d) mSe_begin Post 17 [some (pR 24), some (pI v1), some (pI v2), some (pI v3), some (pI (v4 + (1:Int32)))] [] SH (rUp h 27 ((v1 * (Int8.ofInt 40).toInt32) + v4).toNatClampNeg (0:Int32)) 0 0) := by simp only [kc_b40]; exact H
  exact rEx_ok (zCut [17]) 16 H
set_option maxRecDepth 100000 in
set_option maxHeartbeats 1000000 in
theorem vSe_holds {E : rE} {d : Nat} {Post : rPost} {h : rHp} {a1 : Int32} {a2 : Int32} (H : vp_in a1 4 ∧ ((h 25 a1.toNatClampNeg) = (-1:Int32) → Post (some (pI (0:Int32))) SH h) ∧ (¬ (h 25 a1.toNatClampNeg) = (-1:Int32) → (a2 < 0 → Post (some (pI (0:Int32))) SH h) ∧ (¬ a2 < 0 → vp_in a1 4 ∧ ((h 26 a1.toNatClampNeg) ≤ a2 → Post (some (pI (0:Int32))) SH h) ∧ (¬ (h 26 a1.toNatClampNeg) ≤ a2 → Post (some (pI (1:Int32))) SH h)))) : rCall E (d + 1) mSe_holds [pR 24, pI a1, pI a2] SH h Post := rEx_ok (zCut []) 18 (⟨H.1, And.intro (fun k3 => ⟨Or.inl rfl, (H.2.1 k3)⟩) (fun k3 => And.intro (fun k2 => ⟨Or.inl rfl, ((H.2.2 k3).1 k2)⟩) (fun k2 => ⟨((H.2.2 k3).2 k2).1, And.intro (fun k1 => ⟨Or.inl rfl, (((H.2.2 k3).2 k2).2.1 k1)⟩) (fun k1 => ⟨Or.inr rfl, (((H.2.2 k3).2 k2).2.2 k1)⟩)⟩))⟩)
set_option maxRecDepth 100000 in
set_option maxHeartbeats 1000000 in
theorem vSe_number {E : rE} {d : Nat} {Post : rPost} {h : rHp} {a1 : Int32} {a2 : Int32} (H : vp_in ((a1 * (40:Int32)) + a2) 160 ∧ Post (some (pI (h 27 ((a1 * (40:Int32)) + a2).toNatClampNeg))) SH h) : rCall E (d + 1) mSe_number [pR 24, pI a1, pI a2] SH h Post := by
  have H : vp_in ((a1 * (Int8.ofInt 40).toInt32) + a2) 160 ∧ Post (some (pI (h 27 ((a1 * (Int8.ofInt 40).toInt32) + a2).toNatClampNeg))) SH h := by simp only [kc_b40]; exact H
  exact rEx_ok (zCut []) 10 H
set_option maxRecDepth 100000 in
set_option maxHeartbeats 1000000 in
theorem vSe_write {E : rE} {d : Nat} {Post : rPost} {h : rHp} {a1 : Int32} {a2 : Int32} {a3 : Int32} (H : vp_in a1 4 ∧ ((h 25 a1.toNatClampNeg) = 0 → vp_in ((a1 * (40:Int32)) + a2) 160 ∧ Post none SH (rUp h 27 ((a1 * (40:Int32)) + a2).toNatClampNeg a3.toInt8.toInt32)) ∧ (¬ (h 25 a1.toNatClampNeg) = 0 → vp_in a1 4 ∧ ((h 25 a1.toNatClampNeg) = (1:Int32) → vp_in ((a1 * (40:Int32)) + a2) 160 ∧ Post none SH (rUp h 27 ((a1 * (40:Int32)) + a2).toNatClampNeg a3.toInt16.toInt32)) ∧ (¬ (h 25 a1.toNatClampNeg) = (1:Int32) → vp_in ((a1 * (40:Int32)) + a2) 160 ∧ Post none SH (rUp h 27 ((a1 * (40:Int32)) + a2).toNatClampNeg a3)))) : rCall E (d + 1) mSe_write [pR 24, pI a1, pI a2, pI a3] SH h Post := by
  have H : vp_in a1 4 ∧ ((h 25 a1.toNatClampNeg) = 0 → vp_in ((a1 * (Int8.ofInt 40).toInt32) + a2) 160 ∧ Post none SH (rUp h 27 ((a1 * (Int8.ofInt 40).toInt32) + a2).toNatClampNeg a3.toInt8.toInt32)) ∧ (¬ (h 25 a1.toNatClampNeg) = 0 → vp_in a1 4 ∧ ((h 25 a1.toNatClampNeg) = (1:Int32) → vp_in ((a1 * (Int8.ofInt 40).toInt32) + a2) 160 ∧ Post none SH (rUp h 27 ((a1 * (Int8.ofInt 40).toInt32) + a2).toNatClampNeg a3.toInt16.toInt32)) ∧ (¬ (h 25 a1.toNatClampNeg) = (1:Int32) → vp_in ((a1 * (Int8.ofInt 40).toInt32) + a2) 160 ∧ Post none SH (rUp h 27 ((a1 * (Int8.ofInt 40).toInt32) + a2).toNatClampNeg a3))) := by simp only [kc_b40]; exact H
  exact rEx_ok (zCut []) 27 H
set_option maxRecDepth 100000 in
set_option maxHeartbeats 1000000 in
theorem vSf_clear {E : rE} {d : Nat} {Post : rPost} {h : rHp} {a1 : Int32} (H : vp_in a1 4 ∧ vp_in a1 4 ∧ vp_in a1 4 ∧ Post none SH (rUp (rUp (rUp h 29 a1.toNatClampNeg (-1:Int32)) 30 a1.toNatClampNeg (-1:Int32)) 31 a1.toNatClampNeg (0:Int32))) : rCall E (d + 1) mSf_clear [pR 28, pI a1] SH h Post := rEx_ok (zCut []) 17 H
set_option maxRecDepth 100000 in
set_option maxHeartbeats 1000000 in
theorem vSf_holdThing {E : rE} {d : Nat} {Post : rPost} {h : rHp} {a1 : Int32} {a2 : Int32} (H : rCall E d mSf_clear [pR 28, pI a1] SH h (rPn SH (fun g1 => vp_in a1 4 ∧ Post none SH (rUp g1 29 a1.toNatClampNeg a2)))) : rCall E (d + 1) mSf_holdThing [pR 28, pI a1, pI a2] SH h Post := rEx_ok (zCut []) 10 H
set_option maxRecDepth 100000 in
set_option maxHeartbeats 1000000 in
theorem vSf_holdRow {E : rE} {d : Nat} {Post : rPost} {h : rHp} {a1 : Int32} {a2 : Int32} {a3 : Int32} (H : rCall E d mSf_clear [pR 28, pI a1] SH h (rPn SH (fun g1 => vp_in a1 4 ∧ vp_in a1 4 ∧ Post none SH (rUp (rUp g1 30 a1.toNatClampNeg a2) 31 a1.toNatClampNeg a3)))) : rCall E (d + 1) mSf_holdRow [pR 28, pI a1, pI a2, pI a3] SH h Post := rEx_ok (zCut []) 15 H
set_option maxRecDepth 100000 in
set_option maxHeartbeats 1000000 in
theorem vSf_holdsRow {E : rE} {d : Nat} {Post : rPost} {h : rHp} {a1 : Int32} (H : vp_in a1 4 ∧ ((h 30 a1.toNatClampNeg) = (-1:Int32) → Post (some (pI (0:Int32))) SH h) ∧ (¬ (h 30 a1.toNatClampNeg) = (-1:Int32) → Post (some (pI (1:Int32))) SH h)) : rCall E (d + 1) mSf_holdsRow [pR 28, pI a1] SH h Post := rEx_ok (zCut []) 10 (⟨H.1, And.intro (fun k1 => ⟨Or.inl rfl, (H.2.1 k1)⟩) (fun k1 => ⟨Or.inr rfl, (H.2.2 k1)⟩)⟩)
set_option maxRecDepth 100000 in
set_option maxHeartbeats 1000000 in
theorem vJi_bitCount {E : rE} {d : Nat} {Post : rPost} {h : rHp} {a1 : Int32} (H : Post (some (pI ((((((((a1 - (((a1.toUInt32 >>> ((1:Int32).toUInt32 &&& Int32.toUInt32 31)).toInt32) &&& (1431655765:Int32))) &&& (858993459:Int32)) + ((((a1 - (((a1.toUInt32 >>> ((1:Int32).toUInt32 &&& Int32.toUInt32 31)).toInt32) &&& (1431655765:Int32))).toUInt32 >>> ((2:Int32).toUInt32 &&& Int32.toUInt32 31)).toInt32) &&& (858993459:Int32))) + (((((a1 - (((a1.toUInt32 >>> ((1:Int32).toUInt32 &&& Int32.toUInt32 31)).toInt32) &&& (1431655765:Int32))) &&& (858993459:Int32)) + ((((a1 - (((a1.toUInt32 >>> ((1:Int32).toUInt32 &&& Int32.toUInt32 31)).toInt32) &&& (1431655765:Int32))).toUInt32 >>> ((2:Int32).toUInt32 &&& Int32.toUInt32 31)).toInt32) &&& (858993459:Int32))).toUInt32 >>> ((4:Int32).toUInt32 &&& Int32.toUInt32 31)).toInt32)) &&& (252645135:Int32)) + (((((((a1 - (((a1.toUInt32 >>> ((1:Int32).toUInt32 &&& Int32.toUInt32 31)).toInt32) &&& (1431655765:Int32))) &&& (858993459:Int32)) + ((((a1 - (((a1.toUInt32 >>> ((1:Int32).toUInt32 &&& Int32.toUInt32 31)).toInt32) &&& (1431655765:Int32))).toUInt32 >>> ((2:Int32).toUInt32 &&& Int32.toUInt32 31)).toInt32) &&& (858993459:Int32))) + (((((a1 - (((a1.toUInt32 >>> ((1:Int32).toUInt32 &&& Int32.toUInt32 31)).toInt32) &&& (1431655765:Int32))) &&& (858993459:Int32)) + ((((a1 - (((a1.toUInt32 >>> ((1:Int32).toUInt32 &&& Int32.toUInt32 31)).toInt32) &&& (1431655765:Int32))).toUInt32 >>> ((2:Int32).toUInt32 &&& Int32.toUInt32 31)).toInt32) &&& (858993459:Int32))).toUInt32 >>> ((4:Int32).toUInt32 &&& Int32.toUInt32 31)).toInt32)) &&& (252645135:Int32)).toUInt32 >>> ((8:Int32).toUInt32 &&& Int32.toUInt32 31)).toInt32)) + ((((((((a1 - (((a1.toUInt32 >>> ((1:Int32).toUInt32 &&& Int32.toUInt32 31)).toInt32) &&& (1431655765:Int32))) &&& (858993459:Int32)) + ((((a1 - (((a1.toUInt32 >>> ((1:Int32).toUInt32 &&& Int32.toUInt32 31)).toInt32) &&& (1431655765:Int32))).toUInt32 >>> ((2:Int32).toUInt32 &&& Int32.toUInt32 31)).toInt32) &&& (858993459:Int32))) + (((((a1 - (((a1.toUInt32 >>> ((1:Int32).toUInt32 &&& Int32.toUInt32 31)).toInt32) &&& (1431655765:Int32))) &&& (858993459:Int32)) + ((((a1 - (((a1.toUInt32 >>> ((1:Int32).toUInt32 &&& Int32.toUInt32 31)).toInt32) &&& (1431655765:Int32))).toUInt32 >>> ((2:Int32).toUInt32 &&& Int32.toUInt32 31)).toInt32) &&& (858993459:Int32))).toUInt32 >>> ((4:Int32).toUInt32 &&& Int32.toUInt32 31)).toInt32)) &&& (252645135:Int32)) + (((((((a1 - (((a1.toUInt32 >>> ((1:Int32).toUInt32 &&& Int32.toUInt32 31)).toInt32) &&& (1431655765:Int32))) &&& (858993459:Int32)) + ((((a1 - (((a1.toUInt32 >>> ((1:Int32).toUInt32 &&& Int32.toUInt32 31)).toInt32) &&& (1431655765:Int32))).toUInt32 >>> ((2:Int32).toUInt32 &&& Int32.toUInt32 31)).toInt32) &&& (858993459:Int32))) + (((((a1 - (((a1.toUInt32 >>> ((1:Int32).toUInt32 &&& Int32.toUInt32 31)).toInt32) &&& (1431655765:Int32))) &&& (858993459:Int32)) + ((((a1 - (((a1.toUInt32 >>> ((1:Int32).toUInt32 &&& Int32.toUInt32 31)).toInt32) &&& (1431655765:Int32))).toUInt32 >>> ((2:Int32).toUInt32 &&& Int32.toUInt32 31)).toInt32) &&& (858993459:Int32))).toUInt32 >>> ((4:Int32).toUInt32 &&& Int32.toUInt32 31)).toInt32)) &&& (252645135:Int32)).toUInt32 >>> ((8:Int32).toUInt32 &&& Int32.toUInt32 31)).toInt32)).toUInt32 >>> ((16:Int32).toUInt32 &&& Int32.toUInt32 31)).toInt32)) &&& (63:Int32)))) SH h) : rCall E (d + 1) mJi_bitCount [pI a1] SH h Post := by
  have H : Post (some (pI ((((((((a1 - (((a1.toUInt32 >>> ((1:Int32).toUInt32 &&& Int32.toUInt32 31)).toInt32) &&& (1431655765:Int32))) &&& (858993459:Int32)) + ((((a1 - (((a1.toUInt32 >>> ((1:Int32).toUInt32 &&& Int32.toUInt32 31)).toInt32) &&& (1431655765:Int32))).toUInt32 >>> ((2:Int32).toUInt32 &&& Int32.toUInt32 31)).toInt32) &&& (858993459:Int32))) + (((((a1 - (((a1.toUInt32 >>> ((1:Int32).toUInt32 &&& Int32.toUInt32 31)).toInt32) &&& (1431655765:Int32))) &&& (858993459:Int32)) + ((((a1 - (((a1.toUInt32 >>> ((1:Int32).toUInt32 &&& Int32.toUInt32 31)).toInt32) &&& (1431655765:Int32))).toUInt32 >>> ((2:Int32).toUInt32 &&& Int32.toUInt32 31)).toInt32) &&& (858993459:Int32))).toUInt32 >>> ((4:Int32).toUInt32 &&& Int32.toUInt32 31)).toInt32)) &&& (252645135:Int32)) + (((((((a1 - (((a1.toUInt32 >>> ((1:Int32).toUInt32 &&& Int32.toUInt32 31)).toInt32) &&& (1431655765:Int32))) &&& (858993459:Int32)) + ((((a1 - (((a1.toUInt32 >>> ((1:Int32).toUInt32 &&& Int32.toUInt32 31)).toInt32) &&& (1431655765:Int32))).toUInt32 >>> ((2:Int32).toUInt32 &&& Int32.toUInt32 31)).toInt32) &&& (858993459:Int32))) + (((((a1 - (((a1.toUInt32 >>> ((1:Int32).toUInt32 &&& Int32.toUInt32 31)).toInt32) &&& (1431655765:Int32))) &&& (858993459:Int32)) + ((((a1 - (((a1.toUInt32 >>> ((1:Int32).toUInt32 &&& Int32.toUInt32 31)).toInt32) &&& (1431655765:Int32))).toUInt32 >>> ((2:Int32).toUInt32 &&& Int32.toUInt32 31)).toInt32) &&& (858993459:Int32))).toUInt32 >>> ((4:Int32).toUInt32 &&& Int32.toUInt32 31)).toInt32)) &&& (252645135:Int32)).toUInt32 >>> ((Int8.ofInt 8).toInt32.toUInt32 &&& Int32.toUInt32 31)).toInt32)) + ((((((((a1 - (((a1.toUInt32 >>> ((1:Int32).toUInt32 &&& Int32.toUInt32 31)).toInt32) &&& (1431655765:Int32))) &&& (858993459:Int32)) + ((((a1 - (((a1.toUInt32 >>> ((1:Int32).toUInt32 &&& Int32.toUInt32 31)).toInt32) &&& (1431655765:Int32))).toUInt32 >>> ((2:Int32).toUInt32 &&& Int32.toUInt32 31)).toInt32) &&& (858993459:Int32))) + (((((a1 - (((a1.toUInt32 >>> ((1:Int32).toUInt32 &&& Int32.toUInt32 31)).toInt32) &&& (1431655765:Int32))) &&& (858993459:Int32)) + ((((a1 - (((a1.toUInt32 >>> ((1:Int32).toUInt32 &&& Int32.toUInt32 31)).toInt32) &&& (1431655765:Int32))).toUInt32 >>> ((2:Int32).toUInt32 &&& Int32.toUInt32 31)).toInt32) &&& (858993459:Int32))).toUInt32 >>> ((4:Int32).toUInt32 &&& Int32.toUInt32 31)).toInt32)) &&& (252645135:Int32)) + (((((((a1 - (((a1.toUInt32 >>> ((1:Int32).toUInt32 &&& Int32.toUInt32 31)).toInt32) &&& (1431655765:Int32))) &&& (858993459:Int32)) + ((((a1 - (((a1.toUInt32 >>> ((1:Int32).toUInt32 &&& Int32.toUInt32 31)).toInt32) &&& (1431655765:Int32))).toUInt32 >>> ((2:Int32).toUInt32 &&& Int32.toUInt32 31)).toInt32) &&& (858993459:Int32))) + (((((a1 - (((a1.toUInt32 >>> ((1:Int32).toUInt32 &&& Int32.toUInt32 31)).toInt32) &&& (1431655765:Int32))) &&& (858993459:Int32)) + ((((a1 - (((a1.toUInt32 >>> ((1:Int32).toUInt32 &&& Int32.toUInt32 31)).toInt32) &&& (1431655765:Int32))).toUInt32 >>> ((2:Int32).toUInt32 &&& Int32.toUInt32 31)).toInt32) &&& (858993459:Int32))).toUInt32 >>> ((4:Int32).toUInt32 &&& Int32.toUInt32 31)).toInt32)) &&& (252645135:Int32)).toUInt32 >>> ((Int8.ofInt 8).toInt32.toUInt32 &&& Int32.toUInt32 31)).toInt32)).toUInt32 >>> ((Int8.ofInt 16).toInt32.toUInt32 &&& Int32.toUInt32 31)).toInt32)) &&& (Int8.ofInt 63).toInt32))) SH h := by simp only [kc_b16, kc_b63, kc_b8]; exact H
  exact rEx_ok (zCut []) 43 H
set_option maxRecDepth 100000 in
set_option maxHeartbeats 1000000 in
theorem vJs_length {E : rE} {d : Nat} {Post : rPost} {h : rHp} {i : Nat} (hi : i < 15) (H : rCall E d mJs_coder [pC (i+10)] SH h (rPi SH (fun x2 g1 => Post (some (pI ((Int32.ofNat (rLen.getD i 0)) >>> (x2 &&& 31)))) SH g1))) : rCall E (d + 1) mJs_length [pC (i+10)] SH h Post := by
  rcases (show i = 0 ∨ i = 1 ∨ i = 2 ∨ i = 3 ∨ i = 4 ∨ i = 5 ∨ i = 6 ∨ i = 7 ∨ i = 8 ∨ i = 9 ∨ i = 10 ∨ i = 11 ∨ i = 12 ∨ i = 13 ∨ i = 14 by omega) with e | e | e | e | e | e | e | e | e | e | e | e | e | e | e <;> subst e <;> simp only [Nat.reduceMul, Nat.reduceAdd] at H ⊢ <;> exact rEx_ok (zCut []) 8 H
set_option maxRecDepth 100000 in
set_option maxHeartbeats 1000000 in
theorem vJs_charAt {E : rE} {d : Nat} {Post : rPost} {h : rHp} {i : Nat} (hi : i < 15) {a1 : Int32} (H : rCall E d mJs_isLatin1 [pC (i+10)] SH h (rPi SH (fun x2 g1 => (x2 = 0 → False) ∧ (¬ x2 = 0 → rCall E d mJl_charAt [pC (i+40), pI a1] SH g1 (rPi SH (fun x4 g3 => narrow .char (.int x4) = .int x4 ∧ Post (some (pI x4)) SH g3)))))) : rCall E (d + 1) mJs_charAt [pC (i+10), pI a1] SH h Post := by
  rcases (show i = 0 ∨ i = 1 ∨ i = 2 ∨ i = 3 ∨ i = 4 ∨ i = 5 ∨ i = 6 ∨ i = 7 ∨ i = 8 ∨ i = 9 ∨ i = 10 ∨ i = 11 ∨ i = 12 ∨ i = 13 ∨ i = 14 by omega) with e | e | e | e | e | e | e | e | e | e | e | e | e | e | e <;> subst e <;> simp only [Nat.reduceMul, Nat.reduceAdd] at H ⊢ <;> exact rEx_ok (zCut []) 9 H
set_option maxRecDepth 100000 in
set_option maxHeartbeats 1000000 in
theorem vJs_coder {E : rE} {d : Nat} {Post : rPost} {h : rHp} {i : Nat} (hi : i < 15) (H : narrow .byte (.int (0:Int32)) = .int (0:Int32) ∧ Post (some (pI (0:Int32))) SH h) : rCall E (d + 1) mJs_coder [pC (i+10)] SH h Post := by
  rcases (show i = 0 ∨ i = 1 ∨ i = 2 ∨ i = 3 ∨ i = 4 ∨ i = 5 ∨ i = 6 ∨ i = 7 ∨ i = 8 ∨ i = 9 ∨ i = 10 ∨ i = 11 ∨ i = 12 ∨ i = 13 ∨ i = 14 by omega) with e | e | e | e | e | e | e | e | e | e | e | e | e | e | e <;> subst e <;> simp only [Nat.reduceMul, Nat.reduceAdd] at H ⊢ <;> exact rEx_ok (zCut []) 7 (And.intro (fun h0 => absurd h0 (by decide)) (fun _ => H))
set_option maxRecDepth 100000 in
set_option maxHeartbeats 1000000 in
theorem vJs_isLatin1 {E : rE} {d : Nat} {Post : rPost} {h : rHp} {i : Nat} (hi : i < 15) (H : Post (some (pI (1:Int32))) SH h) : rCall E (d + 1) mJs_isLatin1 [pC (i+10)] SH h Post := by
  rcases (show i = 0 ∨ i = 1 ∨ i = 2 ∨ i = 3 ∨ i = 4 ∨ i = 5 ∨ i = 6 ∨ i = 7 ∨ i = 8 ∨ i = 9 ∨ i = 10 ∨ i = 11 ∨ i = 12 ∨ i = 13 ∨ i = 14 by omega) with e | e | e | e | e | e | e | e | e | e | e | e | e | e | e <;> subst e <;> simp only [Nat.reduceMul, Nat.reduceAdd] at H ⊢ <;> exact rEx_ok (zCut []) 9 (And.intro (fun h0 => absurd h0 (by decide)) (fun _ => And.intro (fun _ => ⟨Or.inr rfl, H⟩) (fun h0 => absurd (by decide) h0)))
set_option maxRecDepth 100000 in
set_option maxHeartbeats 1000000 in
theorem vJs_checkIndex {E : rE} {d : Nat} {Post : rPost} {h : rHp} {a1 : Int32} {a2 : Int32} (H : rCall E d mJp_checkIndex [pI a1, pI a2, pC 3] SH h (rPi SH (fun x2 g1 => Post none SH g1))) : rCall E (d + 1) mJs_checkIndex [pI a1, pI a2] SH h Post := rEx_ok (zCut []) 7 H
set_option maxRecDepth 100000 in
set_option maxHeartbeats 1000000 in
theorem vJl_charAt {E : rE} {d : Nat} {Post : rPost} {h : rHp} {i : Nat} (hi : i < 15) {a2 : Int32} (H : rCall E d mJs_checkIndex [pI a2, pI (Int32.ofNat (rLen.getD i 0))] SH h (rPn SH (fun g1 => vp_in a2 (rLen.getD i 0) ∧ narrow .char (.int (((((rByt.getD i []).getD a2.toNatClampNeg 0) &&& (255:Int32)).toUInt32 % 65536).toInt32)) = .int (((((rByt.getD i []).getD a2.toNatClampNeg 0) &&& (255:Int32)).toUInt32 % 65536).toInt32) ∧ Post (some (pI (((((rByt.getD i []).getD a2.toNatClampNeg 0) &&& (255:Int32)).toUInt32 % 65536).toInt32))) SH g1))) : rCall E (d + 1) mJl_charAt [pC (i+40), pI a2] SH h Post := by
  have H : rCall E d mJs_checkIndex [pI a2, pI (Int32.ofNat (rLen.getD i 0))] SH h (rPn SH (fun g1 => vp_in a2 (rLen.getD i 0) ∧ narrow .char (.int (((((rByt.getD i []).getD a2.toNatClampNeg 0) &&& (Int16.ofInt 255).toInt32).toUInt32 % 65536).toInt32)) = .int (((((rByt.getD i []).getD a2.toNatClampNeg 0) &&& (Int16.ofInt 255).toInt32).toUInt32 % 65536).toInt32) ∧ Post (some (pI (((((rByt.getD i []).getD a2.toNatClampNeg 0) &&& (Int16.ofInt 255).toInt32).toUInt32 % 65536).toInt32))) SH g1)) := by simp only [kc_s255]; exact H
  rcases (show i = 0 ∨ i = 1 ∨ i = 2 ∨ i = 3 ∨ i = 4 ∨ i = 5 ∨ i = 6 ∨ i = 7 ∨ i = 8 ∨ i = 9 ∨ i = 10 ∨ i = 11 ∨ i = 12 ∨ i = 13 ∨ i = 14 by omega) with e | e | e | e | e | e | e | e | e | e | e | e | e | e | e <;> subst e <;> simp only [Nat.reduceMul, Nat.reduceAdd] at H ⊢ <;> exact rEx_ok (zCut []) 12 H
set_option maxRecDepth 100000 in
set_option maxHeartbeats 1000000 in
theorem vJp_checkIndex {E : rE} {d : Nat} {Post : rPost} {h : rHp} {a1 : Int32} {a2 : Int32} (H : (a1 < 0 → False) ∧ (¬ a1 < 0 → (a1 < a2 → Post (some (pI a1)) SH h) ∧ (¬ a1 < a2 → False))) : rCall E (d + 1) mJp_checkIndex [pI a1, pI a2, pC 3] SH h Post := rEx_ok (zCut []) 8 H
end
section
set_option maxRecDepth 100000 in
set_option maxHeartbeats 1000000 in
theorem vSt_begin {E : rE} {d : Nat} {Post : rPost} {h : rHp} {t : Nat} (ht : t < 3) (H : Post none SH (rUp (rUp (rUp (rUp (rUp (rUp (rUp (rUp (rUp h (7*t+7) 0 (3:Int32)) (7*t+7) 1 (2:Int32)) (7*t+7) 2 (2:Int32)) (7*t+7) 3 (20:Int32)) (7*t+1) 6 (0:Int32)) (7*t+1) 7 (0:Int32)) (7*t+1) 8 (0:Int32)) (7*t+1) 9 (0:Int32)) (7*t+1) 10 (50:Int32))) : rCall E (d + 1) mSt_begin [pR (7*t+1)] SH h Post := by
  have H : Post none SH (rUp (rUp (rUp (rUp (rUp (rUp (rUp (rUp (rUp h (7*t+7) 0 (3:Int32)) (7*t+7) 1 (2:Int32)) (7*t+7) 2 (2:Int32)) (7*t+7) 3 (Int8.ofInt 20).toInt32) (7*t+1) 6 (0:Int32)) (7*t+1) 7 (0:Int32)) (7*t+1) 8 (0:Int32)) (7*t+1) 9 (0:Int32)) (7*t+1) 10 (Int8.ofInt 50).toInt32) := by simp only [kc_b20, kc_b50]; exact H
  rcases (show t = 0 ∨ t = 1 ∨ t = 2 by omega) with e | e | e <;> subst e <;> simp only [Nat.reduceMul, Nat.reduceAdd] at H ⊢ <;> exact rEx_ok (zCut []) 37 (⟨by unfold vp_in; decide, ⟨by unfold vp_in; decide, ⟨by unfold vp_in; decide, ⟨by unfold vp_in; decide, H⟩⟩⟩⟩)
set_option maxRecDepth 100000 in
set_option maxHeartbeats 1000000 in
theorem vSt_become_01 {E : rE} {d : Nat} {Post : rPost} {h : rHp} (H : Post none SH (rUp (rUp (rUp (rUp (rUp (rUp (rCp (rCp (rCp (rCp (rCp (rCp h 9 2 0 0 8) 10 3 0 0 8) 11 4 0 0 8) 12 5 0 0 8) 13 6 0 0 8) 14 7 0 0 4) 1 6 (h 8 6)) 1 7 (h 8 7)) 1 8 (h 8 8)) 1 9 (h 8 9)) 1 10 (h 8 10)) 1 11 (h 8 11))) : rCall E (d + 1) mSt_become [pR 1, pR 8] SH h Post := rEx_ok (zCut []) 74 (⟨by decide, ⟨by decide, ⟨by decide, ⟨by decide, ⟨by decide, ⟨by decide, H⟩⟩⟩⟩⟩⟩)
set_option maxRecDepth 100000 in
set_option maxHeartbeats 1000000 in
theorem vSt_become_10 {E : rE} {d : Nat} {Post : rPost} {h : rHp} (H : Post none SH (rUp (rUp (rUp (rUp (rUp (rUp (rCp (rCp (rCp (rCp (rCp (rCp h 2 9 0 0 8) 3 10 0 0 8) 4 11 0 0 8) 5 12 0 0 8) 6 13 0 0 8) 7 14 0 0 4) 8 6 (h 1 6)) 8 7 (h 1 7)) 8 8 (h 1 8)) 8 9 (h 1 9)) 8 10 (h 1 10)) 8 11 (h 1 11))) : rCall E (d + 1) mSt_become [pR 8, pR 1] SH h Post := rEx_ok (zCut []) 74 (⟨by decide, ⟨by decide, ⟨by decide, ⟨by decide, ⟨by decide, ⟨by decide, H⟩⟩⟩⟩⟩⟩)
set_option maxRecDepth 100000 in
set_option maxHeartbeats 1000000 in
theorem vSt_become_20 {E : rE} {d : Nat} {Post : rPost} {h : rHp} (H : Post none SH (rUp (rUp (rUp (rUp (rUp (rUp (rCp (rCp (rCp (rCp (rCp (rCp h 2 16 0 0 8) 3 17 0 0 8) 4 18 0 0 8) 5 19 0 0 8) 6 20 0 0 8) 7 21 0 0 4) 15 6 (h 1 6)) 15 7 (h 1 7)) 15 8 (h 1 8)) 15 9 (h 1 9)) 15 10 (h 1 10)) 15 11 (h 1 11))) : rCall E (d + 1) mSt_become [pR 15, pR 1] SH h Post := rEx_ok (zCut []) 74 (⟨by decide, ⟨by decide, ⟨by decide, ⟨by decide, ⟨by decide, ⟨by decide, H⟩⟩⟩⟩⟩⟩)
set_option maxRecDepth 100000 in
set_option maxHeartbeats 1000000 in
theorem vSt_become_02 {E : rE} {d : Nat} {Post : rPost} {h : rHp} (H : Post none SH (rUp (rUp (rUp (rUp (rUp (rUp (rCp (rCp (rCp (rCp (rCp (rCp h 16 2 0 0 8) 17 3 0 0 8) 18 4 0 0 8) 19 5 0 0 8) 20 6 0 0 8) 21 7 0 0 4) 1 6 (h 15 6)) 1 7 (h 15 7)) 1 8 (h 15 8)) 1 9 (h 15 9)) 1 10 (h 15 10)) 1 11 (h 15 11))) : rCall E (d + 1) mSt_become [pR 1, pR 15] SH h Post := rEx_ok (zCut []) 74 (⟨by decide, ⟨by decide, ⟨by decide, ⟨by decide, ⟨by decide, ⟨by decide, H⟩⟩⟩⟩⟩⟩)
set_option maxRecDepth 100000 in
set_option maxHeartbeats 1000000 in
theorem vSt_has {E : rE} {d : Nat} {Post : rPost} {h : rHp} {t : Nat} (ht : t < 3) {a1 : Int32} (H : (a1 < 0 → Post (some (pI (0:Int32))) SH h) ∧ (¬ a1 < 0 → ((h (7*t+1) 6) ≤ a1 → Post (some (pI (0:Int32))) SH h) ∧ (¬ (h (7*t+1) 6) ≤ a1 → Post (some (pI (1:Int32))) SH h))) : rCall E (d + 1) mSt_has [pR (7*t+1), pI a1] SH h Post := by
  rcases (show t = 0 ∨ t = 1 ∨ t = 2 by omega) with e | e | e <;> subst e <;> simp only [Nat.reduceMul, Nat.reduceAdd] at H ⊢ <;> exact rEx_ok (zCut []) 10 (And.intro (fun k2 => ⟨Or.inl rfl, (H.1 k2)⟩) (fun k2 => And.intro (fun k1 => ⟨Or.inl rfl, ((H.2 k2).1 k1)⟩) (fun k1 => ⟨Or.inr rfl, ((H.2 k2).2 k1)⟩)))
set_option maxRecDepth 100000 in
set_option maxHeartbeats 1000000 in
theorem vSt_lies {E : rE} {d : Nat} {Post : rPost} {h : rHp} {t : Nat} (ht : t < 3) {a1 : Int32} (H : (a1 < 0 → Post (some (pI (0:Int32))) SH h) ∧ (¬ a1 < 0 → ((h (7*t+1) 6) ≤ a1 → Post (some (pI (0:Int32))) SH h) ∧ (¬ (h (7*t+1) 6) ≤ a1 → vp_in a1 8 ∧ ((h (7*t+5) a1.toNatClampNeg) = (6:Int32) → Post (some (pI (0:Int32))) SH h) ∧ (¬ (h (7*t+5) a1.toNatClampNeg) = (6:Int32) → Post (some (pI (1:Int32))) SH h)))) : rCall E (d + 1) mSt_lies [pR (7*t+1), pI a1] SH h Post := by
  have H : (a1 < 0 → Post (some (pI (0:Int32))) SH h) ∧ (¬ a1 < 0 → ((h (7*t+1) 6) ≤ a1 → Post (some (pI (0:Int32))) SH h) ∧ (¬ (h (7*t+1) 6) ≤ a1 → vp_in a1 8 ∧ ((h (7*t+5) a1.toNatClampNeg) = (Int8.ofInt 6).toInt32 → Post (some (pI (0:Int32))) SH h) ∧ (¬ (h (7*t+5) a1.toNatClampNeg) = (Int8.ofInt 6).toInt32 → Post (some (pI (1:Int32))) SH h))) := by simp only [kc_b6]; exact H
  rcases (show t = 0 ∨ t = 1 ∨ t = 2 by omega) with e | e | e <;> subst e <;> simp only [Nat.reduceMul, Nat.reduceAdd] at H ⊢ <;> exact rEx_ok (zCut []) 16 (And.intro (fun k3 => ⟨Or.inl rfl, (H.1 k3)⟩) (fun k3 => And.intro (fun k2 => ⟨Or.inl rfl, ((H.2 k3).1 k2)⟩) (fun k2 => ⟨((H.2 k3).2 k2).1, And.intro (fun k1 => ⟨Or.inl rfl, (((H.2 k3).2 k2).2.1 k1)⟩) (fun k1 => ⟨Or.inr rfl, (((H.2 k3).2 k2).2.2 k1)⟩)⟩)))
set_option maxRecDepth 100000 in
set_option maxHeartbeats 1000000 in
theorem vSt_add {E : rE} {d : Nat} {Post : rPost} {h : rHp} {t : Nat} (ht : t < 3) {a1 : Int32} {a2 : Int32} {a3 : Int32} {a4 : Int32} (H : ((h (7*t+1) 6) < (8:Int32) → vp_in (h (7*t+1) 6) 8 ∧ vp_in (h (7*t+1) 6) 8 ∧ vp_in (h (7*t+1) 6) 8 ∧ rCall E d mSt_layIn [pR (7*t+1), pI (h (7*t+1) 6), pI a4] SH (rUp (rUp (rUp (rUp h (7*t+1) 6 ((h (7*t+1) 6) + (1:Int32))) (7*t+2) (h (7*t+1) 6).toNatClampNeg a1) (7*t+3) (h (7*t+1) 6).toNatClampNeg a2) (7*t+4) (h (7*t+1) 6).toNatClampNeg a3) (rPn SH (fun g1 => Post (some (pI (h (7*t+1) 6))) SH g1))) ∧ (¬ (h (7*t+1) 6) < (8:Int32) → Post (some (pI (-2:Int32))) SH h)) : rCall E (d + 1) mSt_add [pR (7*t+1), pI a1, pI a2, pI a3, pI a4] SH h Post := by
  have H : ((h (7*t+1) 6) < (Int8.ofInt 8).toInt32 → vp_in (h (7*t+1) 6) 8 ∧ vp_in (h (7*t+1) 6) 8 ∧ vp_in (h (7*t+1) 6) 8 ∧ rCall E d mSt_layIn [pR (7*t+1), pI (h (7*t+1) 6), pI a4] SH (rUp (rUp (rUp (rUp h (7*t+1) 6 ((h (7*t+1) 6) + (1:Int32))) (7*t+2) (h (7*t+1) 6).toNatClampNeg a1) (7*t+3) (h (7*t+1) 6).toNatClampNeg a2) (7*t+4) (h (7*t+1) 6).toNatClampNeg a3) (rPn SH (fun g1 => Post (some (pI (h (7*t+1) 6))) SH g1))) ∧ (¬ (h (7*t+1) 6) < (Int8.ofInt 8).toInt32 → Post (some (pI (Int8.ofInt (-2)).toInt32)) SH h) := by simp only [kc_bm2, kc_b8]; exact H
  rcases (show t = 0 ∨ t = 1 ∨ t = 2 by omega) with e | e | e <;> subst e <;> simp only [Nat.reduceMul, Nat.reduceAdd] at H ⊢ <;> exact rEx_ok (zCut []) 35 H
set_option maxRecDepth 100000 in
set_option maxHeartbeats 1000000 in
theorem vSt_layIn {E : rE} {d : Nat} {Post : rPost} {h : rHp} {t : Nat} (ht : t < 3) {a1 : Int32} {a2 : Int32} (H : vp_in a1 8 ∧ vp_in a1 8 ∧ Post none SH (rUp (rUp (rUp h (7*t+5) a1.toNatClampNeg a2) (7*t+6) a1.toNatClampNeg (h (7*t+1) 7)) (7*t+1) 7 ((h (7*t+1) 7) + (1:Int32)))) : rCall E (d + 1) mSt_layIn [pR (7*t+1), pI a1, pI a2] SH h Post := by
  rcases (show t = 0 ∨ t = 1 ∨ t = 2 by omega) with e | e | e <;> subst e <;> simp only [Nat.reduceMul, Nat.reduceAdd] at H ⊢ <;> exact rEx_ok (zCut []) 19 H
set_option maxRecDepth 100000 in
set_option maxHeartbeats 1000000 in
theorem vSt_setLying {E : rE} {d : Nat} {Post : rPost} {h : rHp} {t : Nat} (ht : t < 3) (H : rR E (rCall E d) mSt_setLying Post 4 [some (pR (7*t+1)), some (pI (0:Int32)), some (pI (0:Int32))] [] SH h 0 0) : rCall E (d + 1) mSt_setLying [pR (7*t+1)] SH h Post := by
  rcases (show t = 0 ∨ t = 1 ∨ t = 2 by omega) with e | e | e <;> subst e <;> simp only [Nat.reduceMul, Nat.reduceAdd] at H ⊢ <;> exact rEx_ok (zCut [4]) 6 H
set_option maxRecDepth 100000 in
set_option maxHeartbeats 1000000 in
theorem vSt_setLying_4 {E : rE} {d : Nat} {Post : rPost} {h : rHp} {t : Nat} (ht : t < 3) {v1 : Int32} {v2 : Int32} (H : ((h (7*t+1) 6) ≤ v2 → Post (some (pI v1)) SH h) ∧ (¬ (h (7*t+1) 6) ≤ v2 → vp_in v2 8 ∧ ((h (7*t+5) v2.toNatClampNeg) = (6:Int32) → rR E (rCall E d) mSt_setLying Post 4 [some (pR (7*t+1)), some (pI v1), some (pI (v2 + (1:Int32)))] [] SH h 0 0) ∧ (¬ (h (7*t+5) v2.toNatClampNeg) = (6:Int32) → rR E (rCall E d) mSt_setLying Post 4 [some (pR (7*t+1)), some (pI (v1 ||| ((1:Int32) <<< (v2 &&& 31)))), some (pI (v2 + (1:Int32)))] [] SH h 0 0))) : rR E (rCall E d) mSt_setLying Post 4 [some (pR (7*t+1)), some (pI v1), some (pI v2)] [] SH h 0 0 := by
  have H : ((h (7*t+1) 6) ≤ v2 → Post (some (pI v1)) SH h) ∧ (¬ (h (7*t+1) 6) ≤ v2 → vp_in v2 8 ∧ ((h (7*t+5) v2.toNatClampNeg) = (Int8.ofInt 6).toInt32 → rR E (rCall E d) mSt_setLying Post 4 [some (pR (7*t+1)), some (pI v1), some (pI (v2 + (1:Int32)))] [] SH h 0 0) ∧ (¬ (h (7*t+5) v2.toNatClampNeg) = (Int8.ofInt 6).toInt32 → rR E (rCall E d) mSt_setLying Post 4 [some (pR (7*t+1)), some (pI (v1 ||| ((1:Int32) <<< (v2 &&& 31)))), some (pI (v2 + (1:Int32)))] [] SH h 0 0)) := by simp only [kc_b6]; exact H
  rcases (show t = 0 ∨ t = 1 ∨ t = 2 by omega) with e | e | e <;> subst e <;> simp only [Nat.reduceMul, Nat.reduceAdd] at H ⊢ <;> exact rEx_ok (zCut [4]) 20 H
set_option maxRecDepth 100000 in
set_option maxHeartbeats 1000000 in
theorem vSt_setIn {E : rE} {d : Nat} {Post : rPost} {h : rHp} {t : Nat} (ht : t < 3) {a1 : Int32} (H : rR E (rCall E d) mSt_setIn Post 4 [some (pR (7*t+1)), some (pI a1), some (pI (0:Int32)), some (pI (0:Int32))] [] SH h 0 0) : rCall E (d + 1) mSt_setIn [pR (7*t+1), pI a1] SH h Post := by
  rcases (show t = 0 ∨ t = 1 ∨ t = 2 by omega) with e | e | e <;> subst e <;> simp only [Nat.reduceMul, Nat.reduceAdd] at H ⊢ <;> exact rEx_ok (zCut [4]) 6 H
set_option maxRecDepth 100000 in
set_option maxHeartbeats 1000000 in
theorem vSt_setIn_4 {E : rE} {d : Nat} {Post : rPost} {h : rHp} {t : Nat} (ht : t < 3) {v1 : Int32} {v2 : Int32} {v3 : Int32} (H : ((h (7*t+1) 6) ≤ v3 → Post (some (pI v2)) SH h) ∧ (¬ (h (7*t+1) 6) ≤ v3 → vp_in v3 8 ∧ ((h (7*t+5) v3.toNatClampNeg) = v1 → rR E (rCall E d) mSt_setIn Post 4 [some (pR (7*t+1)), some (pI v1), some (pI (v2 ||| ((1:Int32) <<< (v3 &&& 31)))), some (pI (v3 + (1:Int32)))] [] SH h 0 0) ∧ (¬ (h (7*t+5) v3.toNatClampNeg) = v1 → rR E (rCall E d) mSt_setIn Post 4 [some (pR (7*t+1)), some (pI v1), some (pI v2), some (pI (v3 + (1:Int32)))] [] SH h 0 0))) : rR E (rCall E d) mSt_setIn Post 4 [some (pR (7*t+1)), some (pI v1), some (pI v2), some (pI v3)] [] SH h 0 0 := by
  rcases (show t = 0 ∨ t = 1 ∨ t = 2 by omega) with e | e | e <;> subst e <;> simp only [Nat.reduceMul, Nat.reduceAdd] at H ⊢ <;> exact rEx_ok (zCut [4]) 20 H
set_option maxRecDepth 100000 in
set_option maxHeartbeats 1000000 in
theorem vSt_setAbove {E : rE} {d : Nat} {Post : rPost} {h : rHp} {t : Nat} (ht : t < 3) {a1 : Int32} (H : (a1 < 0 → Post (some (pI (0:Int32))) SH h) ∧ (¬ a1 < 0 → ((h (7*t+1) 6) ≤ a1 → Post (some (pI (0:Int32))) SH h) ∧ (¬ (h (7*t+1) 6) ≤ a1 → vp_in a1 8 ∧ ((h (7*t+5) a1.toNatClampNeg) = (6:Int32) → Post (some (pI (0:Int32))) SH h) ∧ (¬ (h (7*t+5) a1.toNatClampNeg) = (6:Int32) → rR E (rCall E d) mSt_setAbove Post 29 [some (pR (7*t+1)), some (pI a1), some (pI (0:Int32)), some (pI (0:Int32))] [] SH h 0 0)))) : rCall E (d + 1) mSt_setAbove [pR (7*t+1), pI a1] SH h Post := by
  have H : (a1 < 0 → Post (some (pI (0:Int32))) SH h) ∧ (¬ a1 < 0 → ((h (7*t+1) 6) ≤ a1 → Post (some (pI (0:Int32))) SH h) ∧ (¬ (h (7*t+1) 6) ≤ a1 → vp_in a1 8 ∧ ((h (7*t+5) a1.toNatClampNeg) = (Int8.ofInt 6).toInt32 → Post (some (pI (0:Int32))) SH h) ∧ (¬ (h (7*t+5) a1.toNatClampNeg) = (Int8.ofInt 6).toInt32 → rR E (rCall E d) mSt_setAbove Post 29 [some (pR (7*t+1)), some (pI a1), some (pI (0:Int32)), some (pI (0:Int32))] [] SH h 0 0))) := by simp only [kc_b6]; exact H
  rcases (show t = 0 ∨ t = 1 ∨ t = 2 by omega) with e | e | e <;> subst e <;> simp only [Nat.reduceMul, Nat.reduceAdd] at H ⊢ <;> exact rEx_ok (zCut [29]) 18 H
set_option maxRecDepth 100000 in
set_option maxHeartbeats 1000000 in
theorem vSt_setAbove_29 {E : rE} {d : Nat} {Post : rPost} {h : rHp} {t : Nat} (ht : t < 3) {v1 : Int32} {v2 : Int32} {v3 : Int32} (H : ((h (7*t+1) 6) ≤ v3 → Post (some (pI v2)) SH h) ∧ (¬ (h (7*t+1) 6) ≤ v3 → vp_in v3 8 ∧ vp_in v1 8 ∧ ((h (7*t+5) v3.toNatClampNeg) = (h (7*t+5) v1.toNatClampNeg) → vp_in v3 8 ∧ vp_in v1 8 ∧ ((h (7*t+6) v3.toNatClampNeg) ≤ (h (7*t+6) v1.toNatClampNeg) → rR E (rCall E d) mSt_setAbove Post 29 [some (pR (7*t+1)), some (pI v1), some (pI v2), some (pI (v3 + (1:Int32)))] [] SH h 0 0) ∧ (¬ (h (7*t+6) v3.toNatClampNeg) ≤ (h (7*t+6) v1.toNatClampNeg) → rR E (rCall E d) mSt_setAbove Post 29 [some (pR (7*t+1)), some (pI v1), some (pI (v2 ||| ((1:Int32) <<< (v3 &&& 31)))), some (pI (v3 + (1:Int32)))] [] SH h 0 0)) ∧ (¬ (h (7*t+5) v3.toNatClampNeg) = (h (7*t+5) v1.toNatClampNeg) → rR E (rCall E d) mSt_setAbove Post 29 [some (pR (7*t+1)), some (pI v1), some (pI v2), some (pI (v3 + (1:Int32)))] [] SH h 0 0))) : rR E (rCall E d) mSt_setAbove Post 29 [some (pR (7*t+1)), some (pI v1), some (pI v2), some (pI v3)] [] SH h 0 0 := by
  rcases (show t = 0 ∨ t = 1 ∨ t = 2 by omega) with e | e | e <;> subst e <;> simp only [Nat.reduceMul, Nat.reduceAdd] at H ⊢ <;> exact rEx_ok (zCut [29]) 32 H
set_option maxRecDepth 100000 in
set_option maxHeartbeats 1000000 in
theorem vSt_uppermost {E : rE} {d : Nat} {Post : rPost} {h : rHp} {t : Nat} (ht : t < 3) {a1 : Int32} (H : rR E (rCall E d) mSt_uppermost Post 8 [some (pR (7*t+1)), some (pI a1), some (pI (8:Int32)), some (pI (-1:Int32)), some (pI (0:Int32))] [] SH h 0 0) : rCall E (d + 1) mSt_uppermost [pR (7*t+1), pI a1] SH h Post := by
  have H : rR E (rCall E d) mSt_uppermost Post 8 [some (pR (7*t+1)), some (pI a1), some (pI (Int8.ofInt 8).toInt32), some (pI (-1:Int32)), some (pI (0:Int32))] [] SH h 0 0 := by simp only [kc_b8]; exact H
  rcases (show t = 0 ∨ t = 1 ∨ t = 2 by omega) with e | e | e <;> subst e <;> simp only [Nat.reduceMul, Nat.reduceAdd] at H ⊢ <;> exact rEx_ok (zCut [8]) 8 H
set_option maxRecDepth 100000 in
set_option maxHeartbeats 1000000 in
theorem vSt_uppermost_8 {E : rE} {d : Nat} {Post : rPost} {h : rHp} {t : Nat} (ht : t < 3) {v1 : Int32} {v2 : Int32} {v3 : Int32} {v4 : Int32} (H : ((h (7*t+1) 6) ≤ v4 → Post (some (pI v2)) SH h) ∧ (¬ (h (7*t+1) 6) ≤ v4 → vp_in v4 8 ∧ ((h (7*t+5) v4.toNatClampNeg) = v1 → vp_in v4 8 ∧ ((h (7*t+6) v4.toNatClampNeg) ≤ v3 → rR E (rCall E d) mSt_uppermost Post 8 [some (pR (7*t+1)), some (pI v1), some (pI v2), some (pI v3), some (pI (v4 + (1:Int32)))] [] SH h 0 0) ∧ (¬ (h (7*t+6) v4.toNatClampNeg) ≤ v3 → vp_in v4 8 ∧ rR E (rCall E d) mSt_uppermost Post 8 [some (pR (7*t+1)), some (pI v1), some (pI v4), some (pI (h (7*t+6) v4.toNatClampNeg)), some (pI (v4 + (1:Int32)))] [] SH h 0 0)) ∧ (¬ (h (7*t+5) v4.toNatClampNeg) = v1 → rR E (rCall E d) mSt_uppermost Post 8 [some (pR (7*t+1)), some (pI v1), some (pI v2), some (pI v3), some (pI (v4 + (1:Int32)))] [] SH h 0 0))) : rR E (rCall E d) mSt_uppermost Post 8 [some (pR (7*t+1)), some (pI v1), some (pI v2), some (pI v3), some (pI v4)] [] SH h 0 0 := by
  rcases (show t = 0 ∨ t = 1 ∨ t = 2 by omega) with e | e | e <;> subst e <;> simp only [Nat.reduceMul, Nat.reduceAdd] at H ⊢ <;> exact rEx_ok (zCut [8]) 27 H
set_option maxRecDepth 100000 in
set_option maxHeartbeats 1000000 in
theorem vSt_worthLying {E : rE} {d : Nat} {Post : rPost} {h : rHp} {t : Nat} (ht : t < 3) (H : rR E (rCall E d) mSt_worthLying Post 4 [some (pR (7*t+1)), some (pI (0:Int32)), some (pI (0:Int32))] [] SH h 0 0) : rCall E (d + 1) mSt_worthLying [pR (7*t+1)] SH h Post := by
  rcases (show t = 0 ∨ t = 1 ∨ t = 2 by omega) with e | e | e <;> subst e <;> simp only [Nat.reduceMul, Nat.reduceAdd] at H ⊢ <;> exact rEx_ok (zCut [4]) 6 H
set_option maxRecDepth 100000 in
set_option maxHeartbeats 1000000 in
theorem vSt_worthLying_4 {E : rE} {d : Nat} {Post : rPost} {h : rHp} {t : Nat} (ht : t < 3) {v1 : Int32} {v2 : Int32} (H : ((h (7*t+1) 6) ≤ v2 → Post (some (pI v1)) SH h) ∧ (¬ (h (7*t+1) 6) ≤ v2 → vp_in v2 8 ∧ ((h (7*t+5) v2.toNatClampNeg) = (6:Int32) → rR E (rCall E d) mSt_worthLying Post 4 [some (pR (7*t+1)), some (pI v1), some (pI (v2 + (1:Int32)))] [] SH h 0 0) ∧ (¬ (h (7*t+5) v2.toNatClampNeg) = (6:Int32) → vp_in v2 8 ∧ rR E (rCall E d) mSt_worthLying Post 4 [some (pR (7*t+1)), some (pI (v1 + (h (7*t+3) v2.toNatClampNeg))), some (pI (v2 + (1:Int32)))] [] SH h 0 0))) : rR E (rCall E d) mSt_worthLying Post 4 [some (pR (7*t+1)), some (pI v1), some (pI v2)] [] SH h 0 0 := by
  have H : ((h (7*t+1) 6) ≤ v2 → Post (some (pI v1)) SH h) ∧ (¬ (h (7*t+1) 6) ≤ v2 → vp_in v2 8 ∧ ((h (7*t+5) v2.toNatClampNeg) = (Int8.ofInt 6).toInt32 → rR E (rCall E d) mSt_worthLying Post 4 [some (pR (7*t+1)), some (pI v1), some (pI (v2 + (1:Int32)))] [] SH h 0 0) ∧ (¬ (h (7*t+5) v2.toNatClampNeg) = (Int8.ofInt 6).toInt32 → vp_in v2 8 ∧ rR E (rCall E d) mSt_worthLying Post 4 [some (pR (7*t+1)), some (pI (v1 + (h (7*t+3) v2.toNatClampNeg))), some (pI (v2 + (1:Int32)))] [] SH h 0 0)) := by simp only [kc_b6]; exact H
  rcases (show t = 0 ∨ t = 1 ∨ t = 2 by omega) with e | e | e <;> subst e <;> simp only [Nat.reduceMul, Nat.reduceAdd] at H ⊢ <;> exact rEx_ok (zCut [4]) 21 H
set_option maxRecDepth 100000 in
set_option maxHeartbeats 1000000 in
theorem vSt_pitsInUse {E : rE} {d : Nat} {Post : rPost} {h : rHp} {t : Nat} (ht : t < 3) (H : rR E (rCall E d) mSt_pitsInUse Post 4 [some (pR (7*t+1)), some (pI (0:Int32)), some (pI (0:Int32))] [] SH h 0 0) : rCall E (d + 1) mSt_pitsInUse [pR (7*t+1)] SH h Post := by
  rcases (show t = 0 ∨ t = 1 ∨ t = 2 by omega) with e | e | e <;> subst e <;> simp only [Nat.reduceMul, Nat.reduceAdd] at H ⊢ <;> exact rEx_ok (zCut [4]) 6 H
set_option maxRecDepth 100000 in
set_option maxHeartbeats 1000000 in
theorem vSt_pitsInUse_4 {E : rE} {d : Nat} {Post : rPost} {h : rHp} {t : Nat} (ht : t < 3) {v1 : Int32} {v2 : Int32} (H : ((6:Int32) ≤ v2 → Post (some (pI v1)) SH h) ∧ (¬ (6:Int32) ≤ v2 → rCall E d mSt_setIn [pR (7*t+1), pI v2] SH h (rPi SH (fun x2 g1 => (x2 = 0 → rR E (rCall E d) mSt_pitsInUse Post 4 [some (pR (7*t+1)), some (pI v1), some (pI (v2 + (1:Int32)))] [] SH g1 0 0) ∧ (¬ x2 = 0 → rR E (rCall E d) mSt_pitsInUse Post 4 [some (pR (7*t+1)), some (pI (v1 + (1:Int32))), some (pI (v2 + (1:Int32)))] [] SH g1 0 0))))) : rR E (rCall E d) mSt_pitsInUse Post 4 [some (pR (7*t+1)), some (pI v1), some (pI v2)] [] SH h 0 0 := by
  have H : ((Int8.ofInt 6).toInt32 ≤ v2 → Post (some (pI v1)) SH h) ∧ (¬ (Int8.ofInt 6).toInt32 ≤ v2 → rCall E d mSt_setIn [pR (7*t+1), pI v2] SH h (rPi SH (fun x2 g1 => (x2 = 0 → rR E (rCall E d) mSt_pitsInUse Post 4 [some (pR (7*t+1)), some (pI v1), some (pI (v2 + (1:Int32)))] [] SH g1 0 0) ∧ (¬ x2 = 0 → rR E (rCall E d) mSt_pitsInUse Post 4 [some (pR (7*t+1)), some (pI (v1 + (1:Int32))), some (pI (v2 + (1:Int32)))] [] SH g1 0 0)))) := by simp only [kc_b6]; exact H
  rcases (show t = 0 ∨ t = 1 ∨ t = 2 by omega) with e | e | e <;> subst e <;> simp only [Nat.reduceMul, Nat.reduceAdd] at H ⊢ <;> exact rEx_ok (zCut [4]) 12 H
set_option maxRecDepth 100000 in
set_option maxHeartbeats 1000000 in
theorem vSt_cover {E : rE} {d : Nat} {Post : rPost} {h : rHp} {t : Nat} (ht : t < 3) (H : rCall E d mSt_kindsIn [pR (7*t+1), pI (63:Int32)] SH h (rPi SH (fun x2 g1 => rR E (rCall E d) mSt_cover Post 15 [some (pR (7*t+1)), some (pI x2), some (pI (0:Int32)), some (pI (7:Int32)), some (pI (0:Int32)), none] [] SH g1 0 0))) : rCall E (d + 1) mSt_cover [pR (7*t+1)] SH h Post := by
  have H : rCall E d mSt_kindsIn [pR (7*t+1), pI (Int8.ofInt 63).toInt32] SH h (rPi SH (fun x2 g1 => rR E (rCall E d) mSt_cover Post 15 [some (pR (7*t+1)), some (pI x2), some (pI (0:Int32)), some (pI (Int8.ofInt 7).toInt32), some (pI (0:Int32)), none] [] SH g1 0 0)) := by simp only [kc_b63, kc_b7]; exact H
  rcases (show t = 0 ∨ t = 1 ∨ t = 2 by omega) with e | e | e <;> subst e <;> simp only [Nat.reduceMul, Nat.reduceAdd] at H ⊢ <;> exact rEx_ok (zCut [15]) 12 H
set_option maxRecDepth 100000 in
set_option maxHeartbeats 1000000 in
theorem vSt_cover_15 {E : rE} {d : Nat} {Post : rPost} {h : rHp} {t : Nat} (ht : t < 3) {v1 : Int32} {v2 : Int32} {v3 : Int32} {v4 : Int32} {o5 : Option Int32} (H : ((64:Int32) ≤ v4 → Post (some (pI v2)) SH h) ∧ (¬ (64:Int32) ≤ v4 → rCall E d mJi_bitCount [pI v4] SH h (rPi SH (fun x2 g1 => (v3 ≤ x2 → rR E (rCall E d) mSt_cover Post 15 [some (pR (7*t+1)), some (pI v1), some (pI v2), some (pI v3), some (pI (v4 + (1:Int32))), some (pI x2)] [] SH g1 0 0) ∧ (¬ v3 ≤ x2 → rCall E d mSt_kindsIn [pR (7*t+1), pI v4] SH g1 (rPi SH (fun x4 g3 => (x4 = v1 → rR E (rCall E d) mSt_cover Post 15 [some (pR (7*t+1)), some (pI v1), some (pI v4), some (pI x2), some (pI (v4 + (1:Int32))), some (pI x2)] [] SH g3 0 0) ∧ (¬ x4 = v1 → rR E (rCall E d) mSt_cover Post 15 [some (pR (7*t+1)), some (pI v1), some (pI v2), some (pI v3), some (pI (v4 + (1:Int32))), some (pI x2)] [] SH g3 0 0)))))))) : rR E (rCall E d) mSt_cover Post 15 [some (pR (7*t+1)), some (pI v1), some (pI v2), some (pI v3), some (pI v4), oI o5] [] SH h 0 0 := by
  have H : ((Int8.ofInt 64).toInt32 ≤ v4 → Post (some (pI v2)) SH h) ∧ (¬ (Int8.ofInt 64).toInt32 ≤ v4 → rCall E d mJi_bitCount [pI v4] SH h (rPi SH (fun x2 g1 => (v3 ≤ x2 → rR E (rCall E d) mSt_cover Post 15 [some (pR (7*t+1)), some (pI v1), some (pI v2), some (pI v3), some (pI (v4 + (1:Int32))), some (pI x2)] [] SH g1 0 0) ∧ (¬ v3 ≤ x2 → rCall E d mSt_kindsIn [pR (7*t+1), pI v4] SH g1 (rPi SH (fun x4 g3 => (x4 = v1 → rR E (rCall E d) mSt_cover Post 15 [some (pR (7*t+1)), some (pI v1), some (pI v4), some (pI x2), some (pI (v4 + (1:Int32))), some (pI x2)] [] SH g3 0 0) ∧ (¬ x4 = v1 → rR E (rCall E d) mSt_cover Post 15 [some (pR (7*t+1)), some (pI v1), some (pI v2), some (pI v3), some (pI (v4 + (1:Int32))), some (pI x2)] [] SH g3 0 0))))))) := by simp only [kc_b64]; exact H
  rcases (show t = 0 ∨ t = 1 ∨ t = 2 by omega) with e | e | e <;> subst e <;> simp only [Nat.reduceMul, Nat.reduceAdd] at H ⊢ <;> exact (match o5, H with | none, H => rEx_ok (zCut [15]) 22 H | some _, H => rEx_ok (zCut [15]) 22 H)
set_option maxRecDepth 100000 in
set_option maxHeartbeats 1000000 in
theorem vSt_kindsIn {E : rE} {d : Nat} {Post : rPost} {h : rHp} {t : Nat} (ht : t < 3) {a1 : Int32} (H : rR E (rCall E d) mSt_kindsIn Post 4 [some (pR (7*t+1)), some (pI a1), some (pI (0:Int32)), some (pI (0:Int32))] [] SH h 0 0) : rCall E (d + 1) mSt_kindsIn [pR (7*t+1), pI a1] SH h Post := by
  rcases (show t = 0 ∨ t = 1 ∨ t = 2 by omega) with e | e | e <;> subst e <;> simp only [Nat.reduceMul, Nat.reduceAdd] at H ⊢ <;> exact rEx_ok (zCut [4]) 6 H
set_option maxRecDepth 100000 in
set_option maxHeartbeats 1000000 in
theorem vSt_kindsIn_4 {E : rE} {d : Nat} {Post : rPost} {h : rHp} {t : Nat} (ht : t < 3) {v1 : Int32} {v2 : Int32} {v3 : Int32} (H : ((h (7*t+1) 6) ≤ v3 → Post (some (pI v2)) SH h) ∧ (¬ (h (7*t+1) 6) ≤ v3 → vp_in v3 8 ∧ ((h (7*t+5) v3.toNatClampNeg) = (6:Int32) → rR E (rCall E d) mSt_kindsIn Post 4 [some (pR (7*t+1)), some (pI v1), some (pI v2), some (pI (v3 + (1:Int32)))] [] SH h 0 0) ∧ (¬ (h (7*t+5) v3.toNatClampNeg) = (6:Int32) → vp_in v3 8 ∧ (((v1 >>> ((h (7*t+5) v3.toNatClampNeg) &&& 31)) &&& (1:Int32)) = (1:Int32) → vp_in v3 8 ∧ rR E (rCall E d) mSt_kindsIn Post 4 [some (pR (7*t+1)), some (pI v1), some (pI (v2 ||| ((1:Int32) <<< ((h (7*t+2) v3.toNatClampNeg) &&& 31)))), some (pI (v3 + (1:Int32)))] [] SH h 0 0) ∧ (¬ ((v1 >>> ((h (7*t+5) v3.toNatClampNeg) &&& 31)) &&& (1:Int32)) = (1:Int32) → rR E (rCall E d) mSt_kindsIn Post 4 [some (pR (7*t+1)), some (pI v1), some (pI v2), some (pI (v3 + (1:Int32)))] [] SH h 0 0)))) : rR E (rCall E d) mSt_kindsIn Post 4 [some (pR (7*t+1)), some (pI v1), some (pI v2), some (pI v3)] [] SH h 0 0 := by
  have H : ((h (7*t+1) 6) ≤ v3 → Post (some (pI v2)) SH h) ∧ (¬ (h (7*t+1) 6) ≤ v3 → vp_in v3 8 ∧ ((h (7*t+5) v3.toNatClampNeg) = (Int8.ofInt 6).toInt32 → rR E (rCall E d) mSt_kindsIn Post 4 [some (pR (7*t+1)), some (pI v1), some (pI v2), some (pI (v3 + (1:Int32)))] [] SH h 0 0) ∧ (¬ (h (7*t+5) v3.toNatClampNeg) = (Int8.ofInt 6).toInt32 → vp_in v3 8 ∧ (((v1 >>> ((h (7*t+5) v3.toNatClampNeg) &&& 31)) &&& (1:Int32)) = (1:Int32) → vp_in v3 8 ∧ rR E (rCall E d) mSt_kindsIn Post 4 [some (pR (7*t+1)), some (pI v1), some (pI (v2 ||| ((1:Int32) <<< ((h (7*t+2) v3.toNatClampNeg) &&& 31)))), some (pI (v3 + (1:Int32)))] [] SH h 0 0) ∧ (¬ ((v1 >>> ((h (7*t+5) v3.toNatClampNeg) &&& 31)) &&& (1:Int32)) = (1:Int32) → rR E (rCall E d) mSt_kindsIn Post 4 [some (pR (7*t+1)), some (pI v1), some (pI v2), some (pI (v3 + (1:Int32)))] [] SH h 0 0))) := by simp only [kc_b6]; exact H
  rcases (show t = 0 ∨ t = 1 ∨ t = 2 by omega) with e | e | e <;> subst e <;> simp only [Nat.reduceMul, Nat.reduceAdd] at H ⊢ <;> exact rEx_ok (zCut [4]) 33 H
set_option maxRecDepth 100000 in
set_option maxHeartbeats 1000000 in
theorem vSt_speaking {E : rE} {d : Nat} {Post : rPost} {h : rHp} {t : Nat} (ht : t < 3) {a1 : Int32} (H : vp_in a1 8 ∧ vp_in a1 8 ∧ ((h (7*t+2) a1.toNatClampNeg) = (1:Int32) → Post (some (pI (((h (7*t+3) a1.toNatClampNeg) / (10:Int32)) + (h (7*t+7) 1)))) SH h) ∧ (¬ (h (7*t+2) a1.toNatClampNeg) = (1:Int32) → ((h (7*t+2) a1.toNatClampNeg) = (2:Int32) → Post (some (pI (((h (7*t+3) a1.toNatClampNeg) / (10:Int32)) - (h (7*t+7) 2)))) SH h) ∧ (¬ (h (7*t+2) a1.toNatClampNeg) = (2:Int32) → ((h (7*t+2) a1.toNatClampNeg) = (3:Int32) → Post (some (pI ((((h (7*t+3) a1.toNatClampNeg) / (10:Int32)) + (h (7*t+7) 1)) * (2:Int32)))) SH h) ∧ (¬ (h (7*t+2) a1.toNatClampNeg) = (3:Int32) → ((h (7*t+2) a1.toNatClampNeg) = (4:Int32) → vp_in a1 8 ∧ Post (some (pI ((((h (7*t+3) a1.toNatClampNeg) / (10:Int32)) - (h (7*t+7) 2)) + (h (7*t+4) a1.toNatClampNeg)))) SH h) ∧ (¬ (h (7*t+2) a1.toNatClampNeg) = (4:Int32) → ((h (7*t+2) a1.toNatClampNeg) = (5:Int32) → (((h (7*t+1) 8) - (h (7*t+1) 8) / (3:Int32) * (3:Int32)) = 0 → Post (some (pI ((h (7*t+3) a1.toNatClampNeg) / (10:Int32)))) SH h) ∧ (¬ ((h (7*t+1) 8) - (h (7*t+1) 8) / (3:Int32) * (3:Int32)) = 0 → vp_in a1 8 ∧ Post (some (pI (-(h (7*t+4) a1.toNatClampNeg)))) SH h)) ∧ (¬ (h (7*t+2) a1.toNatClampNeg) = (5:Int32) → Post (some (pI ((h (7*t+3) a1.toNatClampNeg) / (10:Int32)))) SH h)))))) : rCall E (d + 1) mSt_speaking [pR (7*t+1), pI a1] SH h Post := by
  have H : vp_in a1 8 ∧ vp_in a1 8 ∧ ((h (7*t+2) a1.toNatClampNeg) = (1:Int32) → Post (some (pI (((h (7*t+3) a1.toNatClampNeg) / (Int8.ofInt 10).toInt32) + (h (7*t+7) 1)))) SH h) ∧ (¬ (h (7*t+2) a1.toNatClampNeg) = (1:Int32) → ((h (7*t+2) a1.toNatClampNeg) = (2:Int32) → Post (some (pI (((h (7*t+3) a1.toNatClampNeg) / (Int8.ofInt 10).toInt32) - (h (7*t+7) 2)))) SH h) ∧ (¬ (h (7*t+2) a1.toNatClampNeg) = (2:Int32) → ((h (7*t+2) a1.toNatClampNeg) = (3:Int32) → Post (some (pI ((((h (7*t+3) a1.toNatClampNeg) / (Int8.ofInt 10).toInt32) + (h (7*t+7) 1)) * (2:Int32)))) SH h) ∧ (¬ (h (7*t+2) a1.toNatClampNeg) = (3:Int32) → ((h (7*t+2) a1.toNatClampNeg) = (4:Int32) → vp_in a1 8 ∧ Post (some (pI ((((h (7*t+3) a1.toNatClampNeg) / (Int8.ofInt 10).toInt32) - (h (7*t+7) 2)) + (h (7*t+4) a1.toNatClampNeg)))) SH h) ∧ (¬ (h (7*t+2) a1.toNatClampNeg) = (4:Int32) → ((h (7*t+2) a1.toNatClampNeg) = (5:Int32) → (((h (7*t+1) 8) - (h (7*t+1) 8) / (3:Int32) * (3:Int32)) = 0 → Post (some (pI ((h (7*t+3) a1.toNatClampNeg) / (Int8.ofInt 10).toInt32))) SH h) ∧ (¬ ((h (7*t+1) 8) - (h (7*t+1) 8) / (3:Int32) * (3:Int32)) = 0 → vp_in a1 8 ∧ Post (some (pI (-(h (7*t+4) a1.toNatClampNeg)))) SH h)) ∧ (¬ (h (7*t+2) a1.toNatClampNeg) = (5:Int32) → Post (some (pI ((h (7*t+3) a1.toNatClampNeg) / (Int8.ofInt 10).toInt32))) SH h))))) := by simp only [kc_b10]; exact H
  rcases (show t = 0 ∨ t = 1 ∨ t = 2 by omega) with e | e | e <;> subst e <;> simp only [Nat.reduceMul, Nat.reduceAdd] at H ⊢ <;> exact rEx_ok (zCut []) 25 (⟨H.1, ⟨by decide, ⟨H.2.1, And.intro (fun k5 => ⟨by unfold vp_in; decide, (H.2.2.1 k5)⟩) (fun k5 => And.intro (fun k4 => ⟨by unfold vp_in; decide, ((H.2.2.2 k5).1 k4)⟩) (fun k4 => And.intro (fun k3 => ⟨by unfold vp_in; decide, (((H.2.2.2 k5).2 k4).1 k3)⟩) (fun k3 => And.intro (fun k2 => ⟨by unfold vp_in; decide, ((((H.2.2.2 k5).2 k4).2 k3).1 k2)⟩) (fun k2 => And.intro (fun k1 => ⟨by decide, (((((H.2.2.2 k5).2 k4).2 k3).2 k2).1 k1)⟩) (fun k1 => ((((H.2.2.2 k5).2 k4).2 k3).2 k2).2 k1)))))⟩⟩⟩)
set_option maxRecDepth 100000 in
set_option maxHeartbeats 1000000 in
theorem vSt_hiding {E : rE} {d : Nat} {Post : rPost} {h : rHp} {t : Nat} (ht : t < 3) {a1 : Int32} (H : vp_in a1 8 ∧ ((h (7*t+2) a1.toNatClampNeg) = (1:Int32) → Post (some (pI (2:Int32))) SH h) ∧ (¬ (h (7*t+2) a1.toNatClampNeg) = (1:Int32) → ((h (7*t+2) a1.toNatClampNeg) = (2:Int32) → Post (some (pI (0:Int32))) SH h) ∧ (¬ (h (7*t+2) a1.toNatClampNeg) = (2:Int32) → ((h (7*t+2) a1.toNatClampNeg) = (3:Int32) → vp_in a1 8 ∧ Post (some (pI ((2:Int32) + (h (7*t+4) a1.toNatClampNeg)))) SH h) ∧ (¬ (h (7*t+2) a1.toNatClampNeg) = (3:Int32) → ((h (7*t+2) a1.toNatClampNeg) = (4:Int32) → Post (some (pI (2:Int32))) SH h) ∧ (¬ (h (7*t+2) a1.toNatClampNeg) = (4:Int32) → ((h (7*t+2) a1.toNatClampNeg) = (5:Int32) → rCall E d mSt_setAbove [pR (7*t+1), pI a1] SH h (rPi SH (fun x2 g1 => rCall E d mJi_bitCount [pI x2] SH g1 (rPi SH (fun x4 g3 => Post (some (pI ((1:Int32) + x4))) SH g3))))) ∧ (¬ (h (7*t+2) a1.toNatClampNeg) = (5:Int32) → Post (some (pI (1:Int32))) SH h)))))) : rCall E (d + 1) mSt_hiding [pR (7*t+1), pI a1] SH h Post := by
  rcases (show t = 0 ∨ t = 1 ∨ t = 2 by omega) with e | e | e <;> subst e <;> simp only [Nat.reduceMul, Nat.reduceAdd] at H ⊢ <;> exact rEx_ok (zCut []) 13 H
set_option maxRecDepth 100000 in
set_option maxHeartbeats 1000000 in
theorem vSt_passYears {E : rE} {d : Nat} {Post : rPost} {h : rHp} {t : Nat} (ht : t < 3) {a1 : Int32} (H : rR E (rCall E d) mSt_passYears Post 2 [some (pR (7*t+1)), some (pI a1), some (pI (0:Int32))] [] SH h 0 0) : rCall E (d + 1) mSt_passYears [pR (7*t+1), pI a1] SH h Post := by
  rcases (show t = 0 ∨ t = 1 ∨ t = 2 by omega) with e | e | e <;> subst e <;> simp only [Nat.reduceMul, Nat.reduceAdd] at H ⊢ <;> exact rEx_ok (zCut [2]) 4 H
set_option maxRecDepth 100000 in
set_option maxHeartbeats 1000000 in
theorem vSt_passYears_2 {E : rE} {d : Nat} {Post : rPost} {h : rHp} {t : Nat} (ht : t < 3) {v1 : Int32} {v2 : Int32} (H : (v1 ≤ v2 → Post none SH h) ∧ (¬ v1 ≤ v2 → rCall E d mSt_passYear [pR (7*t+1)] SH h (rPn SH (fun g1 => rR E (rCall E d) mSt_passYears Post 2 [some (pR (7*t+1)), some (pI v1), some (pI (v2 + (1:Int32)))] [] SH g1 0 0)))) : rR E (rCall E d) mSt_passYears Post 2 [some (pR (7*t+1)), some (pI v1), some (pI v2)] [] SH h 0 0 := by
  rcases (show t = 0 ∨ t = 1 ∨ t = 2 by omega) with e | e | e <;> subst e <;> simp only [Nat.reduceMul, Nat.reduceAdd] at H ⊢ <;> exact rEx_ok (zCut [2]) 9 H
set_option maxRecDepth 100000 in
set_option maxHeartbeats 1000000 in
theorem vSt_passYear {E : rE} {d : Nat} {Post : rPost} {h : rHp} {t : Nat} (ht : t < 3) (H : rCall E d mSt_dig [pR (7*t+1)] SH h (rPn SH (fun g1 => Post none SH (rUp (rUp g1 (7*t+1) 9 (((g1 (7*t+1) 9) + (1:Int32)) - ((g1 (7*t+1) 9) + (1:Int32)) / (6:Int32) * (6:Int32))) (7*t+1) 8 ((g1 (7*t+1) 8) + (1:Int32)))))) : rCall E (d + 1) mSt_passYear [pR (7*t+1)] SH h Post := by
  have H : rCall E d mSt_dig [pR (7*t+1)] SH h (rPn SH (fun g1 => Post none SH (rUp (rUp g1 (7*t+1) 9 (((g1 (7*t+1) 9) + (1:Int32)) - ((g1 (7*t+1) 9) + (1:Int32)) / (Int8.ofInt 6).toInt32 * (Int8.ofInt 6).toInt32)) (7*t+1) 8 ((g1 (7*t+1) 8) + (1:Int32))))) := by simp only [kc_b6]; exact H
  rcases (show t = 0 ∨ t = 1 ∨ t = 2 by omega) with e | e | e <;> subst e <;> simp only [Nat.reduceMul, Nat.reduceAdd] at H ⊢ <;> exact rEx_ok (zCut []) 18 (rCall_mono (rPn_mono (fun g1 k2 => ⟨by decide, k2⟩)) (H))
set_option maxRecDepth 100000 in
set_option maxHeartbeats 1000000 in
theorem vSt_dig {E : rE} {d : Nat} {Post : rPost} {h : rHp} {t : Nat} (ht : t < 3) (H : rR E (rCall E d) mSt_dig Post 9 [some (pR (7*t+1)), some (pI (h (7*t+7) 0)), some (pI (0:Int32)), none, none] [] SH h 0 0) : rCall E (d + 1) mSt_dig [pR (7*t+1)] SH h Post := by
  rcases (show t = 0 ∨ t = 1 ∨ t = 2 by omega) with e | e | e <;> subst e <;> simp only [Nat.reduceMul, Nat.reduceAdd] at H ⊢ <;> exact rEx_ok (zCut [9]) 9 (⟨by unfold vp_in; decide, H⟩)
set_option maxRecDepth 100000 in
set_option maxHeartbeats 1000000 in
theorem vSt_dig_9 {E : rE} {d : Nat} {Post : rPost} {h : rHp} {t : Nat} (ht : t < 3) {v1 : Int32} {v2 : Int32} {o3 : Option Int32} {o4 : Option Int32} (H : ((8:Int32) ≤ v2 → Post none SH h) ∧ (¬ (8:Int32) ≤ v2 → rCall E d mSt_uppermost [pR (7*t+1), pI (h (7*t+1) 9)] SH h (rPi SH (fun x2 g1 => (x2 = (8:Int32) → Post none SH g1) ∧ (¬ x2 = (8:Int32) → rCall E d mSt_hiding [pR (7*t+1), pI x2] SH g1 (rPi SH (fun x4 g3 => (x4 ≤ v1 → rCall E d mSt_speaking [pR (7*t+1), pI x2] SH g3 (rPi SH (fun x6 g5 => rCall E d mLa_held [pI ((g3 (7*t+1) 10) + x6), pI (99:Int32)] SH g5 (rPi SH (fun x8 g7 => vp_in x2 8 ∧ rR E (rCall E d) mSt_dig Post 9 [some (pR (7*t+1)), some (pI (v1 - x4)), some (pI (v2 + (1:Int32))), some (pI x2), some (pI x4)] [] SH (rUp (rUp g7 (7*t+1) 10 x8) (7*t+5) x2.toNatClampNeg (6:Int32)) 0 0))))) ∧ (¬ x4 ≤ v1 → Post none SH g3)))))))) : rR E (rCall E d) mSt_dig Post 9 [some (pR (7*t+1)), some (pI v1), some (pI v2), oI o3, oI o4] [] SH h 0 0 := by
  have H : ((Int8.ofInt 8).toInt32 ≤ v2 → Post none SH h) ∧ (¬ (Int8.ofInt 8).toInt32 ≤ v2 → rCall E d mSt_uppermost [pR (7*t+1), pI (h (7*t+1) 9)] SH h (rPi SH (fun x2 g1 => (x2 = (Int8.ofInt 8).toInt32 → Post none SH g1) ∧ (¬ x2 = (Int8.ofInt 8).toInt32 → rCall E d mSt_hiding [pR (7*t+1), pI x2] SH g1 (rPi SH (fun x4 g3 => (x4 ≤ v1 → rCall E d mSt_speaking [pR (7*t+1), pI x2] SH g3 (rPi SH (fun x6 g5 => rCall E d mLa_held [pI ((g3 (7*t+1) 10) + x6), pI (Int8.ofInt 99).toInt32] SH g5 (rPi SH (fun x8 g7 => vp_in x2 8 ∧ rR E (rCall E d) mSt_dig Post 9 [some (pR (7*t+1)), some (pI (v1 - x4)), some (pI (v2 + (1:Int32))), some (pI x2), some (pI x4)] [] SH (rUp (rUp g7 (7*t+1) 10 x8) (7*t+5) x2.toNatClampNeg (Int8.ofInt 6).toInt32) 0 0))))) ∧ (¬ x4 ≤ v1 → Post none SH g3))))))) := by simp only [kc_b6, kc_b8, kc_b99]; exact H
  rcases (show t = 0 ∨ t = 1 ∨ t = 2 by omega) with e | e | e <;> subst e <;> simp only [Nat.reduceMul, Nat.reduceAdd] at H ⊢ <;> exact (match o4, H with | none, H => (match o3, H with | none, H => rEx_ok (zCut [9]) 41 H | some _, H => rEx_ok (zCut [9]) 41 H) | some _, H => (match o3, H with | none, H => rEx_ok (zCut [9]) 41 H | some _, H => rEx_ok (zCut [9]) 41 H))
set_option maxRecDepth 100000 in
set_option maxHeartbeats 1000000 in
theorem vSt_passDrawnYear {E : rE} {d : Nat} {Post : rPost} {h : rHp} {t : Nat} (ht : t < 3) (H : ((h (7*t+1) 6) ≤ 0 → rCall E d mSt_passYear [pR (7*t+1)] SH h (rPn SH (fun g1 => Post none SH g1))) ∧ (¬ (h (7*t+1) 6) ≤ 0 → rCall E d mSt_draw [pR (7*t+1)] SH h (rPi SH (fun x3 g2 => ¬ (g2 (7*t+1) 6) = 0 ∧ rCall E d mSt_draw [pR (7*t+1)] SH g2 (rPi SH (fun x5 g4 => ((g4 (7*t+7) 3) ≤ (x5 - x5 / (100:Int32) * (100:Int32)) → rCall E d mSt_passYear [pR (7*t+1)] SH g4 (rPn SH (fun g6 => Post none SH g6))) ∧ (¬ (g4 (7*t+7) 3) ≤ (x5 - x5 / (100:Int32) * (100:Int32)) → rCall E d mSt_lies [pR (7*t+1), pI (x3 - x3 / (g2 (7*t+1) 6) * (g2 (7*t+1) 6))] SH g4 (rPi SH (fun x8 g7 => (x8 = 0 → rCall E d mSt_passYear [pR (7*t+1)] SH g7 (rPn SH (fun g9 => Post none SH g9))) ∧ (¬ x8 = 0 → rCall E d mSt_draw [pR (7*t+1)] SH g7 (rPi SH (fun x11 g10 => rCall E d mSt_layIn [pR (7*t+1), pI (x3 - x3 / (g2 (7*t+1) 6) * (g2 (7*t+1) 6)), pI (x11 - x11 / (6:Int32) * (6:Int32))] SH g10 (rPn SH (fun g12 => rCall E d mSt_passYear [pR (7*t+1)] SH g12 (rPn SH (fun g13 => Post none SH g13)))))))))))))))) : rCall E (d + 1) mSt_passDrawnYear [pR (7*t+1)] SH h Post := by
  have H : ((h (7*t+1) 6) ≤ 0 → rCall E d mSt_passYear [pR (7*t+1)] SH h (rPn SH (fun g1 => Post none SH g1))) ∧ (¬ (h (7*t+1) 6) ≤ 0 → rCall E d mSt_draw [pR (7*t+1)] SH h (rPi SH (fun x3 g2 => ¬ (g2 (7*t+1) 6) = 0 ∧ rCall E d mSt_draw [pR (7*t+1)] SH g2 (rPi SH (fun x5 g4 => ((g4 (7*t+7) 3) ≤ (x5 - x5 / (Int8.ofInt 100).toInt32 * (Int8.ofInt 100).toInt32) → rCall E d mSt_passYear [pR (7*t+1)] SH g4 (rPn SH (fun g6 => Post none SH g6))) ∧ (¬ (g4 (7*t+7) 3) ≤ (x5 - x5 / (Int8.ofInt 100).toInt32 * (Int8.ofInt 100).toInt32) → rCall E d mSt_lies [pR (7*t+1), pI (x3 - x3 / (g2 (7*t+1) 6) * (g2 (7*t+1) 6))] SH g4 (rPi SH (fun x8 g7 => (x8 = 0 → rCall E d mSt_passYear [pR (7*t+1)] SH g7 (rPn SH (fun g9 => Post none SH g9))) ∧ (¬ x8 = 0 → rCall E d mSt_draw [pR (7*t+1)] SH g7 (rPi SH (fun x11 g10 => rCall E d mSt_layIn [pR (7*t+1), pI (x3 - x3 / (g2 (7*t+1) 6) * (g2 (7*t+1) 6)), pI (x11 - x11 / (Int8.ofInt 6).toInt32 * (Int8.ofInt 6).toInt32)] SH g10 (rPn SH (fun g12 => rCall E d mSt_passYear [pR (7*t+1)] SH g12 (rPn SH (fun g13 => Post none SH g13))))))))))))))) := by simp only [kc_b100, kc_b6]; exact H
  rcases (show t = 0 ∨ t = 1 ∨ t = 2 by omega) with e | e | e <;> subst e <;> simp only [Nat.reduceMul, Nat.reduceAdd] at H ⊢ <;> exact rEx_ok (zCut []) 33 (And.intro (fun k20 => H.1 k20) (fun k20 => rCall_mono (rPi_mono (fun x3 g2 k19 => ⟨k19.1, rCall_mono (rPi_mono (fun x5 g4 k18 => ⟨by decide, ⟨by unfold vp_in; decide, And.intro (fun k17 => k18.1 k17) (fun k17 => rCall_mono (rPi_mono (fun x8 g7 k16 => And.intro (fun k15 => k16.1 k15) (fun k15 => rCall_mono (rPi_mono (fun x11 g10 k14 => ⟨by decide, k14⟩)) ((k16.2 k15))))) ((k18.2 k17)))⟩⟩)) (k19.2)⟩)) ((H.2 k20))))
set_option maxRecDepth 100000 in
set_option maxHeartbeats 1000000 in
theorem vSt_draw {E : rE} {d : Nat} {Post : rPost} {h : rHp} {t : Nat} (ht : t < 3) (H : Post (some (pI ((((rUp h (7*t+1) 11 (((h (7*t+1) 11) * (1103515245:Int32)) + (12345:Int32))) (7*t+1) 11).toUInt32 >>> ((16:Int32).toUInt32 &&& Int32.toUInt32 31)).toInt32))) SH (rUp h (7*t+1) 11 (((h (7*t+1) 11) * (1103515245:Int32)) + (12345:Int32)))) : rCall E (d + 1) mSt_draw [pR (7*t+1)] SH h Post := by
  have H : Post (some (pI ((((rUp h (7*t+1) 11 (((h (7*t+1) 11) * (1103515245:Int32)) + (Int16.ofInt 12345).toInt32)) (7*t+1) 11).toUInt32 >>> ((Int8.ofInt 16).toInt32.toUInt32 &&& Int32.toUInt32 31)).toInt32))) SH (rUp h (7*t+1) 11 (((h (7*t+1) 11) * (1103515245:Int32)) + (Int16.ofInt 12345).toInt32)) := by simp only [kc_b16, kc_s12345]; exact H
  rcases (show t = 0 ∨ t = 1 ∨ t = 2 by omega) with e | e | e <;> subst e <;> simp only [Nat.reduceMul, Nat.reduceAdd] at H ⊢ <;> exact rEx_ok (zCut []) 14 H
end
section
set_option maxRecDepth 100000 in
set_option maxHeartbeats 1000000 in
theorem vLa_held {E : rE} {d : Nat} {Post : rPost} {h : rHp} {a1 : Int32} {a2 : Int32} (H : Post (some (pI (if (0:Int32) < (if a1 < a2 then a1 else a2) then (if a1 < a2 then a1 else a2) else (0:Int32)))) SH h) : rCall E (d + 1) mLa_held [pI a1, pI a2] SH h Post := rEx_ok (zCut []) 7 H
end
section
set_option maxRecDepth 100000 in
set_option maxHeartbeats 1000000 in
theorem vMo_street {E : rE} {d : Nat} {Post : rPost} {h : rHp} (H : rCall E d mMo_copyRow [pR 36, pR 39] SH h (rPn SH (fun g1 => rCall E d mMo_begins [pR 35] SH g1 (rPn SH (fun g2 => rCall E d mMo_nextToken [pR 35] SH (rUp (rUp g2 35 10 (0:Int32)) 35 12 (0:Int32)) (rPn SH (fun g3 => rR E (rCall E d) mMo_street Post 29 [some (pR 35)] [] SH g3 0 0))))))) : rCall E (d + 1) mMo_street [pR 35] SH h Post := rEx_ok (zCut [29]) 17 (rCall_mono (rPn_mono (fun g1 k5 => rCall_mono (rPn_mono (fun g2 k4 => ⟨Or.inl rfl, k4⟩)) (k5))) (H))
set_option maxRecDepth 100000 in
set_option maxHeartbeats 1000000 in
theorem vMo_street_29 {E : rE} {d : Nat} {Post : rPost} {h : rHp} (H : ((h 35 12) = 0 → ((h 35 8) = 0 → ((h 35 12) = 0 → Post (some (pI (h 36 0))) SH (rUp (rUp h 35 7 (0:Int32)) 35 14 (0:Int32))) ∧ (¬ (h 35 12) = 0 → rCall E d mMo_copyRow [pR 39, pR 36] SH (rUp h 35 7 (0:Int32)) (rPn SH (fun g1 => Post (some (pI ((-100:Int32) - (g1 35 9)))) SH g1)))) ∧ (¬ (h 35 8) = 0 → rCall E d mMo_itemHere [pR 35] SH h (rPn SH (fun g3 => rR E (rCall E d) mMo_street Post 29 [some (pR 35)] [] SH g3 0 0)))) ∧ (¬ (h 35 12) = 0 → ((h 35 12) = 0 → Post (some (pI (h 36 0))) SH (rUp (rUp h 35 7 (0:Int32)) 35 14 (0:Int32))) ∧ (¬ (h 35 12) = 0 → rCall E d mMo_copyRow [pR 39, pR 36] SH (rUp h 35 7 (0:Int32)) (rPn SH (fun g5 => Post (some (pI ((-100:Int32) - (g5 35 9)))) SH g5))))) : rR E (rCall E d) mMo_street Post 29 [some (pR 35)] [] SH h 0 0 := by
  have H : ((h 35 12) = 0 → ((h 35 8) = 0 → ((h 35 12) = 0 → Post (some (pI (h 36 0))) SH (rUp (rUp h 35 7 (0:Int32)) 35 14 (0:Int32))) ∧ (¬ (h 35 12) = 0 → rCall E d mMo_copyRow [pR 39, pR 36] SH (rUp h 35 7 (0:Int32)) (rPn SH (fun g1 => Post (some (pI ((Int8.ofInt (-100)).toInt32 - (g1 35 9)))) SH g1)))) ∧ (¬ (h 35 8) = 0 → rCall E d mMo_itemHere [pR 35] SH h (rPn SH (fun g3 => rR E (rCall E d) mMo_street Post 29 [some (pR 35)] [] SH g3 0 0)))) ∧ (¬ (h 35 12) = 0 → ((h 35 12) = 0 → Post (some (pI (h 36 0))) SH (rUp (rUp h 35 7 (0:Int32)) 35 14 (0:Int32))) ∧ (¬ (h 35 12) = 0 → rCall E d mMo_copyRow [pR 39, pR 36] SH (rUp h 35 7 (0:Int32)) (rPn SH (fun g5 => Post (some (pI ((Int8.ofInt (-100)).toInt32 - (g5 35 9)))) SH g5)))) := by simp only [kc_bm100]; exact H
  exact rEx_ok (zCut [29]) 23 (And.intro (fun k7 => And.intro (fun k4 => And.intro (fun k2 => ⟨by unfold vp_in; decide, (((H.1 k7).1 k4).1 k2)⟩) (fun k2 => ((H.1 k7).1 k4).2 k2)) (fun k4 => (H.1 k7).2 k4)) (fun k7 => And.intro (fun k6 => ⟨by unfold vp_in; decide, ((H.2 k7).1 k6)⟩) (fun k6 => (H.2 k7).2 k6)))
set_option maxRecDepth 100000 in
set_option maxHeartbeats 1000000 in
theorem vMo_set {E : rE} {d : Nat} {Post : rPost} {h : rHp} {a1 : Int32} {a2 : Int32} (H : rCall E d mMo_isIn [pL a1.toInt64, pL (0:Int64), pL (3:Int64)] SH h (rPi SH (fun x2 g1 => (x2 = 0 → Post (some (pI (-1:Int32))) SH g1) ∧ (¬ x2 = 0 → (a1 = (3:Int32) → rCall E d mMo_isIn [pL a2.toInt64, pL (0:Int64), pL (99:Int64)] SH g1 (rPi SH (fun x4 g3 => (x4 = 0 → Post (some (pI (-1:Int32))) SH g3) ∧ (¬ x4 = 0 → rCall E d mMo_becomes [pR 35, pI ((5:Int32) + a1), pI a2] SH g3 (rPi SH (fun x6 g5 => Post (some (pI x6)) SH g5)))))) ∧ (¬ a1 = (3:Int32) → rCall E d mMo_isIn [pL a2.toInt64, pL (0:Int64), pL (9:Int64)] SH g1 (rPi SH (fun x8 g7 => (x8 = 0 → Post (some (pI (-1:Int32))) SH g7) ∧ (¬ x8 = 0 → rCall E d mMo_becomes [pR 35, pI ((5:Int32) + a1), pI a2] SH g7 (rPi SH (fun x10 g9 => Post (some (pI x10)) SH g9)))))))))) : rCall E (d + 1) mMo_set [pR 35, pI a1, pI a2] SH h Post := rEx_ok (zCut []) 25 H
set_option maxRecDepth 100000 in
set_option maxHeartbeats 1000000 in
theorem vMo_lawOf {E : rE} {d : Nat} {Post : rPost} {h : rHp} {a1 : Int32} (H : rCall E d mMo_isIn [pL a1.toInt64, pL (0:Int64), pL (3:Int64)] SH h (rPi SH (fun x2 g1 => (x2 = 0 → Post (some (pI (-1:Int32))) SH g1) ∧ (¬ x2 = 0 → vp_in ((5:Int32) + a1) 50 ∧ Post (some (pI (g1 36 ((5:Int32) + a1).toNatClampNeg))) SH g1)))) : rCall E (d + 1) mMo_lawOf [pR 35, pI a1] SH h Post := rEx_ok (zCut []) 15 H
set_option maxRecDepth 100000 in
set_option maxHeartbeats 1000000 in
theorem vMo_lies {E : rE} {d : Nat} {Post : rPost} {h : rHp} {a1 : Int32} {a2 : Int32} (H : vp_in (((10:Int32) + ((5:Int32) * a1)) + (3:Int32)) 50 ∧ vp_in (((10:Int32) + ((5:Int32) * a1)) + (4:Int32)) 50 ∧ Post none SH (rUp (rUp (rUp h 36 9 ((h 36 9) + (1:Int32))) 36 (((10:Int32) + ((5:Int32) * a1)) + (3:Int32)).toNatClampNeg a2) 36 (((10:Int32) + ((5:Int32) * a1)) + (4:Int32)).toNatClampNeg ((rUp (rUp h 36 9 ((h 36 9) + (1:Int32))) 36 (((10:Int32) + ((5:Int32) * a1)) + (3:Int32)).toNatClampNeg a2) 36 9))) : rCall E (d + 1) mMo_lies [pR 35, pI a1, pI a2] SH h Post := by
  have H : vp_in (((Int8.ofInt 10).toInt32 + ((5:Int32) * a1)) + (3:Int32)) 50 ∧ vp_in (((Int8.ofInt 10).toInt32 + ((5:Int32) * a1)) + (4:Int32)) 50 ∧ Post none SH (rUp (rUp (rUp h 36 9 ((h 36 9) + (1:Int32))) 36 (((Int8.ofInt 10).toInt32 + ((5:Int32) * a1)) + (3:Int32)).toNatClampNeg a2) 36 (((Int8.ofInt 10).toInt32 + ((5:Int32) * a1)) + (4:Int32)).toNatClampNeg ((rUp (rUp h 36 9 ((h 36 9) + (1:Int32))) 36 (((Int8.ofInt 10).toInt32 + ((5:Int32) * a1)) + (3:Int32)).toNatClampNeg a2) 36 9)) := by simp only [kc_b10]; exact H
  exact rEx_ok (zCut []) 35 (⟨by unfold vp_in; decide, ⟨by unfold vp_in; decide, ⟨H.1, ⟨by unfold vp_in; decide, H.2⟩⟩⟩⟩)
set_option maxRecDepth 100000 in
set_option maxHeartbeats 1000000 in
theorem vMo_comes {E : rE} {d : Nat} {Post : rPost} {h : rHp} {a1 : Int32} {a2 : Int32} {a3 : Int32} {a4 : Int32} (H : vp_in ((10:Int32) + ((5:Int32) * (h 36 0))) 50 ∧ vp_in (((10:Int32) + ((5:Int32) * (h 36 0))) + (1:Int32)) 50 ∧ vp_in (((10:Int32) + ((5:Int32) * (h 36 0))) + (2:Int32)) 50 ∧ rCall E d mMo_lies [pR 35, pI ((rUp (rUp (rUp h 36 ((10:Int32) + ((5:Int32) * (h 36 0))).toNatClampNeg a1) 36 (((10:Int32) + ((5:Int32) * (h 36 0))) + (1:Int32)).toNatClampNeg a2) 36 (((10:Int32) + ((5:Int32) * (h 36 0))) + (2:Int32)).toNatClampNeg a3) 36 0), pI a4] SH (rUp (rUp (rUp h 36 ((10:Int32) + ((5:Int32) * (h 36 0))).toNatClampNeg a1) 36 (((10:Int32) + ((5:Int32) * (h 36 0))) + (1:Int32)).toNatClampNeg a2) 36 (((10:Int32) + ((5:Int32) * (h 36 0))) + (2:Int32)).toNatClampNeg a3) (rPn SH (fun g1 => Post none SH (rUp g1 36 0 ((g1 36 0) + (1:Int32)))))) : rCall E (d + 1) mMo_comes [pR 35, pI a1, pI a2, pI a3, pI a4] SH h Post := by
  have H : vp_in ((Int8.ofInt 10).toInt32 + ((5:Int32) * (h 36 0))) 50 ∧ vp_in (((Int8.ofInt 10).toInt32 + ((5:Int32) * (h 36 0))) + (1:Int32)) 50 ∧ vp_in (((Int8.ofInt 10).toInt32 + ((5:Int32) * (h 36 0))) + (2:Int32)) 50 ∧ rCall E d mMo_lies [pR 35, pI ((rUp (rUp (rUp h 36 ((Int8.ofInt 10).toInt32 + ((5:Int32) * (h 36 0))).toNatClampNeg a1) 36 (((Int8.ofInt 10).toInt32 + ((5:Int32) * (h 36 0))) + (1:Int32)).toNatClampNeg a2) 36 (((Int8.ofInt 10).toInt32 + ((5:Int32) * (h 36 0))) + (2:Int32)).toNatClampNeg a3) 36 0), pI a4] SH (rUp (rUp (rUp h 36 ((Int8.ofInt 10).toInt32 + ((5:Int32) * (h 36 0))).toNatClampNeg a1) 36 (((Int8.ofInt 10).toInt32 + ((5:Int32) * (h 36 0))) + (1:Int32)).toNatClampNeg a2) 36 (((Int8.ofInt 10).toInt32 + ((5:Int32) * (h 36 0))) + (2:Int32)).toNatClampNeg a3) (rPn SH (fun g1 => Post none SH (rUp g1 36 0 ((g1 36 0) + (1:Int32))))) := by simp only [kc_b10]; exact H
  exact rEx_ok (zCut []) 45 (⟨by unfold vp_in; decide, ⟨H.1, ⟨H.2.1, ⟨H.2.2.1, ⟨by unfold vp_in; decide, rCall_mono (rPn_mono (fun g1 k2 => ⟨by unfold vp_in; decide, ⟨by unfold vp_in; decide, k2⟩⟩)) (H.2.2.2)⟩⟩⟩⟩⟩)
set_option maxRecDepth 100000 in
set_option maxHeartbeats 1000000 in
theorem vMo_thing {E : rE} {d : Nat} {Post : rPost} {h : rHp} {a1 : Int32} {a2 : Int32} {a3 : Int32} {a4 : Int32} (H : rCall E d mMo_isIn [pL a1.toInt64, pL (0:Int64), pL (5:Int64)] SH h (rPi SH (fun x2 g1 => (x2 = 0 → Post (some (pI (-1:Int32))) SH g1) ∧ (¬ x2 = 0 → rCall E d mMo_isIn [pL a2.toInt64, pL (0:Int64), pL (99:Int64)] SH g1 (rPi SH (fun x4 g3 => (x4 = 0 → Post (some (pI (-1:Int32))) SH g3) ∧ (¬ x4 = 0 → rCall E d mMo_isIn [pL a3.toInt64, pL (0:Int64), pL (9:Int64)] SH g3 (rPi SH (fun x6 g5 => (x6 = 0 → Post (some (pI (-1:Int32))) SH g5) ∧ (¬ x6 = 0 → rCall E d mMo_isPit [pI a4] SH g5 (rPi SH (fun x8 g7 => (x8 = 0 → Post (some (pI (-1:Int32))) SH g7) ∧ (¬ x8 = 0 → ((g7 36 0) = (8:Int32) → Post (some (pI (-2:Int32))) SH g7) ∧ (¬ (g7 36 0) = (8:Int32) → rCall E d mMo_comes [pR 35, pI a1, pI a2, pI a3, pI a4] SH g7 (rPn SH (fun g9 => Post (some (pI ((g9 36 0) - (1:Int32)))) SH g9)))))))))))))))) : rCall E (d + 1) mMo_thing [pR 35, pI a1, pI a2, pI a3, pI a4] SH h Post := by
  have H : rCall E d mMo_isIn [pL a1.toInt64, pL (0:Int64), pL (5:Int64)] SH h (rPi SH (fun x2 g1 => (x2 = 0 → Post (some (pI (-1:Int32))) SH g1) ∧ (¬ x2 = 0 → rCall E d mMo_isIn [pL a2.toInt64, pL (0:Int64), pL (99:Int64)] SH g1 (rPi SH (fun x4 g3 => (x4 = 0 → Post (some (pI (-1:Int32))) SH g3) ∧ (¬ x4 = 0 → rCall E d mMo_isIn [pL a3.toInt64, pL (0:Int64), pL (9:Int64)] SH g3 (rPi SH (fun x6 g5 => (x6 = 0 → Post (some (pI (-1:Int32))) SH g5) ∧ (¬ x6 = 0 → rCall E d mMo_isPit [pI a4] SH g5 (rPi SH (fun x8 g7 => (x8 = 0 → Post (some (pI (-1:Int32))) SH g7) ∧ (¬ x8 = 0 → ((g7 36 0) = (Int8.ofInt 8).toInt32 → Post (some (pI (Int8.ofInt (-2)).toInt32)) SH g7) ∧ (¬ (g7 36 0) = (Int8.ofInt 8).toInt32 → rCall E d mMo_comes [pR 35, pI a1, pI a2, pI a3, pI a4] SH g7 (rPn SH (fun g9 => Post (some (pI ((g9 36 0) - (1:Int32)))) SH g9))))))))))))))) := by simp only [kc_bm2, kc_b8]; exact H
  exact rEx_ok (zCut []) 41 (rCall_mono (rPi_mono (fun x2 g1 k19 => And.intro (fun k18 => k19.1 k18) (fun k18 => rCall_mono (rPi_mono (fun x4 g3 k17 => And.intro (fun k16 => k17.1 k16) (fun k16 => rCall_mono (rPi_mono (fun x6 g5 k15 => And.intro (fun k14 => k15.1 k14) (fun k14 => rCall_mono (rPi_mono (fun x8 g7 k13 => And.intro (fun k12 => k13.1 k12) (fun k12 => ⟨by unfold vp_in; decide, And.intro (fun k11 => (k13.2 k12).1 k11) (fun k11 => rCall_mono (rPn_mono (fun g9 k10 => ⟨by unfold vp_in; decide, k10⟩)) (((k13.2 k12).2 k11)))⟩))) ((k15.2 k14))))) ((k17.2 k16))))) ((k19.2 k18))))) (H))
set_option maxRecDepth 100000 in
set_option maxHeartbeats 1000000 in
theorem vMo_aboveOf {E : rE} {d : Nat} {Post : rPost} {h : rHp} {a1 : Int32} (H : rR E (rCall E d) mMo_aboveOf Post 4 [some (pR 35), some (pI a1), some (pI (0:Int32)), some (pI (0:Int32))] [] SH h 0 0) : rCall E (d + 1) mMo_aboveOf [pR 35, pI a1] SH h Post := rEx_ok (zCut [4]) 6 H
set_option maxRecDepth 100000 in
set_option maxHeartbeats 1000000 in
theorem vMo_aboveOf_4 {E : rE} {d : Nat} {Post : rPost} {h : rHp} {v1 : Int32} {v2 : Int32} {v3 : Int32} (H : ((h 36 0) ≤ v3 → Post (some (pI v2)) SH h) ∧ (¬ (h 36 0) ≤ v3 → rCall E d mMo_its [pR 35, pI v1, pI (3:Int32)] SH h (rPi SH (fun x2 g1 => (x2 = (6:Int32) → rR E (rCall E d) mMo_aboveOf Post 4 [some (pR 35), some (pI v1), some (pI (v2 ||| (0:Int32))), some (pI (v3 + (1:Int32)))] [] SH g1 0 0) ∧ (¬ x2 = (6:Int32) → rCall E d mMo_its [pR 35, pI v3, pI (3:Int32)] SH g1 (rPi SH (fun x4 g3 => rCall E d mMo_its [pR 35, pI v1, pI (3:Int32)] SH g3 (rPi SH (fun x6 g5 => (x4 = x6 → rCall E d mMo_its [pR 35, pI v3, pI (4:Int32)] SH g5 (rPi SH (fun x8 g7 => rCall E d mMo_its [pR 35, pI v1, pI (4:Int32)] SH g7 (rPi SH (fun x10 g9 => (x8 ≤ x10 → rR E (rCall E d) mMo_aboveOf Post 4 [some (pR 35), some (pI v1), some (pI (v2 ||| (0:Int32))), some (pI (v3 + (1:Int32)))] [] SH g9 0 0) ∧ (¬ x8 ≤ x10 → rR E (rCall E d) mMo_aboveOf Post 4 [some (pR 35), some (pI v1), some (pI (v2 ||| ((1:Int32) <<< (v3 &&& 31)))), some (pI (v3 + (1:Int32)))] [] SH g9 0 0)))))) ∧ (¬ x4 = x6 → rR E (rCall E d) mMo_aboveOf Post 4 [some (pR 35), some (pI v1), some (pI (v2 ||| (0:Int32))), some (pI (v3 + (1:Int32)))] [] SH g5 0 0)))))))))) : rR E (rCall E d) mMo_aboveOf Post 4 [some (pR 35), some (pI v1), some (pI v2), some (pI v3)] [] SH h 0 0 := by
  have H : ((h 36 0) ≤ v3 → Post (some (pI v2)) SH h) ∧ (¬ (h 36 0) ≤ v3 → rCall E d mMo_its [pR 35, pI v1, pI (3:Int32)] SH h (rPi SH (fun x2 g1 => (x2 = (Int8.ofInt 6).toInt32 → rR E (rCall E d) mMo_aboveOf Post 4 [some (pR 35), some (pI v1), some (pI (v2 ||| (0:Int32))), some (pI (v3 + (1:Int32)))] [] SH g1 0 0) ∧ (¬ x2 = (Int8.ofInt 6).toInt32 → rCall E d mMo_its [pR 35, pI v3, pI (3:Int32)] SH g1 (rPi SH (fun x4 g3 => rCall E d mMo_its [pR 35, pI v1, pI (3:Int32)] SH g3 (rPi SH (fun x6 g5 => (x4 = x6 → rCall E d mMo_its [pR 35, pI v3, pI (4:Int32)] SH g5 (rPi SH (fun x8 g7 => rCall E d mMo_its [pR 35, pI v1, pI (4:Int32)] SH g7 (rPi SH (fun x10 g9 => (x8 ≤ x10 → rR E (rCall E d) mMo_aboveOf Post 4 [some (pR 35), some (pI v1), some (pI (v2 ||| (0:Int32))), some (pI (v3 + (1:Int32)))] [] SH g9 0 0) ∧ (¬ x8 ≤ x10 → rR E (rCall E d) mMo_aboveOf Post 4 [some (pR 35), some (pI v1), some (pI (v2 ||| ((1:Int32) <<< (v3 &&& 31)))), some (pI (v3 + (1:Int32)))] [] SH g9 0 0)))))) ∧ (¬ x4 = x6 → rR E (rCall E d) mMo_aboveOf Post 4 [some (pR 35), some (pI v1), some (pI (v2 ||| (0:Int32))), some (pI (v3 + (1:Int32)))] [] SH g5 0 0))))))))) := by simp only [kc_b6]; exact H
  exact rEx_ok (zCut [4]) 41 (⟨by unfold vp_in; decide, H⟩)
set_option maxRecDepth 100000 in
set_option maxHeartbeats 1000000 in
theorem vMo_speaks {E : rE} {d : Nat} {Post : rPost} {h : rHp} {a1 : Int32} (H : rCall E d mMo_its [pR 35, pI a1, pI (1:Int32)] SH h (rPi SH (fun x2 g1 => rCall E d mMo_its [pR 35, pI a1, pI (0:Int32)] SH g1 (rPi SH (fun x4 g3 => (x4 = (1:Int32) → Post (some (pI ((x2 / (10:Int32)) + (g3 36 6)))) SH g3) ∧ (¬ x4 = (1:Int32) → (x4 = (2:Int32) → Post (some (pI ((x2 / (10:Int32)) - (g3 36 7)))) SH g3) ∧ (¬ x4 = (2:Int32) → (x4 = (3:Int32) → Post (some (pI ((2:Int32) * ((x2 / (10:Int32)) + (g3 36 6))))) SH g3) ∧ (¬ x4 = (3:Int32) → (x4 = (4:Int32) → rCall E d mMo_its [pR 35, pI a1, pI (2:Int32)] SH g3 (rPi SH (fun x6 g5 => Post (some (pI (((x2 / (10:Int32)) - (g3 36 7)) + x6))) SH g5))) ∧ (¬ x4 = (4:Int32) → (x4 = (5:Int32) → (((g3 36 1) - (g3 36 1) / (3:Int32) * (3:Int32)) = 0 → Post (some (pI (x2 / (10:Int32)))) SH g3) ∧ (¬ ((g3 36 1) - (g3 36 1) / (3:Int32) * (3:Int32)) = 0 → rCall E d mMo_its [pR 35, pI a1, pI (2:Int32)] SH g3 (rPi SH (fun x8 g7 => Post (some (pI ((0:Int32) - x8))) SH g7)))) ∧ (¬ x4 = (5:Int32) → Post (some (pI (x2 / (10:Int32)))) SH g3)))))))))) : rCall E (d + 1) mMo_speaks [pR 35, pI a1] SH h Post := by
  have H : rCall E d mMo_its [pR 35, pI a1, pI (1:Int32)] SH h (rPi SH (fun x2 g1 => rCall E d mMo_its [pR 35, pI a1, pI (0:Int32)] SH g1 (rPi SH (fun x4 g3 => (x4 = (1:Int32) → Post (some (pI ((x2 / (Int8.ofInt 10).toInt32) + (g3 36 6)))) SH g3) ∧ (¬ x4 = (1:Int32) → (x4 = (2:Int32) → Post (some (pI ((x2 / (Int8.ofInt 10).toInt32) - (g3 36 7)))) SH g3) ∧ (¬ x4 = (2:Int32) → (x4 = (3:Int32) → Post (some (pI ((2:Int32) * ((x2 / (Int8.ofInt 10).toInt32) + (g3 36 6))))) SH g3) ∧ (¬ x4 = (3:Int32) → (x4 = (4:Int32) → rCall E d mMo_its [pR 35, pI a1, pI (2:Int32)] SH g3 (rPi SH (fun x6 g5 => Post (some (pI (((x2 / (Int8.ofInt 10).toInt32) - (g3 36 7)) + x6))) SH g5))) ∧ (¬ x4 = (4:Int32) → (x4 = (5:Int32) → (((g3 36 1) - (g3 36 1) / (3:Int32) * (3:Int32)) = 0 → Post (some (pI (x2 / (Int8.ofInt 10).toInt32))) SH g3) ∧ (¬ ((g3 36 1) - (g3 36 1) / (3:Int32) * (3:Int32)) = 0 → rCall E d mMo_its [pR 35, pI a1, pI (2:Int32)] SH g3 (rPi SH (fun x8 g7 => Post (some (pI ((0:Int32) - x8))) SH g7)))) ∧ (¬ x4 = (5:Int32) → Post (some (pI (x2 / (Int8.ofInt 10).toInt32))) SH g3))))))))) := by simp only [kc_b10]; exact H
  exact rEx_ok (zCut []) 27 (rCall_mono (rPi_mono (fun x2 g1 k15 => ⟨by decide, rCall_mono (rPi_mono (fun x4 g3 k14 => And.intro (fun k13 => ⟨by unfold vp_in; decide, (k14.1 k13)⟩) (fun k13 => And.intro (fun k12 => ⟨by unfold vp_in; decide, ((k14.2 k13).1 k12)⟩) (fun k12 => And.intro (fun k11 => ⟨by unfold vp_in; decide, (((k14.2 k13).2 k12).1 k11)⟩) (fun k11 => And.intro (fun k10 => ⟨by unfold vp_in; decide, ((((k14.2 k13).2 k12).2 k11).1 k10)⟩) (fun k10 => And.intro (fun k9 => ⟨by unfold vp_in; decide, ⟨by decide, (((((k14.2 k13).2 k12).2 k11).2 k10).1 k9)⟩⟩) (fun k9 => ((((k14.2 k13).2 k12).2 k11).2 k10).2 k9))))))) (k15)⟩)) (H))
set_option maxRecDepth 100000 in
set_option maxHeartbeats 1000000 in
theorem vMo_hides {E : rE} {d : Nat} {Post : rPost} {h : rHp} {a1 : Int32} (H : rCall E d mMo_its [pR 35, pI a1, pI (0:Int32)] SH h (rPi SH (fun x2 g1 => (x2 = (1:Int32) → Post (some (pI (2:Int32))) SH g1) ∧ (¬ x2 = (1:Int32) → (x2 = (2:Int32) → Post (some (pI (0:Int32))) SH g1) ∧ (¬ x2 = (2:Int32) → (x2 = (3:Int32) → rCall E d mMo_its [pR 35, pI a1, pI (2:Int32)] SH g1 (rPi SH (fun x4 g3 => Post (some (pI ((2:Int32) + x4))) SH g3))) ∧ (¬ x2 = (3:Int32) → (x2 = (4:Int32) → Post (some (pI (2:Int32))) SH g1) ∧ (¬ x2 = (4:Int32) → (x2 = (5:Int32) → rCall E d mMo_aboveOf [pR 35, pI a1] SH g1 (rPi SH (fun x6 g5 => rCall E d mMo_size [pI x6] SH g5 (rPi SH (fun x8 g7 => Post (some (pI ((1:Int32) + x8))) SH g7))))) ∧ (¬ x2 = (5:Int32) → Post (some (pI (1:Int32))) SH g1)))))))) : rCall E (d + 1) mMo_hides [pR 35, pI a1] SH h Post := rEx_ok (zCut []) 13 H
set_option maxRecDepth 100000 in
set_option maxHeartbeats 1000000 in
theorem vMo_of {E : rE} {d : Nat} {Post : rPost} {h : rHp} {a1 : Int32} {a2 : Int32} (H : rCall E d mMo_isOne [pR 35, pI a1] SH h (rPi SH (fun x2 g1 => (x2 = 0 → Post (some (pI (-1:Int32))) SH g1) ∧ (¬ x2 = 0 → rCall E d mMo_isIn [pL a2.toInt64, pL (0:Int64), pL (4:Int64)] SH g1 (rPi SH (fun x4 g3 => (x4 = 0 → Post (some (pI (-1:Int32))) SH g3) ∧ (¬ x4 = 0 → ((4:Int32) ≤ a2 → rCall E d mMo_aboveOf [pR 35, pI a1] SH g3 (rPi SH (fun x6 g5 => rCall E d mMo_size [pI x6] SH g5 (rPi SH (fun x8 g7 => Post (some (pI x8)) SH g7))))) ∧ (¬ (4:Int32) ≤ a2 → rCall E d mMo_its [pR 35, pI a1, pI a2] SH g3 (rPi SH (fun x10 g9 => Post (some (pI x10)) SH g9)))))))))) : rCall E (d + 1) mMo_of [pR 35, pI a1, pI a2] SH h Post := rEx_ok (zCut []) 20 H
set_option maxRecDepth 100000 in
set_option maxHeartbeats 1000000 in
theorem vMo_does {E : rE} {d : Nat} {Post : rPost} {h : rHp} {a1 : Int32} {a2 : Int32} (H : rCall E d mMo_isOne [pR 35, pI a1] SH h (rPi SH (fun x2 g1 => (x2 = 0 → Post (some (pI (-1:Int32))) SH g1) ∧ (¬ x2 = 0 → rCall E d mMo_isIn [pL a2.toInt64, pL (0:Int64), pL (1:Int64)] SH g1 (rPi SH (fun x4 g3 => (x4 = 0 → Post (some (pI (-1:Int32))) SH g3) ∧ (¬ x4 = 0 → (a2 = 0 → rCall E d mMo_speaks [pR 35, pI a1] SH g3 (rPi SH (fun x6 g5 => Post (some (pI ((1000:Int32) + x6))) SH g5))) ∧ (¬ a2 = 0 → rCall E d mMo_hides [pR 35, pI a1] SH g3 (rPi SH (fun x8 g7 => Post (some (pI ((1000:Int32) + x8))) SH g7)))))))))) : rCall E (d + 1) mMo_does [pR 35, pI a1, pI a2] SH h Post := by
  have H : rCall E d mMo_isOne [pR 35, pI a1] SH h (rPi SH (fun x2 g1 => (x2 = 0 → Post (some (pI (-1:Int32))) SH g1) ∧ (¬ x2 = 0 → rCall E d mMo_isIn [pL a2.toInt64, pL (0:Int64), pL (1:Int64)] SH g1 (rPi SH (fun x4 g3 => (x4 = 0 → Post (some (pI (-1:Int32))) SH g3) ∧ (¬ x4 = 0 → (a2 = 0 → rCall E d mMo_speaks [pR 35, pI a1] SH g3 (rPi SH (fun x6 g5 => Post (some (pI ((Int16.ofInt 1000).toInt32 + x6))) SH g5))) ∧ (¬ a2 = 0 → rCall E d mMo_hides [pR 35, pI a1] SH g3 (rPi SH (fun x8 g7 => Post (some (pI ((Int16.ofInt 1000).toInt32 + x8))) SH g7))))))))) := by simp only [kc_s1000]; exact H
  exact rEx_ok (zCut []) 20 H
set_option maxRecDepth 100000 in
set_option maxHeartbeats 1000000 in
theorem vMo_mind {E : rE} {d : Nat} {Post : rPost} {h : rHp} {a1 : Int32} {a2 : Int32} {a3 : Int32} (H : rCall E d mMo_isOne [pR 35, pI a1] SH h (rPi SH (fun x2 g1 => (x2 = 0 → Post (some (pI (-1:Int32))) SH g1) ∧ (¬ x2 = 0 → rCall E d mMo_isIn [pL a2.toInt64, pL (0:Int64), pL (5:Int64)] SH g1 (rPi SH (fun x4 g3 => (x4 = 0 → Post (some (pI (-1:Int32))) SH g3) ∧ (¬ x4 = 0 → rCall E d mMo_isIn [pL a3.toInt64, pL (0:Int64), pL (9:Int64)] SH g3 (rPi SH (fun x6 g5 => (x6 = 0 → Post (some (pI (-1:Int32))) SH g5) ∧ (¬ x6 = 0 → vp_in (((10:Int32) + ((5:Int32) * a1)) + (2:Int32)) 50 ∧ rCall E d mMo_becomes [pR 35, pI ((10:Int32) + ((5:Int32) * a1)), pI a2] SH (rUp g5 36 (((10:Int32) + ((5:Int32) * a1)) + (2:Int32)).toNatClampNeg a3) (rPi SH (fun x8 g7 => Post (some (pI x8)) SH g7)))))))))))) : rCall E (d + 1) mMo_mind [pR 35, pI a1, pI a2, pI a3] SH h Post := by
  have H : rCall E d mMo_isOne [pR 35, pI a1] SH h (rPi SH (fun x2 g1 => (x2 = 0 → Post (some (pI (-1:Int32))) SH g1) ∧ (¬ x2 = 0 → rCall E d mMo_isIn [pL a2.toInt64, pL (0:Int64), pL (5:Int64)] SH g1 (rPi SH (fun x4 g3 => (x4 = 0 → Post (some (pI (-1:Int32))) SH g3) ∧ (¬ x4 = 0 → rCall E d mMo_isIn [pL a3.toInt64, pL (0:Int64), pL (9:Int64)] SH g3 (rPi SH (fun x6 g5 => (x6 = 0 → Post (some (pI (-1:Int32))) SH g5) ∧ (¬ x6 = 0 → vp_in (((Int8.ofInt 10).toInt32 + ((5:Int32) * a1)) + (2:Int32)) 50 ∧ rCall E d mMo_becomes [pR 35, pI ((Int8.ofInt 10).toInt32 + ((5:Int32) * a1)), pI a2] SH (rUp g5 36 (((Int8.ofInt 10).toInt32 + ((5:Int32) * a1)) + (2:Int32)).toNatClampNeg a3) (rPi SH (fun x8 g7 => Post (some (pI x8)) SH g7))))))))))) := by simp only [kc_b10]; exact H
  exact rEx_ok (zCut []) 37 H
set_option maxRecDepth 100000 in
set_option maxHeartbeats 1000000 in
theorem vMo_value {E : rE} {d : Nat} {Post : rPost} {h : rHp} {a1 : Int32} {a2 : Int32} (H : rCall E d mMo_isOne [pR 35, pI a1] SH h (rPi SH (fun x2 g1 => (x2 = 0 → Post (some (pI (-1:Int32))) SH g1) ∧ (¬ x2 = 0 → rCall E d mMo_isIn [pL a2.toInt64, pL (0:Int64), pL (99:Int64)] SH g1 (rPi SH (fun x4 g3 => (x4 = 0 → Post (some (pI (-1:Int32))) SH g3) ∧ (¬ x4 = 0 → rCall E d mMo_becomes [pR 35, pI (((10:Int32) + ((5:Int32) * a1)) + (1:Int32)), pI a2] SH g3 (rPi SH (fun x6 g5 => Post (some (pI x6)) SH g5))))))))) : rCall E (d + 1) mMo_value [pR 35, pI a1, pI a2] SH h Post := by
  have H : rCall E d mMo_isOne [pR 35, pI a1] SH h (rPi SH (fun x2 g1 => (x2 = 0 → Post (some (pI (-1:Int32))) SH g1) ∧ (¬ x2 = 0 → rCall E d mMo_isIn [pL a2.toInt64, pL (0:Int64), pL (99:Int64)] SH g1 (rPi SH (fun x4 g3 => (x4 = 0 → Post (some (pI (-1:Int32))) SH g3) ∧ (¬ x4 = 0 → rCall E d mMo_becomes [pR 35, pI (((Int8.ofInt 10).toInt32 + ((5:Int32) * a1)) + (1:Int32)), pI a2] SH g3 (rPi SH (fun x6 g5 => Post (some (pI x6)) SH g5)))))))) := by simp only [kc_b10]; exact H
  exact rEx_ok (zCut []) 23 H
set_option maxRecDepth 100000 in
set_option maxHeartbeats 1000000 in
theorem vMo_lay {E : rE} {d : Nat} {Post : rPost} {h : rHp} {a1 : Int32} {a2 : Int32} (H : rCall E d mMo_isOne [pR 35, pI a1] SH h (rPi SH (fun x2 g1 => (x2 = 0 → Post (some (pI (-1:Int32))) SH g1) ∧ (¬ x2 = 0 → rCall E d mMo_isPit [pI a2] SH g1 (rPi SH (fun x4 g3 => (x4 = 0 → Post (some (pI (-1:Int32))) SH g3) ∧ (¬ x4 = 0 → rCall E d mMo_its [pR 35, pI a1, pI (3:Int32)] SH g3 (rPi SH (fun x6 g5 => rCall E d mMo_lies [pR 35, pI a1, pI a2] SH g5 (rPn SH (fun g7 => Post (some (pI x6)) SH g7))))))))))) : rCall E (d + 1) mMo_lay [pR 35, pI a1, pI a2] SH h Post := rEx_ok (zCut []) 19 H
set_option maxRecDepth 100000 in
set_option maxHeartbeats 1000000 in
theorem vMo_lying {E : rE} {d : Nat} {Post : rPost} {h : rHp} (H : rR E (rCall E d) mMo_lying Post 4 [some (pR 35), some (pI (0:Int32)), some (pI (0:Int32))] [] SH h 0 0) : rCall E (d + 1) mMo_lying [pR 35] SH h Post := rEx_ok (zCut [4]) 6 H
set_option maxRecDepth 100000 in
set_option maxHeartbeats 1000000 in
theorem vMo_lying_4 {E : rE} {d : Nat} {Post : rPost} {h : rHp} {v1 : Int32} {v2 : Int32} (H : ((h 36 0) ≤ v2 → Post (some (pI v1)) SH h) ∧ (¬ (h 36 0) ≤ v2 → rCall E d mMo_its [pR 35, pI v2, pI (3:Int32)] SH h (rPi SH (fun x2 g1 => (x2 = (6:Int32) → rR E (rCall E d) mMo_lying Post 4 [some (pR 35), some (pI (v1 ||| (0:Int32))), some (pI (v2 + (1:Int32)))] [] SH g1 0 0) ∧ (¬ x2 = (6:Int32) → rR E (rCall E d) mMo_lying Post 4 [some (pR 35), some (pI (v1 ||| ((1:Int32) <<< (v2 &&& 31)))), some (pI (v2 + (1:Int32)))] [] SH g1 0 0))))) : rR E (rCall E d) mMo_lying Post 4 [some (pR 35), some (pI v1), some (pI v2)] [] SH h 0 0 := by
  have H : ((h 36 0) ≤ v2 → Post (some (pI v1)) SH h) ∧ (¬ (h 36 0) ≤ v2 → rCall E d mMo_its [pR 35, pI v2, pI (3:Int32)] SH h (rPi SH (fun x2 g1 => (x2 = (Int8.ofInt 6).toInt32 → rR E (rCall E d) mMo_lying Post 4 [some (pR 35), some (pI (v1 ||| (0:Int32))), some (pI (v2 + (1:Int32)))] [] SH g1 0 0) ∧ (¬ x2 = (Int8.ofInt 6).toInt32 → rR E (rCall E d) mMo_lying Post 4 [some (pR 35), some (pI (v1 ||| ((1:Int32) <<< (v2 &&& 31)))), some (pI (v2 + (1:Int32)))] [] SH g1 0 0)))) := by simp only [kc_b6]; exact H
  exact rEx_ok (zCut [4]) 23 (⟨by unfold vp_in; decide, H⟩)
set_option maxRecDepth 100000 in
set_option maxHeartbeats 1000000 in
theorem vMo_take {E : rE} {d : Nat} {Post : rPost} {h : rHp} {a1 : Int32} (H : rCall E d mMo_isOne [pR 35, pI a1] SH h (rPi SH (fun x2 g1 => (x2 = 0 → Post (some (pI (-1:Int32))) SH g1) ∧ (¬ x2 = 0 → rCall E d mMo_its [pR 35, pI a1, pI (3:Int32)] SH g1 (rPi SH (fun x4 g3 => (x4 = (6:Int32) → Post (some (pI (-3:Int32))) SH g3) ∧ (¬ x4 = (6:Int32) → vp_in (((10:Int32) + ((5:Int32) * a1)) + (3:Int32)) 50 ∧ rCall E d mMo_lying [pR 35] SH (rUp g3 36 (((10:Int32) + ((5:Int32) * a1)) + (3:Int32)).toNatClampNeg (6:Int32)) (rPi SH (fun x6 g5 => rCall E d mMo_size [pI x6] SH g5 (rPi SH (fun x8 g7 => Post (some (pI x8)) SH g7))))))))))) : rCall E (d + 1) mMo_take [pR 35, pI a1] SH h Post := by
  have H : rCall E d mMo_isOne [pR 35, pI a1] SH h (rPi SH (fun x2 g1 => (x2 = 0 → Post (some (pI (-1:Int32))) SH g1) ∧ (¬ x2 = 0 → rCall E d mMo_its [pR 35, pI a1, pI (3:Int32)] SH g1 (rPi SH (fun x4 g3 => (x4 = (Int8.ofInt 6).toInt32 → Post (some (pI (Int8.ofInt (-3)).toInt32)) SH g3) ∧ (¬ x4 = (Int8.ofInt 6).toInt32 → vp_in (((Int8.ofInt 10).toInt32 + ((5:Int32) * a1)) + (3:Int32)) 50 ∧ rCall E d mMo_lying [pR 35] SH (rUp g3 36 (((Int8.ofInt 10).toInt32 + ((5:Int32) * a1)) + (3:Int32)).toNatClampNeg (Int8.ofInt 6).toInt32) (rPi SH (fun x6 g5 => rCall E d mMo_size [pI x6] SH g5 (rPi SH (fun x8 g7 => Post (some (pI x8)) SH g7)))))))))) := by simp only [kc_bm3, kc_b10, kc_b6]; exact H
  exact rEx_ok (zCut []) 26 H
set_option maxRecDepth 100000 in
set_option maxHeartbeats 1000000 in
theorem vMo_bring {E : rE} {d : Nat} {Post : rPost} {h : rHp} {a1 : Int32} (H : rCall E d mMo_isPit [pI a1] SH h (rPi SH (fun x2 g1 => (x2 = 0 → Post (some (pI (-1:Int32))) SH g1) ∧ (¬ x2 = 0 → rCall E d mMo_becomes [pR 35, pI (3:Int32), pI a1] SH g1 (rPi SH (fun x4 g3 => Post (some (pI x4)) SH g3)))))) : rCall E (d + 1) mMo_bring [pR 35, pI a1] SH h Post := rEx_ok (zCut []) 10 H
set_option maxRecDepth 100000 in
set_option maxHeartbeats 1000000 in
theorem vMo_think {E : rE} {d : Nat} {Post : rPost} {h : rHp} {a1 : Int32} (H : rCall E d mMo_isIn [pL a1.toInt64, pL (0:Int64), pL (99:Int64)] SH h (rPi SH (fun x2 g1 => (x2 = 0 → Post (some (pI (-1:Int32))) SH g1) ∧ (¬ x2 = 0 → rCall E d mMo_becomes [pR 35, pI (4:Int32), pI a1] SH g1 (rPi SH (fun x4 g3 => Post (some (pI x4)) SH g3)))))) : rCall E (d + 1) mMo_think [pR 35, pI a1] SH h Post := rEx_ok (zCut []) 13 H
set_option maxRecDepth 100000 in
set_option maxHeartbeats 1000000 in
theorem vMo_lyingIn {E : rE} {d : Nat} {Post : rPost} {h : rHp} {a1 : Int32} (H : rR E (rCall E d) mMo_lyingIn Post 4 [some (pR 35), some (pI a1), some (pI (0:Int32)), some (pI (0:Int32))] [] SH h 0 0) : rCall E (d + 1) mMo_lyingIn [pR 35, pI a1] SH h Post := rEx_ok (zCut [4]) 6 H
set_option maxRecDepth 100000 in
set_option maxHeartbeats 1000000 in
theorem vMo_lyingIn_4 {E : rE} {d : Nat} {Post : rPost} {h : rHp} {v1 : Int32} {v2 : Int32} {v3 : Int32} (H : ((h 36 0) ≤ v3 → Post (some (pI v2)) SH h) ∧ (¬ (h 36 0) ≤ v3 → rCall E d mMo_its [pR 35, pI v3, pI (3:Int32)] SH h (rPi SH (fun x2 g1 => (x2 = v1 → rR E (rCall E d) mMo_lyingIn Post 4 [some (pR 35), some (pI v1), some (pI (v2 ||| ((1:Int32) <<< (v3 &&& 31)))), some (pI (v3 + (1:Int32)))] [] SH g1 0 0) ∧ (¬ x2 = v1 → rR E (rCall E d) mMo_lyingIn Post 4 [some (pR 35), some (pI v1), some (pI (v2 ||| (0:Int32))), some (pI (v3 + (1:Int32)))] [] SH g1 0 0))))) : rR E (rCall E d) mMo_lyingIn Post 4 [some (pR 35), some (pI v1), some (pI v2), some (pI v3)] [] SH h 0 0 := rEx_ok (zCut [4]) 23 (⟨by unfold vp_in; decide, H⟩)
set_option maxRecDepth 100000 in
set_option maxHeartbeats 1000000 in
theorem vMo_top {E : rE} {d : Nat} {Post : rPost} {h : rHp} {a1 : Int32} (H : rR E (rCall E d) mMo_top Post 5 [some (pR 35), some (pI a1), some (pI (8:Int32)), some (pI (0:Int32))] [] SH h 0 0) : rCall E (d + 1) mMo_top [pR 35, pI a1] SH h Post := by
  have H : rR E (rCall E d) mMo_top Post 5 [some (pR 35), some (pI a1), some (pI (Int8.ofInt 8).toInt32), some (pI (0:Int32))] [] SH h 0 0 := by simp only [kc_b8]; exact H
  exact rEx_ok (zCut [5]) 6 H
set_option maxRecDepth 100000 in
set_option maxHeartbeats 1000000 in
theorem vMo_top_5 {E : rE} {d : Nat} {Post : rPost} {h : rHp} {v1 : Int32} {v2 : Int32} {v3 : Int32} (H : ((h 36 0) ≤ v3 → Post (some (pI v2)) SH h) ∧ (¬ (h 36 0) ≤ v3 → rCall E d mMo_its [pR 35, pI v3, pI (3:Int32)] SH h (rPi SH (fun x2 g1 => (x2 = v1 → (v2 = (8:Int32) → rR E (rCall E d) mMo_top Post 5 [some (pR 35), some (pI v1), some (pI v3), some (pI (v3 + (1:Int32)))] [] SH g1 0 0) ∧ (¬ v2 = (8:Int32) → rCall E d mMo_its [pR 35, pI v3, pI (4:Int32)] SH g1 (rPi SH (fun x4 g3 => rCall E d mMo_its [pR 35, pI v2, pI (4:Int32)] SH g3 (rPi SH (fun x6 g5 => (x4 ≤ x6 → rR E (rCall E d) mMo_top Post 5 [some (pR 35), some (pI v1), some (pI v2), some (pI (v3 + (1:Int32)))] [] SH g5 0 0) ∧ (¬ x4 ≤ x6 → rR E (rCall E d) mMo_top Post 5 [some (pR 35), some (pI v1), some (pI v3), some (pI (v3 + (1:Int32)))] [] SH g5 0 0))))))) ∧ (¬ x2 = v1 → rR E (rCall E d) mMo_top Post 5 [some (pR 35), some (pI v1), some (pI v2), some (pI (v3 + (1:Int32)))] [] SH g1 0 0))))) : rR E (rCall E d) mMo_top Post 5 [some (pR 35), some (pI v1), some (pI v2), some (pI v3)] [] SH h 0 0 := by
  have H : ((h 36 0) ≤ v3 → Post (some (pI v2)) SH h) ∧ (¬ (h 36 0) ≤ v3 → rCall E d mMo_its [pR 35, pI v3, pI (3:Int32)] SH h (rPi SH (fun x2 g1 => (x2 = v1 → (v2 = (Int8.ofInt 8).toInt32 → rR E (rCall E d) mMo_top Post 5 [some (pR 35), some (pI v1), some (pI v3), some (pI (v3 + (1:Int32)))] [] SH g1 0 0) ∧ (¬ v2 = (Int8.ofInt 8).toInt32 → rCall E d mMo_its [pR 35, pI v3, pI (4:Int32)] SH g1 (rPi SH (fun x4 g3 => rCall E d mMo_its [pR 35, pI v2, pI (4:Int32)] SH g3 (rPi SH (fun x6 g5 => (x4 ≤ x6 → rR E (rCall E d) mMo_top Post 5 [some (pR 35), some (pI v1), some (pI v2), some (pI (v3 + (1:Int32)))] [] SH g5 0 0) ∧ (¬ x4 ≤ x6 → rR E (rCall E d) mMo_top Post 5 [some (pR 35), some (pI v1), some (pI v3), some (pI (v3 + (1:Int32)))] [] SH g5 0 0))))))) ∧ (¬ x2 = v1 → rR E (rCall E d) mMo_top Post 5 [some (pR 35), some (pI v1), some (pI v2), some (pI (v3 + (1:Int32)))] [] SH g1 0 0)))) := by simp only [kc_b8]; exact H
  exact rEx_ok (zCut [5]) 31 (⟨by unfold vp_in; decide, H⟩)
set_option maxRecDepth 100000 in
set_option maxHeartbeats 1000000 in
theorem vMo_pit {E : rE} {d : Nat} {Post : rPost} {h : rHp} {a1 : Int32} {a2 : Int32} (H : rCall E d mMo_isPit [pI a1] SH h (rPi SH (fun x2 g1 => (x2 = 0 → Post (some (pI (-1:Int32))) SH g1) ∧ (¬ x2 = 0 → rCall E d mMo_isIn [pL a2.toInt64, pL (0:Int64), pL (1:Int64)] SH g1 (rPi SH (fun x4 g3 => (x4 = 0 → Post (some (pI (-1:Int32))) SH g3) ∧ (¬ x4 = 0 → (a2 = 0 → rCall E d mMo_lyingIn [pR 35, pI a1] SH g3 (rPi SH (fun x6 g5 => Post (some (pI x6)) SH g5))) ∧ (¬ a2 = 0 → rCall E d mMo_top [pR 35, pI a1] SH g3 (rPi SH (fun x8 g7 => Post (some (pI x8)) SH g7)))))))))) : rCall E (d + 1) mMo_pit [pR 35, pI a1, pI a2] SH h Post := rEx_ok (zCut []) 17 H
set_option maxRecDepth 100000 in
set_option maxHeartbeats 1000000 in
theorem vMo_goesOn {E : rE} {d : Nat} {Post : rPost} {h : rHp} (H : rCall E d mMo_top [pR 35, pI (h 36 3)] SH h (rPi SH (fun x2 g1 => rR E (rCall E d) mMo_goesOn Post 18 [some (pR 35), some (pI (h 36 5)), some (pI x2)] [] SH g1 0 0))) : rCall E (d + 1) mMo_goesOn [pR 35] SH h Post := rEx_ok (zCut [18]) 14 (⟨by unfold vp_in; decide, ⟨by unfold vp_in; decide, H⟩⟩)
set_option maxRecDepth 100000 in
set_option maxHeartbeats 1000000 in
theorem vMo_goesOn_18 {E : rE} {d : Nat} {Post : rPost} {h : rHp} {v1 : Int32} {v2 : Int32} (H : ((8:Int32) ≤ v2 → Post none SH (rUp (rUp h 36 3 (((h 36 3) + (1:Int32)) - ((h 36 3) + (1:Int32)) / (6:Int32) * (6:Int32))) 36 1 ((h 36 1) + (1:Int32)))) ∧ (¬ (8:Int32) ≤ v2 → rCall E d mMo_hides [pR 35, pI v2] SH h (rPi SH (fun x2 g1 => (v1 < x2 → Post none SH (rUp (rUp g1 36 3 (((g1 36 3) + (1:Int32)) - ((g1 36 3) + (1:Int32)) / (6:Int32) * (6:Int32))) 36 1 ((g1 36 1) + (1:Int32)))) ∧ (¬ v1 < x2 → rCall E d mMo_hides [pR 35, pI v2] SH g1 (rPi SH (fun x4 g3 => rCall E d mMo_speaks [pR 35, pI v2] SH g3 (rPi SH (fun x6 g5 => rCall E d mMo_within [pI ((g3 36 4) + x6)] SH g5 (rPi SH (fun x8 g7 => vp_in (((10:Int32) + ((5:Int32) * v2)) + (3:Int32)) 50 ∧ rCall E d mMo_top [pR 35, pI ((rUp (rUp g7 36 4 x8) 36 (((10:Int32) + ((5:Int32) * v2)) + (3:Int32)).toNatClampNeg (6:Int32)) 36 3)] SH (rUp (rUp g7 36 4 x8) 36 (((10:Int32) + ((5:Int32) * v2)) + (3:Int32)).toNatClampNeg (6:Int32)) (rPi SH (fun x10 g9 => rR E (rCall E d) mMo_goesOn Post 18 [some (pR 35), some (pI (v1 - x4)), some (pI x10)] [] SH g9 0 0))))))))))))) : rR E (rCall E d) mMo_goesOn Post 18 [some (pR 35), some (pI v1), some (pI v2)] [] SH h 0 0 := by
  have H : ((Int8.ofInt 8).toInt32 ≤ v2 → Post none SH (rUp (rUp h 36 3 (((h 36 3) + (1:Int32)) - ((h 36 3) + (1:Int32)) / (Int8.ofInt 6).toInt32 * (Int8.ofInt 6).toInt32)) 36 1 ((h 36 1) + (1:Int32)))) ∧ (¬ (Int8.ofInt 8).toInt32 ≤ v2 → rCall E d mMo_hides [pR 35, pI v2] SH h (rPi SH (fun x2 g1 => (v1 < x2 → Post none SH (rUp (rUp g1 36 3 (((g1 36 3) + (1:Int32)) - ((g1 36 3) + (1:Int32)) / (Int8.ofInt 6).toInt32 * (Int8.ofInt 6).toInt32)) 36 1 ((g1 36 1) + (1:Int32)))) ∧ (¬ v1 < x2 → rCall E d mMo_hides [pR 35, pI v2] SH g1 (rPi SH (fun x4 g3 => rCall E d mMo_speaks [pR 35, pI v2] SH g3 (rPi SH (fun x6 g5 => rCall E d mMo_within [pI ((g3 36 4) + x6)] SH g5 (rPi SH (fun x8 g7 => vp_in (((Int8.ofInt 10).toInt32 + ((5:Int32) * v2)) + (3:Int32)) 50 ∧ rCall E d mMo_top [pR 35, pI ((rUp (rUp g7 36 4 x8) 36 (((Int8.ofInt 10).toInt32 + ((5:Int32) * v2)) + (3:Int32)).toNatClampNeg (Int8.ofInt 6).toInt32) 36 3)] SH (rUp (rUp g7 36 4 x8) 36 (((Int8.ofInt 10).toInt32 + ((5:Int32) * v2)) + (3:Int32)).toNatClampNeg (Int8.ofInt 6).toInt32) (rPi SH (fun x10 g9 => rR E (rCall E d) mMo_goesOn Post 18 [some (pR 35), some (pI (v1 - x4)), some (pI x10)] [] SH g9 0 0)))))))))))) := by simp only [kc_b10, kc_b6, kc_b8]; exact H
  exact rEx_ok (zCut [18]) 48 (And.intro (fun k16 => ⟨by unfold vp_in; decide, ⟨by decide, ⟨by unfold vp_in; decide, ⟨by unfold vp_in; decide, ⟨by unfold vp_in; decide, (H.1 k16)⟩⟩⟩⟩⟩) (fun k16 => rCall_mono (rPi_mono (fun x2 g1 k15 => And.intro (fun k14 => ⟨by unfold vp_in; decide, ⟨by decide, ⟨by unfold vp_in; decide, ⟨by unfold vp_in; decide, ⟨by unfold vp_in; decide, (k15.1 k14)⟩⟩⟩⟩⟩) (fun k14 => rCall_mono (rPi_mono (fun x4 g3 k13 => ⟨by unfold vp_in; decide, rCall_mono (rPi_mono (fun x6 g5 k12 => rCall_mono (rPi_mono (fun x8 g7 k11 => ⟨by unfold vp_in; decide, ⟨k11.1, ⟨by unfold vp_in; decide, k11.2⟩⟩⟩)) (k12))) (k13)⟩)) ((k15.2 k14))))) ((H.2 k16))))
set_option maxRecDepth 100000 in
set_option maxHeartbeats 1000000 in
theorem vMo_goes {E : rE} {d : Nat} {Post : rPost} {h : rHp} {a1 : Int32} (H : rR E (rCall E d) mMo_goes Post 2 [some (pR 35), some (pI a1), some (pI (0:Int32))] [] SH h 0 0) : rCall E (d + 1) mMo_goes [pR 35, pI a1] SH h Post := rEx_ok (zCut [2]) 4 H
set_option maxRecDepth 100000 in
set_option maxHeartbeats 1000000 in
theorem vMo_goes_2 {E : rE} {d : Nat} {Post : rPost} {h : rHp} {v1 : Int32} {v2 : Int32} (H : (v1 ≤ v2 → Post none SH h) ∧ (¬ v1 ≤ v2 → rCall E d mMo_goesOn [pR 35] SH h (rPn SH (fun g1 => rR E (rCall E d) mMo_goes Post 2 [some (pR 35), some (pI v1), some (pI (v2 + (1:Int32)))] [] SH g1 0 0)))) : rR E (rCall E d) mMo_goes Post 2 [some (pR 35), some (pI v1), some (pI v2)] [] SH h 0 0 := rEx_ok (zCut [2]) 9 H
set_option maxRecDepth 100000 in
set_option maxHeartbeats 1000000 in
theorem vMo_years {E : rE} {d : Nat} {Post : rPost} {h : rHp} {a1 : Int32} (H : rCall E d mMo_isIn [pL a1.toInt64, pL (1:Int64), pL (60:Int64)] SH h (rPi SH (fun x2 g1 => (x2 = 0 → Post (some (pI (-1:Int32))) SH g1) ∧ (¬ x2 = 0 → rCall E d mMo_goes [pR 35, pI a1] SH g1 (rPn SH (fun g3 => Post (some (pI (g3 36 4))) SH g3)))))) : rCall E (d + 1) mMo_years [pR 35, pI a1] SH h Post := rEx_ok (zCut []) 15 (rCall_mono (rPi_mono (fun x2 g1 k6 => And.intro (fun k5 => k6.1 k5) (fun k5 => rCall_mono (rPn_mono (fun g3 k4 => ⟨by unfold vp_in; decide, k4⟩)) ((k6.2 k5))))) (H))
set_option maxRecDepth 100000 in
set_option maxHeartbeats 1000000 in
theorem vMo_seed {E : rE} {d : Nat} {Post : rPost} {h : rHp} {a1 : Int32} (H : rCall E d mMo_becomes [pR 35, pI (2:Int32), pI a1] SH h (rPi SH (fun x2 g1 => Post (some (pI x2)) SH g1))) : rCall E (d + 1) mMo_seed [pR 35, pI a1] SH h Post := rEx_ok (zCut []) 6 H
set_option maxRecDepth 100000 in
set_option maxHeartbeats 1000000 in
theorem vMo_drawn {E : rE} {d : Nat} {Post : rPost} {h : rHp} (H : Post (some (pI ((((rUp h 36 2 (((h 36 2) * (1103515245:Int32)) + (12345:Int32))) 36 2).toUInt32 >>> ((16:Int32).toUInt32 &&& Int32.toUInt32 31)).toInt32))) SH (rUp h 36 2 (((h 36 2) * (1103515245:Int32)) + (12345:Int32)))) : rCall E (d + 1) mMo_drawn [pR 35] SH h Post := by
  have H : Post (some (pI ((((rUp h 36 2 (((h 36 2) * (1103515245:Int32)) + (Int16.ofInt 12345).toInt32)) 36 2).toUInt32 >>> ((Int8.ofInt 16).toInt32.toUInt32 &&& Int32.toUInt32 31)).toInt32))) SH (rUp h 36 2 (((h 36 2) * (1103515245:Int32)) + (Int16.ofInt 12345).toInt32)) := by simp only [kc_b16, kc_s12345]; exact H
  exact rEx_ok (zCut []) 20 (⟨by unfold vp_in; decide, ⟨by unfold vp_in; decide, ⟨by unfold vp_in; decide, H⟩⟩⟩)
set_option maxRecDepth 100000 in
set_option maxHeartbeats 1000000 in
theorem vMo_year {E : rE} {d : Nat} {Post : rPost} {h : rHp} (H : ((h 36 0) ≤ 0 → rCall E d mMo_goesOn [pR 35] SH h (rPn SH (fun g1 => Post (some (pI (g1 36 4))) SH g1))) ∧ (¬ (h 36 0) ≤ 0 → rCall E d mMo_drawn [pR 35] SH h (rPi SH (fun x4 g3 => ¬ (g3 36 0) = 0 ∧ rCall E d mMo_drawn [pR 35] SH g3 (rPi SH (fun x6 g5 => ((g5 36 8) ≤ (x6 - x6 / (100:Int32) * (100:Int32)) → rCall E d mMo_goesOn [pR 35] SH g5 (rPn SH (fun g7 => Post (some (pI (g7 36 4))) SH g7))) ∧ (¬ (g5 36 8) ≤ (x6 - x6 / (100:Int32) * (100:Int32)) → rCall E d mMo_its [pR 35, pI (x4 - x4 / (g3 36 0) * (g3 36 0)), pI (3:Int32)] SH g5 (rPi SH (fun x10 g9 => (x10 = (6:Int32) → rCall E d mMo_goesOn [pR 35] SH g9 (rPn SH (fun g11 => Post (some (pI (g11 36 4))) SH g11))) ∧ (¬ x10 = (6:Int32) → rCall E d mMo_drawn [pR 35] SH g9 (rPi SH (fun x14 g13 => rCall E d mMo_lies [pR 35, pI (x4 - x4 / (g3 36 0) * (g3 36 0)), pI (x14 - x14 / (6:Int32) * (6:Int32))] SH g13 (rPn SH (fun g15 => rCall E d mMo_goesOn [pR 35] SH g15 (rPn SH (fun g16 => Post (some (pI (g16 36 4))) SH g16)))))))))))))))) : rCall E (d + 1) mMo_year [pR 35] SH h Post := by
  have H : ((h 36 0) ≤ 0 → rCall E d mMo_goesOn [pR 35] SH h (rPn SH (fun g1 => Post (some (pI (g1 36 4))) SH g1))) ∧ (¬ (h 36 0) ≤ 0 → rCall E d mMo_drawn [pR 35] SH h (rPi SH (fun x4 g3 => ¬ (g3 36 0) = 0 ∧ rCall E d mMo_drawn [pR 35] SH g3 (rPi SH (fun x6 g5 => ((g5 36 8) ≤ (x6 - x6 / (Int8.ofInt 100).toInt32 * (Int8.ofInt 100).toInt32) → rCall E d mMo_goesOn [pR 35] SH g5 (rPn SH (fun g7 => Post (some (pI (g7 36 4))) SH g7))) ∧ (¬ (g5 36 8) ≤ (x6 - x6 / (Int8.ofInt 100).toInt32 * (Int8.ofInt 100).toInt32) → rCall E d mMo_its [pR 35, pI (x4 - x4 / (g3 36 0) * (g3 36 0)), pI (3:Int32)] SH g5 (rPi SH (fun x10 g9 => (x10 = (Int8.ofInt 6).toInt32 → rCall E d mMo_goesOn [pR 35] SH g9 (rPn SH (fun g11 => Post (some (pI (g11 36 4))) SH g11))) ∧ (¬ x10 = (Int8.ofInt 6).toInt32 → rCall E d mMo_drawn [pR 35] SH g9 (rPi SH (fun x14 g13 => rCall E d mMo_lies [pR 35, pI (x4 - x4 / (g3 36 0) * (g3 36 0)), pI (x14 - x14 / (Int8.ofInt 6).toInt32 * (Int8.ofInt 6).toInt32)] SH g13 (rPn SH (fun g15 => rCall E d mMo_goesOn [pR 35] SH g15 (rPn SH (fun g16 => Post (some (pI (g16 36 4))) SH g16))))))))))))))) := by simp only [kc_b100, kc_b6]; exact H
  exact rEx_ok (zCut []) 43 (⟨by unfold vp_in; decide, And.intro (fun k25 => rCall_mono (rPn_mono (fun g1 k2 => ⟨by unfold vp_in; decide, k2⟩)) ((H.1 k25))) (fun k25 => rCall_mono (rPi_mono (fun x4 g3 k24 => ⟨by unfold vp_in; decide, ⟨k24.1, rCall_mono (rPi_mono (fun x6 g5 k23 => ⟨by decide, ⟨by unfold vp_in; decide, And.intro (fun k22 => rCall_mono (rPn_mono (fun g7 k8 => ⟨by unfold vp_in; decide, k8⟩)) ((k23.1 k22))) (fun k22 => rCall_mono (rPi_mono (fun x10 g9 k21 => And.intro (fun k20 => rCall_mono (rPn_mono (fun g11 k12 => ⟨by unfold vp_in; decide, k12⟩)) ((k21.1 k20))) (fun k20 => rCall_mono (rPi_mono (fun x14 g13 k19 => ⟨by decide, rCall_mono (rPn_mono (fun g15 k18 => rCall_mono (rPn_mono (fun g16 k17 => ⟨by unfold vp_in; decide, k17⟩)) (k18))) (k19)⟩)) ((k21.2 k20))))) ((k23.2 k22)))⟩⟩)) (k24.2)⟩⟩)) ((H.2 k25)))⟩)
end
section
set_option maxRecDepth 100000 in
set_option maxHeartbeats 1000000 in
theorem vMo_luck {E : rE} {d : Nat} {Post : rPost} {h : rHp} {a1 : Int32} (H : rCall E d mMo_isIn [pL a1.toInt64, pL (1:Int64), pL (30:Int64)] SH h (rPi SH (fun x2 g1 => (x2 = 0 → Post (some (pI (-1:Int32))) SH g1) ∧ (¬ x2 = 0 → rCall E d mMo_copyRow [pR 36, pR 38] SH g1 (rPn SH (fun g3 => rCall E d mMo_goesOn [pR 35] SH g3 (rPn SH (fun g4 => rR E (rCall E d) mMo_luck Post 49 [some (pR 35), some (pI a1), some (pI (g4 36 4)), some (pI (g4 38 2)), some (pI (0:Int32)), some (pI (0:Int32))] [] SH g4 0 0)))))))) : rCall E (d + 1) mMo_luck [pR 35, pI a1] SH h Post := rEx_ok (zCut [49]) 29 (rCall_mono (rPi_mono (fun x2 g1 k8 => And.intro (fun k7 => k8.1 k7) (fun k7 => rCall_mono (rPn_mono (fun g3 k6 => rCall_mono (rPn_mono (fun g4 k5 => ⟨by unfold vp_in; decide, ⟨by unfold vp_in; decide, k5⟩⟩)) (k6))) ((k8.2 k7))))) (H))
set_option maxRecDepth 100000 in
set_option maxHeartbeats 1000000 in
theorem vMo_luck_49 {E : rE} {d : Nat} {Post : rPost} {h : rHp} {v1 : Int32} {v2 : Int32} {v3 : Int32} {v4 : Int32} {v5 : Int32} (H : (v1 ≤ v5 → rCall E d mMo_copyRow [pR 38, pR 36] SH h (rPn SH (fun g1 => Post (some (pI v4)) SH g1))) ∧ (¬ v1 ≤ v5 → rCall E d mMo_copyRow [pR 38, pR 36] SH h (rPn SH (fun g2 => rCall E d mMo_year [pR 35] SH (rUp g2 36 2 v3) (rPi SH (fun x4 g3 => (x4 ≤ v2 → rR E (rCall E d) mMo_luck Post 49 [some (pR 35), some (pI v1), some (pI v2), some (pI (g3 36 2)), some (pI (v4 + (0:Int32))), some (pI (v5 + (1:Int32)))] [] SH g3 0 0) ∧ (¬ x4 ≤ v2 → rR E (rCall E d) mMo_luck Post 49 [some (pR 35), some (pI v1), some (pI v2), some (pI (g3 36 2)), some (pI (v4 + (1:Int32))), some (pI (v5 + (1:Int32)))] [] SH g3 0 0))))))) : rR E (rCall E d) mMo_luck Post 49 [some (pR 35), some (pI v1), some (pI v2), some (pI v3), some (pI v4), some (pI v5)] [] SH h 0 0 := rEx_ok (zCut [49]) 31 (And.intro (fun k8 => H.1 k8) (fun k8 => rCall_mono (rPn_mono (fun g2 k7 => ⟨by unfold vp_in; decide, rCall_mono (rPi_mono (fun x4 g3 k6 => And.intro (fun k5 => ⟨by unfold vp_in; decide, (k6.1 k5)⟩) (fun k5 => ⟨by unfold vp_in; decide, (k6.2 k5)⟩))) (k7)⟩)) ((H.2 k8))))
set_option maxRecDepth 100000 in
set_option maxHeartbeats 1000000 in
theorem vMo_worthOfAll {E : rE} {d : Nat} {Post : rPost} {h : rHp} (H : rR E (rCall E d) mMo_worthOfAll Post 4 [some (pR 35), some (pI (0:Int32)), some (pI (0:Int32))] [] SH h 0 0) : rCall E (d + 1) mMo_worthOfAll [pR 35] SH h Post := rEx_ok (zCut [4]) 6 H
set_option maxRecDepth 100000 in
set_option maxHeartbeats 1000000 in
theorem vMo_worthOfAll_4 {E : rE} {d : Nat} {Post : rPost} {h : rHp} {v1 : Int32} {v2 : Int32} (H : ((h 36 0) ≤ v2 → Post (some (pI v1)) SH h) ∧ (¬ (h 36 0) ≤ v2 → rCall E d mMo_its [pR 35, pI v2, pI (3:Int32)] SH h (rPi SH (fun x2 g1 => (x2 = (6:Int32) → rR E (rCall E d) mMo_worthOfAll Post 4 [some (pR 35), some (pI (v1 + (0:Int32))), some (pI (v2 + (1:Int32)))] [] SH g1 0 0) ∧ (¬ x2 = (6:Int32) → rCall E d mMo_its [pR 35, pI v2, pI (1:Int32)] SH g1 (rPi SH (fun x4 g3 => rR E (rCall E d) mMo_worthOfAll Post 4 [some (pR 35), some (pI (v1 + x4)), some (pI (v2 + (1:Int32)))] [] SH g3 0 0))))))) : rR E (rCall E d) mMo_worthOfAll Post 4 [some (pR 35), some (pI v1), some (pI v2)] [] SH h 0 0 := by
  have H : ((h 36 0) ≤ v2 → Post (some (pI v1)) SH h) ∧ (¬ (h 36 0) ≤ v2 → rCall E d mMo_its [pR 35, pI v2, pI (3:Int32)] SH h (rPi SH (fun x2 g1 => (x2 = (Int8.ofInt 6).toInt32 → rR E (rCall E d) mMo_worthOfAll Post 4 [some (pR 35), some (pI (v1 + (0:Int32))), some (pI (v2 + (1:Int32)))] [] SH g1 0 0) ∧ (¬ x2 = (Int8.ofInt 6).toInt32 → rCall E d mMo_its [pR 35, pI v2, pI (1:Int32)] SH g1 (rPi SH (fun x4 g3 => rR E (rCall E d) mMo_worthOfAll Post 4 [some (pR 35), some (pI (v1 + x4)), some (pI (v2 + (1:Int32)))] [] SH g3 0 0)))))) := by simp only [kc_b6]; exact H
  exact rEx_ok (zCut [4]) 24 (⟨by unfold vp_in; decide, H⟩)
set_option maxRecDepth 100000 in
set_option maxHeartbeats 1000000 in
theorem vMo_kindsIn {E : rE} {d : Nat} {Post : rPost} {h : rHp} {a1 : Int32} (H : rR E (rCall E d) mMo_kindsIn Post 4 [some (pR 35), some (pI a1), some (pI (0:Int32)), some (pI (0:Int32))] [] SH h 0 0) : rCall E (d + 1) mMo_kindsIn [pR 35, pI a1] SH h Post := rEx_ok (zCut [4]) 6 H
set_option maxRecDepth 100000 in
set_option maxHeartbeats 1000000 in
theorem vMo_kindsIn_4 {E : rE} {d : Nat} {Post : rPost} {h : rHp} {v1 : Int32} {v2 : Int32} {v3 : Int32} (H : ((h 36 0) ≤ v3 → Post (some (pI v2)) SH h) ∧ (¬ (h 36 0) ≤ v3 → rCall E d mMo_its [pR 35, pI v3, pI (3:Int32)] SH h (rPi SH (fun x2 g1 => (x2 = (6:Int32) → rR E (rCall E d) mMo_kindsIn Post 4 [some (pR 35), some (pI v1), some (pI (v2 ||| (0:Int32))), some (pI (v3 + (1:Int32)))] [] SH g1 0 0) ∧ (¬ x2 = (6:Int32) → rCall E d mMo_its [pR 35, pI v3, pI (3:Int32)] SH g1 (rPi SH (fun x4 g3 => (((v1 >>> (x4 &&& 31)) &&& (1:Int32)) = (1:Int32) → rCall E d mMo_its [pR 35, pI v3, pI (0:Int32)] SH g3 (rPi SH (fun x6 g5 => rR E (rCall E d) mMo_kindsIn Post 4 [some (pR 35), some (pI v1), some (pI (v2 ||| ((1:Int32) <<< (x6 &&& 31)))), some (pI (v3 + (1:Int32)))] [] SH g5 0 0))) ∧ (¬ ((v1 >>> (x4 &&& 31)) &&& (1:Int32)) = (1:Int32) → rR E (rCall E d) mMo_kindsIn Post 4 [some (pR 35), some (pI v1), some (pI (v2 ||| (0:Int32))), some (pI (v3 + (1:Int32)))] [] SH g3 0 0)))))))) : rR E (rCall E d) mMo_kindsIn Post 4 [some (pR 35), some (pI v1), some (pI v2), some (pI v3)] [] SH h 0 0 := by
  have H : ((h 36 0) ≤ v3 → Post (some (pI v2)) SH h) ∧ (¬ (h 36 0) ≤ v3 → rCall E d mMo_its [pR 35, pI v3, pI (3:Int32)] SH h (rPi SH (fun x2 g1 => (x2 = (Int8.ofInt 6).toInt32 → rR E (rCall E d) mMo_kindsIn Post 4 [some (pR 35), some (pI v1), some (pI (v2 ||| (0:Int32))), some (pI (v3 + (1:Int32)))] [] SH g1 0 0) ∧ (¬ x2 = (Int8.ofInt 6).toInt32 → rCall E d mMo_its [pR 35, pI v3, pI (3:Int32)] SH g1 (rPi SH (fun x4 g3 => (((v1 >>> (x4 &&& 31)) &&& (1:Int32)) = (1:Int32) → rCall E d mMo_its [pR 35, pI v3, pI (0:Int32)] SH g3 (rPi SH (fun x6 g5 => rR E (rCall E d) mMo_kindsIn Post 4 [some (pR 35), some (pI v1), some (pI (v2 ||| ((1:Int32) <<< (x6 &&& 31)))), some (pI (v3 + (1:Int32)))] [] SH g5 0 0))) ∧ (¬ ((v1 >>> (x4 &&& 31)) &&& (1:Int32)) = (1:Int32) → rR E (rCall E d) mMo_kindsIn Post 4 [some (pR 35), some (pI v1), some (pI (v2 ||| (0:Int32))), some (pI (v3 + (1:Int32)))] [] SH g3 0 0))))))) := by simp only [kc_b6]; exact H
  exact rEx_ok (zCut [4]) 36 (⟨by unfold vp_in; decide, H⟩)
set_option maxRecDepth 100000 in
set_option maxHeartbeats 1000000 in
theorem vMo_cover {E : rE} {d : Nat} {Post : rPost} {h : rHp} (H : rCall E d mMo_kindsIn [pR 35, pI (63:Int32)] SH h (rPi SH (fun x2 g1 => rR E (rCall E d) mMo_cover Post 13 [some (pR 35), some (pI x2), some (pI (63:Int32)), some (pI (63:Int32))] [] SH g1 0 0))) : rCall E (d + 1) mMo_cover [pR 35] SH h Post := by
  have H : rCall E d mMo_kindsIn [pR 35, pI (Int8.ofInt 63).toInt32] SH h (rPi SH (fun x2 g1 => rR E (rCall E d) mMo_cover Post 13 [some (pR 35), some (pI x2), some (pI (Int8.ofInt 63).toInt32), some (pI (Int8.ofInt 63).toInt32)] [] SH g1 0 0)) := by simp only [kc_b63]; exact H
  exact rEx_ok (zCut [13]) 10 H
set_option maxRecDepth 100000 in
set_option maxHeartbeats 1000000 in
theorem vMo_cover_13 {E : rE} {d : Nat} {Post : rPost} {h : rHp} {v1 : Int32} {v2 : Int32} {v3 : Int32} (H : (v3 < 0 → Post (some (pI v2)) SH h) ∧ (¬ v3 < 0 → rCall E d mMo_kindsIn [pR 35, pI v3] SH h (rPi SH (fun x2 g1 => (x2 = v1 → rCall E d mMo_size [pI v3] SH g1 (rPi SH (fun x4 g3 => rCall E d mMo_size [pI v2] SH g3 (rPi SH (fun x6 g5 => (x6 < x4 → rR E (rCall E d) mMo_cover Post 13 [some (pR 35), some (pI v1), some (pI v2), some (pI (v3 + (-1:Int32)))] [] SH g5 0 0) ∧ (¬ x6 < x4 → rR E (rCall E d) mMo_cover Post 13 [some (pR 35), some (pI v1), some (pI v3), some (pI (v3 + (-1:Int32)))] [] SH g5 0 0)))))) ∧ (¬ x2 = v1 → rR E (rCall E d) mMo_cover Post 13 [some (pR 35), some (pI v1), some (pI v2), some (pI (v3 + (-1:Int32)))] [] SH g1 0 0))))) : rR E (rCall E d) mMo_cover Post 13 [some (pR 35), some (pI v1), some (pI v2), some (pI v3)] [] SH h 0 0 := rEx_ok (zCut [13]) 19 H
set_option maxRecDepth 100000 in
set_option maxHeartbeats 1000000 in
theorem vMo_state {E : rE} {d : Nat} {Post : rPost} {h : rHp} {a1 : Int32} (H : (a1 = (0:Int32) → Post (some (pI (h 36 1))) SH h) ∧ (¬ a1 = (0:Int32) → (a1 = (1:Int32) → Post (some (pI (h 36 4))) SH h) ∧ (¬ a1 = (1:Int32) → (a1 = (2:Int32) → Post (some (pI (h 36 3))) SH h) ∧ (¬ a1 = (2:Int32) → (a1 = (3:Int32) → rCall E d mMo_lying [pR 35] SH h (rPi SH (fun x2 g1 => Post (some (pI x2)) SH g1))) ∧ (¬ a1 = (3:Int32) → (a1 = (4:Int32) → rCall E d mMo_worthOfAll [pR 35] SH h (rPi SH (fun x4 g3 => Post (some (pI x4)) SH g3))) ∧ (¬ a1 = (4:Int32) → (a1 = (5:Int32) → rCall E d mMo_cover [pR 35] SH h (rPi SH (fun x6 g5 => Post (some (pI x6)) SH g5))) ∧ (¬ a1 = (5:Int32) → Post (some (pI (-1:Int32))) SH h))))))) : rCall E (d + 1) mMo_state [pR 35, pI a1] SH h Post := rEx_ok (zCut []) 8 (And.intro (fun k9 => ⟨by unfold vp_in; decide, (H.1 k9)⟩) (fun k9 => And.intro (fun k8 => ⟨by unfold vp_in; decide, ((H.2 k9).1 k8)⟩) (fun k8 => And.intro (fun k7 => ⟨by unfold vp_in; decide, (((H.2 k9).2 k8).1 k7)⟩) (fun k7 => ((H.2 k9).2 k8).2 k7))))
set_option maxRecDepth 100000 in
set_option maxHeartbeats 1000000 in
theorem vMo_thoughtBehind {E : rE} {d : Nat} {Post : rPost} {h : rHp} {a1 : Int32} (H : rCall E d mMo_copyRow [pR 36, pR 38] SH h (rPn SH (fun g1 => rCall E d mMo_goes [pR 35, pI a1] SH g1 (rPn SH (fun g2 => rCall E d mMo_copyRow [pR 38, pR 36] SH g2 (rPn SH (fun g3 => Post (some (pI (g2 36 4))) SH g3))))))) : rCall E (d + 1) mMo_thoughtBehind [pR 35, pI a1] SH h Post := rEx_ok (zCut []) 21 (rCall_mono (rPn_mono (fun g1 k5 => rCall_mono (rPn_mono (fun g2 k4 => ⟨by unfold vp_in; decide, k4⟩)) (k5))) (H))
set_option maxRecDepth 100000 in
set_option maxHeartbeats 1000000 in
theorem vMo_thought {E : rE} {d : Nat} {Post : rPost} {h : rHp} {a1 : Int32} (H : rCall E d mMo_isIn [pL a1.toInt64, pL (0:Int64), pL (60:Int64)] SH h (rPi SH (fun x2 g1 => (x2 = 0 → Post (some (pI (-1:Int32))) SH g1) ∧ (¬ x2 = 0 → rCall E d mMo_thoughtBehind [pR 35, pI a1] SH g1 (rPi SH (fun x4 g3 => Post (some (pI x4)) SH g3)))))) : rCall E (d + 1) mMo_thought [pR 35, pI a1] SH h Post := rEx_ok (zCut []) 12 H
set_option maxRecDepth 100000 in
set_option maxHeartbeats 1000000 in
theorem vMo_dug {E : rE} {d : Nat} {Post : rPost} {h : rHp} {a1 : Int32} (H : rCall E d mMo_isOne [pR 35, pI a1] SH h (rPi SH (fun x2 g1 => (x2 = 0 → Post (some (pI (-1:Int32))) SH g1) ∧ (¬ x2 = 0 → rCall E d mMo_copyRow [pR 36, pR 38] SH g1 (rPn SH (fun g3 => rR E (rCall E d) mMo_dug Post 23 [some (pR 35), some (pI a1), some (pI (0:Int32))] [] SH g3 0 0)))))) : rCall E (d + 1) mMo_dug [pR 35, pI a1] SH h Post := rEx_ok (zCut [23]) 13 H
set_option maxRecDepth 100000 in
set_option maxHeartbeats 1000000 in
theorem vMo_dug_23 {E : rE} {d : Nat} {Post : rPost} {h : rHp} {v1 : Int32} {v2 : Int32} (H : ((60:Int32) < v2 → rCall E d mMo_copyRow [pR 38, pR 36] SH h (rPn SH (fun g1 => ((60:Int32) < v2 → Post (some (pI (-3:Int32))) SH g1) ∧ (¬ (60:Int32) < v2 → Post (some (pI v2)) SH g1)))) ∧ (¬ (60:Int32) < v2 → rCall E d mMo_its [pR 35, pI v1, pI (3:Int32)] SH h (rPi SH (fun x3 g2 => (x3 = (6:Int32) → rCall E d mMo_copyRow [pR 38, pR 36] SH g2 (rPn SH (fun g4 => ((60:Int32) < v2 → Post (some (pI (-3:Int32))) SH g4) ∧ (¬ (60:Int32) < v2 → Post (some (pI v2)) SH g4)))) ∧ (¬ x3 = (6:Int32) → rCall E d mMo_goesOn [pR 35] SH g2 (rPn SH (fun g5 => rR E (rCall E d) mMo_dug Post 23 [some (pR 35), some (pI v1), some (pI (v2 + (1:Int32)))] [] SH g5 0 0))))))) : rR E (rCall E d) mMo_dug Post 23 [some (pR 35), some (pI v1), some (pI v2)] [] SH h 0 0 := by
  have H : ((Int8.ofInt 60).toInt32 < v2 → rCall E d mMo_copyRow [pR 38, pR 36] SH h (rPn SH (fun g1 => ((Int8.ofInt 60).toInt32 < v2 → Post (some (pI (Int8.ofInt (-3)).toInt32)) SH g1) ∧ (¬ (Int8.ofInt 60).toInt32 < v2 → Post (some (pI v2)) SH g1)))) ∧ (¬ (Int8.ofInt 60).toInt32 < v2 → rCall E d mMo_its [pR 35, pI v1, pI (3:Int32)] SH h (rPi SH (fun x3 g2 => (x3 = (Int8.ofInt 6).toInt32 → rCall E d mMo_copyRow [pR 38, pR 36] SH g2 (rPn SH (fun g4 => ((Int8.ofInt 60).toInt32 < v2 → Post (some (pI (Int8.ofInt (-3)).toInt32)) SH g4) ∧ (¬ (Int8.ofInt 60).toInt32 < v2 → Post (some (pI v2)) SH g4)))) ∧ (¬ x3 = (Int8.ofInt 6).toInt32 → rCall E d mMo_goesOn [pR 35] SH g2 (rPn SH (fun g5 => rR E (rCall E d) mMo_dug Post 23 [some (pR 35), some (pI v1), some (pI (v2 + (1:Int32)))] [] SH g5 0 0)))))) := by simp only [kc_bm3, kc_b60, kc_b6]; exact H
  exact rEx_ok (zCut [23]) 21 H
set_option maxRecDepth 100000 in
set_option maxHeartbeats 1000000 in
theorem vMo_empty {E : rE} {d : Nat} {Post : rPost} {h : rHp} (H : rCall E d mMo_copyRow [pR 36, pR 38] SH h (rPn SH (fun g1 => rR E (rCall E d) mMo_empty Post 13 [some (pR 35), some (pI (0:Int32))] [] SH g1 0 0))) : rCall E (d + 1) mMo_empty [pR 35] SH h Post := rEx_ok (zCut [13]) 9 H
set_option maxRecDepth 100000 in
set_option maxHeartbeats 1000000 in
theorem vMo_empty_13 {E : rE} {d : Nat} {Post : rPost} {h : rHp} {v1 : Int32} (H : ((60:Int32) < v1 → rCall E d mMo_copyRow [pR 38, pR 36] SH h (rPn SH (fun g1 => ((60:Int32) < v1 → Post (some (pI (-3:Int32))) SH g1) ∧ (¬ (60:Int32) < v1 → Post (some (pI v1)) SH g1)))) ∧ (¬ (60:Int32) < v1 → rCall E d mMo_lying [pR 35] SH h (rPi SH (fun x3 g2 => (x3 = 0 → rCall E d mMo_copyRow [pR 38, pR 36] SH g2 (rPn SH (fun g4 => ((60:Int32) < v1 → Post (some (pI (-3:Int32))) SH g4) ∧ (¬ (60:Int32) < v1 → Post (some (pI v1)) SH g4)))) ∧ (¬ x3 = 0 → rCall E d mMo_goesOn [pR 35] SH g2 (rPn SH (fun g5 => rR E (rCall E d) mMo_empty Post 13 [some (pR 35), some (pI (v1 + (1:Int32)))] [] SH g5 0 0))))))) : rR E (rCall E d) mMo_empty Post 13 [some (pR 35), some (pI v1)] [] SH h 0 0 := by
  have H : ((Int8.ofInt 60).toInt32 < v1 → rCall E d mMo_copyRow [pR 38, pR 36] SH h (rPn SH (fun g1 => ((Int8.ofInt 60).toInt32 < v1 → Post (some (pI (Int8.ofInt (-3)).toInt32)) SH g1) ∧ (¬ (Int8.ofInt 60).toInt32 < v1 → Post (some (pI v1)) SH g1)))) ∧ (¬ (Int8.ofInt 60).toInt32 < v1 → rCall E d mMo_lying [pR 35] SH h (rPi SH (fun x3 g2 => (x3 = 0 → rCall E d mMo_copyRow [pR 38, pR 36] SH g2 (rPn SH (fun g4 => ((Int8.ofInt 60).toInt32 < v1 → Post (some (pI (Int8.ofInt (-3)).toInt32)) SH g4) ∧ (¬ (Int8.ofInt 60).toInt32 < v1 → Post (some (pI v1)) SH g4)))) ∧ (¬ x3 = 0 → rCall E d mMo_goesOn [pR 35] SH g2 (rPn SH (fun g5 => rR E (rCall E d) mMo_empty Post 13 [some (pR 35), some (pI (v1 + (1:Int32)))] [] SH g5 0 0)))))) := by simp only [kc_bm3, kc_b60]; exact H
  exact rEx_ok (zCut [13]) 18 H
set_option maxRecDepth 100000 in
set_option maxHeartbeats 1000000 in
theorem vMo_praised {E : rE} {d : Nat} {Post : rPost} {h : rHp} {a1 : Int32} (H : rCall E d mMo_isIn [pL a1.toInt64, pL (0:Int64), pL (99:Int64)] SH h (rPi SH (fun x2 g1 => (x2 = 0 → Post (some (pI (-1:Int32))) SH g1) ∧ (¬ x2 = 0 → rCall E d mMo_copyRow [pR 36, pR 38] SH g1 (rPn SH (fun g3 => rR E (rCall E d) mMo_praised Post 27 [some (pR 35), some (pI a1), some (pI (0:Int32))] [] SH g3 0 0)))))) : rCall E (d + 1) mMo_praised [pR 35, pI a1] SH h Post := rEx_ok (zCut [27]) 15 H
set_option maxRecDepth 100000 in
set_option maxHeartbeats 1000000 in
theorem vMo_praised_27 {E : rE} {d : Nat} {Post : rPost} {h : rHp} {v1 : Int32} {v2 : Int32} (H : ((60:Int32) < v2 → rCall E d mMo_copyRow [pR 38, pR 36] SH h (rPn SH (fun g1 => ((60:Int32) < v2 → Post (some (pI (-3:Int32))) SH g1) ∧ (¬ (60:Int32) < v2 → Post (some (pI v2)) SH g1)))) ∧ (¬ (60:Int32) < v2 → (v1 ≤ (h 36 4) → rCall E d mMo_copyRow [pR 38, pR 36] SH h (rPn SH (fun g2 => ((60:Int32) < v2 → Post (some (pI (-3:Int32))) SH g2) ∧ (¬ (60:Int32) < v2 → Post (some (pI v2)) SH g2)))) ∧ (¬ v1 ≤ (h 36 4) → rCall E d mMo_goesOn [pR 35] SH h (rPn SH (fun g3 => rR E (rCall E d) mMo_praised Post 27 [some (pR 35), some (pI v1), some (pI (v2 + (1:Int32)))] [] SH g3 0 0))))) : rR E (rCall E d) mMo_praised Post 27 [some (pR 35), some (pI v1), some (pI v2)] [] SH h 0 0 := by
  have H : ((Int8.ofInt 60).toInt32 < v2 → rCall E d mMo_copyRow [pR 38, pR 36] SH h (rPn SH (fun g1 => ((Int8.ofInt 60).toInt32 < v2 → Post (some (pI (Int8.ofInt (-3)).toInt32)) SH g1) ∧ (¬ (Int8.ofInt 60).toInt32 < v2 → Post (some (pI v2)) SH g1)))) ∧ (¬ (Int8.ofInt 60).toInt32 < v2 → (v1 ≤ (h 36 4) → rCall E d mMo_copyRow [pR 38, pR 36] SH h (rPn SH (fun g2 => ((Int8.ofInt 60).toInt32 < v2 → Post (some (pI (Int8.ofInt (-3)).toInt32)) SH g2) ∧ (¬ (Int8.ofInt 60).toInt32 < v2 → Post (some (pI v2)) SH g2)))) ∧ (¬ v1 ≤ (h 36 4) → rCall E d mMo_goesOn [pR 35] SH h (rPn SH (fun g3 => rR E (rCall E d) mMo_praised Post 27 [some (pR 35), some (pI v1), some (pI (v2 + (1:Int32)))] [] SH g3 0 0)))) := by simp only [kc_bm3, kc_b60]; exact H
  exact rEx_ok (zCut [27]) 21 (And.intro (fun k4 => H.1 k4) (fun k4 => ⟨by unfold vp_in; decide, (H.2 k4)⟩))
set_option maxRecDepth 100000 in
set_option maxHeartbeats 1000000 in
theorem vMo_isShort {E : rE} {d : Nat} {Post : rPost} {h : rHp} {a1 : Int32} (H : rCall E d mMo_isIn [pL a1.toInt64, pL (1:Int64), pL (20:Int64)] SH h (rPi SH (fun x2 g1 => (x2 = 0 ∨ x2 = 1) ∧ Post (some (pI x2)) SH g1))) : rCall E (d + 1) mMo_isShort [pI a1] SH h Post := rEx_ok (zCut []) 7 H
set_option maxRecDepth 100000 in
set_option maxHeartbeats 1000000 in
theorem vMo_pitFor {E : rE} {d : Nat} {Post : rPost} {h : rHp} {a1 : Int32} {a2 : Int32} (H : rCall E d mMo_isOne [pR 35, pI a1] SH h (rPi SH (fun x2 g1 => (x2 = 0 → Post (some (pI (-1:Int32))) SH g1) ∧ (¬ x2 = 0 → rCall E d mMo_isShort [pI a2] SH g1 (rPi SH (fun x4 g3 => (x4 = 0 → Post (some (pI (-1:Int32))) SH g3) ∧ (¬ x4 = 0 → rCall E d mMo_its [pR 35, pI a1, pI (3:Int32)] SH g3 (rPi SH (fun x6 g5 => (x6 = (6:Int32) → Post (some (pI (-3:Int32))) SH g5) ∧ (¬ x6 = (6:Int32) → rCall E d mMo_copyRow [pR 36, pR 40] SH g5 (rPn SH (fun g7 => rR E (rCall E d) mMo_pitFor Post 50 [some (pR 35), some (pI a1), some (pI a2), some (pI (0:Int32)), some (pI (-1:Int32)), some (pI (0:Int32)), none] [] SH g7 0 0)))))))))))) : rCall E (d + 1) mMo_pitFor [pR 35, pI a1, pI a2] SH h Post := by
  have H : rCall E d mMo_isOne [pR 35, pI a1] SH h (rPi SH (fun x2 g1 => (x2 = 0 → Post (some (pI (-1:Int32))) SH g1) ∧ (¬ x2 = 0 → rCall E d mMo_isShort [pI a2] SH g1 (rPi SH (fun x4 g3 => (x4 = 0 → Post (some (pI (-1:Int32))) SH g3) ∧ (¬ x4 = 0 → rCall E d mMo_its [pR 35, pI a1, pI (3:Int32)] SH g3 (rPi SH (fun x6 g5 => (x6 = (Int8.ofInt 6).toInt32 → Post (some (pI (Int8.ofInt (-3)).toInt32)) SH g5) ∧ (¬ x6 = (Int8.ofInt 6).toInt32 → rCall E d mMo_copyRow [pR 36, pR 40] SH g5 (rPn SH (fun g7 => rR E (rCall E d) mMo_pitFor Post 50 [some (pR 35), some (pI a1), some (pI a2), some (pI (0:Int32)), some (pI (-1:Int32)), some (pI (0:Int32)), none] [] SH g7 0 0))))))))))) := by simp only [kc_bm3, kc_b6]; exact H
  exact rEx_ok (zCut [50]) 26 H
set_option maxRecDepth 100000 in
set_option maxHeartbeats 1000000 in
theorem vMo_pitFor_50 {E : rE} {d : Nat} {Post : rPost} {h : rHp} {v1 : Int32} {v2 : Int32} {v3 : Int32} {v4 : Int32} {v5 : Int32} {o6 : Option Int32} (H : ((6:Int32) ≤ v5 → Post (some (pI v3)) SH h) ∧ (¬ (6:Int32) ≤ v5 → rCall E d mMo_lies [pR 35, pI v1, pI v5] SH h (rPn SH (fun g1 => rCall E d mMo_thoughtBehind [pR 35, pI v2] SH g1 (rPi SH (fun x3 g2 => rCall E d mMo_copyRow [pR 40, pR 36] SH g2 (rPn SH (fun g4 => (x3 ≤ v4 → rCall E d mMo_greatest [pI v4, pI x3] SH g4 (rPi SH (fun x6 g5 => rR E (rCall E d) mMo_pitFor Post 50 [some (pR 35), some (pI v1), some (pI v2), some (pI v3), some (pI x6), some (pI (v5 + (1:Int32))), some (pI x3)] [] SH g5 0 0))) ∧ (¬ x3 ≤ v4 → rCall E d mMo_greatest [pI v4, pI x3] SH g4 (rPi SH (fun x8 g7 => rR E (rCall E d) mMo_pitFor Post 50 [some (pR 35), some (pI v1), some (pI v2), some (pI v5), some (pI x8), some (pI (v5 + (1:Int32))), some (pI x3)] [] SH g7 0 0))))))))))) : rR E (rCall E d) mMo_pitFor Post 50 [some (pR 35), some (pI v1), some (pI v2), some (pI v3), some (pI v4), some (pI v5), oI o6] [] SH h 0 0 := by
  have H : ((Int8.ofInt 6).toInt32 ≤ v5 → Post (some (pI v3)) SH h) ∧ (¬ (Int8.ofInt 6).toInt32 ≤ v5 → rCall E d mMo_lies [pR 35, pI v1, pI v5] SH h (rPn SH (fun g1 => rCall E d mMo_thoughtBehind [pR 35, pI v2] SH g1 (rPi SH (fun x3 g2 => rCall E d mMo_copyRow [pR 40, pR 36] SH g2 (rPn SH (fun g4 => (x3 ≤ v4 → rCall E d mMo_greatest [pI v4, pI x3] SH g4 (rPi SH (fun x6 g5 => rR E (rCall E d) mMo_pitFor Post 50 [some (pR 35), some (pI v1), some (pI v2), some (pI v3), some (pI x6), some (pI (v5 + (1:Int32))), some (pI x3)] [] SH g5 0 0))) ∧ (¬ x3 ≤ v4 → rCall E d mMo_greatest [pI v4, pI x3] SH g4 (rPi SH (fun x8 g7 => rR E (rCall E d) mMo_pitFor Post 50 [some (pR 35), some (pI v1), some (pI v2), some (pI v5), some (pI x8), some (pI (v5 + (1:Int32))), some (pI x3)] [] SH g7 0 0)))))))))) := by simp only [kc_b6]; exact H
  exact (match o6, H with | none, H => rEx_ok (zCut [50]) 30 H | some _, H => rEx_ok (zCut [50]) 30 H)
set_option maxRecDepth 100000 in
set_option maxHeartbeats 1000000 in
theorem vMo_mostBy {E : rE} {d : Nat} {Post : rPost} {h : rHp} {a1 : Int32} {a2 : Int32} {a3 : Int32} (H : vp_in a1 50 ∧ rR E (rCall E d) mMo_mostBy Post 17 [some (pR 35), some (pI a1), some (pI a2), some (pI a3), some (pI (h 36 a1.toNatClampNeg)), some (pI (0:Int32)), some (pI (-1:Int32)), some (pI (0:Int32)), none] [] SH h 0 0) : rCall E (d + 1) mMo_mostBy [pR 35, pI a1, pI a2, pI a3] SH h Post := rEx_ok (zCut [17]) 13 H
set_option maxRecDepth 100000 in
set_option maxHeartbeats 1000000 in
theorem vMo_mostBy_17 {E : rE} {d : Nat} {Post : rPost} {h : rHp} {v1 : Int32} {v2 : Int32} {v3 : Int32} {v4 : Int32} {v5 : Int32} {v6 : Int32} {v7 : Int32} {o8 : Option Int32} (H : (v2 < v7 → vp_in v1 50 ∧ Post (some (pI v5)) SH (rUp h 36 v1.toNatClampNeg v4)) ∧ (¬ v2 < v7 → vp_in v1 50 ∧ rCall E d mMo_thoughtBehind [pR 35, pI v3] SH (rUp h 36 v1.toNatClampNeg v7) (rPi SH (fun x2 g1 => (x2 ≤ v6 → rCall E d mMo_greatest [pI v6, pI x2] SH g1 (rPi SH (fun x4 g3 => rR E (rCall E d) mMo_mostBy Post 17 [some (pR 35), some (pI v1), some (pI v2), some (pI v3), some (pI v4), some (pI v5), some (pI x4), some (pI (v7 + (1:Int32))), some (pI x2)] [] SH g3 0 0))) ∧ (¬ x2 ≤ v6 → rCall E d mMo_greatest [pI v6, pI x2] SH g1 (rPi SH (fun x6 g5 => rR E (rCall E d) mMo_mostBy Post 17 [some (pR 35), some (pI v1), some (pI v2), some (pI v3), some (pI v4), some (pI v7), some (pI x6), some (pI (v7 + (1:Int32))), some (pI x2)] [] SH g5 0 0))))))) : rR E (rCall E d) mMo_mostBy Post 17 [some (pR 35), some (pI v1), some (pI v2), some (pI v3), some (pI v4), some (pI v5), some (pI v6), some (pI v7), oI o8] [] SH h 0 0 := (match o8, H with | none, H => rEx_ok (zCut [17]) 26 H | some _, H => rEx_ok (zCut [17]) 26 H)
set_option maxRecDepth 100000 in
set_option maxHeartbeats 1000000 in
theorem vMo_kindFor {E : rE} {d : Nat} {Post : rPost} {h : rHp} {a1 : Int32} {a2 : Int32} (H : rCall E d mMo_isOne [pR 35, pI a1] SH h (rPi SH (fun x2 g1 => (x2 = 0 → Post (some (pI (-1:Int32))) SH g1) ∧ (¬ x2 = 0 → rCall E d mMo_isShort [pI a2] SH g1 (rPi SH (fun x4 g3 => (x4 = 0 → Post (some (pI (-1:Int32))) SH g3) ∧ (¬ x4 = 0 → rCall E d mMo_its [pR 35, pI a1, pI (3:Int32)] SH g3 (rPi SH (fun x6 g5 => (x6 = (6:Int32) → Post (some (pI (-3:Int32))) SH g5) ∧ (¬ x6 = (6:Int32) → rCall E d mMo_mostBy [pR 35, pI ((10:Int32) + ((5:Int32) * a1)), pI (5:Int32), pI a2] SH g5 (rPi SH (fun x8 g7 => Post (some (pI x8)) SH g7)))))))))))) : rCall E (d + 1) mMo_kindFor [pR 35, pI a1, pI a2] SH h Post := by
  have H : rCall E d mMo_isOne [pR 35, pI a1] SH h (rPi SH (fun x2 g1 => (x2 = 0 → Post (some (pI (-1:Int32))) SH g1) ∧ (¬ x2 = 0 → rCall E d mMo_isShort [pI a2] SH g1 (rPi SH (fun x4 g3 => (x4 = 0 → Post (some (pI (-1:Int32))) SH g3) ∧ (¬ x4 = 0 → rCall E d mMo_its [pR 35, pI a1, pI (3:Int32)] SH g3 (rPi SH (fun x6 g5 => (x6 = (Int8.ofInt 6).toInt32 → Post (some (pI (Int8.ofInt (-3)).toInt32)) SH g5) ∧ (¬ x6 = (Int8.ofInt 6).toInt32 → rCall E d mMo_mostBy [pR 35, pI ((Int8.ofInt 10).toInt32 + ((5:Int32) * a1)), pI (5:Int32), pI a2] SH g5 (rPi SH (fun x8 g7 => Post (some (pI x8)) SH g7))))))))))) := by simp only [kc_bm3, kc_b10, kc_b6]; exact H
  exact rEx_ok (zCut []) 24 H
set_option maxRecDepth 100000 in
set_option maxHeartbeats 1000000 in
theorem vMo_worthFor {E : rE} {d : Nat} {Post : rPost} {h : rHp} {a1 : Int32} {a2 : Int32} {a3 : Int32} (H : rCall E d mMo_isOne [pR 35, pI a1] SH h (rPi SH (fun x2 g1 => (x2 = 0 → Post (some (pI (-1:Int32))) SH g1) ∧ (¬ x2 = 0 → rCall E d mMo_isShort [pI a2] SH g1 (rPi SH (fun x4 g3 => (x4 = 0 → Post (some (pI (-1:Int32))) SH g3) ∧ (¬ x4 = 0 → rCall E d mMo_isIn [pL a3.toInt64, pL (0:Int64), pL (99:Int64)] SH g3 (rPi SH (fun x6 g5 => (x6 = 0 → Post (some (pI (-1:Int32))) SH g5) ∧ (¬ x6 = 0 → vp_in (((10:Int32) + ((5:Int32) * a1)) + (1:Int32)) 50 ∧ rR E (rCall E d) mMo_worthFor Post 55 [some (pR 35), some (pI a1), some (pI a2), some (pI a3), some (pI (((10:Int32) + ((5:Int32) * a1)) + (1:Int32))), some (pI (g5 36 (((10:Int32) + ((5:Int32) * a1)) + (1:Int32)).toNatClampNeg)), some (pI (-3:Int32)), some (pI (0:Int32))] [] SH g5 0 0)))))))))) : rCall E (d + 1) mMo_worthFor [pR 35, pI a1, pI a2, pI a3] SH h Post := by
  have H : rCall E d mMo_isOne [pR 35, pI a1] SH h (rPi SH (fun x2 g1 => (x2 = 0 → Post (some (pI (-1:Int32))) SH g1) ∧ (¬ x2 = 0 → rCall E d mMo_isShort [pI a2] SH g1 (rPi SH (fun x4 g3 => (x4 = 0 → Post (some (pI (-1:Int32))) SH g3) ∧ (¬ x4 = 0 → rCall E d mMo_isIn [pL a3.toInt64, pL (0:Int64), pL (99:Int64)] SH g3 (rPi SH (fun x6 g5 => (x6 = 0 → Post (some (pI (-1:Int32))) SH g5) ∧ (¬ x6 = 0 → vp_in (((Int8.ofInt 10).toInt32 + ((5:Int32) * a1)) + (1:Int32)) 50 ∧ rR E (rCall E d) mMo_worthFor Post 55 [some (pR 35), some (pI a1), some (pI a2), some (pI a3), some (pI (((Int8.ofInt 10).toInt32 + ((5:Int32) * a1)) + (1:Int32))), some (pI (g5 36 (((Int8.ofInt 10).toInt32 + ((5:Int32) * a1)) + (1:Int32)).toNatClampNeg)), some (pI (Int8.ofInt (-3)).toInt32), some (pI (0:Int32))] [] SH g5 0 0))))))))) := by simp only [kc_bm3, kc_b10]; exact H
  exact rEx_ok (zCut [55]) 32 H
set_option maxRecDepth 100000 in
set_option maxHeartbeats 1000000 in
theorem vMo_worthFor_55 {E : rE} {d : Nat} {Post : rPost} {h : rHp} {v1 : Int32} {v2 : Int32} {v3 : Int32} {v4 : Int32} {v5 : Int32} {v6 : Int32} {v7 : Int32} (H : ((99:Int32) < v7 → vp_in v4 50 ∧ Post (some (pI v6)) SH (rUp h 36 v4.toNatClampNeg v5)) ∧ (¬ (99:Int32) < v7 → (0 ≤ v6 → vp_in v4 50 ∧ Post (some (pI v6)) SH (rUp h 36 v4.toNatClampNeg v5)) ∧ (¬ 0 ≤ v6 → rCall E d mMo_its [pR 35, pI v1, pI (3:Int32)] SH h (rPi SH (fun x2 g1 => (x2 = (6:Int32) → vp_in v4 50 ∧ Post (some (pI v6)) SH (rUp g1 36 v4.toNatClampNeg v5)) ∧ (¬ x2 = (6:Int32) → vp_in v4 50 ∧ rCall E d mMo_thoughtBehind [pR 35, pI v2] SH (rUp g1 36 v4.toNatClampNeg v7) (rPi SH (fun x4 g3 => (x4 < v3 → rR E (rCall E d) mMo_worthFor Post 55 [some (pR 35), some (pI v1), some (pI v2), some (pI v3), some (pI v4), some (pI v5), some (pI (-3:Int32)), some (pI (v7 + (1:Int32)))] [] SH g3 0 0) ∧ (¬ x4 < v3 → rR E (rCall E d) mMo_worthFor Post 55 [some (pR 35), some (pI v1), some (pI v2), some (pI v3), some (pI v4), some (pI v5), some (pI v7), some (pI (v7 + (1:Int32)))] [] SH g3 0 0))))))))) : rR E (rCall E d) mMo_worthFor Post 55 [some (pR 35), some (pI v1), some (pI v2), some (pI v3), some (pI v4), some (pI v5), some (pI v6), some (pI v7)] [] SH h 0 0 := by
  have H : ((Int8.ofInt 99).toInt32 < v7 → vp_in v4 50 ∧ Post (some (pI v6)) SH (rUp h 36 v4.toNatClampNeg v5)) ∧ (¬ (Int8.ofInt 99).toInt32 < v7 → (0 ≤ v6 → vp_in v4 50 ∧ Post (some (pI v6)) SH (rUp h 36 v4.toNatClampNeg v5)) ∧ (¬ 0 ≤ v6 → rCall E d mMo_its [pR 35, pI v1, pI (3:Int32)] SH h (rPi SH (fun x2 g1 => (x2 = (Int8.ofInt 6).toInt32 → vp_in v4 50 ∧ Post (some (pI v6)) SH (rUp g1 36 v4.toNatClampNeg v5)) ∧ (¬ x2 = (Int8.ofInt 6).toInt32 → vp_in v4 50 ∧ rCall E d mMo_thoughtBehind [pR 35, pI v2] SH (rUp g1 36 v4.toNatClampNeg v7) (rPi SH (fun x4 g3 => (x4 < v3 → rR E (rCall E d) mMo_worthFor Post 55 [some (pR 35), some (pI v1), some (pI v2), some (pI v3), some (pI v4), some (pI v5), some (pI (Int8.ofInt (-3)).toInt32), some (pI (v7 + (1:Int32)))] [] SH g3 0 0) ∧ (¬ x4 < v3 → rR E (rCall E d) mMo_worthFor Post 55 [some (pR 35), some (pI v1), some (pI v2), some (pI v3), some (pI v4), some (pI v5), some (pI v7), some (pI (v7 + (1:Int32)))] [] SH g3 0 0)))))))) := by simp only [kc_bm3, kc_b6, kc_b99]; exact H
  exact rEx_ok (zCut [55]) 28 H
set_option maxRecDepth 100000 in
set_option maxHeartbeats 1000000 in
theorem vMo_beginFor {E : rE} {d : Nat} {Post : rPost} {h : rHp} {a1 : Int32} (H : rCall E d mMo_isShort [pI a1] SH h (rPi SH (fun x2 g1 => (x2 = 0 → Post (some (pI (-1:Int32))) SH g1) ∧ (¬ x2 = 0 → rCall E d mMo_mostBy [pR 35, pI (3:Int32), pI (5:Int32), pI a1] SH g1 (rPi SH (fun x4 g3 => Post (some (pI x4)) SH g3)))))) : rCall E (d + 1) mMo_beginFor [pR 35, pI a1] SH h Post := rEx_ok (zCut []) 11 H
set_option maxRecDepth 100000 in
set_option maxHeartbeats 1000000 in
theorem vMo_awayFor {E : rE} {d : Nat} {Post : rPost} {h : rHp} {a1 : Int32} {a2 : Int32} (H : rCall E d mMo_isShort [pI a1] SH h (rPi SH (fun x2 g1 => (x2 = 0 → Post (some (pI (-1:Int32))) SH g1) ∧ (¬ x2 = 0 → rCall E d mMo_isIn [pL a2.toInt64, pL (0:Int64), pL (99:Int64)] SH g1 (rPi SH (fun x4 g3 => (x4 = 0 → Post (some (pI (-1:Int32))) SH g3) ∧ (¬ x4 = 0 → rCall E d mMo_copyRow [pR 36, pR 40] SH g3 (rPn SH (fun g5 => rCall E d mMo_lying [pR 35] SH g5 (rPi SH (fun x7 g6 => rR E (rCall E d) mMo_awayFor Post 44 [some (pR 35), some (pI a1), some (pI a2), some (pI x7), some (pI (-3:Int32)), some (pI (0:Int32)), none] [] SH g6 0 0))))))))))) : rCall E (d + 1) mMo_awayFor [pR 35, pI a1, pI a2] SH h Post := by
  have H : rCall E d mMo_isShort [pI a1] SH h (rPi SH (fun x2 g1 => (x2 = 0 → Post (some (pI (-1:Int32))) SH g1) ∧ (¬ x2 = 0 → rCall E d mMo_isIn [pL a2.toInt64, pL (0:Int64), pL (99:Int64)] SH g1 (rPi SH (fun x4 g3 => (x4 = 0 → Post (some (pI (-1:Int32))) SH g3) ∧ (¬ x4 = 0 → rCall E d mMo_copyRow [pR 36, pR 40] SH g3 (rPn SH (fun g5 => rCall E d mMo_lying [pR 35] SH g5 (rPi SH (fun x7 g6 => rR E (rCall E d) mMo_awayFor Post 44 [some (pR 35), some (pI a1), some (pI a2), some (pI x7), some (pI (Int8.ofInt (-3)).toInt32), some (pI (0:Int32)), none] [] SH g6 0 0)))))))))) := by simp only [kc_bm3]; exact H
  exact rEx_ok (zCut [44, 87]) 23 H
set_option maxRecDepth 100000 in
set_option maxHeartbeats 1000000 in
theorem vMo_awayFor_44 {E : rE} {d : Nat} {Post : rPost} {h : rHp} {v1 : Int32} {v2 : Int32} {v3 : Int32} {v4 : Int32} {v5 : Int32} {o6 : Option Int32} (H : (((1:Int32) <<< ((h 36 0) &&& 31)) ≤ v5 → Post (some (pI v4)) SH h) ∧ (¬ ((1:Int32) <<< ((h 36 0) &&& 31)) ≤ v5 → ((v5 &&& (v3 ^^^ (-1:Int32))) = 0 → (v4 < 0 → rR E (rCall E d) mMo_awayFor Post 87 [some (pR 35), some (pI v1), some (pI v2), some (pI v3), some (pI v4), some (pI v5), some (pI (0:Int32))] [] SH h 0 0) ∧ (¬ v4 < 0 → rCall E d mMo_size [pI v5] SH h (rPi SH (fun x2 g1 => rCall E d mMo_size [pI v4] SH g1 (rPi SH (fun x4 g3 => (x4 ≤ x2 → rR E (rCall E d) mMo_awayFor Post 44 [some (pR 35), some (pI v1), some (pI v2), some (pI v3), some (pI v4), some (pI (v5 + (1:Int32))), oI o6] [] SH g3 0 0) ∧ (¬ x4 ≤ x2 → rR E (rCall E d) mMo_awayFor Post 87 [some (pR 35), some (pI v1), some (pI v2), some (pI v3), some (pI v4), some (pI v5), some (pI (0:Int32))] [] SH g3 0 0))))))) ∧ (¬ (v5 &&& (v3 ^^^ (-1:Int32))) = 0 → rR E (rCall E d) mMo_awayFor Post 44 [some (pR 35), some (pI v1), some (pI v2), some (pI v3), some (pI v4), some (pI (v5 + (1:Int32))), oI o6] [] SH h 0 0))) : rR E (rCall E d) mMo_awayFor Post 44 [some (pR 35), some (pI v1), some (pI v2), some (pI v3), some (pI v4), some (pI v5), oI o6] [] SH h 0 0 := (match o6, H with | none, H => rEx_ok (zCut [44, 87]) 25 (⟨by unfold vp_in; decide, H⟩) | some _, H => rEx_ok (zCut [44, 87]) 25 (⟨by unfold vp_in; decide, H⟩))
set_option maxRecDepth 100000 in
set_option maxHeartbeats 1000000 in
theorem vMo_awayFor_87 {E : rE} {d : Nat} {Post : rPost} {h : rHp} {v1 : Int32} {v2 : Int32} {v3 : Int32} {v4 : Int32} {v5 : Int32} {v6 : Int32} (H : ((h 36 0) ≤ v6 → rCall E d mMo_thoughtBehind [pR 35, pI v1] SH h (rPi SH (fun x2 g1 => (x2 < v2 → rCall E d mMo_copyRow [pR 40, pR 36] SH g1 (rPn SH (fun g3 => rR E (rCall E d) mMo_awayFor Post 44 [some (pR 35), some (pI v1), some (pI v2), some (pI v3), some (pI v4), some (pI (v5 + (1:Int32))), some (pI v6)] [] SH g3 0 0))) ∧ (¬ x2 < v2 → rCall E d mMo_copyRow [pR 40, pR 36] SH g1 (rPn SH (fun g4 => rR E (rCall E d) mMo_awayFor Post 44 [some (pR 35), some (pI v1), some (pI v2), some (pI v3), some (pI v5), some (pI (v5 + (1:Int32))), some (pI v6)] [] SH g4 0 0)))))) ∧ (¬ (h 36 0) ≤ v6 → (((v5 >>> (v6 &&& 31)) &&& (1:Int32)) = (1:Int32) → vp_in (((10:Int32) + ((5:Int32) * v6)) + (3:Int32)) 50 ∧ rR E (rCall E d) mMo_awayFor Post 87 [some (pR 35), some (pI v1), some (pI v2), some (pI v3), some (pI v4), some (pI v5), some (pI (v6 + (1:Int32)))] [] SH (rUp h 36 (((10:Int32) + ((5:Int32) * v6)) + (3:Int32)).toNatClampNeg (6:Int32)) 0 0) ∧ (¬ ((v5 >>> (v6 &&& 31)) &&& (1:Int32)) = (1:Int32) → rCall E d mMo_its [pR 35, pI v6, pI (3:Int32)] SH h (rPi SH (fun x6 g5 => vp_in (((10:Int32) + ((5:Int32) * v6)) + (3:Int32)) 50 ∧ rR E (rCall E d) mMo_awayFor Post 87 [some (pR 35), some (pI v1), some (pI v2), some (pI v3), some (pI v4), some (pI v5), some (pI (v6 + (1:Int32)))] [] SH (rUp g5 36 (((10:Int32) + ((5:Int32) * v6)) + (3:Int32)).toNatClampNeg x6) 0 0))))) : rR E (rCall E d) mMo_awayFor Post 87 [some (pR 35), some (pI v1), some (pI v2), some (pI v3), some (pI v4), some (pI v5), some (pI v6)] [] SH h 0 0 := by
  have H : ((h 36 0) ≤ v6 → rCall E d mMo_thoughtBehind [pR 35, pI v1] SH h (rPi SH (fun x2 g1 => (x2 < v2 → rCall E d mMo_copyRow [pR 40, pR 36] SH g1 (rPn SH (fun g3 => rR E (rCall E d) mMo_awayFor Post 44 [some (pR 35), some (pI v1), some (pI v2), some (pI v3), some (pI v4), some (pI (v5 + (1:Int32))), some (pI v6)] [] SH g3 0 0))) ∧ (¬ x2 < v2 → rCall E d mMo_copyRow [pR 40, pR 36] SH g1 (rPn SH (fun g4 => rR E (rCall E d) mMo_awayFor Post 44 [some (pR 35), some (pI v1), some (pI v2), some (pI v3), some (pI v5), some (pI (v5 + (1:Int32))), some (pI v6)] [] SH g4 0 0)))))) ∧ (¬ (h 36 0) ≤ v6 → (((v5 >>> (v6 &&& 31)) &&& (1:Int32)) = (1:Int32) → vp_in (((Int8.ofInt 10).toInt32 + ((5:Int32) * v6)) + (3:Int32)) 50 ∧ rR E (rCall E d) mMo_awayFor Post 87 [some (pR 35), some (pI v1), some (pI v2), some (pI v3), some (pI v4), some (pI v5), some (pI (v6 + (1:Int32)))] [] SH (rUp h 36 (((Int8.ofInt 10).toInt32 + ((5:Int32) * v6)) + (3:Int32)).toNatClampNeg (Int8.ofInt 6).toInt32) 0 0) ∧ (¬ ((v5 >>> (v6 &&& 31)) &&& (1:Int32)) = (1:Int32) → rCall E d mMo_its [pR 35, pI v6, pI (3:Int32)] SH h (rPi SH (fun x6 g5 => vp_in (((Int8.ofInt 10).toInt32 + ((5:Int32) * v6)) + (3:Int32)) 50 ∧ rR E (rCall E d) mMo_awayFor Post 87 [some (pR 35), some (pI v1), some (pI v2), some (pI v3), some (pI v4), some (pI v5), some (pI (v6 + (1:Int32)))] [] SH (rUp g5 36 (((Int8.ofInt 10).toInt32 + ((5:Int32) * v6)) + (3:Int32)).toNatClampNeg x6) 0 0)))) := by simp only [kc_b10, kc_b6]; exact H
  exact rEx_ok (zCut [44, 87]) 31 (⟨by unfold vp_in; decide, H⟩)
set_option maxRecDepth 100000 in
set_option maxHeartbeats 1000000 in
theorem vMo_above {E : rE} {d : Nat} {Post : rPost} {h : rHp} {a1 : Int32} (H : rCall E d mMo_isOne [pR 35, pI a1] SH h (rPi SH (fun x2 g1 => (x2 = 0 → Post (some (pI (-1:Int32))) SH g1) ∧ (¬ x2 = 0 → rCall E d mMo_aboveOf [pR 35, pI a1] SH g1 (rPi SH (fun x4 g3 => Post (some (pI x4)) SH g3)))))) : rCall E (d + 1) mMo_above [pR 35, pI a1] SH h Post := rEx_ok (zCut []) 10 H
set_option maxRecDepth 100000 in
set_option maxHeartbeats 1000000 in
theorem vMo_product {E : rE} {d : Nat} {Post : rPost} {h : rHp} {a1 : Int32} (H : rR E (rCall E d) mMo_product Post 4 [some (pI a1), some (pL (1:Int64)), none, some (pI (2:Int32))] [] SH h 0 0) : rCall E (d + 1) mMo_product [pI a1] SH h Post := rEx_ok (zCut [4]) 6 H
set_option maxRecDepth 100000 in
set_option maxHeartbeats 1000000 in
theorem vMo_product_4 {E : rE} {d : Nat} {Post : rPost} {h : rHp} {v0 : Int32} {v1 : Int64} {v3 : Int32} (H : (v0 < v3 → Post (some (pL v1)) SH h) ∧ (¬ v0 < v3 → rR E (rCall E d) mMo_product Post 4 [some (pI v0), some (pL (v1 * v3.toInt64)), none, some (pI (v3 + (1:Int32)))] [] SH h 0 0)) : rR E (rCall E d) mMo_product Post 4 [some (pI v0), some (pL v1), none, some (pI v3)] [] SH h 0 0 := rEx_ok (zCut [4]) 12 H
set_option maxRecDepth 100000 in
set_option maxHeartbeats 1000000 in
theorem vMo_partOf {E : rE} {d : Nat} {Post : rPost} {h : rHp} {a1 : Int64} {a2 : Int64} {a3 : Int32} (H : rR E (rCall E d) mMo_partOf Post 6 [some (pL a1), none, some (pL a2), none, some (pI a3), some (pL a2), none, some (pL a1), none, none, none] [] SH h 0 0) : rCall E (d + 1) mMo_partOf [pL a1, pL a2, pI a3] SH h Post := rEx_ok (zCut [6]) 6 H
set_option maxRecDepth 100000 in
set_option maxHeartbeats 1000000 in
theorem vMo_partOf_6 {E : rE} {d : Nat} {Post : rPost} {h : rHp} {v0 : Int64} {v2 : Int64} {v4 : Int32} {v5 : Int64} {v7 : Int64} {o9 : Option Int64} (H : ((lg_cmp v7 (0:Int64)) = 0 → (v4 = 0 → ¬ v5 = 0 ∧ Post (some (pL (v0 / v5))) SH h) ∧ (¬ v4 = 0 → ¬ v5 = 0 ∧ Post (some (pL (v2 / v5))) SH h)) ∧ (¬ (lg_cmp v7 (0:Int64)) = 0 → ¬ v7 = 0 ∧ rR E (rCall E d) mMo_partOf Post 6 [some (pL v0), none, some (pL v2), none, some (pI v4), some (pL v7), none, some (pL (v5 - v5 / v7 * v7)), none, some (pL (v5 - v5 / v7 * v7)), none] [] SH h 0 0)) : rR E (rCall E d) mMo_partOf Post 6 [some (pL v0), none, some (pL v2), none, some (pI v4), some (pL v5), none, some (pL v7), none, oL o9, none] [] SH h 0 0 := (match o9, H with | none, H => rEx_ok (zCut [6]) 15 H | some _, H => rEx_ok (zCut [6]) 15 H)
set_option maxRecDepth 100000 in
set_option maxHeartbeats 1000000 in
theorem vMo_isTold {E : rE} {d : Nat} {Post : rPost} {h : rHp} {a1 : Int32} (H : rCall E d mMo_copyRow [pR 36, pR 38] SH h (rPn SH (fun g1 => rR E (rCall E d) mMo_isTold Post 15 [some (pR 35), some (pI a1), some (pI (1:Int32)), some (pI (0:Int32))] [] SH g1 0 0))) : rCall E (d + 1) mMo_isTold [pR 35, pI a1] SH h Post := rEx_ok (zCut [15]) 11 H
set_option maxRecDepth 100000 in
set_option maxHeartbeats 1000000 in
theorem vMo_isTold_15 {E : rE} {d : Nat} {Post : rPost} {h : rHp} {v1 : Int32} {v2 : Int32} {v3 : Int32} (H : vp_in v1 4 ∧ ((h 44 v1.toNatClampNeg) ≤ v3 → rCall E d mMo_copyRow [pR 38, pR 36] SH h (rPn SH (fun g1 => (v2 = 0 ∨ v2 = 1) ∧ Post (some (pI v2)) SH g1))) ∧ (¬ (h 44 v1.toNatClampNeg) ≤ v3 → (v2 = 0 → rCall E d mMo_copyRow [pR 38, pR 36] SH h (rPn SH (fun g2 => (v2 = 0 ∨ v2 = 1) ∧ Post (some (pI v2)) SH g2))) ∧ (¬ v2 = 0 → rCall E d mMo_goesOn [pR 35] SH h (rPn SH (fun g3 => vp_in (((40:Int32) * v1) + v3) 160 ∧ ((g3 45 (((40:Int32) * v1) + v3).toNatClampNeg) = (-1:Int32) → rR E (rCall E d) mMo_isTold Post 15 [some (pR 35), some (pI v1), some (pI (1:Int32)), some (pI (v3 + (1:Int32)))] [] SH g3 0 0) ∧ (¬ (g3 45 (((40:Int32) * v1) + v3).toNatClampNeg) = (-1:Int32) → vp_in (((40:Int32) * v1) + v3) 160 ∧ ((g3 45 (((40:Int32) * v1) + v3).toNatClampNeg) = (g3 36 4) → rR E (rCall E d) mMo_isTold Post 15 [some (pR 35), some (pI v1), some (pI (1:Int32)), some (pI (v3 + (1:Int32)))] [] SH g3 0 0) ∧ (¬ (g3 45 (((40:Int32) * v1) + v3).toNatClampNeg) = (g3 36 4) → rR E (rCall E d) mMo_isTold Post 15 [some (pR 35), some (pI v1), some (pI (0:Int32)), some (pI (v3 + (1:Int32)))] [] SH g3 0 0))))))) : rR E (rCall E d) mMo_isTold Post 15 [some (pR 35), some (pI v1), some (pI v2), some (pI v3)] [] SH h 0 0 := by
  have H : vp_in v1 4 ∧ ((h 44 v1.toNatClampNeg) ≤ v3 → rCall E d mMo_copyRow [pR 38, pR 36] SH h (rPn SH (fun g1 => (v2 = 0 ∨ v2 = 1) ∧ Post (some (pI v2)) SH g1))) ∧ (¬ (h 44 v1.toNatClampNeg) ≤ v3 → (v2 = 0 → rCall E d mMo_copyRow [pR 38, pR 36] SH h (rPn SH (fun g2 => (v2 = 0 ∨ v2 = 1) ∧ Post (some (pI v2)) SH g2))) ∧ (¬ v2 = 0 → rCall E d mMo_goesOn [pR 35] SH h (rPn SH (fun g3 => vp_in (((Int8.ofInt 40).toInt32 * v1) + v3) 160 ∧ ((g3 45 (((Int8.ofInt 40).toInt32 * v1) + v3).toNatClampNeg) = (-1:Int32) → rR E (rCall E d) mMo_isTold Post 15 [some (pR 35), some (pI v1), some (pI (1:Int32)), some (pI (v3 + (1:Int32)))] [] SH g3 0 0) ∧ (¬ (g3 45 (((Int8.ofInt 40).toInt32 * v1) + v3).toNatClampNeg) = (-1:Int32) → vp_in (((Int8.ofInt 40).toInt32 * v1) + v3) 160 ∧ ((g3 45 (((Int8.ofInt 40).toInt32 * v1) + v3).toNatClampNeg) = (g3 36 4) → rR E (rCall E d) mMo_isTold Post 15 [some (pR 35), some (pI v1), some (pI (1:Int32)), some (pI (v3 + (1:Int32)))] [] SH g3 0 0) ∧ (¬ (g3 45 (((Int8.ofInt 40).toInt32 * v1) + v3).toNatClampNeg) = (g3 36 4) → rR E (rCall E d) mMo_isTold Post 15 [some (pR 35), some (pI v1), some (pI (0:Int32)), some (pI (v3 + (1:Int32)))] [] SH g3 0 0)))))) := by simp only [kc_b40]; exact H
  exact rEx_ok (zCut [15]) 40 (⟨H.1, And.intro (fun k7 => H.2.1 k7) (fun k7 => And.intro (fun k6 => (H.2.2 k7).1 k6) (fun k6 => rCall_mono (rPn_mono (fun g3 k5 => ⟨k5.1, And.intro (fun k4 => k5.2.1 k4) (fun k4 => ⟨(k5.2.2 k4).1, ⟨by unfold vp_in; decide, (k5.2.2 k4).2⟩⟩)⟩)) (((H.2.2 k7).2 k6))))⟩)
set_option maxRecDepth 100000 in
set_option maxHeartbeats 1000000 in
theorem vMo_fits {E : rE} {d : Nat} {Post : rPost} {h : rHp} {a1 : Int32} {a2 : Int32} {a3 : Int32} (H : rCall E d mMo_isSheet [pI a1] SH h (rPi SH (fun x2 g1 => (x2 = 0 → Post (some (pI (-1:Int32))) SH g1) ∧ (¬ x2 = 0 → rCall E d mMo_isOne [pR 35, pI a2] SH g1 (rPi SH (fun x4 g3 => (x4 = 0 → Post (some (pI (-1:Int32))) SH g3) ∧ (¬ x4 = 0 → rCall E d mMo_isIn [pL a3.toInt64, pL (0:Int64), pL (1:Int64)] SH g3 (rPi SH (fun x6 g5 => (x6 = 0 → Post (some (pI (-1:Int32))) SH g5) ∧ (¬ x6 = 0 → vp_in a1 4 ∧ (0 ≤ (g5 43 a1.toNatClampNeg) → vp_in (((10:Int32) + ((5:Int32) * a2)) + (1:Int32)) 50 ∧ rR E (rCall E d) mMo_fits Post 69 [some (pR 35), some (pI a1), some (pI a2), some (pI a3), some (pI (((10:Int32) + ((5:Int32) * a2)) + (1:Int32))), some (pI (g5 36 (((10:Int32) + ((5:Int32) * a2)) + (1:Int32)).toNatClampNeg)), some (pI (0:Int32)), some (pI (-3:Int32)), some (pI (99:Int32)), none] [] SH g5 0 0) ∧ (¬ 0 ≤ (g5 43 a1.toNatClampNeg) → Post (some (pI (-11:Int32))) SH g5))))))))))) : rCall E (d + 1) mMo_fits [pR 35, pI a1, pI a2, pI a3] SH h Post := by
  have H : rCall E d mMo_isSheet [pI a1] SH h (rPi SH (fun x2 g1 => (x2 = 0 → Post (some (pI (-1:Int32))) SH g1) ∧ (¬ x2 = 0 → rCall E d mMo_isOne [pR 35, pI a2] SH g1 (rPi SH (fun x4 g3 => (x4 = 0 → Post (some (pI (-1:Int32))) SH g3) ∧ (¬ x4 = 0 → rCall E d mMo_isIn [pL a3.toInt64, pL (0:Int64), pL (1:Int64)] SH g3 (rPi SH (fun x6 g5 => (x6 = 0 → Post (some (pI (-1:Int32))) SH g5) ∧ (¬ x6 = 0 → vp_in a1 4 ∧ (0 ≤ (g5 43 a1.toNatClampNeg) → vp_in (((Int8.ofInt 10).toInt32 + ((5:Int32) * a2)) + (1:Int32)) 50 ∧ rR E (rCall E d) mMo_fits Post 69 [some (pR 35), some (pI a1), some (pI a2), some (pI a3), some (pI (((Int8.ofInt 10).toInt32 + ((5:Int32) * a2)) + (1:Int32))), some (pI (g5 36 (((Int8.ofInt 10).toInt32 + ((5:Int32) * a2)) + (1:Int32)).toNatClampNeg)), some (pI (0:Int32)), some (pI (Int8.ofInt (-3)).toInt32), some (pI (Int8.ofInt 99).toInt32), none] [] SH g5 0 0) ∧ (¬ 0 ≤ (g5 43 a1.toNatClampNeg) → Post (some (pI (Int8.ofInt (-11)).toInt32)) SH g5)))))))))) := by simp only [kc_bm11, kc_bm3, kc_b10, kc_b99]; exact H
  exact rEx_ok (zCut [69]) 39 H
set_option maxRecDepth 100000 in
set_option maxHeartbeats 1000000 in
theorem vMo_fits_69 {E : rE} {d : Nat} {Post : rPost} {h : rHp} {v1 : Int32} {v2 : Int32} {v3 : Int32} {v4 : Int32} {v5 : Int32} {v6 : Int32} {v7 : Int32} {v8 : Int32} {o9 : Option Int32} (H : (v8 < 0 → vp_in v4 50 ∧ (v3 = 0 → Post (some (pI v6)) SH (rUp h 36 v4.toNatClampNeg v5)) ∧ (¬ v3 = 0 → Post (some (pI v7)) SH (rUp h 36 v4.toNatClampNeg v5))) ∧ (¬ v8 < 0 → vp_in v4 50 ∧ rCall E d mMo_isTold [pR 35, pI v1] SH (rUp h 36 v4.toNatClampNeg v8) (rPi SH (fun x2 g1 => (x2 = 0 → (x2 = 0 → rR E (rCall E d) mMo_fits Post 69 [some (pR 35), some (pI v1), some (pI v2), some (pI v3), some (pI v4), some (pI v5), some (pI (v6 + (0:Int32))), some (pI v7), some (pI (v8 + (-1:Int32))), some (pI x2)] [] SH g1 0 0) ∧ (¬ x2 = 0 → rR E (rCall E d) mMo_fits Post 69 [some (pR 35), some (pI v1), some (pI v2), some (pI v3), some (pI v4), some (pI v5), some (pI (v6 + (0:Int32))), some (pI v8), some (pI (v8 + (-1:Int32))), some (pI x2)] [] SH g1 0 0)) ∧ (¬ x2 = 0 → (x2 = 0 → rR E (rCall E d) mMo_fits Post 69 [some (pR 35), some (pI v1), some (pI v2), some (pI v3), some (pI v4), some (pI v5), some (pI (v6 + (1:Int32))), some (pI v7), some (pI (v8 + (-1:Int32))), some (pI x2)] [] SH g1 0 0) ∧ (¬ x2 = 0 → rR E (rCall E d) mMo_fits Post 69 [some (pR 35), some (pI v1), some (pI v2), some (pI v3), some (pI v4), some (pI v5), some (pI (v6 + (1:Int32))), some (pI v8), some (pI (v8 + (-1:Int32))), some (pI x2)] [] SH g1 0 0)))))) : rR E (rCall E d) mMo_fits Post 69 [some (pR 35), some (pI v1), some (pI v2), some (pI v3), some (pI v4), some (pI v5), some (pI v6), some (pI v7), some (pI v8), oI o9] [] SH h 0 0 := (match o9, H with | none, H => rEx_ok (zCut [69]) 27 H | some _, H => rEx_ok (zCut [69]) 27 H)
set_option maxRecDepth 100000 in
set_option maxHeartbeats 1000000 in
theorem vMo_odds {E : rE} {d : Nat} {Post : rPost} {h : rHp} {a1 : Int32} {a2 : Int32} {a3 : Int32} (H : rCall E d mMo_isIn [pL a1.toInt64, pL (0:Int64), pL (8:Int64)] SH h (rPi SH (fun x2 g1 => (x2 = 0 → Post (some (pL (-1:Int64))) SH g1) ∧ (¬ x2 = 0 → rCall E d mMo_isIn [pL a2.toInt64, pL (0:Int64), pL a1.toInt64] SH g1 (rPi SH (fun x4 g3 => (x4 = 0 → Post (some (pL (-1:Int64))) SH g3) ∧ (¬ x4 = 0 → rCall E d mMo_isIn [pL a3.toInt64, pL (0:Int64), pL (1:Int64)] SH g3 (rPi SH (fun x6 g5 => (x6 = 0 → Post (some (pL (-1:Int64))) SH g5) ∧ (¬ x6 = 0 → rCall E d mMo_product [pI a1] SH g5 (rPl SH (fun x8 g7 => rCall E d mMo_product [pI a2] SH g7 (rPl SH (fun x10 g9 => ¬ x10 = 0 ∧ rCall E d mMo_product [pI (a1 - a2)] SH g9 (rPl SH (fun x12 g11 => ¬ x12 = 0 ∧ rR E (rCall E d) mMo_odds Post 61 [some (pR 35), some (pI a1), some (pI a2), some (pI a3), some (pL ((x8 / x10) / x12)), none, some (pL (1:Int64)), none, some (pI (0:Int32))] [] SH g11 0 0)))))))))))))))) : rCall E (d + 1) mMo_odds [pR 35, pI a1, pI a2, pI a3] SH h Post := rEx_ok (zCut [61]) 36 H
set_option maxRecDepth 100000 in
set_option maxHeartbeats 1000000 in
theorem vMo_odds_61 {E : rE} {d : Nat} {Post : rPost} {h : rHp} {v1 : Int32} {v2 : Int32} {v3 : Int32} {v4 : Int64} {v6 : Int64} {v8 : Int32} (H : (v1 ≤ v8 → rCall E d mMo_partOf [pL v4, pL v6, pI v3] SH h (rPl SH (fun x2 g1 => Post (some (pL x2)) SH g1))) ∧ (¬ v1 ≤ v8 → (v2 ≤ v8 → rR E (rCall E d) mMo_odds Post 61 [some (pR 35), some (pI v1), some (pI v2), some (pI v3), some (pL (v4 * (((100:Int32) - (h 36 8)).toInt64))), none, some (pL (v6 * (100:Int64))), none, some (pI (v8 + (1:Int32)))] [] SH h 0 0) ∧ (¬ v2 ≤ v8 → rR E (rCall E d) mMo_odds Post 61 [some (pR 35), some (pI v1), some (pI v2), some (pI v3), some (pL (v4 * ((h 36 8).toInt64))), none, some (pL (v6 * (100:Int64))), none, some (pI (v8 + (1:Int32)))] [] SH h 0 0))) : rR E (rCall E d) mMo_odds Post 61 [some (pR 35), some (pI v1), some (pI v2), some (pI v3), some (pL v4), none, some (pL v6), none, some (pI v8)] [] SH h 0 0 := by
  have H : (v1 ≤ v8 → rCall E d mMo_partOf [pL v4, pL v6, pI v3] SH h (rPl SH (fun x2 g1 => Post (some (pL x2)) SH g1))) ∧ (¬ v1 ≤ v8 → (v2 ≤ v8 → rR E (rCall E d) mMo_odds Post 61 [some (pR 35), some (pI v1), some (pI v2), some (pI v3), some (pL (v4 * (((Int8.ofInt 100).toInt32 - (h 36 8)).toInt64))), none, some (pL (v6 * (100:Int64))), none, some (pI (v8 + (1:Int32)))] [] SH h 0 0) ∧ (¬ v2 ≤ v8 → rR E (rCall E d) mMo_odds Post 61 [some (pR 35), some (pI v1), some (pI v2), some (pI v3), some (pL (v4 * ((h 36 8).toInt64))), none, some (pL (v6 * (100:Int64))), none, some (pI (v8 + (1:Int32)))] [] SH h 0 0)) := by simp only [kc_b100]; exact H
  exact rEx_ok (zCut [61]) 24 (And.intro (fun k4 => H.1 k4) (fun k4 => And.intro (fun k3 => ⟨by unfold vp_in; decide, ((H.2 k4).1 k3)⟩) (fun k3 => ⟨by unfold vp_in; decide, ((H.2 k4).2 k3)⟩)))
set_option maxRecDepth 100000 in
set_option maxHeartbeats 1000000 in
theorem vMo_hope {E : rE} {d : Nat} {Post : rPost} {h : rHp} {a1 : Int32} {a2 : Int32} (H : rCall E d mMo_isIn [pL a1.toInt64, pL (0:Int64), pL (99:Int64)] SH h (rPi SH (fun x2 g1 => (x2 = 0 → Post (some (pL (-1:Int64))) SH g1) ∧ (¬ x2 = 0 → rCall E d mMo_isIn [pL a2.toInt64, pL (0:Int64), pL (1:Int64)] SH g1 (rPi SH (fun x4 g3 => (x4 = 0 → Post (some (pL (-1:Int64))) SH g3) ∧ (¬ x4 = 0 → rCall E d mMo_partOf [pL (a1.toInt64 * ((g3 36 8).toInt64)), pL (100:Int64), pI a2] SH g3 (rPl SH (fun x6 g5 => Post (some (pL x6)) SH g5))))))))) : rCall E (d + 1) mMo_hope [pR 35, pI a1, pI a2] SH h Post := rEx_ok (zCut []) 26 (rCall_mono (rPi_mono (fun x2 g1 k10 => And.intro (fun k9 => k10.1 k9) (fun k9 => rCall_mono (rPi_mono (fun x4 g3 k8 => And.intro (fun k7 => k8.1 k7) (fun k7 => ⟨by unfold vp_in; decide, (k8.2 k7)⟩))) ((k10.2 k9))))) (H))
set_option maxRecDepth 100000 in
set_option maxHeartbeats 1000000 in
theorem vMo_prove {E : rE} {d : Nat} {Post : rPost} {h : rHp} {a1 : Int32} {a2 : Int32} (H : rCall E d mMo_isOne [pR 35, pI a1] SH h (rPi SH (fun x2 g1 => (x2 = 0 → Post (some (pI (-1:Int32))) SH g1) ∧ (¬ x2 = 0 → rCall E d mMo_isIn [pL a2.toInt64, pL (1:Int64), pL (10:Int64)] SH g1 (rPi SH (fun x4 g3 => (x4 = 0 → Post (some (pI (-1:Int32))) SH g3) ∧ (¬ x4 = 0 → rCall E d mMo_copyRow [pR 36, pR 38] SH g3 (rPn SH (fun g5 => rR E (rCall E d) mMo_prove Post 35 [some (pR 35), some (pI a1), some (pI a2), some (pI (0:Int32))] [] SH g5 0 0))))))))) : rCall E (d + 1) mMo_prove [pR 35, pI a1, pI a2] SH h Post := rEx_ok (zCut [35]) 19 H
set_option maxRecDepth 100000 in
set_option maxHeartbeats 1000000 in
theorem vMo_prove_35 {E : rE} {d : Nat} {Post : rPost} {h : rHp} {v1 : Int32} {v2 : Int32} {v3 : Int32} (H : (v2 ≤ v3 → rCall E d mMo_copyRow [pR 38, pR 36] SH h (rPn SH (fun g1 => Post (some (pI v2)) SH (rUp g1 35 14 v2)))) ∧ (¬ v2 ≤ v3 → rCall E d mMo_goesOn [pR 35] SH h (rPn SH (fun g2 => rCall E d mMo_its [pR 35, pI v1, pI (3:Int32)] SH g2 (rPi SH (fun x4 g3 => (x4 = (6:Int32) → vp_in ((3:Int32) * v3) 30 ∧ vp_in (((3:Int32) * v3) + (1:Int32)) 30 ∧ vp_in (((3:Int32) * v3) + (2:Int32)) 30 ∧ rR E (rCall E d) mMo_prove Post 35 [some (pR 35), some (pI v1), some (pI v2), some (pI (v3 + (1:Int32)))] [] SH (rUp (rUp (rUp g3 42 ((3:Int32) * v3).toNatClampNeg (0:Int32)) 42 (((3:Int32) * v3) + (1:Int32)).toNatClampNeg (g3 36 4)) 42 (((3:Int32) * v3) + (2:Int32)).toNatClampNeg (g3 36 3)) 0 0) ∧ (¬ x4 = (6:Int32) → vp_in ((3:Int32) * v3) 30 ∧ vp_in (((3:Int32) * v3) + (1:Int32)) 30 ∧ vp_in (((3:Int32) * v3) + (2:Int32)) 30 ∧ rR E (rCall E d) mMo_prove Post 35 [some (pR 35), some (pI v1), some (pI v2), some (pI (v3 + (1:Int32)))] [] SH (rUp (rUp (rUp g3 42 ((3:Int32) * v3).toNatClampNeg (1:Int32)) 42 (((3:Int32) * v3) + (1:Int32)).toNatClampNeg (g3 36 4)) 42 (((3:Int32) * v3) + (2:Int32)).toNatClampNeg (g3 36 3)) 0 0))))))) : rR E (rCall E d) mMo_prove Post 35 [some (pR 35), some (pI v1), some (pI v2), some (pI v3)] [] SH h 0 0 := by
  have H : (v2 ≤ v3 → rCall E d mMo_copyRow [pR 38, pR 36] SH h (rPn SH (fun g1 => Post (some (pI v2)) SH (rUp g1 35 14 v2)))) ∧ (¬ v2 ≤ v3 → rCall E d mMo_goesOn [pR 35] SH h (rPn SH (fun g2 => rCall E d mMo_its [pR 35, pI v1, pI (3:Int32)] SH g2 (rPi SH (fun x4 g3 => (x4 = (Int8.ofInt 6).toInt32 → vp_in ((3:Int32) * v3) 30 ∧ vp_in (((3:Int32) * v3) + (1:Int32)) 30 ∧ vp_in (((3:Int32) * v3) + (2:Int32)) 30 ∧ rR E (rCall E d) mMo_prove Post 35 [some (pR 35), some (pI v1), some (pI v2), some (pI (v3 + (1:Int32)))] [] SH (rUp (rUp (rUp g3 42 ((3:Int32) * v3).toNatClampNeg (0:Int32)) 42 (((3:Int32) * v3) + (1:Int32)).toNatClampNeg (g3 36 4)) 42 (((3:Int32) * v3) + (2:Int32)).toNatClampNeg (g3 36 3)) 0 0) ∧ (¬ x4 = (Int8.ofInt 6).toInt32 → vp_in ((3:Int32) * v3) 30 ∧ vp_in (((3:Int32) * v3) + (1:Int32)) 30 ∧ vp_in (((3:Int32) * v3) + (2:Int32)) 30 ∧ rR E (rCall E d) mMo_prove Post 35 [some (pR 35), some (pI v1), some (pI v2), some (pI (v3 + (1:Int32)))] [] SH (rUp (rUp (rUp g3 42 ((3:Int32) * v3).toNatClampNeg (1:Int32)) 42 (((3:Int32) * v3) + (1:Int32)).toNatClampNeg (g3 36 4)) 42 (((3:Int32) * v3) + (2:Int32)).toNatClampNeg (g3 36 3)) 0 0)))))) := by simp only [kc_b6]; exact H
  exact rEx_ok (zCut [35]) 47 (And.intro (fun k8 => H.1 k8) (fun k8 => rCall_mono (rPn_mono (fun g2 k7 => rCall_mono (rPi_mono (fun x4 g3 k6 => And.intro (fun k5 => ⟨(k6.1 k5).1, ⟨by unfold vp_in; decide, ⟨(k6.1 k5).2.1, ⟨by unfold vp_in; decide, (k6.1 k5).2.2⟩⟩⟩⟩) (fun k5 => ⟨(k6.2 k5).1, ⟨by unfold vp_in; decide, ⟨(k6.2 k5).2.1, ⟨by unfold vp_in; decide, (k6.2 k5).2.2⟩⟩⟩⟩))) (k7))) ((H.2 k8))))
set_option maxRecDepth 100000 in
set_option maxHeartbeats 1000000 in
theorem vMo_isRow {E : rE} {d : Nat} {Post : rPost} {h : rHp} {a1 : Int32} {a2 : Int32} (H : rCall E d mMo_isIn [pL a1.toInt64, pL (0:Int64), pL (((h 35 14) - (1:Int32)).toInt64)] SH h (rPi SH (fun x2 g1 => (x2 = 0 → Post (some (pI (0:Int32))) SH g1) ∧ (¬ x2 = 0 → rCall E d mMo_isIn [pL a2.toInt64, pL (0:Int64), pL (2:Int64)] SH g1 (rPi SH (fun x4 g3 => (x4 = 0 → Post (some (pI (0:Int32))) SH g3) ∧ (¬ x4 = 0 → Post (some (pI (1:Int32))) SH g3))))))) : rCall E (d + 1) mMo_isRow [pR 35, pI a1, pI a2] SH h Post := rEx_ok (zCut []) 20 (rCall_mono (rPi_mono (fun x2 g1 k8 => And.intro (fun k7 => ⟨Or.inl rfl, (k8.1 k7)⟩) (fun k7 => rCall_mono (rPi_mono (fun x4 g3 k6 => And.intro (fun k5 => ⟨Or.inl rfl, (k6.1 k5)⟩) (fun k5 => ⟨Or.inr rfl, (k6.2 k5)⟩))) ((k8.2 k7))))) (H))
set_option maxRecDepth 100000 in
set_option maxHeartbeats 1000000 in
theorem vMo_row {E : rE} {d : Nat} {Post : rPost} {h : rHp} {a1 : Int32} {a2 : Int32} (H : rCall E d mMo_isRow [pR 35, pI a1, pI a2] SH h (rPi SH (fun x2 g1 => (x2 = 0 → Post (some (pI (-9:Int32))) SH g1) ∧ (¬ x2 = 0 → vp_in (((3:Int32) * a1) + a2) 30 ∧ Post (some (pI (g1 42 (((3:Int32) * a1) + a2).toNatClampNeg))) SH g1)))) : rCall E (d + 1) mMo_row [pR 35, pI a1, pI a2] SH h Post := by
  have H : rCall E d mMo_isRow [pR 35, pI a1, pI a2] SH h (rPi SH (fun x2 g1 => (x2 = 0 → Post (some (pI (Int8.ofInt (-9)).toInt32)) SH g1) ∧ (¬ x2 = 0 → vp_in (((3:Int32) * a1) + a2) 30 ∧ Post (some (pI (g1 42 (((3:Int32) * a1) + a2).toNatClampNeg))) SH g1))) := by simp only [kc_bm9]; exact H
  exact rEx_ok (zCut []) 16 H
end
