-- ===== PART A: goes FIRST, ahead of the names: the tables' words, and 'selects' of the private methods out of them =====
/-- a private method of a class that the tables say can be made, by its rows of tables_1 -/
def lw_okq (q : MethodName × Nat) : Prop := (q.1.cls ≠ "java/lang/invoke/MethodHandle" ∧ q.1.cls ≠ "java/lang/invoke/VarHandle") ∧ Cond.instantiable q.1.cls q.2 ∈ tables_1 ∧ Cond.privateMethod q.1 ∈ tables_1 ∧ Cond.instanceMethod q.1 ∈ tables_1
theorem lw_p0 : lw_okq (⟨"IceAtTheMiddle$StoryReader", "begin", "()V"⟩, 7) := ⟨⟨by decide +kernel, by decide +kernel⟩, List.mem_of_getElem? (i := 72) (by decide +kernel), List.mem_of_getElem? (i := 280) (by decide +kernel), List.mem_of_getElem? (i := 281) (by decide +kernel)⟩
theorem lw_p1 : lw_okq (⟨"IceAtTheMiddle$StoryReader", "takes", "(I)Z"⟩, 7) := ⟨⟨by decide +kernel, by decide +kernel⟩, List.mem_of_getElem? (i := 72) (by decide +kernel), List.mem_of_getElem? (i := 284) (by decide +kernel), List.mem_of_getElem? (i := 285) (by decide +kernel)⟩
theorem lw_p2 : lw_okq (⟨"IceAtTheMiddle$StoryReader", "takesTens", "(I)Z"⟩, 7) := ⟨⟨by decide +kernel, by decide +kernel⟩, List.mem_of_getElem? (i := 72) (by decide +kernel), List.mem_of_getElem? (i := 288) (by decide +kernel), List.mem_of_getElem? (i := 289) (by decide +kernel)⟩
theorem lw_p3 : lw_okq (⟨"IceAtTheMiddle$StoryReader", "takesOnes", "(I)Z"⟩, 7) := ⟨⟨by decide +kernel, by decide +kernel⟩, List.mem_of_getElem? (i := 72) (by decide +kernel), List.mem_of_getElem? (i := 295) (by decide +kernel), List.mem_of_getElem? (i := 296) (by decide +kernel)⟩
theorem lw_p4 : lw_okq (⟨"IceAtTheMiddle$StoryReader", "takesColon", "(I)Z"⟩, 7) := ⟨⟨by decide +kernel, by decide +kernel⟩, List.mem_of_getElem? (i := 72) (by decide +kernel), List.mem_of_getElem? (i := 299) (by decide +kernel), List.mem_of_getElem? (i := 300) (by decide +kernel)⟩
theorem lw_p5 : lw_okq (⟨"IceAtTheMiddle$StoryReader", "takesNextEntry", "()Z"⟩, 7) := ⟨⟨by decide +kernel, by decide +kernel⟩, List.mem_of_getElem? (i := 72) (by decide +kernel), List.mem_of_getElem? (i := 306) (by decide +kernel), List.mem_of_getElem? (i := 307) (by decide +kernel)⟩
theorem lw_p6 : lw_okq (⟨"IceAtTheMiddle$StoryReader", "takesBand", "(I)Z"⟩, 7) := ⟨⟨by decide +kernel, by decide +kernel⟩, List.mem_of_getElem? (i := 72) (by decide +kernel), List.mem_of_getElem? (i := 310) (by decide +kernel), List.mem_of_getElem? (i := 311) (by decide +kernel)⟩
theorem lw_p7 : lw_okq (⟨"IceAtTheMiddle$LawReader", "begin", "()V"⟩, 5) := ⟨⟨by decide +kernel, by decide +kernel⟩, List.mem_of_getElem? (i := 49) (by decide +kernel), List.mem_of_getElem? (i := 321) (by decide +kernel), List.mem_of_getElem? (i := 322) (by decide +kernel)⟩
theorem lw_p8 : lw_okq (⟨"IceAtTheMiddle$LawReader", "takes", "(I)Z"⟩, 5) := ⟨⟨by decide +kernel, by decide +kernel⟩, List.mem_of_getElem? (i := 49) (by decide +kernel), List.mem_of_getElem? (i := 325) (by decide +kernel), List.mem_of_getElem? (i := 326) (by decide +kernel)⟩
theorem lw_p9 : lw_okq (⟨"IceAtTheMiddle$LawReader", "takesFigure", "(I)Z"⟩, 5) := ⟨⟨by decide +kernel, by decide +kernel⟩, List.mem_of_getElem? (i := 49) (by decide +kernel), List.mem_of_getElem? (i := 329) (by decide +kernel), List.mem_of_getElem? (i := 330) (by decide +kernel)⟩
theorem lw_p10 : lw_okq (⟨"IceAtTheMiddle$LawReader", "takesBand", "(I)Z"⟩, 5) := ⟨⟨by decide +kernel, by decide +kernel⟩, List.mem_of_getElem? (i := 49) (by decide +kernel), List.mem_of_getElem? (i := 335) (by decide +kernel), List.mem_of_getElem? (i := 336) (by decide +kernel)⟩
theorem lw_p11 : lw_okq (⟨"IceAtTheMiddle$LawReader", "opens", "(I)Z"⟩, 5) := ⟨⟨by decide +kernel, by decide +kernel⟩, List.mem_of_getElem? (i := 49) (by decide +kernel), List.mem_of_getElem? (i := 340) (by decide +kernel), List.mem_of_getElem? (i := 341) (by decide +kernel)⟩
theorem lw_p12 : lw_okq (⟨"IceAtTheMiddle$LawReader", "takesKind", "(I)Z"⟩, 5) := ⟨⟨by decide +kernel, by decide +kernel⟩, List.mem_of_getElem? (i := 49) (by decide +kernel), List.mem_of_getElem? (i := 344) (by decide +kernel), List.mem_of_getElem? (i := 345) (by decide +kernel)⟩
theorem lw_p13 : lw_okq (⟨"IceAtTheMiddle$LawReader", "someBandIsUntold", "()Z"⟩, 5) := ⟨⟨by decide +kernel, by decide +kernel⟩, List.mem_of_getElem? (i := 49) (by decide +kernel), List.mem_of_getElem? (i := 348) (by decide +kernel), List.mem_of_getElem? (i := 349) (by decide +kernel)⟩
theorem lw_p14 : lw_okq (⟨"IceAtTheMiddle$Run", "isNew", "(I)Z"⟩, 4) := ⟨⟨by decide +kernel, by decide +kernel⟩, List.mem_of_getElem? (i := 113) (by decide +kernel), List.mem_of_getElem? (i := 552) (by decide +kernel), List.mem_of_getElem? (i := 553) (by decide +kernel)⟩
theorem lw_p15 : lw_okq (⟨"IceAtTheMiddle$Curve", "add", "(I)V"⟩, 3) := ⟨⟨by decide +kernel, by decide +kernel⟩, List.mem_of_getElem? (i := 133) (by decide +kernel), List.mem_of_getElem? (i := 631) (by decide +kernel), List.mem_of_getElem? (i := 632) (by decide +kernel)⟩
def lw_privs_1 : List (MethodName × Nat) := [(⟨"IceAtTheMiddle$StoryReader", "begin", "()V"⟩, 7), (⟨"IceAtTheMiddle$StoryReader", "takes", "(I)Z"⟩, 7), (⟨"IceAtTheMiddle$StoryReader", "takesTens", "(I)Z"⟩, 7), (⟨"IceAtTheMiddle$StoryReader", "takesOnes", "(I)Z"⟩, 7), (⟨"IceAtTheMiddle$StoryReader", "takesColon", "(I)Z"⟩, 7), (⟨"IceAtTheMiddle$StoryReader", "takesNextEntry", "()Z"⟩, 7), (⟨"IceAtTheMiddle$StoryReader", "takesBand", "(I)Z"⟩, 7), (⟨"IceAtTheMiddle$LawReader", "begin", "()V"⟩, 5), (⟨"IceAtTheMiddle$LawReader", "takes", "(I)Z"⟩, 5), (⟨"IceAtTheMiddle$LawReader", "takesFigure", "(I)Z"⟩, 5), (⟨"IceAtTheMiddle$LawReader", "takesBand", "(I)Z"⟩, 5), (⟨"IceAtTheMiddle$LawReader", "opens", "(I)Z"⟩, 5), (⟨"IceAtTheMiddle$LawReader", "takesKind", "(I)Z"⟩, 5), (⟨"IceAtTheMiddle$LawReader", "someBandIsUntold", "()Z"⟩, 5), (⟨"IceAtTheMiddle$Run", "isNew", "(I)Z"⟩, 4), (⟨"IceAtTheMiddle$Curve", "add", "(I)V"⟩, 3)]
theorem lw_r1 : ∀ q ∈ lw_privs_1, lw_okq q := List.forall_mem_cons.mpr ⟨lw_p0, List.forall_mem_cons.mpr ⟨lw_p1, List.forall_mem_cons.mpr ⟨lw_p2, List.forall_mem_cons.mpr ⟨lw_p3, List.forall_mem_cons.mpr ⟨lw_p4, List.forall_mem_cons.mpr ⟨lw_p5, List.forall_mem_cons.mpr ⟨lw_p6, List.forall_mem_cons.mpr ⟨lw_p7, List.forall_mem_cons.mpr ⟨lw_p8, List.forall_mem_cons.mpr ⟨lw_p9, List.forall_mem_cons.mpr ⟨lw_p10, List.forall_mem_cons.mpr ⟨lw_p11, List.forall_mem_cons.mpr ⟨lw_p12, List.forall_mem_cons.mpr ⟨lw_p13, List.forall_mem_cons.mpr ⟨lw_p14, List.forall_mem_cons.mpr ⟨lw_p15, fun _ h => absurd h List.not_mem_nil⟩⟩⟩⟩⟩⟩⟩⟩⟩⟩⟩⟩⟩⟩⟩⟩
theorem lw_p16 : lw_okq (⟨"IceAtTheMiddle", "isBed", "(I)Z"⟩, 11) := ⟨⟨by decide +kernel, by decide +kernel⟩, List.mem_of_getElem? (i := 22) (by decide +kernel), List.mem_of_getElem? (i := 672) (by decide +kernel), List.mem_of_getElem? (i := 673) (by decide +kernel)⟩
theorem lw_p17 : lw_okq (⟨"IceAtTheMiddle$Judge", "weighWithout", "(LIceAtTheMiddle$Ground;I)V"⟩, 3) := ⟨⟨by decide +kernel, by decide +kernel⟩, List.mem_of_getElem? (i := 185) (by decide +kernel), List.mem_of_getElem? (i := 741) (by decide +kernel), List.mem_of_getElem? (i := 742) (by decide +kernel)⟩
theorem lw_p18 : lw_okq (⟨"IceAtTheMiddle$Judge", "shareWithIce", "(LIceAtTheMiddle$Chronicle;II)J"⟩, 3) := ⟨⟨by decide +kernel, by decide +kernel⟩, List.mem_of_getElem? (i := 185) (by decide +kernel), List.mem_of_getElem? (i := 777) (by decide +kernel), List.mem_of_getElem? (i := 778) (by decide +kernel)⟩
theorem lw_p19 : lw_okq (⟨"IceAtTheMiddleModel", "readStory", "()I"⟩, 29) := ⟨⟨by decide +kernel, by decide +kernel⟩, List.mem_of_getElem? (i := 879) (by decide +kernel), List.mem_of_getElem? (i := 991) (by decide +kernel), List.mem_of_getElem? (i := 992) (by decide +kernel)⟩
theorem lw_p20 : lw_okq (⟨"IceAtTheMiddleModel", "readEntry", "(I)I"⟩, 29) := ⟨⟨by decide +kernel, by decide +kernel⟩, List.mem_of_getElem? (i := 879) (by decide +kernel), List.mem_of_getElem? (i := 995) (by decide +kernel), List.mem_of_getElem? (i := 996) (by decide +kernel)⟩
theorem lw_p21 : lw_okq (⟨"IceAtTheMiddleModel", "figure", "(I)I"⟩, 29) := ⟨⟨by decide +kernel, by decide +kernel⟩, List.mem_of_getElem? (i := 879) (by decide +kernel), List.mem_of_getElem? (i := 999) (by decide +kernel), List.mem_of_getElem? (i := 1000) (by decide +kernel)⟩
theorem lw_p22 : lw_okq (⟨"IceAtTheMiddleModel", "fail", "()V"⟩, 29) := ⟨⟨by decide +kernel, by decide +kernel⟩, List.mem_of_getElem? (i := 879) (by decide +kernel), List.mem_of_getElem? (i := 1004) (by decide +kernel), List.mem_of_getElem? (i := 1005) (by decide +kernel)⟩
theorem lw_p23 : lw_okq (⟨"IceAtTheMiddleModel", "isNext", "(I)Z"⟩, 29) := ⟨⟨by decide +kernel, by decide +kernel⟩, List.mem_of_getElem? (i := 879) (by decide +kernel), List.mem_of_getElem? (i := 1008) (by decide +kernel), List.mem_of_getElem? (i := 1009) (by decide +kernel)⟩
theorem lw_p24 : lw_okq (⟨"IceAtTheMiddleModel", "readLaw", "()I"⟩, 29) := ⟨⟨by decide +kernel, by decide +kernel⟩, List.mem_of_getElem? (i := 879) (by decide +kernel), List.mem_of_getElem? (i := 1012) (by decide +kernel), List.mem_of_getElem? (i := 1013) (by decide +kernel)⟩
theorem lw_p25 : lw_okq (⟨"IceAtTheMiddleModel", "roundOf", "(I)I"⟩, 29) := ⟨⟨by decide +kernel, by decide +kernel⟩, List.mem_of_getElem? (i := 879) (by decide +kernel), List.mem_of_getElem? (i := 1045) (by decide +kernel), List.mem_of_getElem? (i := 1046) (by decide +kernel)⟩
theorem lw_p26 : lw_okq (⟨"IceAtTheMiddleModel", "iceThen", "(II)I"⟩, 29) := ⟨⟨by decide +kernel, by decide +kernel⟩, List.mem_of_getElem? (i := 879) (by decide +kernel), List.mem_of_getElem? (i := 1052) (by decide +kernel), List.mem_of_getElem? (i := 1053) (by decide +kernel)⟩
theorem lw_p27 : lw_okq (⟨"IceAtTheMiddleModel", "warmthOf", "(III)I"⟩, 29) := ⟨⟨by decide +kernel, by decide +kernel⟩, List.mem_of_getElem? (i := 879) (by decide +kernel), List.mem_of_getElem? (i := 1056) (by decide +kernel), List.mem_of_getElem? (i := 1057) (by decide +kernel)⟩
theorem lw_p28 : lw_okq (⟨"IceAtTheMiddleModel", "taken", "(II)I"⟩, 29) := ⟨⟨by decide +kernel, by decide +kernel⟩, List.mem_of_getElem? (i := 879) (by decide +kernel), List.mem_of_getElem? (i := 1060) (by decide +kernel), List.mem_of_getElem? (i := 1061) (by decide +kernel)⟩
theorem lw_p29 : lw_okq (⟨"IceAtTheMiddleModel", "layRun", "(II)V"⟩, 29) := ⟨⟨by decide +kernel, by decide +kernel⟩, List.mem_of_getElem? (i := 879) (by decide +kernel), List.mem_of_getElem? (i := 1087) (by decide +kernel), List.mem_of_getElem? (i := 1088) (by decide +kernel)⟩
theorem lw_p30 : lw_okq (⟨"IceAtTheMiddleModel", "isRest", "(II)Z"⟩, 29) := ⟨⟨by decide +kernel, by decide +kernel⟩, List.mem_of_getElem? (i := 879) (by decide +kernel), List.mem_of_getElem? (i := 1099) (by decide +kernel), List.mem_of_getElem? (i := 1100) (by decide +kernel)⟩
theorem lw_p31 : lw_okq (⟨"IceAtTheMiddleModel", "settleOf", "(II)I"⟩, 29) := ⟨⟨by decide +kernel, by decide +kernel⟩, List.mem_of_getElem? (i := 879) (by decide +kernel), List.mem_of_getElem? (i := 1111) (by decide +kernel), List.mem_of_getElem? (i := 1112) (by decide +kernel)⟩
def lw_privs_2 : List (MethodName × Nat) := [(⟨"IceAtTheMiddle", "isBed", "(I)Z"⟩, 11), (⟨"IceAtTheMiddle$Judge", "weighWithout", "(LIceAtTheMiddle$Ground;I)V"⟩, 3), (⟨"IceAtTheMiddle$Judge", "shareWithIce", "(LIceAtTheMiddle$Chronicle;II)J"⟩, 3), (⟨"IceAtTheMiddleModel", "readStory", "()I"⟩, 29), (⟨"IceAtTheMiddleModel", "readEntry", "(I)I"⟩, 29), (⟨"IceAtTheMiddleModel", "figure", "(I)I"⟩, 29), (⟨"IceAtTheMiddleModel", "fail", "()V"⟩, 29), (⟨"IceAtTheMiddleModel", "isNext", "(I)Z"⟩, 29), (⟨"IceAtTheMiddleModel", "readLaw", "()I"⟩, 29), (⟨"IceAtTheMiddleModel", "roundOf", "(I)I"⟩, 29), (⟨"IceAtTheMiddleModel", "iceThen", "(II)I"⟩, 29), (⟨"IceAtTheMiddleModel", "warmthOf", "(III)I"⟩, 29), (⟨"IceAtTheMiddleModel", "taken", "(II)I"⟩, 29), (⟨"IceAtTheMiddleModel", "layRun", "(II)V"⟩, 29), (⟨"IceAtTheMiddleModel", "isRest", "(II)Z"⟩, 29), (⟨"IceAtTheMiddleModel", "settleOf", "(II)I"⟩, 29)]
theorem lw_r2 : ∀ q ∈ lw_privs_2, lw_okq q := List.forall_mem_cons.mpr ⟨lw_p16, List.forall_mem_cons.mpr ⟨lw_p17, List.forall_mem_cons.mpr ⟨lw_p18, List.forall_mem_cons.mpr ⟨lw_p19, List.forall_mem_cons.mpr ⟨lw_p20, List.forall_mem_cons.mpr ⟨lw_p21, List.forall_mem_cons.mpr ⟨lw_p22, List.forall_mem_cons.mpr ⟨lw_p23, List.forall_mem_cons.mpr ⟨lw_p24, List.forall_mem_cons.mpr ⟨lw_p25, List.forall_mem_cons.mpr ⟨lw_p26, List.forall_mem_cons.mpr ⟨lw_p27, List.forall_mem_cons.mpr ⟨lw_p28, List.forall_mem_cons.mpr ⟨lw_p29, List.forall_mem_cons.mpr ⟨lw_p30, List.forall_mem_cons.mpr ⟨lw_p31, fun _ h => absurd h List.not_mem_nil⟩⟩⟩⟩⟩⟩⟩⟩⟩⟩⟩⟩⟩⟩⟩⟩
theorem lw_p32 : lw_okq (⟨"IceAtTheMiddleModel", "layCurve", "(III)V"⟩, 29) := ⟨⟨by decide +kernel, by decide +kernel⟩, List.mem_of_getElem? (i := 879) (by decide +kernel), List.mem_of_getElem? (i := 1119) (by decide +kernel), List.mem_of_getElem? (i := 1120) (by decide +kernel)⟩
theorem lw_p33 : lw_okq (⟨"IceAtTheMiddleModel", "isBed", "(I)Z"⟩, 29) := ⟨⟨by decide +kernel, by decide +kernel⟩, List.mem_of_getElem? (i := 879) (by decide +kernel), List.mem_of_getElem? (i := 1149) (by decide +kernel), List.mem_of_getElem? (i := 1150) (by decide +kernel)⟩
theorem lw_p34 : lw_okq (⟨"IceAtTheMiddleModel", "slide", "(I)I"⟩, 29) := ⟨⟨by decide +kernel, by decide +kernel⟩, List.mem_of_getElem? (i := 879) (by decide +kernel), List.mem_of_getElem? (i := 1154) (by decide +kernel), List.mem_of_getElem? (i := 1155) (by decide +kernel)⟩
theorem lw_p35 : lw_okq (⟨"IceAtTheMiddleModel", "isIcy", "(I)Z"⟩, 29) := ⟨⟨by decide +kernel, by decide +kernel⟩, List.mem_of_getElem? (i := 879) (by decide +kernel), List.mem_of_getElem? (i := 1158) (by decide +kernel), List.mem_of_getElem? (i := 1159) (by decide +kernel)⟩
theorem lw_p36 : lw_okq (⟨"IceAtTheMiddleModel", "rounds", "(III)I"⟩, 29) := ⟨⟨by decide +kernel, by decide +kernel⟩, List.mem_of_getElem? (i := 879) (by decide +kernel), List.mem_of_getElem? (i := 1166) (by decide +kernel), List.mem_of_getElem? (i := 1167) (by decide +kernel)⟩
theorem lw_p37 : lw_okq (⟨"IceAtTheMiddleModel", "chanceOf", "(II)I"⟩, 29) := ⟨⟨by decide +kernel, by decide +kernel⟩, List.mem_of_getElem? (i := 879) (by decide +kernel), List.mem_of_getElem? (i := 1174) (by decide +kernel), List.mem_of_getElem? (i := 1175) (by decide +kernel)⟩
theorem lw_p38 : lw_okq (⟨"IceAtTheMiddleModel", "layLots", "(I)V"⟩, 29) := ⟨⟨by decide +kernel, by decide +kernel⟩, List.mem_of_getElem? (i := 879) (by decide +kernel), List.mem_of_getElem? (i := 1191) (by decide +kernel), List.mem_of_getElem? (i := 1192) (by decide +kernel)⟩
theorem lw_p39 : lw_okq (⟨"IceAtTheMiddleModel", "bestOf", "()I"⟩, 29) := ⟨⟨by decide +kernel, by decide +kernel⟩, List.mem_of_getElem? (i := 879) (by decide +kernel), List.mem_of_getElem? (i := 1200) (by decide +kernel), List.mem_of_getElem? (i := 1201) (by decide +kernel)⟩
theorem lw_p40 : lw_okq (⟨"IceAtTheMiddleModel", "millionths", "(I)I"⟩, 29) := ⟨⟨by decide +kernel, by decide +kernel⟩, List.mem_of_getElem? (i := 879) (by decide +kernel), List.mem_of_getElem? (i := 1208) (by decide +kernel), List.mem_of_getElem? (i := 1209) (by decide +kernel)⟩
theorem lw_p41 : lw_okq (⟨"IceAtTheMiddleModel", "firstEnd", "(I)I"⟩, 29) := ⟨⟨by decide +kernel, by decide +kernel⟩, List.mem_of_getElem? (i := 879) (by decide +kernel), List.mem_of_getElem? (i := 1225) (by decide +kernel), List.mem_of_getElem? (i := 1226) (by decide +kernel)⟩
theorem lw_p42 : lw_okq (⟨"IceAtTheMiddleModel", "layOrder", "(I)Z"⟩, 29) := ⟨⟨by decide +kernel, by decide +kernel⟩, List.mem_of_getElem? (i := 879) (by decide +kernel), List.mem_of_getElem? (i := 1237) (by decide +kernel), List.mem_of_getElem? (i := 1238) (by decide +kernel)⟩
theorem lw_p43 : lw_okq (⟨"IceAtTheMiddleModel", "poleOf", "(II)I"⟩, 29) := ⟨⟨by decide +kernel, by decide +kernel⟩, List.mem_of_getElem? (i := 879) (by decide +kernel), List.mem_of_getElem? (i := 1249) (by decide +kernel), List.mem_of_getElem? (i := 1250) (by decide +kernel)⟩
def lw_privs_3 : List (MethodName × Nat) := [(⟨"IceAtTheMiddleModel", "layCurve", "(III)V"⟩, 29), (⟨"IceAtTheMiddleModel", "isBed", "(I)Z"⟩, 29), (⟨"IceAtTheMiddleModel", "slide", "(I)I"⟩, 29), (⟨"IceAtTheMiddleModel", "isIcy", "(I)Z"⟩, 29), (⟨"IceAtTheMiddleModel", "rounds", "(III)I"⟩, 29), (⟨"IceAtTheMiddleModel", "chanceOf", "(II)I"⟩, 29), (⟨"IceAtTheMiddleModel", "layLots", "(I)V"⟩, 29), (⟨"IceAtTheMiddleModel", "bestOf", "()I"⟩, 29), (⟨"IceAtTheMiddleModel", "millionths", "(I)I"⟩, 29), (⟨"IceAtTheMiddleModel", "firstEnd", "(I)I"⟩, 29), (⟨"IceAtTheMiddleModel", "layOrder", "(I)Z"⟩, 29), (⟨"IceAtTheMiddleModel", "poleOf", "(II)I"⟩, 29)]
theorem lw_r3 : ∀ q ∈ lw_privs_3, lw_okq q := List.forall_mem_cons.mpr ⟨lw_p32, List.forall_mem_cons.mpr ⟨lw_p33, List.forall_mem_cons.mpr ⟨lw_p34, List.forall_mem_cons.mpr ⟨lw_p35, List.forall_mem_cons.mpr ⟨lw_p36, List.forall_mem_cons.mpr ⟨lw_p37, List.forall_mem_cons.mpr ⟨lw_p38, List.forall_mem_cons.mpr ⟨lw_p39, List.forall_mem_cons.mpr ⟨lw_p40, List.forall_mem_cons.mpr ⟨lw_p41, List.forall_mem_cons.mpr ⟨lw_p42, List.forall_mem_cons.mpr ⟨lw_p43, fun _ h => absurd h List.not_mem_nil⟩⟩⟩⟩⟩⟩⟩⟩⟩⟩⟩⟩
def lw_privs : List (MethodName × Nat) := lw_privs_1 ++ (lw_privs_2 ++ (lw_privs_3))
def lw_tbl : List Cond := k2_sels lw_privs ++ tables_1
theorem lw_privs_ok : ∀ q ∈ lw_privs, lw_okq q := by
  show ∀ q ∈ lw_privs_1 ++ (lw_privs_2 ++ (lw_privs_3)), lw_okq q
  exact List.forall_mem_append.mpr ⟨lw_r1, List.forall_mem_append.mpr ⟨lw_r2, lw_r3⟩⟩
def RX0 : String := "IceAtTheMiddle$Chronicle"
def TX0 : u_T := fun k => match k with
  | _ => ("IceAtTheMiddle$Chronicle", "ice", "[I", true)
def tyX0 : Nat → FieldType := fun k => match k with
  | _ => .array .int
abbrev wsX00 : List Cond := u_ws RX0 TX0 1
theorem nmX0 : ∀ a, a < 1 → ∀ b, b < 1 → a ≠ b → (TX0 a).2.1 ≠ (TX0 b).2.1 := by decide +kernel
theorem tyX0_ok : ∀ k, k < 1 → parseFieldDescriptor (TX0 k).2.2.1 = some (tyX0 k) := by decide +kernel
abbrev cX0_init : ByteArray := prog_2_method_1_code
def yX0_init : MethodName := ⟨RX0, "<init>", "()V"⟩
abbrev cX0_tell : ByteArray := prog_2_method_2_code
def yX0_tell : MethodName := ⟨RX0, "tell", "(III)V"⟩
abbrev cX0_iceOf : ByteArray := prog_2_method_3_code
def yX0_iceOf : MethodName := ⟨RX0, "iceOf", "(II)I"⟩
abbrev cX0_someIce : ByteArray := prog_2_method_4_code
def yX0_someIce : MethodName := ⟨RX0, "someIce", "(III)I"⟩
abbrev cX0_lastingIce : ByteArray := prog_2_method_5_code
def yX0_lastingIce : MethodName := ⟨RX0, "lastingIce", "(III)I"⟩
def RX1 : String := "IceAtTheMiddle$Curve"
def TX1 : u_T := fun k => match k with
  | 0 => ("IceAtTheMiddle$Curve", "airs", "[I", true)
  | 1 => ("IceAtTheMiddle$Curve", "found", "I", false)
  | _ => ("IceAtTheMiddle$Curve", "end", "I", false)
def tyX1 : Nat → FieldType := fun k => match k with
  | 0 => .array .int
  | 1 => .int
  | _ => .int
abbrev wsX10 : List Cond := u_ws RX1 TX1 3
theorem nmX1 : ∀ a, a < 3 → ∀ b, b < 3 → a ≠ b → (TX1 a).2.1 ≠ (TX1 b).2.1 := by decide +kernel
theorem tyX1_ok : ∀ k, k < 3 → parseFieldDescriptor (TX1 k).2.2.1 = some (tyX1 k) := by decide +kernel
abbrev cX1_init : ByteArray := prog_3_method_1_code
def yX1_init : MethodName := ⟨RX1, "<init>", "()V"⟩
abbrev cX1_follow : ByteArray := prog_3_method_2_code
def yX1_follow : MethodName := ⟨RX1, "follow", "(LIceAtTheMiddle$Earth;III)V"⟩
abbrev cX1_airOf : ByteArray := prog_3_method_3_code
def yX1_airOf : MethodName := ⟨RX1, "airOf", "(I)I"⟩
abbrev cX1_isJump : ByteArray := prog_3_method_4_code
def yX1_isJump : MethodName := ⟨RX1, "isJump", "(II)Z"⟩
abbrev cX1_add : ByteArray := prog_3_method_5_code
def yX1_add : MethodName := ⟨RX1, "add", "(I)V"⟩
def RX2 : String := "IceAtTheMiddle$Dates"
def TX2 : u_T := fun k => match k with
  | 0 => ("IceAtTheMiddle$Dates", "rounds", "[I", true)
  | _ => ("IceAtTheMiddle$Dates", "found", "I", false)
def tyX2 : Nat → FieldType := fun k => match k with
  | 0 => .array .int
  | _ => .int
abbrev wsX20 : List Cond := u_ws RX2 TX2 2
theorem nmX2 : ∀ a, a < 2 → ∀ b, b < 2 → a ≠ b → (TX2 a).2.1 ≠ (TX2 b).2.1 := by decide +kernel
theorem tyX2_ok : ∀ k, k < 2 → parseFieldDescriptor (TX2 k).2.2.1 = some (tyX2 k) := by decide +kernel
abbrev cX2_init : ByteArray := prog_4_method_1_code
def yX2_init : MethodName := ⟨RX2, "<init>", "()V"⟩
abbrev cX2_firstCommonRound : ByteArray := prog_4_method_2_code
def yX2_firstCommonRound : MethodName := ⟨RX2, "firstCommonRound", "(LIceAtTheMiddle$Ground;)I"⟩
abbrev cX2_part : ByteArray := prog_4_method_3_code
def yX2_part : MethodName := ⟨RX2, "part", "(LIceAtTheMiddle$Ground;)V"⟩
abbrev cX2_firstEndBehind : ByteArray := prog_4_method_4_code
def yX2_firstEndBehind : MethodName := ⟨RX2, "firstEndBehind", "(LIceAtTheMiddle$Ground;I)I"⟩
abbrev cX2_roundOf : ByteArray := prog_4_method_5_code
def yX2_roundOf : MethodName := ⟨RX2, "roundOf", "(I)I"⟩
abbrev cX2_isInOrder : ByteArray := prog_4_method_6_code
def yX2_isInOrder : MethodName := ⟨RX2, "isInOrder", "(LIceAtTheMiddle$Ground;I)Z"⟩
abbrev cX2_earliestBelow : ByteArray := prog_4_method_7_code
def yX2_earliestBelow : MethodName := ⟨RX2, "earliestBelow", "(LIceAtTheMiddle$Ground;II)I"⟩
abbrev cX2_latestFrom : ByteArray := prog_4_method_8_code
def yX2_latestFrom : MethodName := ⟨RX2, "latestFrom", "(LIceAtTheMiddle$Ground;II)I"⟩
def RX3 : String := "IceAtTheMiddle$Earth"
def TX3 : u_T := fun k => match k with
  | _ => ("IceAtTheMiddle$Earth", "law", "[I", true)
def tyX3 : Nat → FieldType := fun k => match k with
  | _ => .array .int
abbrev wsX30 : List Cond := u_ws RX3 TX3 1
theorem nmX3 : ∀ a, a < 1 → ∀ b, b < 1 → a ≠ b → (TX3 a).2.1 ≠ (TX3 b).2.1 := by decide +kernel
theorem tyX3_ok : ∀ k, k < 1 → parseFieldDescriptor (TX3 k).2.2.1 = some (tyX3 k) := by decide +kernel
abbrev cX3_init : ByteArray := prog_5_method_1_code
def yX3_init : MethodName := ⟨RX3, "<init>", "()V"⟩
abbrev cX3_stateOf : ByteArray := prog_5_method_2_code
def yX3_stateOf : MethodName := ⟨RX3, "stateOf", "(II)I"⟩
abbrev cX3_iceIn : ByteArray := prog_5_method_3_code
def yX3_iceIn : MethodName := ⟨RX3, "iceIn", "(I)I"⟩
abbrev cX3_airIn : ByteArray := prog_5_method_4_code
def yX3_airIn : MethodName := ⟨RX3, "airIn", "(I)I"⟩
abbrev cX3_takenBy : ByteArray := prog_5_method_5_code
def yX3_takenBy : MethodName := ⟨RX3, "takenBy", "(II)I"⟩
abbrev cX3_fortyWarmth : ByteArray := prog_5_method_6_code
def yX3_fortyWarmth : MethodName := ⟨RX3, "fortyWarmth", "(III)I"⟩
abbrev cX3_iceAfter : ByteArray := prog_5_method_7_code
def yX3_iceAfter : MethodName := ⟨RX3, "iceAfter", "(II)I"⟩
abbrev cX3_airAfter : ByteArray := prog_5_method_8_code
def yX3_airAfter : MethodName := ⟨RX3, "airAfter", "(II)I"⟩
abbrev cX3_stateAfter : ByteArray := prog_5_method_9_code
def yX3_stateAfter : MethodName := ⟨RX3, "stateAfter", "(I)I"⟩
abbrev cX3_isRest : ByteArray := prog_5_method_10_code
def yX3_isRest : MethodName := ⟨RX3, "isRest", "(II)Z"⟩
abbrev cX3_settled : ByteArray := prog_5_method_11_code
def yX3_settled : MethodName := ⟨RX3, "settled", "(II)I"⟩
def RX4 : String := "IceAtTheMiddle$Ground"
def TX4 : u_T := fun k => match k with
  | 0 => ("IceAtTheMiddle$Ground", "marks", "[I", true)
  | 1 => ("IceAtTheMiddle$Ground", "weights", "[I", true)
  | 2 => ("IceAtTheMiddle$Ground", "beds", "I", false)
  | _ => ("IceAtTheMiddle$Ground", "isKept", "Z", false)
def tyX4 : Nat → FieldType := fun k => match k with
  | 0 => .array .int
  | 1 => .array .int
  | 2 => .int
  | _ => .boolean
abbrev wsX40 : List Cond := u_ws RX4 TX4 4
theorem nmX4 : ∀ a, a < 4 → ∀ b, b < 4 → a ≠ b → (TX4 a).2.1 ≠ (TX4 b).2.1 := by decide +kernel
theorem tyX4_ok : ∀ k, k < 4 → parseFieldDescriptor (TX4 k).2.2.1 = some (tyX4 k) := by decide +kernel
abbrev cX4_init : ByteArray := prog_6_method_1_code
def yX4_init : MethodName := ⟨RX4, "<init>", "()V"⟩
abbrev cX4_mark : ByteArray := prog_6_method_2_code
def yX4_mark : MethodName := ⟨RX4, "mark", "(III)V"⟩
abbrev cX4_markOf : ByteArray := prog_6_method_3_code
def yX4_markOf : MethodName := ⟨RX4, "markOf", "(II)I"⟩
abbrev cX4_hasSign : ByteArray := prog_6_method_4_code
def yX4_hasSign : MethodName := ⟨RX4, "hasSign", "(II)Z"⟩
abbrev cX4_isIcy : ByteArray := prog_6_method_5_code
def yX4_isIcy : MethodName := ⟨RX4, "isIcy", "(I)Z"⟩
abbrev cX4_liesIn : ByteArray := prog_6_method_6_code
def yX4_liesIn : MethodName := ⟨RX4, "liesIn", "(II)Z"⟩
abbrev cX4_slideTenths : ByteArray := prog_6_method_7_code
def yX4_slideTenths : MethodName := ⟨RX4, "slideTenths", "(I)I"⟩
abbrev cX4_icyBeds : ByteArray := prog_6_method_8_code
def yX4_icyBeds : MethodName := ⟨RX4, "icyBeds", "()I"⟩
abbrev cX4_weightsTogether : ByteArray := prog_6_method_9_code
def yX4_weightsTogether : MethodName := ⟨RX4, "weightsTogether", "()I"⟩
abbrev cX4_copyFrom : ByteArray := prog_6_method_10_code
def yX4_copyFrom : MethodName := ⟨RX4, "copyFrom", "(LIceAtTheMiddle$Ground;)V"⟩
def RX5 : String := "IceAtTheMiddle$Judge"
def TX5 : u_T := fun k => match k with
  | 0 => ("IceAtTheMiddle$Judge", "shares", "[J", true)
  | 1 => ("IceAtTheMiddle$Judge", "chances", "[I", true)
  | _ => ("IceAtTheMiddle$Judge", "all", "J", false)
def tyX5 : Nat → FieldType := fun k => match k with
  | 0 => .array .long
  | 1 => .array .int
  | _ => .long
abbrev wsX50 : List Cond := u_ws RX5 TX5 3
theorem nmX5 : ∀ a, a < 3 → ∀ b, b < 3 → a ≠ b → (TX5 a).2.1 ≠ (TX5 b).2.1 := by decide +kernel
theorem tyX5_ok : ∀ k, k < 3 → parseFieldDescriptor (TX5 k).2.2.1 = some (tyX5 k) := by decide +kernel
abbrev cX5_init : ByteArray := prog_7_method_1_code
def yX5_init : MethodName := ⟨RX5, "<init>", "()V"⟩
abbrev cX5_hundredths : ByteArray := prog_7_method_2_code
def yX5_hundredths : MethodName := ⟨RX5, "hundredths", "(LIceAtTheMiddle$Chronicle;LIceAtTheMiddle$Ground;II)I"⟩
abbrev cX5_explainedBy : ByteArray := prog_7_method_3_code
def yX5_explainedBy : MethodName := ⟨RX5, "explainedBy", "(LIceAtTheMiddle$Chronicle;LIceAtTheMiddle$Ground;II)I"⟩
abbrev cX5_weigh : ByteArray := prog_7_method_4_code
def yX5_weigh : MethodName := ⟨RX5, "weigh", "(LIceAtTheMiddle$Chronicle;LIceAtTheMiddle$Ground;)V"⟩
abbrev cX5_weighWithout : ByteArray := prog_7_method_5_code
def yX5_weighWithout : MethodName := ⟨RX5, "weighWithout", "(LIceAtTheMiddle$Ground;I)V"⟩
abbrev cX5_greatest : ByteArray := prog_7_method_6_code
def yX5_greatest : MethodName := ⟨RX5, "greatest", "()I"⟩
abbrev cX5_bedThatMovesMost : ByteArray := prog_7_method_7_code
def yX5_bedThatMovesMost : MethodName := ⟨RX5, "bedThatMovesMost", "(LIceAtTheMiddle$Ground;)I"⟩
abbrev cX5_millionths : ByteArray := prog_7_method_8_code
def yX5_millionths : MethodName := ⟨RX5, "millionths", "(JJ)I"⟩
abbrev cX5_whereToGo : ByteArray := prog_7_method_9_code
def yX5_whereToGo : MethodName := ⟨RX5, "whereToGo", "(LIceAtTheMiddle$Chronicle;)I"⟩
abbrev cX5_shareWithIce : ByteArray := prog_7_method_10_code
def yX5_shareWithIce : MethodName := ⟨RX5, "shareWithIce", "(LIceAtTheMiddle$Chronicle;II)J"⟩
def RX6 : String := "IceAtTheMiddle$LawReader"
def TX6 : u_T := fun k => match k with
  | 0 => ("IceAtTheMiddle$LawReader", "numbers", "[I", true)
  | 1 => ("IceAtTheMiddle$LawReader", "parts", "I", false)
  | 2 => ("IceAtTheMiddle$LawReader", "figuresDue", "I", false)
  | 3 => ("IceAtTheMiddle$LawReader", "place", "I", false)
  | _ => ("IceAtTheMiddle$LawReader", "bandDue", "Z", false)
def tyX6 : Nat → FieldType := fun k => match k with
  | 0 => .array .int
  | 1 => .int
  | 2 => .int
  | 3 => .int
  | _ => .boolean
abbrev wsX60 : List Cond := u_ws RX6 TX6 5
theorem nmX6 : ∀ a, a < 5 → ∀ b, b < 5 → a ≠ b → (TX6 a).2.1 ≠ (TX6 b).2.1 := by decide +kernel
theorem tyX6_ok : ∀ k, k < 5 → parseFieldDescriptor (TX6 k).2.2.1 = some (tyX6 k) := by decide +kernel
abbrev cX6_init : ByteArray := prog_8_method_1_code
def yX6_init : MethodName := ⟨RX6, "<init>", "()V"⟩
abbrev cX6_faultOf : ByteArray := prog_8_method_2_code
def yX6_faultOf : MethodName := ⟨RX6, "faultOf", "(LIceAtTheMiddle$Text;)I"⟩
abbrev cX6_giveTo : ByteArray := prog_8_method_3_code
def yX6_giveTo : MethodName := ⟨RX6, "giveTo", "(LIceAtTheMiddle$Earth;)V"⟩
abbrev cX6_begin : ByteArray := prog_8_method_4_code
def yX6_begin : MethodName := ⟨RX6, "begin", "()V"⟩
abbrev cX6_takes : ByteArray := prog_8_method_5_code
def yX6_takes : MethodName := ⟨RX6, "takes", "(I)Z"⟩
abbrev cX6_takesKind : ByteArray := prog_8_method_6_code
def yX6_takesKind : MethodName := ⟨RX6, "takesKind", "(I)Z"⟩
abbrev cX6_takesBand : ByteArray := prog_8_method_7_code
def yX6_takesBand : MethodName := ⟨RX6, "takesBand", "(I)Z"⟩
abbrev cX6_takesFigure : ByteArray := prog_8_method_8_code
def yX6_takesFigure : MethodName := ⟨RX6, "takesFigure", "(I)Z"⟩
abbrev cX6_opens : ByteArray := prog_8_method_9_code
def yX6_opens : MethodName := ⟨RX6, "opens", "(I)Z"⟩
abbrev cX6_someBandIsUntold : ByteArray := prog_8_method_10_code
def yX6_someBandIsUntold : MethodName := ⟨RX6, "someBandIsUntold", "()Z"⟩
def RX7 : String := "IceAtTheMiddle$Run"
def TX7 : u_T := fun k => match k with
  | 0 => ("IceAtTheMiddle$Run", "states", "[I", true)
  | 1 => ("IceAtTheMiddle$Run", "placeBehind", "[I", true)
  | 2 => ("IceAtTheMiddle$Run", "length", "I", false)
  | _ => ("IceAtTheMiddle$Run", "lead", "I", false)
def tyX7 : Nat → FieldType := fun k => match k with
  | 0 => .array .int
  | 1 => .array .int
  | 2 => .int
  | _ => .int
abbrev wsX70 : List Cond := u_ws RX7 TX7 4
theorem nmX7 : ∀ a, a < 4 → ∀ b, b < 4 → a ≠ b → (TX7 a).2.1 ≠ (TX7 b).2.1 := by decide +kernel
theorem tyX7_ok : ∀ k, k < 4 → parseFieldDescriptor (TX7 k).2.2.1 = some (tyX7 k) := by decide +kernel
abbrev cX7_init : ByteArray := prog_9_method_1_code
def yX7_init : MethodName := ⟨RX7, "<init>", "()V"⟩
abbrev cX7_follow : ByteArray := prog_9_method_2_code
def yX7_follow : MethodName := ⟨RX7, "follow", "(LIceAtTheMiddle$Earth;II)V"⟩
abbrev cX7_isNew : ByteArray := prog_9_method_3_code
def yX7_isNew : MethodName := ⟨RX7, "isNew", "(I)Z"⟩
abbrev cX7_ring : ByteArray := prog_9_method_4_code
def yX7_ring : MethodName := ⟨RX7, "ring", "()I"⟩
abbrev cX7_stateAt : ByteArray := prog_9_method_5_code
def yX7_stateAt : MethodName := ⟨RX7, "stateAt", "(I)I"⟩
abbrev cX7_whiteInRing : ByteArray := prog_9_method_6_code
def yX7_whiteInRing : MethodName := ⟨RX7, "whiteInRing", "()I"⟩
abbrev cX7_leastAirInRing : ByteArray := prog_9_method_7_code
def yX7_leastAirInRing : MethodName := ⟨RX7, "leastAirInRing", "()I"⟩
abbrev cX7_greatestAirInRing : ByteArray := prog_9_method_8_code
def yX7_greatestAirInRing : MethodName := ⟨RX7, "greatestAirInRing", "()I"⟩
abbrev cX7_firstWhite : ByteArray := prog_9_method_9_code
def yX7_firstWhite : MethodName := ⟨RX7, "firstWhite", "(Z)I"⟩
def RX8 : String := "IceAtTheMiddle$StoryReader"
def TX8 : u_T := fun k => match k with
  | 0 => ("IceAtTheMiddle$StoryReader", "iceFrom", "[I", true)
  | 1 => ("IceAtTheMiddle$StoryReader", "entries", "I", false)
  | 2 => ("IceAtTheMiddle$StoryReader", "due", "I", false)
  | 3 => ("IceAtTheMiddle$StoryReader", "roundAhead", "I", false)
  | 4 => ("IceAtTheMiddle$StoryReader", "tens", "I", false)
  | 5 => ("IceAtTheMiddle$StoryReader", "roundNow", "I", false)
  | _ => ("IceAtTheMiddle$StoryReader", "bandAhead", "I", false)
def tyX8 : Nat → FieldType := fun k => match k with
  | 0 => .array .int
  | 1 => .int
  | 2 => .int
  | 3 => .int
  | 4 => .int
  | 5 => .int
  | _ => .int
abbrev wsX80 : List Cond := u_ws RX8 TX8 7
theorem nmX8 : ∀ a, a < 7 → ∀ b, b < 7 → a ≠ b → (TX8 a).2.1 ≠ (TX8 b).2.1 := by decide +kernel
theorem tyX8_ok : ∀ k, k < 7 → parseFieldDescriptor (TX8 k).2.2.1 = some (tyX8 k) := by decide +kernel
abbrev cX8_init : ByteArray := prog_10_method_1_code
def yX8_init : MethodName := ⟨RX8, "<init>", "()V"⟩
abbrev cX8_faultOf : ByteArray := prog_10_method_2_code
def yX8_faultOf : MethodName := ⟨RX8, "faultOf", "(LIceAtTheMiddle$Text;)I"⟩
abbrev cX8_giveTo : ByteArray := prog_10_method_3_code
def yX8_giveTo : MethodName := ⟨RX8, "giveTo", "(LIceAtTheMiddle$Chronicle;I)V"⟩
abbrev cX8_begin : ByteArray := prog_10_method_4_code
def yX8_begin : MethodName := ⟨RX8, "begin", "()V"⟩
abbrev cX8_takes : ByteArray := prog_10_method_5_code
def yX8_takes : MethodName := ⟨RX8, "takes", "(I)Z"⟩
abbrev cX8_takesTens : ByteArray := prog_10_method_6_code
def yX8_takesTens : MethodName := ⟨RX8, "takesTens", "(I)Z"⟩
abbrev cX8_takesOnes : ByteArray := prog_10_method_7_code
def yX8_takesOnes : MethodName := ⟨RX8, "takesOnes", "(I)Z"⟩
abbrev cX8_takesColon : ByteArray := prog_10_method_8_code
def yX8_takesColon : MethodName := ⟨RX8, "takesColon", "(I)Z"⟩
abbrev cX8_takesNextEntry : ByteArray := prog_10_method_9_code
def yX8_takesNextEntry : MethodName := ⟨RX8, "takesNextEntry", "()Z"⟩
abbrev cX8_takesBand : ByteArray := prog_10_method_10_code
def yX8_takesBand : MethodName := ⟨RX8, "takesBand", "(I)Z"⟩
def RX9 : String := "IceAtTheMiddle$Text"
def TX9 : u_T := fun k => match k with
  | 0 => ("IceAtTheMiddle$Text", "signs", "[I", true)
  | _ => ("IceAtTheMiddle$Text", "length", "I", false)
def tyX9 : Nat → FieldType := fun k => match k with
  | 0 => .array .int
  | _ => .int
abbrev wsX90 : List Cond := u_ws RX9 TX9 2
theorem nmX9 : ∀ a, a < 2 → ∀ b, b < 2 → a ≠ b → (TX9 a).2.1 ≠ (TX9 b).2.1 := by decide +kernel
theorem tyX9_ok : ∀ k, k < 2 → parseFieldDescriptor (TX9 k).2.2.1 = some (tyX9 k) := by decide +kernel
abbrev cX9_init : ByteArray := prog_11_method_1_code
def yX9_init : MethodName := ⟨RX9, "<init>", "()V"⟩
abbrev cX9_hasRoomFor : ByteArray := prog_11_method_2_code
def yX9_hasRoomFor : MethodName := ⟨RX9, "hasRoomFor", "(I)Z"⟩
abbrev cX9_put : ByteArray := prog_11_method_3_code
def yX9_put : MethodName := ⟨RX9, "put", "(IJ)V"⟩
def RX10 : String := "IceAtTheMiddle"
def TX10 : u_T := fun k => match k with
  | 0 => ("IceAtTheMiddle", "text", "LIceAtTheMiddle$Text;", true)
  | 1 => ("IceAtTheMiddle", "lawReader", "LIceAtTheMiddle$LawReader;", true)
  | 2 => ("IceAtTheMiddle", "storyReader", "LIceAtTheMiddle$StoryReader;", true)
  | 3 => ("IceAtTheMiddle", "earth", "LIceAtTheMiddle$Earth;", true)
  | 4 => ("IceAtTheMiddle", "path", "LIceAtTheMiddle$Run;", true)
  | 5 => ("IceAtTheMiddle", "bend", "LIceAtTheMiddle$Curve;", true)
  | 6 => ("IceAtTheMiddle", "chronicle", "LIceAtTheMiddle$Chronicle;", true)
  | 7 => ("IceAtTheMiddle", "ground", "LIceAtTheMiddle$Ground;", true)
  | 8 => ("IceAtTheMiddle", "judge", "LIceAtTheMiddle$Judge;", true)
  | 9 => ("IceAtTheMiddle", "dates", "LIceAtTheMiddle$Dates;", true)
  | _ => ("IceAtTheMiddle", "slots", "[LIceAtTheMiddle$Ground;", true)
def tyX10 : Nat → FieldType := fun k => match k with
  | 0 => .object "IceAtTheMiddle$Text"
  | 1 => .object "IceAtTheMiddle$LawReader"
  | 2 => .object "IceAtTheMiddle$StoryReader"
  | 3 => .object "IceAtTheMiddle$Earth"
  | 4 => .object "IceAtTheMiddle$Run"
  | 5 => .object "IceAtTheMiddle$Curve"
  | 6 => .object "IceAtTheMiddle$Chronicle"
  | 7 => .object "IceAtTheMiddle$Ground"
  | 8 => .object "IceAtTheMiddle$Judge"
  | 9 => .object "IceAtTheMiddle$Dates"
  | _ => .array (.object "IceAtTheMiddle$Ground")
abbrev wsX100 : List Cond := u_ws RX10 TX10 11
theorem nmX10 : ∀ a, a < 11 → ∀ b, b < 11 → a ≠ b → (TX10 a).2.1 ≠ (TX10 b).2.1 := by decide +kernel
theorem tyX10_ok : ∀ k, k < 11 → parseFieldDescriptor (TX10 k).2.2.1 = some (tyX10 k) := by decide +kernel
abbrev cX10_init : ByteArray := prog_1_method_1_code
def yX10_init : MethodName := ⟨RX10, "<init>", "()V"⟩
abbrev cX10_write : ByteArray := prog_1_method_2_code
def yX10_write : MethodName := ⟨RX10, "write", "(IJ)I"⟩
abbrev cX10_wipe : ByteArray := prog_1_method_3_code
def yX10_wipe : MethodName := ⟨RX10, "wipe", "()I"⟩
abbrev cX10_fault : ByteArray := prog_1_method_4_code
def yX10_fault : MethodName := ⟨RX10, "fault", "(Z)I"⟩
abbrev cX10_law : ByteArray := prog_1_method_5_code
def yX10_law : MethodName := ⟨RX10, "law", "()I"⟩
abbrev cX10_lawful : ByteArray := prog_1_method_6_code
def yX10_lawful : MethodName := ⟨RX10, "lawful", "(I)I"⟩
abbrev cX10_story : ByteArray := prog_1_method_7_code
def yX10_story : MethodName := ⟨RX10, "story", "(I)I"⟩
abbrev cX10_lived : ByteArray := prog_1_method_8_code
def yX10_lived : MethodName := ⟨RX10, "lived", "(III)I"⟩
abbrev cX10_at : ByteArray := prog_1_method_9_code
def yX10_at : MethodName := ⟨RX10, "at", "(II)I"⟩
abbrev cX10_warmth : ByteArray := prog_1_method_10_code
def yX10_warmth : MethodName := ⟨RX10, "warmth", "(III)I"⟩
abbrev cX10_round : ByteArray := prog_1_method_11_code
def yX10_round : MethodName := ⟨RX10, "round", "(II)I"⟩
abbrev cX10_after : ByteArray := prog_1_method_12_code
def yX10_after : MethodName := ⟨RX10, "after", "(III)I"⟩
abbrev cX10_run : ByteArray := prog_1_method_13_code
def yX10_run : MethodName := ⟨RX10, "run", "(III)I"⟩
abbrev cX10_till : ByteArray := prog_1_method_14_code
def yX10_till : MethodName := ⟨RX10, "till", "(IIZ)I"⟩
abbrev cX10_rests : ByteArray := prog_1_method_15_code
def yX10_rests : MethodName := ⟨RX10, "rests", "(I)I"⟩
abbrev cX10_rest : ByteArray := prog_1_method_16_code
def yX10_rest : MethodName := ⟨RX10, "rest", "(II)I"⟩
abbrev cX10_settle : ByteArray := prog_1_method_17_code
def yX10_settle : MethodName := ⟨RX10, "settle", "(II)I"⟩
abbrev cX10_jumps : ByteArray := prog_1_method_18_code
def yX10_jumps : MethodName := ⟨RX10, "jumps", "(III)I"⟩
abbrev cX10_jump : ByteArray := prog_1_method_19_code
def yX10_jump : MethodName := ⟨RX10, "jump", "(IIII)I"⟩
abbrev cX10_curve : ByteArray := prog_1_method_20_code
def yX10_curve : MethodName := ⟨RX10, "curve", "(III)I"⟩
abbrev cX10_least : ByteArray := prog_1_method_21_code
def yX10_least : MethodName := ⟨RX10, "least", "(Z)I"⟩
abbrev cX10_bed : ByteArray := prog_1_method_22_code
def yX10_bed : MethodName := ⟨RX10, "bed", "(IIIIII)I"⟩
abbrev cX10_forget : ByteArray := prog_1_method_23_code
def yX10_forget : MethodName := ⟨RX10, "forget", "()I"⟩
abbrev cX10_about : ByteArray := prog_1_method_24_code
def yX10_about : MethodName := ⟨RX10, "about", "(II)I"⟩
abbrev cX10_explains : ByteArray := prog_1_method_25_code
def yX10_explains : MethodName := ⟨RX10, "explains", "(II)I"⟩
abbrev cX10_chance : ByteArray := prog_1_method_26_code
def yX10_chance : MethodName := ⟨RX10, "chance", "(IIZ)J"⟩
abbrev cX10_weight : ByteArray := prog_1_method_27_code
def yX10_weight : MethodName := ⟨RX10, "weight", "(II)I"⟩
abbrev cX10_odds : ByteArray := prog_1_method_28_code
def yX10_odds : MethodName := ⟨RX10, "odds", "(IZ)J"⟩
abbrev cX10_best : ByteArray := prog_1_method_29_code
def yX10_best : MethodName := ⟨RX10, "best", "()I"⟩
abbrev cX10_mover : ByteArray := prog_1_method_30_code
def yX10_mover : MethodName := ⟨RX10, "mover", "()I"⟩
abbrev cX10_next : ByteArray := prog_1_method_31_code
def yX10_next : MethodName := ⟨RX10, "next", "()I"⟩
abbrev cX10_once : ByteArray := prog_1_method_32_code
def yX10_once : MethodName := ⟨RX10, "once", "()I"⟩
abbrev cX10_times : ByteArray := prog_1_method_33_code
def yX10_times : MethodName := ⟨RX10, "times", "()I"⟩
abbrev cX10_time : ByteArray := prog_1_method_34_code
def yX10_time : MethodName := ⟨RX10, "time", "(I)I"⟩
abbrev cX10_order : ByteArray := prog_1_method_35_code
def yX10_order : MethodName := ⟨RX10, "order", "(I)I"⟩
abbrev cX10_gap : ByteArray := prog_1_method_36_code
def yX10_gap : MethodName := ⟨RX10, "gap", "(I)I"⟩
abbrev cX10_pole : ByteArray := prog_1_method_37_code
def yX10_pole : MethodName := ⟨RX10, "pole", "(II)I"⟩
abbrev cX10_elsewhere : ByteArray := prog_1_method_38_code
def yX10_elsewhere : MethodName := ⟨RX10, "elsewhere", "(I)I"⟩
abbrev cX10_keep : ByteArray := prog_1_method_39_code
def yX10_keep : MethodName := ⟨RX10, "keep", "(I)I"⟩
abbrev cX10_again : ByteArray := prog_1_method_40_code
def yX10_again : MethodName := ⟨RX10, "again", "(I)I"⟩
abbrev cX10_count : ByteArray := prog_1_method_41_code
def yX10_count : MethodName := ⟨RX10, "count", "(I)I"⟩
abbrev cX10_within : ByteArray := prog_1_method_42_code
def yX10_within : MethodName := ⟨RX10, "within", "(III)Z"⟩
abbrev cX10_isBand : ByteArray := prog_1_method_43_code
def yX10_isBand : MethodName := ⟨RX10, "isBand", "(I)Z"⟩
abbrev cX10_isIce : ByteArray := prog_1_method_44_code
def yX10_isIce : MethodName := ⟨RX10, "isIce", "(I)Z"⟩
abbrev cX10_isAir : ByteArray := prog_1_method_45_code
def yX10_isAir : MethodName := ⟨RX10, "isAir", "(I)Z"⟩
abbrev cX10_isRound : ByteArray := prog_1_method_46_code
def yX10_isRound : MethodName := ⟨RX10, "isRound", "(I)Z"⟩
abbrev cX10_isStory : ByteArray := prog_1_method_47_code
def yX10_isStory : MethodName := ⟨RX10, "isStory", "(I)Z"⟩
abbrev cX10_isLand : ByteArray := prog_1_method_48_code
def yX10_isLand : MethodName := ⟨RX10, "isLand", "(I)Z"⟩
abbrev cX10_isSlot : ByteArray := prog_1_method_49_code
def yX10_isSlot : MethodName := ⟨RX10, "isSlot", "(I)Z"⟩
abbrev cX10_isBed : ByteArray := prog_1_method_50_code
def yX10_isBed : MethodName := ⟨RX10, "isBed", "(I)Z"⟩
abbrev cX10_hasIce : ByteArray := prog_1_method_51_code
def yX10_hasIce : MethodName := ⟨RX10, "hasIce", "(II)Z"⟩
abbrev cX10_figure : ByteArray := prog_1_method_52_code
def yX10_figure : MethodName := ⟨RX10, "figure", "(I)I"⟩
abbrev cX10_told : ByteArray := prog_1_method_53_code
def yX10_told : MethodName := ⟨RX10, "told", "(JJZ)J"⟩
abbrev cX10_greatestCommon : ByteArray := prog_1_method_54_code
def yX10_greatestCommon : MethodName := ⟨RX10, "greatestCommon", "(JJ)J"⟩
def RX11 : String := "IceAtTheMiddleModel"
def TX11 : u_T := fun k => match k with
  | 0 => ("IceAtTheMiddleModel", "read", "[I", true)
  | 1 => ("IceAtTheMiddleModel", "laws", "[I", true)
  | 2 => ("IceAtTheMiddleModel", "text", "[I", true)
  | 3 => ("IceAtTheMiddleModel", "length", "I", false)
  | 4 => ("IceAtTheMiddleModel", "at", "I", false)
  | 5 => ("IceAtTheMiddleModel", "faultAt", "I", false)
  | 6 => ("IceAtTheMiddleModel", "parts", "I", false)
  | 7 => ("IceAtTheMiddleModel", "entryRound", "[I", true)
  | 8 => ("IceAtTheMiddleModel", "entryIce", "[I", true)
  | 9 => ("IceAtTheMiddleModel", "entries", "I", false)
  | 10 => ("IceAtTheMiddleModel", "stories", "[I", true)
  | 11 => ("IceAtTheMiddleModel", "weights", "[I", true)
  | 12 => ("IceAtTheMiddleModel", "metAt", "[I", true)
  | 13 => ("IceAtTheMiddleModel", "ringEarth", "I", false)
  | 14 => ("IceAtTheMiddleModel", "lead", "I", false)
  | 15 => ("IceAtTheMiddleModel", "ring", "I", false)
  | 16 => ("IceAtTheMiddleModel", "jumpAir", "[I", true)
  | 17 => ("IceAtTheMiddleModel", "jumpMany", "I", false)
  | 18 => ("IceAtTheMiddleModel", "curveEnd", "I", false)
  | 19 => ("IceAtTheMiddleModel", "beds", "I", false)
  | 20 => ("IceAtTheMiddleModel", "bed", "[I", true)
  | 21 => ("IceAtTheMiddleModel", "lots", "[J", true)
  | 22 => ("IceAtTheMiddleModel", "all", "J", false)
  | 23 => ("IceAtTheMiddleModel", "early", "[I", true)
  | 24 => ("IceAtTheMiddleModel", "late", "[I", true)
  | 25 => ("IceAtTheMiddleModel", "isKept", "[Z", true)
  | 26 => ("IceAtTheMiddleModel", "keptBeds", "[I", true)
  | 27 => ("IceAtTheMiddleModel", "keptBed", "[I", true)
  | _ => ("IceAtTheMiddleModel", "keptWeights", "[I", true)
def tyX11 : Nat → FieldType := fun k => match k with
  | 0 => .array .int
  | 1 => .array .int
  | 2 => .array .int
  | 3 => .int
  | 4 => .int
  | 5 => .int
  | 6 => .int
  | 7 => .array .int
  | 8 => .array .int
  | 9 => .int
  | 10 => .array .int
  | 11 => .array .int
  | 12 => .array .int
  | 13 => .int
  | 14 => .int
  | 15 => .int
  | 16 => .array .int
  | 17 => .int
  | 18 => .int
  | 19 => .int
  | 20 => .array .int
  | 21 => .array .long
  | 22 => .long
  | 23 => .array .int
  | 24 => .array .int
  | 25 => .array .boolean
  | 26 => .array .int
  | 27 => .array .int
  | _ => .array .int
abbrev wsX110 : List Cond := u_ws RX11 TX11 29
theorem nmX11 : ∀ a, a < 29 → ∀ b, b < 29 → a ≠ b → (TX11 a).2.1 ≠ (TX11 b).2.1 := by decide +kernel
theorem tyX11_ok : ∀ k, k < 29 → parseFieldDescriptor (TX11 k).2.2.1 = some (tyX11 k) := by decide +kernel
abbrev cX11_init : ByteArray := prog_13_method_1_code
def yX11_init : MethodName := ⟨RX11, "<init>", "()V"⟩
abbrev cX11_in : ByteArray := prog_13_method_3_code
def yX11_in : MethodName := ⟨RX11, "in", "(JJJ)Z"⟩
abbrev cX11_ones : ByteArray := prog_13_method_4_code
def yX11_ones : MethodName := ⟨RX11, "ones", "(I)I"⟩
abbrev cX11_write : ByteArray := prog_13_method_5_code
def yX11_write : MethodName := ⟨RX11, "write", "(IJ)I"⟩
abbrev cX11_wipe : ByteArray := prog_13_method_6_code
def yX11_wipe : MethodName := ⟨RX11, "wipe", "()I"⟩
abbrev cX11_fail : ByteArray := prog_13_method_7_code
def yX11_fail : MethodName := ⟨RX11, "fail", "()V"⟩
abbrev cX11_isNext : ByteArray := prog_13_method_8_code
def yX11_isNext : MethodName := ⟨RX11, "isNext", "(I)Z"⟩
abbrev cX11_figure : ByteArray := prog_13_method_9_code
def yX11_figure : MethodName := ⟨RX11, "figure", "(I)I"⟩
abbrev cX11_placeOf : ByteArray := prog_13_method_10_code
def yX11_placeOf : MethodName := ⟨RX11, "placeOf", "(I)I"⟩
abbrev cX11_readLaw : ByteArray := prog_13_method_11_code
def yX11_readLaw : MethodName := ⟨RX11, "readLaw", "()I"⟩
abbrev cX11_readStory : ByteArray := prog_13_method_12_code
def yX11_readStory : MethodName := ⟨RX11, "readStory", "()I"⟩
abbrev cX11_readEntry : ByteArray := prog_13_method_13_code
def yX11_readEntry : MethodName := ⟨RX11, "readEntry", "(I)I"⟩
abbrev cX11_fault : ByteArray := prog_13_method_14_code
def yX11_fault : MethodName := ⟨RX11, "fault", "(Z)I"⟩
abbrev cX11_law : ByteArray := prog_13_method_15_code
def yX11_law : MethodName := ⟨RX11, "law", "()I"⟩
abbrev cX11_lawful : ByteArray := prog_13_method_16_code
def yX11_lawful : MethodName := ⟨RX11, "lawful", "(I)I"⟩
abbrev cX11_isStory : ByteArray := prog_13_method_17_code
def yX11_isStory : MethodName := ⟨RX11, "isStory", "(I)Z"⟩
abbrev cX11_story : ByteArray := prog_13_method_18_code
def yX11_story : MethodName := ⟨RX11, "story", "(I)I"⟩
abbrev cX11_isEarth : ByteArray := prog_13_method_19_code
def yX11_isEarth : MethodName := ⟨RX11, "isEarth", "(II)Z"⟩
abbrev cX11_lived : ByteArray := prog_13_method_20_code
def yX11_lived : MethodName := ⟨RX11, "lived", "(III)I"⟩
abbrev cX11_at : ByteArray := prog_13_method_21_code
def yX11_at : MethodName := ⟨RX11, "at", "(II)I"⟩
abbrev cX11_taken : ByteArray := prog_13_method_22_code
def yX11_taken : MethodName := ⟨RX11, "taken", "(II)I"⟩
abbrev cX11_warmthOf : ByteArray := prog_13_method_23_code
def yX11_warmthOf : MethodName := ⟨RX11, "warmthOf", "(III)I"⟩
abbrev cX11_iceThen : ByteArray := prog_13_method_24_code
def yX11_iceThen : MethodName := ⟨RX11, "iceThen", "(II)I"⟩
abbrev cX11_roundOf : ByteArray := prog_13_method_25_code
def yX11_roundOf : MethodName := ⟨RX11, "roundOf", "(I)I"⟩
abbrev cX11_warmth : ByteArray := prog_13_method_26_code
def yX11_warmth : MethodName := ⟨RX11, "warmth", "(III)I"⟩
abbrev cX11_round : ByteArray := prog_13_method_27_code
def yX11_round : MethodName := ⟨RX11, "round", "(II)I"⟩
abbrev cX11_after : ByteArray := prog_13_method_28_code
def yX11_after : MethodName := ⟨RX11, "after", "(III)I"⟩
abbrev cX11_layRun : ByteArray := prog_13_method_29_code
def yX11_layRun : MethodName := ⟨RX11, "layRun", "(II)V"⟩
abbrev cX11_run : ByteArray := prog_13_method_30_code
def yX11_run : MethodName := ⟨RX11, "run", "(III)I"⟩
abbrev cX11_till : ByteArray := prog_13_method_31_code
def yX11_till : MethodName := ⟨RX11, "till", "(IIZ)I"⟩
abbrev cX11_isRest : ByteArray := prog_13_method_32_code
def yX11_isRest : MethodName := ⟨RX11, "isRest", "(II)Z"⟩
abbrev cX11_rests : ByteArray := prog_13_method_33_code
def yX11_rests : MethodName := ⟨RX11, "rests", "(I)I"⟩
abbrev cX11_rest : ByteArray := prog_13_method_34_code
def yX11_rest : MethodName := ⟨RX11, "rest", "(II)I"⟩
abbrev cX11_settleOf : ByteArray := prog_13_method_35_code
def yX11_settleOf : MethodName := ⟨RX11, "settleOf", "(II)I"⟩
abbrev cX11_settle : ByteArray := prog_13_method_36_code
def yX11_settle : MethodName := ⟨RX11, "settle", "(II)I"⟩
abbrev cX11_layCurve : ByteArray := prog_13_method_37_code
def yX11_layCurve : MethodName := ⟨RX11, "layCurve", "(III)V"⟩
abbrev cX11_jumps : ByteArray := prog_13_method_38_code
def yX11_jumps : MethodName := ⟨RX11, "jumps", "(III)I"⟩
abbrev cX11_jump : ByteArray := prog_13_method_39_code
def yX11_jump : MethodName := ⟨RX11, "jump", "(IIII)I"⟩
abbrev cX11_curve : ByteArray := prog_13_method_40_code
def yX11_curve : MethodName := ⟨RX11, "curve", "(III)I"⟩
abbrev cX11_least : ByteArray := prog_13_method_41_code
def yX11_least : MethodName := ⟨RX11, "least", "(Z)I"⟩
abbrev cX11_isBed : ByteArray := prog_13_method_42_code
def yX11_isBed : MethodName := ⟨RX11, "isBed", "(I)Z"⟩
abbrev cX11_bed : ByteArray := prog_13_method_43_code
def yX11_bed : MethodName := ⟨RX11, "bed", "(IIIIII)I"⟩
abbrev cX11_forget : ByteArray := prog_13_method_44_code
def yX11_forget : MethodName := ⟨RX11, "forget", "()I"⟩
abbrev cX11_slide : ByteArray := prog_13_method_45_code
def yX11_slide : MethodName := ⟨RX11, "slide", "(I)I"⟩
abbrev cX11_isIcy : ByteArray := prog_13_method_46_code
def yX11_isIcy : MethodName := ⟨RX11, "isIcy", "(I)Z"⟩
abbrev cX11_about : ByteArray := prog_13_method_47_code
def yX11_about : MethodName := ⟨RX11, "about", "(II)I"⟩
abbrev cX11_rounds : ByteArray := prog_13_method_48_code
def yX11_rounds : MethodName := ⟨RX11, "rounds", "(III)I"⟩
abbrev cX11_explains : ByteArray := prog_13_method_49_code
def yX11_explains : MethodName := ⟨RX11, "explains", "(II)I"⟩
abbrev cX11_chanceOf : ByteArray := prog_13_method_50_code
def yX11_chanceOf : MethodName := ⟨RX11, "chanceOf", "(II)I"⟩
abbrev cX11_told : ByteArray := prog_13_method_51_code
def yX11_told : MethodName := ⟨RX11, "told", "(JJZ)J"⟩
abbrev cX11_chance : ByteArray := prog_13_method_52_code
def yX11_chance : MethodName := ⟨RX11, "chance", "(IIZ)J"⟩
abbrev cX11_weight : ByteArray := prog_13_method_53_code
def yX11_weight : MethodName := ⟨RX11, "weight", "(II)I"⟩
abbrev cX11_layLots : ByteArray := prog_13_method_54_code
def yX11_layLots : MethodName := ⟨RX11, "layLots", "(I)V"⟩
abbrev cX11_odds : ByteArray := prog_13_method_55_code
def yX11_odds : MethodName := ⟨RX11, "odds", "(IZ)J"⟩
abbrev cX11_bestOf : ByteArray := prog_13_method_56_code
def yX11_bestOf : MethodName := ⟨RX11, "bestOf", "()I"⟩
abbrev cX11_best : ByteArray := prog_13_method_57_code
def yX11_best : MethodName := ⟨RX11, "best", "()I"⟩
abbrev cX11_millionths : ByteArray := prog_13_method_58_code
def yX11_millionths : MethodName := ⟨RX11, "millionths", "(I)I"⟩
abbrev cX11_mover : ByteArray := prog_13_method_59_code
def yX11_mover : MethodName := ⟨RX11, "mover", "()I"⟩
abbrev cX11_next : ByteArray := prog_13_method_60_code
def yX11_next : MethodName := ⟨RX11, "next", "()I"⟩
abbrev cX11_once : ByteArray := prog_13_method_61_code
def yX11_once : MethodName := ⟨RX11, "once", "()I"⟩
abbrev cX11_firstEnd : ByteArray := prog_13_method_62_code
def yX11_firstEnd : MethodName := ⟨RX11, "firstEnd", "(I)I"⟩
abbrev cX11_times : ByteArray := prog_13_method_63_code
def yX11_times : MethodName := ⟨RX11, "times", "()I"⟩
abbrev cX11_time : ByteArray := prog_13_method_64_code
def yX11_time : MethodName := ⟨RX11, "time", "(I)I"⟩
abbrev cX11_layOrder : ByteArray := prog_13_method_65_code
def yX11_layOrder : MethodName := ⟨RX11, "layOrder", "(I)Z"⟩
abbrev cX11_order : ByteArray := prog_13_method_66_code
def yX11_order : MethodName := ⟨RX11, "order", "(I)I"⟩
abbrev cX11_gap : ByteArray := prog_13_method_67_code
def yX11_gap : MethodName := ⟨RX11, "gap", "(I)I"⟩
abbrev cX11_poleOf : ByteArray := prog_13_method_68_code
def yX11_poleOf : MethodName := ⟨RX11, "poleOf", "(II)I"⟩
abbrev cX11_pole : ByteArray := prog_13_method_69_code
def yX11_pole : MethodName := ⟨RX11, "pole", "(II)I"⟩
abbrev cX11_elsewhere : ByteArray := prog_13_method_70_code
def yX11_elsewhere : MethodName := ⟨RX11, "elsewhere", "(I)I"⟩
abbrev cX11_keep : ByteArray := prog_13_method_71_code
def yX11_keep : MethodName := ⟨RX11, "keep", "(I)I"⟩
abbrev cX11_again : ByteArray := prog_13_method_72_code
def yX11_again : MethodName := ⟨RX11, "again", "(I)I"⟩
abbrev cX11_count : ByteArray := prog_13_method_73_code
def yX11_count : MethodName := ⟨RX11, "count", "(I)I"⟩
def RJ11 : String := "java/lang/Character"
abbrev cJ11_isValidCodePoint_9a6ad : ByteArray := prog_14_method_11_code
def yJ11_isValidCodePoint_9a6ad : MethodName := ⟨RJ11, "isValidCodePoint", "(I)Z"⟩
abbrev cJ11_highSurrogate_5068e : ByteArray := prog_14_method_28_code
def yJ11_highSurrogate_5068e : MethodName := ⟨RJ11, "highSurrogate", "(I)C"⟩
abbrev cJ11_lowSurrogate_5068e : ByteArray := prog_14_method_29_code
def yJ11_lowSurrogate_5068e : MethodName := ⟨RJ11, "lowSurrogate", "(I)C"⟩
def RJ6 : String := "java/lang/Integer"
abbrev cJ6_bitCount_0f7a4 : ByteArray := prog_15_method_49_code
def yJ6_bitCount_0f7a4 : MethodName := ⟨RJ6, "bitCount", "(I)I"⟩
def RJ9 : String := "java/lang/Math"
abbrev cJ9_abs_0f7a4 : ByteArray := prog_16_method_59_code
def yJ9_abs_0f7a4 : MethodName := ⟨RJ9, "abs", "(I)I"⟩
abbrev cJ9_abs_067f4 : ByteArray := prog_16_method_61_code
def yJ9_abs_067f4 : MethodName := ⟨RJ9, "abs", "(J)J"⟩
abbrev cJ9_max_7cf53 : ByteArray := prog_16_method_65_code
def yJ9_max_7cf53 : MethodName := ⟨RJ9, "max", "(II)I"⟩
abbrev cJ9_min_7cf53 : ByteArray := prog_16_method_69_code
def yJ9_min_7cf53 : MethodName := ⟨RJ9, "min", "(II)I"⟩
def RJ0 : String := "java/lang/String"
abbrev cJ0_length_8abf5 : ByteArray := prog_17_method_54_code
def yJ0_length_8abf5 : MethodName := ⟨RJ0, "length", "()I"⟩
abbrev cJ0_indexOf_0f7a4 : ByteArray := prog_17_method_79_code
def yJ0_indexOf_0f7a4 : MethodName := ⟨RJ0, "indexOf", "(I)I"⟩
abbrev cJ0_indexOf_7cf53 : ByteArray := prog_17_method_80_code
def yJ0_indexOf_7cf53 : MethodName := ⟨RJ0, "indexOf", "(II)I"⟩
abbrev cJ0_coder_7d493 : ByteArray := prog_17_method_152_code
def yJ0_coder_7d493 : MethodName := ⟨RJ0, "coder", "()B"⟩
abbrev cJ0_isLatin1_aae02 : ByteArray := prog_17_method_154_code
def yJ0_isLatin1_aae02 : MethodName := ⟨RJ0, "isLatin1", "()Z"⟩
abbrev cJ0_checkBoundsBeginEnd_23922 : ByteArray := prog_17_method_158_code
def yJ0_checkBoundsBeginEnd_23922 : MethodName := ⟨RJ0, "checkBoundsBeginEnd", "(III)V"⟩
def RJ1 : String := "java/lang/StringLatin1"
abbrev cJ1_canEncode_9a6ad : ByteArray := prog_18_method_4_code
def yJ1_canEncode_9a6ad : MethodName := ⟨RJ1, "canEncode", "(I)Z"⟩
abbrev cJ1_indexOf_4cfef : ByteArray := prog_18_method_22_code
def yJ1_indexOf_4cfef : MethodName := ⟨RJ1, "indexOf", "([BIII)I"⟩
abbrev cJ1_indexOfChar_4cfef : ByteArray := prog_18_method_23_code
def yJ1_indexOfChar_4cfef : MethodName := ⟨RJ1, "indexOfChar", "([BIII)I"⟩
def RJ2 : String := "java/lang/StringUTF16"
abbrev cJ2_getChar_3b067 : ByteArray := prog_19_method_5_code
def yJ2_getChar_3b067 : MethodName := ⟨RJ2, "getChar", "([BI)C"⟩
abbrev cJ2_length_9d52b : ByteArray := prog_19_method_6_code
def yJ2_length_9d52b : MethodName := ⟨RJ2, "length", "([B)I"⟩
abbrev cJ2_indexOf_4cfef : ByteArray := prog_19_method_40_code
def yJ2_indexOf_4cfef : MethodName := ⟨RJ2, "indexOf", "([BIII)I"⟩
abbrev cJ2_indexOfChar_4cfef : ByteArray := prog_19_method_47_code
def yJ2_indexOfChar_4cfef : MethodName := ⟨RJ2, "indexOfChar", "([BIII)I"⟩
abbrev cJ2_indexOfCharUnsafe_4cfef : ByteArray := prog_19_method_48_code
def yJ2_indexOfCharUnsafe_4cfef : MethodName := ⟨RJ2, "indexOfCharUnsafe", "([BIII)I"⟩
abbrev cJ2_indexOfSupplementary_4cfef : ByteArray := prog_19_method_49_code
def yJ2_indexOfSupplementary_4cfef : MethodName := ⟨RJ2, "indexOfSupplementary", "([BIII)I"⟩
abbrev cJ2_checkBoundsBeginEnd_d044e : ByteArray := prog_19_method_93_code
def yJ2_checkBoundsBeginEnd_d044e : MethodName := ⟨RJ2, "checkBoundsBeginEnd", "(II[B)V"⟩
def RJ10 : String := "java/lang/System"
def RJ3 : String := "jdk/internal/util/Preconditions"
abbrev cJ3_checkFromToIndex_8c36e : ByteArray := prog_21_method_12_code
def yJ3_checkFromToIndex_8c36e : MethodName := ⟨RJ3, "checkFromToIndex", "(IIILjava/util/function/BiFunction;)I"⟩
def RL : String := "IceAtTheMiddleLaw"
abbrev cL_law : ByteArray := code
def yL_law : MethodName := ⟨RL, "law", "([I)Z"⟩
abbrev vwCl : List vw_C := [(RX0, TX0, 1), (RX1, TX1, 3), (RX2, TX2, 2), (RX3, TX3, 1), (RX4, TX4, 4), (RX5, TX5, 3), (RX6, TX6, 5), (RX7, TX7, 4), (RX8, TX8, 7), (RX9, TX9, 2), (RX10, TX10, 11), (RX11, TX11, 29)]
