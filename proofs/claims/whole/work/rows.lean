section
-- ===== PART A: goes FIRST, ahead of the names: the tables' words, and 'selects' of the private methods out of them =====
/-- a private method of a class that the tables say can be made, by its rows of tables_1 -/
def lw_okq (q : MethodName × Nat) : Prop := (q.1.cls ≠ "java/lang/invoke/MethodHandle" ∧ q.1.cls ≠ "java/lang/invoke/VarHandle") ∧ Cond.instantiable q.1.cls q.2 ∈ tables_1 ∧ Cond.privateMethod q.1 ∈ tables_1 ∧ Cond.instanceMethod q.1 ∈ tables_1
theorem lw_p0 : lw_okq (⟨"IceAtTheMiddle$StoryReader", "begin", "()V"⟩, 7) := ⟨⟨by decide +kernel, by decide +kernel⟩, List.mem_of_getElem? (i := 72) (by decide +kernel), List.mem_of_getElem? (i := 280) (by decide +kernel), List.mem_of_getElem? (i := 281) (by decide +kernel)⟩
theorem lw_p1 : lw_okq (⟨"IceAtTheMiddle$StoryReader", "takes", "(I)Z"⟩, 7) := ⟨⟨by decide +kernel, by decide +kernel⟩, List.mem_of_getElem? (i := 72) (by decide +kernel), List.mem_of_getElem? (i := 284) (by decide +kernel), List.mem_of_getElem? (i := 285) (by decide +kernel)⟩
theorem lw_p2 : lw_okq (⟨"IceAtTheMiddle$StoryReader", "takesTens", "(I)Z"⟩, 7) := ⟨⟨by decide +kernel, by decide +kernel⟩, List.mem_of_getElem? (i := 72) (by decide +kernel), List.mem_of_getElem? (i := 288) (by decide +kernel), List.mem_of_getElem? (i := 289) (by decide +kernel)⟩
theorem lw_p3 : lw_okq (⟨"IceAtTheMiddle$StoryReader", "takesOnes", "(I)Z"⟩, 7) := ⟨⟨by decide +kernel, by decide +kernel⟩, List.mem_of_getElem? (i := 72) (by decide +kernel), List.mem_of_getElem? (i := 295) (by decide +kernel), List.mem_of_getElem? (i := 296) (by decide +kernel)⟩
theorem lw_p4 : lw_okq (⟨"IceAtTheMiddle$StoryReader", "takesColon", "(I)Z"⟩, 7) := ⟨⟨by decide +kernel, by decide +kernel⟩, List.mem_of_getElem? (i := 72) (by decide +kernel), List.mem_of_getElem? (i := 299) (by decide +kernel), List.mem_of_getElem? (i := 300) (by decide +kernel)⟩
theorem lw_p5 : lw_okq (⟨"IceAtTheMiddle$StoryReader", "takesNextEntry", "()Z"⟩, 7) := ⟨⟨by decide +kernel, by decide +kernel⟩, List.mem_of_getElem? (i := 72) (by decide +kernel), List.mem_of_getElem? (i := 306) (by decide +kernel), List.mem_of_getElem? (i := 307) (by decide +kernel)⟩
theorem lw_p6 : lw_okq (⟨"IceAtTheMiddle$StoryReader", "takesBand", "(I)Z"⟩, 7) := ⟨⟨by decide +kernel, by decide +kernel⟩, List.mem_of_getElem? (i := 72) (by decide +kernel), List.mem_of_getElem? (i := 310) (by decide +kernel), List.mem_of_getElem? (i := 311) (by decide +kernel)⟩
theorem lw_p7 : lw_okq (⟨"IceAtTheMiddle$LawReader", "begin", "()V"⟩, 5) := ⟨⟨by decide +kernel, by decide +kernel⟩, List.mem_of_getElem? (i := 49) (by decide +kernel), List.mem_of_getElem? (i := 321) (by decide +kernel), List.mem_of_getElem? (i := 322) (by decide +kernel)⟩
theorem lw_p8 : lw_okq (⟨"IceAtTheMiddle$LawReader", "takes", "(I)Z"⟩, 5) := ⟨⟨by decide +kernel, by decide +kernel⟩, List.mem_of_getElem? (i := 49) (by decide +kernel), List.mem_of_getElem? (i := 325) (by decide +kernel), List.mem_of_getElem? (i := 326) (by decide +kernel)⟩
theorem lw_p9 : lw_okq (⟨"IceAtTheMiddle$LawReader", "takesFigure", "(I)Z"⟩, 5) := ⟨⟨by decide +kernel, by decide +kernel⟩, List.mem_of_getElem? (i := 49) (by decide +kernel), List.mem_of_getElem? (i := 329) (by decide +kernel), List.mem_of_getElem? (i := 330) (by decide +kernel)⟩
theorem lw_p10 : lw_okq (⟨"IceAtTheMiddle$LawReader", "takesBand", "(I)Z"⟩, 5) := ⟨⟨by decide +kernel, by decide +kernel⟩, List.mem_of_getElem? (i := 49) (by decide +kernel), List.mem_of_getElem? (i := 335) (by decide +kernel), List.mem_of_getElem? (i := 336) (by decide +kernel)⟩
theorem lw_p11 : lw_okq (⟨"IceAtTheMiddle$LawReader", "opens", "(I)Z"⟩, 5) := ⟨⟨by decide +kernel, by decide +kernel⟩, List.mem_of_getElem? (i := 49) (by decide +kernel), List.mem_of_getElem? (i := 340) (by decide +kernel), List.mem_of_getElem? (i := 341) (by decide +kernel)⟩
theorem lw_p12 : lw_okq (⟨"IceAtTheMiddle$LawReader", "takesKind", "(I)Z"⟩, 5) := ⟨⟨by decide +kernel, by decide +kernel⟩, List.mem_of_getElem? (i := 49) (by decide +kernel), List.mem_of_getElem? (i := 344) (by decide +kernel), List.mem_of_getElem? (i := 345) (by decide +kernel)⟩
theorem lw_p13 : lw_okq (⟨"IceAtTheMiddle$LawReader", "someBandIsUntold", "()Z"⟩, 5) := ⟨⟨by decide +kernel, by decide +kernel⟩, List.mem_of_getElem? (i := 49) (by decide +kernel), List.mem_of_getElem? (i := 348) (by decide +kernel), List.mem_of_getElem? (i := 349) (by decide +kernel)⟩
theorem lw_p14 : lw_okq (⟨"IceAtTheMiddle$Run", "isNew", "(I)Z"⟩, 4) := ⟨⟨by decide +kernel, by decide +kernel⟩, List.mem_of_getElem? (i := 113) (by decide +kernel), List.mem_of_getElem? (i := 552) (by decide +kernel), List.mem_of_getElem? (i := 553) (by decide +kernel)⟩
theorem lw_p15 : lw_okq (⟨"IceAtTheMiddle$Curve", "add", "(I)V"⟩, 3) := ⟨⟨by decide +kernel, by decide +kernel⟩, List.mem_of_getElem? (i := 133) (by decide +kernel), List.mem_of_getElem? (i := 631) (by decide +kernel), List.mem_of_getElem? (i := 632) (by decide +kernel)⟩
def lw_privs_1 : List (MethodName × Nat) := [(⟨"IceAtTheMiddle$StoryReader", "begin", "()V"⟩, 7), (⟨"IceAtTheMiddle$StoryReader", "takes", "(I)Z"⟩, 7), (⟨"IceAtTheMiddle$StoryReader", "takesTens", "(I)Z"⟩, 7), (⟨"IceAtTheMiddle$StoryReader", "takesOnes", "(I)Z"⟩, 7), (⟨"IceAtTheMiddle$StoryReader", "takesColon", "(I)Z"⟩, 7), (⟨"IceAtTheMiddle$StoryReader", "takesNextEntry", "()Z"⟩, 7), (⟨"IceAtTheMiddle$StoryReader", "takesBand", "(I)Z"⟩, 7), (⟨"IceAtTheMiddle$LawReader", "begin", "()V"⟩, 5), (⟨"IceAtTheMiddle$LawReader", "takes", "(I)Z"⟩, 5), (⟨"IceAtTheMiddle$LawReader", "takesFigure", "(I)Z"⟩, 5), (⟨"IceAtTheMiddle$LawReader", "takesBand", "(I)Z"⟩, 5), (⟨"IceAtTheMiddle$LawReader", "opens", "(I)Z"⟩, 5), (⟨"IceAtTheMiddle$LawReader", "takesKind", "(I)Z"⟩, 5), (⟨"IceAtTheMiddle$LawReader", "someBandIsUntold", "()Z"⟩, 5), (⟨"IceAtTheMiddle$Run", "isNew", "(I)Z"⟩, 4), (⟨"IceAtTheMiddle$Curve", "add", "(I)V"⟩, 3)]
theorem lw_r1 : ∀ q ∈ lw_privs_1, lw_okq q := List.forall_mem_cons.mpr ⟨lw_p0, List.forall_mem_cons.mpr ⟨lw_p1, List.forall_mem_cons.mpr ⟨lw_p2, List.forall_mem_cons.mpr ⟨lw_p3, List.forall_mem_cons.mpr ⟨lw_p4, List.forall_mem_cons.mpr ⟨lw_p5, List.forall_mem_cons.mpr ⟨lw_p6, List.forall_mem_cons.mpr ⟨lw_p7, List.forall_mem_cons.mpr ⟨lw_p8, List.forall_mem_cons.mpr ⟨lw_p9, List.forall_mem_cons.mpr ⟨lw_p10, List.forall_mem_cons.mpr ⟨lw_p11, List.forall_mem_cons.mpr ⟨lw_p12, List.forall_mem_cons.mpr ⟨lw_p13, List.forall_mem_cons.mpr ⟨lw_p14, List.forall_mem_cons.mpr ⟨lw_p15, fun _ h => absurd h List.not_mem_nil⟩⟩⟩⟩⟩⟩⟩⟩⟩⟩⟩⟩⟩⟩⟩⟩
theorem lw_p16 : lw_okq (⟨"IceAtTheMiddle", "isBed", "(I)Z"⟩, 11) := ⟨⟨by decide +kernel, by decide +kernel⟩, List.mem_of_getElem? (i := 22) (by decide +kernel), List.mem_of_getElem? (i := 672) (by decide +kernel), List.mem_of_getElem? (i := 673) (by decide +kernel)⟩
theorem lw_p17 : lw_okq (⟨"IceAtTheMiddle$Judge", "weighWithout", "(LIceAtTheMiddle$Ground;I)V"⟩, 3) := ⟨⟨by decide +kernel, by decide +kernel⟩, List.mem_of_getElem? (i := 185) (by decide +kernel), List.mem_of_getElem? (i := 741) (by decide +kernel), List.mem_of_getElem? (i := 742) (by decide +kernel)⟩
theorem lw_p18 : lw_okq (⟨"IceAtTheMiddle$Judge", "shareWithIce", "(LIceAtTheMiddle$Chronicle;II)J"⟩, 3) := ⟨⟨by decide +kernel, by decide +kernel⟩, List.mem_of_getElem? (i := 185) (by decide +kernel), List.mem_of_getElem? (i := 777) (by decide +kernel), List.mem_of_getElem? (i := 778) (by decide +kernel)⟩
theorem lw_p19 : lw_okq (⟨"IceAtTheMiddleModel", "readStory", "()I"⟩, 29) := ⟨⟨by decide +kernel, by decide +kernel⟩, List.mem_of_getElem? (i := 879) (by decide +kernel), List.mem_of_getElem? (i := 991) (by decide +kernel), List.mem_of_getElem? (i := 992) (by decide +kernel)⟩
theorem lw_p20 : lw_okq (⟨"IceAtTheMiddleModel", "readEntry", "(I)I"⟩, 29) := ⟨⟨by decide +kernel, by decide +kernel⟩, List.mem_of_getElem? (i := 879) (by decide +kernel), List.mem_of_getElem? (i := 995) (by decide +kernel), List.mem_of_getElem? (i := 996) (by decide +kernel)⟩
theorem lw_p21 : lw_okq (⟨"IceAtTheMiddleModel", "figure", "(I)I"⟩, 29) := ⟨⟨by decide +kernel, by decide +kernel⟩, List.mem_of_getElem? (i := 879) (by decide +kernel), List.mem_of_getElem? (i := 999) (by decide +kernel), List.mem_of_getElem? (i := 1000) (by decide +kernel)⟩
theorem lw_p22 : lw_okq (⟨"IceAtTheMiddleModel", "fail", "()V"⟩, 29) := ⟨⟨by decide +kernel, by decide +kernel⟩, List.mem_of_getElem? (i := 879) (by decide +kernel), List.mem_of_getElem? (i := 1004) (by decide +kernel), List.mem_of_getElem? (i := 1005) (by decide +kernel)⟩
theorem lw_p23 : lw_okq (⟨"IceAtTheMiddleModel", "isNext", "(I)Z"⟩, 29) := ⟨⟨by decide +kernel, by decide +kernel⟩, List.mem_of_getElem? (i := 879) (by decide +kernel), List.mem_of_getElem? (i := 1008) (by decide +kernel), List.mem_of_getElem? (i := 1009) (by decide +kernel)⟩
theorem lw_p24 : lw_okq (⟨"IceAtTheMiddleModel", "readLaw", "()I"⟩, 29) := ⟨⟨by decide +kernel, by decide +kernel⟩, List.mem_of_getElem? (i := 879) (by decide +kernel), List.mem_of_getElem? (i := 1012) (by decide +kernel), List.mem_of_getElem? (i := 1013) (by decide +kernel)⟩
theorem lw_p25 : lw_okq (⟨"IceAtTheMiddleModel", "roundOf", "(I)I"⟩, 29) := ⟨⟨by decide +kernel, by decide +kernel⟩, List.mem_of_getElem? (i := 879) (by decide +kernel), List.mem_of_getElem? (i := 1045) (by decide +kernel), List.mem_of_getElem? (i := 1046) (by decide +kernel)⟩
theorem lw_p26 : lw_okq (⟨"IceAtTheMiddleModel", "iceThen", "(II)I"⟩, 29) := ⟨⟨by decide +kernel, by decide +kernel⟩, List.mem_of_getElem? (i := 879) (by decide +kernel), List.mem_of_getElem? (i := 1052) (by decide +kernel), List.mem_of_getElem? (i := 1053) (by decide +kernel)⟩
theorem lw_p27 : lw_okq (⟨"IceAtTheMiddleModel", "warmthOf", "(III)I"⟩, 29) := ⟨⟨by decide +kernel, by decide +kernel⟩, List.mem_of_getElem? (i := 879) (by decide +kernel), List.mem_of_getElem? (i := 1056) (by decide +kernel), List.mem_of_getElem? (i := 1057) (by decide +kernel)⟩
theorem lw_p28 : lw_okq (⟨"IceAtTheMiddleModel", "taken", "(II)I"⟩, 29) := ⟨⟨by decide +kernel, by decide +kernel⟩, List.mem_of_getElem? (i := 879) (by decide +kernel), List.mem_of_getElem? (i := 1060) (by decide +kernel), List.mem_of_getElem? (i := 1061) (by decide +kernel)⟩
theorem lw_p29 : lw_okq (⟨"IceAtTheMiddleModel", "layRun", "(II)V"⟩, 29) := ⟨⟨by decide +kernel, by decide +kernel⟩, List.mem_of_getElem? (i := 879) (by decide +kernel), List.mem_of_getElem? (i := 1087) (by decide +kernel), List.mem_of_getElem? (i := 1088) (by decide +kernel)⟩
theorem lw_p30 : lw_okq (⟨"IceAtTheMiddleModel", "isRest", "(II)Z"⟩, 29) := ⟨⟨by decide +kernel, by decide +kernel⟩, List.mem_of_getElem? (i := 879) (by decide +kernel), List.mem_of_getElem? (i := 1099) (by decide +kernel), List.mem_of_getElem? (i := 1100) (by decide +kernel)⟩
theorem lw_p31 : lw_okq (⟨"IceAtTheMiddleModel", "settleOf", "(II)I"⟩, 29) := ⟨⟨by decide +kernel, by decide +kernel⟩, List.mem_of_getElem? (i := 879) (by decide +kernel), List.mem_of_getElem? (i := 1111) (by decide +kernel), List.mem_of_getElem? (i := 1112) (by decide +kernel)⟩
def lw_privs_2 : List (MethodName × Nat) := [(⟨"IceAtTheMiddle", "isBed", "(I)Z"⟩, 11), (⟨"IceAtTheMiddle$Judge", "weighWithout", "(LIceAtTheMiddle$Ground;I)V"⟩, 3), (⟨"IceAtTheMiddle$Judge", "shareWithIce", "(LIceAtTheMiddle$Chronicle;II)J"⟩, 3), (⟨"IceAtTheMiddleModel", "readStory", "()I"⟩, 29), (⟨"IceAtTheMiddleModel", "readEntry", "(I)I"⟩, 29), (⟨"IceAtTheMiddleModel", "figure", "(I)I"⟩, 29), (⟨"IceAtTheMiddleModel", "fail", "()V"⟩, 29), (⟨"IceAtTheMiddleModel", "isNext", "(I)Z"⟩, 29), (⟨"IceAtTheMiddleModel", "readLaw", "()I"⟩, 29), (⟨"IceAtTheMiddleModel", "roundOf", "(I)I"⟩, 29), (⟨"IceAtTheMiddleModel", "iceThen", "(II)I"⟩, 29), (⟨"IceAtTheMiddleModel", "warmthOf", "(III)I"⟩, 29), (⟨"IceAtTheMiddleModel", "taken", "(II)I"⟩, 29), (⟨"IceAtTheMiddleModel", "layRun", "(II)V"⟩, 29), (⟨"IceAtTheMiddleModel", "isRest", "(II)Z"⟩, 29), (⟨"IceAtTheMiddleModel", "settleOf", "(II)I"⟩, 29)]
theorem lw_r2 : ∀ q ∈ lw_privs_2, lw_okq q := List.forall_mem_cons.mpr ⟨lw_p16, List.forall_mem_cons.mpr ⟨lw_p17, List.forall_mem_cons.mpr ⟨lw_p18, List.forall_mem_cons.mpr ⟨lw_p19, List.forall_mem_cons.mpr ⟨lw_p20, List.forall_mem_cons.mpr ⟨lw_p21, List.forall_mem_cons.mpr ⟨lw_p22, List.forall_mem_cons.mpr ⟨lw_p23, List.forall_mem_cons.mpr ⟨lw_p24, List.forall_mem_cons.mpr ⟨lw_p25, List.forall_mem_cons.mpr ⟨lw_p26, List.forall_mem_cons.mpr ⟨lw_p27, List.forall_mem_cons.mpr ⟨lw_p28, List.forall_mem_cons.mpr ⟨lw_p29, List.forall_mem_cons.mpr ⟨lw_p30, List.forall_mem_cons.mpr ⟨lw_p31, fun _ h => absurd h List.not_mem_nil⟩⟩⟩⟩⟩⟩⟩⟩⟩⟩⟩⟩⟩⟩⟩⟩
theorem lw_p32 : lw_okq (⟨"IceAtTheMiddleModel", "layCurve", "(III)V"⟩, 29) := ⟨⟨by decide +kernel, by decide +kernel⟩, List.mem_of_getElem? (i := 879) (by decide +kernel), List.mem_of_getElem? (i := 1119) (by decide +kernel), List.mem_of_getElem? (i := 1120) (by decide +kernel)⟩
theorem lw_p33 : lw_okq (⟨"IceAtTheMiddleModel", "isBed", "(I)Z"⟩, 29) := ⟨⟨by decide +kernel, by decide +kernel⟩, List.mem_of_getElem? (i := 879) (by decide +kernel), List.mem_of_getElem? (i := 1149) (by decide +kernel), List.mem_of_getElem? (i := 1150) (by decide +kernel)⟩
theorem lw_p34 : lw_okq (⟨"IceAtTheMiddleModel", "slide", "(I)I"⟩, 29) := ⟨⟨by decide +kernel, by decide +kernel⟩, List.mem_of_getElem? (i := 879) (by decide +kernel), List.mem_of_getElem? (i := 1154) (by decide +kernel), List.mem_of_getElem? (i := 1155) (by decide +kernel)⟩
theorem lw_p35 : lw_okq (⟨"IceAtTheMiddleModel", "isIcy", "(I)Z"⟩, 29) := ⟨⟨by decide +kernel, by decide +kernel⟩, List.mem_of_getElem? (i := 879) (by decide +kernel), List.mem_of_getElem? (i := 1158) (by decide +kernel), List.mem_of_getElem? (i := 1159) (by decide +kernel)⟩
theorem lw_p36 : lw_okq (⟨"IceAtTheMiddleModel", "rounds", "(III)I"⟩, 29) := ⟨⟨by decide +kernel, by decide +kernel⟩, List.mem_of_getElem? (i := 879) (by decide +kernel), List.mem_of_getElem? (i := 1166) (by decide +kernel), List.mem_of_getElem? (i := 1167) (by decide +kernel)⟩
theorem lw_p37 : lw_okq (⟨"IceAtTheMiddleModel", "chanceOf", "(II)I"⟩, 29) := ⟨⟨by decide +kernel, by decide +kernel⟩, List.mem_of_getElem? (i := 879) (by decide +kernel), List.mem_of_getElem? (i := 1174) (by decide +kernel), List.mem_of_getElem? (i := 1175) (by decide +kernel)⟩
theorem lw_p38 : lw_okq (⟨"IceAtTheMiddleModel", "layLots", "(I)V"⟩, 29) := ⟨⟨by decide +kernel, by decide +kernel⟩, List.mem_of_getElem? (i := 879) (by decide +kernel), List.mem_of_getElem? (i := 1191) (by decide +kernel), List.mem_of_getElem? (i := 1192) (by decide +kernel)⟩
theorem lw_p39 : lw_okq (⟨"IceAtTheMiddleModel", "bestOf", "()I"⟩, 29) := ⟨⟨by decide +kernel, by decide +kernel⟩, List.mem_of_getElem? (i := 879) (by decide +kernel), List.mem_of_getElem? (i := 1200) (by decide +kernel), List.mem_of_getElem? (i := 1201) (by decide +kernel)⟩
theorem lw_p40 : lw_okq (⟨"IceAtTheMiddleModel", "millionths", "(I)I"⟩, 29) := ⟨⟨by decide +kernel, by decide +kernel⟩, List.mem_of_getElem? (i := 879) (by decide +kernel), List.mem_of_getElem? (i := 1208) (by decide +kernel), List.mem_of_getElem? (i := 1209) (by decide +kernel)⟩
theorem lw_p41 : lw_okq (⟨"IceAtTheMiddleModel", "firstEnd", "(I)I"⟩, 29) := ⟨⟨by decide +kernel, by decide +kernel⟩, List.mem_of_getElem? (i := 879) (by decide +kernel), List.mem_of_getElem? (i := 1225) (by decide +kernel), List.mem_of_getElem? (i := 1226) (by decide +kernel)⟩
theorem lw_p42 : lw_okq (⟨"IceAtTheMiddleModel", "layOrder", "(I)Z"⟩, 29) := ⟨⟨by decide +kernel, by decide +kernel⟩, List.mem_of_getElem? (i := 879) (by decide +kernel), List.mem_of_getElem? (i := 1237) (by decide +kernel), List.mem_of_getElem? (i := 1238) (by decide +kernel)⟩
theorem lw_p43 : lw_okq (⟨"IceAtTheMiddleModel", "poleOf", "(II)I"⟩, 29) := ⟨⟨by decide +kernel, by decide +kernel⟩, List.mem_of_getElem? (i := 879) (by decide +kernel), List.mem_of_getElem? (i := 1249) (by decide +kernel), List.mem_of_getElem? (i := 1250) (by decide +kernel)⟩
def lw_privs_3 : List (MethodName × Nat) := [(⟨"IceAtTheMiddleModel", "layCurve", "(III)V"⟩, 29), (⟨"IceAtTheMiddleModel", "isBed", "(I)Z"⟩, 29), (⟨"IceAtTheMiddleModel", "slide", "(I)I"⟩, 29), (⟨"IceAtTheMiddleModel", "isIcy", "(I)Z"⟩, 29), (⟨"IceAtTheMiddleModel", "rounds", "(III)I"⟩, 29), (⟨"IceAtTheMiddleModel", "chanceOf", "(II)I"⟩, 29), (⟨"IceAtTheMiddleModel", "layLots", "(I)V"⟩, 29), (⟨"IceAtTheMiddleModel", "bestOf", "()I"⟩, 29), (⟨"IceAtTheMiddleModel", "millionths", "(I)I"⟩, 29), (⟨"IceAtTheMiddleModel", "firstEnd", "(I)I"⟩, 29), (⟨"IceAtTheMiddleModel", "layOrder", "(I)Z"⟩, 29), (⟨"IceAtTheMiddleModel", "poleOf", "(II)I"⟩, 29)]
theorem lw_r3 : ∀ q ∈ lw_privs_3, lw_okq q := List.forall_mem_cons.mpr ⟨lw_p32, List.forall_mem_cons.mpr ⟨lw_p33, List.forall_mem_cons.mpr ⟨lw_p34, List.forall_mem_cons.mpr ⟨lw_p35, List.forall_mem_cons.mpr ⟨lw_p36, List.forall_mem_cons.mpr ⟨lw_p37, List.forall_mem_cons.mpr ⟨lw_p38, List.forall_mem_cons.mpr ⟨lw_p39, List.forall_mem_cons.mpr ⟨lw_p40, List.forall_mem_cons.mpr ⟨lw_p41, List.forall_mem_cons.mpr ⟨lw_p42, List.forall_mem_cons.mpr ⟨lw_p43, fun _ h => absurd h List.not_mem_nil⟩⟩⟩⟩⟩⟩⟩⟩⟩⟩⟩⟩
def lw_privs : List (MethodName × Nat) := lw_privs_1 ++ (lw_privs_2 ++ (lw_privs_3))
def lw_tbl : List Cond := k2_sels lw_privs ++ tables_1
theorem lw_privs_ok : ∀ q ∈ lw_privs, lw_okq q := by
  show ∀ q ∈ lw_privs_1 ++ (lw_privs_2 ++ (lw_privs_3)), lw_okq q
  exact List.forall_mem_append.mpr ⟨lw_r1, List.forall_mem_append.mpr ⟨lw_r2, lw_r3⟩⟩
def RX0 : String := "IceAtTheMiddle$Chronicle"
def TX0 : u_T := fun k => match k with
  | _ => ("IceAtTheMiddle$Chronicle", "ice", "[I", true)
def tyX0 : Nat → FieldType := fun k => match k with
  | _ => .array .int
abbrev wsX00 : List Cond := u_ws RX0 TX0 1
theorem nmX0 : ∀ a, a < 1 → ∀ b, b < 1 → a ≠ b → (TX0 a).2.1 ≠ (TX0 b).2.1 := by decide +kernel
theorem tyX0_ok : ∀ k, k < 1 → parseFieldDescriptor (TX0 k).2.2.1 = some (tyX0 k) := by decide +kernel
abbrev cX0_init : ByteArray := prog_2_method_1_code
def yX0_init : MethodName := ⟨RX0, "<init>", "()V"⟩
abbrev cX0_tell : ByteArray := prog_2_method_2_code
def yX0_tell : MethodName := ⟨RX0, "tell", "(III)V"⟩
abbrev cX0_iceOf : ByteArray := prog_2_method_3_code
def yX0_iceOf : MethodName := ⟨RX0, "iceOf", "(II)I"⟩
abbrev cX0_someIce : ByteArray := prog_2_method_4_code
def yX0_someIce : MethodName := ⟨RX0, "someIce", "(III)I"⟩
abbrev cX0_lastingIce : ByteArray := prog_2_method_5_code
def yX0_lastingIce : MethodName := ⟨RX0, "lastingIce", "(III)I"⟩
def RX1 : String := "IceAtTheMiddle$Curve"
def TX1 : u_T := fun k => match k with
  | 0 => ("IceAtTheMiddle$Curve", "airs", "[I", true)
  | 1 => ("IceAtTheMiddle$Curve", "found", "I", false)
  | _ => ("IceAtTheMiddle$Curve", "end", "I", false)
def tyX1 : Nat → FieldType := fun k => match k with
  | 0 => .array .int
  | 1 => .int
  | _ => .int
abbrev wsX10 : List Cond := u_ws RX1 TX1 3
theorem nmX1 : ∀ a, a < 3 → ∀ b, b < 3 → a ≠ b → (TX1 a).2.1 ≠ (TX1 b).2.1 := by decide +kernel
theorem tyX1_ok : ∀ k, k < 3 → parseFieldDescriptor (TX1 k).2.2.1 = some (tyX1 k) := by decide +kernel
abbrev cX1_init : ByteArray := prog_3_method_1_code
def yX1_init : MethodName := ⟨RX1, "<init>", "()V"⟩
abbrev cX1_follow : ByteArray := prog_3_method_2_code
def yX1_follow : MethodName := ⟨RX1, "follow", "(LIceAtTheMiddle$Earth;III)V"⟩
abbrev cX1_airOf : ByteArray := prog_3_method_3_code
def yX1_airOf : MethodName := ⟨RX1, "airOf", "(I)I"⟩
abbrev cX1_isJump : ByteArray := prog_3_method_4_code
def yX1_isJump : MethodName := ⟨RX1, "isJump", "(II)Z"⟩
abbrev cX1_add : ByteArray := prog_3_method_5_code
def yX1_add : MethodName := ⟨RX1, "add", "(I)V"⟩
def RX2 : String := "IceAtTheMiddle$Dates"
def TX2 : u_T := fun k => match k with
  | 0 => ("IceAtTheMiddle$Dates", "rounds", "[I", true)
  | _ => ("IceAtTheMiddle$Dates", "found", "I", false)
def tyX2 : Nat → FieldType := fun k => match k with
  | 0 => .array .int
  | _ => .int
abbrev wsX20 : List Cond := u_ws RX2 TX2 2
theorem nmX2 : ∀ a, a < 2 → ∀ b, b < 2 → a ≠ b → (TX2 a).2.1 ≠ (TX2 b).2.1 := by decide +kernel
theorem tyX2_ok : ∀ k, k < 2 → parseFieldDescriptor (TX2 k).2.2.1 = some (tyX2 k) := by decide +kernel
abbrev cX2_init : ByteArray := prog_4_method_1_code
def yX2_init : MethodName := ⟨RX2, "<init>", "()V"⟩
abbrev cX2_firstCommonRound : ByteArray := prog_4_method_2_code
def yX2_firstCommonRound : MethodName := ⟨RX2, "firstCommonRound", "(LIceAtTheMiddle$Ground;)I"⟩
abbrev cX2_part : ByteArray := prog_4_method_3_code
def yX2_part : MethodName := ⟨RX2, "part", "(LIceAtTheMiddle$Ground;)V"⟩
abbrev cX2_firstEndBehind : ByteArray := prog_4_method_4_code
def yX2_firstEndBehind : MethodName := ⟨RX2, "firstEndBehind", "(LIceAtTheMiddle$Ground;I)I"⟩
abbrev cX2_roundOf : ByteArray := prog_4_method_5_code
def yX2_roundOf : MethodName := ⟨RX2, "roundOf", "(I)I"⟩
abbrev cX2_isInOrder : ByteArray := prog_4_method_6_code
def yX2_isInOrder : MethodName := ⟨RX2, "isInOrder", "(LIceAtTheMiddle$Ground;I)Z"⟩
abbrev cX2_earliestBelow : ByteArray := prog_4_method_7_code
def yX2_earliestBelow : MethodName := ⟨RX2, "earliestBelow", "(LIceAtTheMiddle$Ground;II)I"⟩
abbrev cX2_latestFrom : ByteArray := prog_4_method_8_code
def yX2_latestFrom : MethodName := ⟨RX2, "latestFrom", "(LIceAtTheMiddle$Ground;II)I"⟩
def RX3 : String := "IceAtTheMiddle$Earth"
def TX3 : u_T := fun k => match k with
  | _ => ("IceAtTheMiddle$Earth", "law", "[I", true)
def tyX3 : Nat → FieldType := fun k => match k with
  | _ => .array .int
abbrev wsX30 : List Cond := u_ws RX3 TX3 1
theorem nmX3 : ∀ a, a < 1 → ∀ b, b < 1 → a ≠ b → (TX3 a).2.1 ≠ (TX3 b).2.1 := by decide +kernel
theorem tyX3_ok : ∀ k, k < 1 → parseFieldDescriptor (TX3 k).2.2.1 = some (tyX3 k) := by decide +kernel
abbrev cX3_init : ByteArray := prog_5_method_1_code
def yX3_init : MethodName := ⟨RX3, "<init>", "()V"⟩
abbrev cX3_stateOf : ByteArray := prog_5_method_2_code
def yX3_stateOf : MethodName := ⟨RX3, "stateOf", "(II)I"⟩
abbrev cX3_iceIn : ByteArray := prog_5_method_3_code
def yX3_iceIn : MethodName := ⟨RX3, "iceIn", "(I)I"⟩
abbrev cX3_airIn : ByteArray := prog_5_method_4_code
def yX3_airIn : MethodName := ⟨RX3, "airIn", "(I)I"⟩
abbrev cX3_takenBy : ByteArray := prog_5_method_5_code
def yX3_takenBy : MethodName := ⟨RX3, "takenBy", "(II)I"⟩
abbrev cX3_fortyWarmth : ByteArray := prog_5_method_6_code
def yX3_fortyWarmth : MethodName := ⟨RX3, "fortyWarmth", "(III)I"⟩
abbrev cX3_iceAfter : ByteArray := prog_5_method_7_code
def yX3_iceAfter : MethodName := ⟨RX3, "iceAfter", "(II)I"⟩
abbrev cX3_airAfter : ByteArray := prog_5_method_8_code
def yX3_airAfter : MethodName := ⟨RX3, "airAfter", "(II)I"⟩
abbrev cX3_stateAfter : ByteArray := prog_5_method_9_code
def yX3_stateAfter : MethodName := ⟨RX3, "stateAfter", "(I)I"⟩
abbrev cX3_isRest : ByteArray := prog_5_method_10_code
def yX3_isRest : MethodName := ⟨RX3, "isRest", "(II)Z"⟩
abbrev cX3_settled : ByteArray := prog_5_method_11_code
def yX3_settled : MethodName := ⟨RX3, "settled", "(II)I"⟩
def RX4 : String := "IceAtTheMiddle$Ground"
def TX4 : u_T := fun k => match k with
  | 0 => ("IceAtTheMiddle$Ground", "marks", "[I", true)
  | 1 => ("IceAtTheMiddle$Ground", "weights", "[I", true)
  | 2 => ("IceAtTheMiddle$Ground", "beds", "I", false)
  | _ => ("IceAtTheMiddle$Ground", "isKept", "Z", false)
def tyX4 : Nat → FieldType := fun k => match k with
  | 0 => .array .int
  | 1 => .array .int
  | 2 => .int
  | _ => .boolean
abbrev wsX40 : List Cond := u_ws RX4 TX4 4
theorem nmX4 : ∀ a, a < 4 → ∀ b, b < 4 → a ≠ b → (TX4 a).2.1 ≠ (TX4 b).2.1 := by decide +kernel
theorem tyX4_ok : ∀ k, k < 4 → parseFieldDescriptor (TX4 k).2.2.1 = some (tyX4 k) := by decide +kernel
abbrev cX4_init : ByteArray := prog_6_method_1_code
def yX4_init : MethodName := ⟨RX4, "<init>", "()V"⟩
abbrev cX4_mark : ByteArray := prog_6_method_2_code
def yX4_mark : MethodName := ⟨RX4, "mark", "(III)V"⟩
abbrev cX4_markOf : ByteArray := prog_6_method_3_code
def yX4_markOf : MethodName := ⟨RX4, "markOf", "(II)I"⟩
abbrev cX4_hasSign : ByteArray := prog_6_method_4_code
def yX4_hasSign : MethodName := ⟨RX4, "hasSign", "(II)Z"⟩
abbrev cX4_isIcy : ByteArray := prog_6_method_5_code
def yX4_isIcy : MethodName := ⟨RX4, "isIcy", "(I)Z"⟩
abbrev cX4_liesIn : ByteArray := prog_6_method_6_code
def yX4_liesIn : MethodName := ⟨RX4, "liesIn", "(II)Z"⟩
abbrev cX4_slideTenths : ByteArray := prog_6_method_7_code
def yX4_slideTenths : MethodName := ⟨RX4, "slideTenths", "(I)I"⟩
abbrev cX4_icyBeds : ByteArray := prog_6_method_8_code
def yX4_icyBeds : MethodName := ⟨RX4, "icyBeds", "()I"⟩
abbrev cX4_weightsTogether : ByteArray := prog_6_method_9_code
def yX4_weightsTogether : MethodName := ⟨RX4, "weightsTogether", "()I"⟩
abbrev cX4_copyFrom : ByteArray := prog_6_method_10_code
def yX4_copyFrom : MethodName := ⟨RX4, "copyFrom", "(LIceAtTheMiddle$Ground;)V"⟩
def RX5 : String := "IceAtTheMiddle$Judge"
def TX5 : u_T := fun k => match k with
  | 0 => ("IceAtTheMiddle$Judge", "shares", "[J", true)
  | 1 => ("IceAtTheMiddle$Judge", "chances", "[I", true)
  | _ => ("IceAtTheMiddle$Judge", "all", "J", false)
def tyX5 : Nat → FieldType := fun k => match k with
  | 0 => .array .long
  | 1 => .array .int
  | _ => .long
abbrev wsX50 : List Cond := u_ws RX5 TX5 3
theorem nmX5 : ∀ a, a < 3 → ∀ b, b < 3 → a ≠ b → (TX5 a).2.1 ≠ (TX5 b).2.1 := by decide +kernel
theorem tyX5_ok : ∀ k, k < 3 → parseFieldDescriptor (TX5 k).2.2.1 = some (tyX5 k) := by decide +kernel
abbrev cX5_init : ByteArray := prog_7_method_1_code
def yX5_init : MethodName := ⟨RX5, "<init>", "()V"⟩
abbrev cX5_hundredths : ByteArray := prog_7_method_2_code
def yX5_hundredths : MethodName := ⟨RX5, "hundredths", "(LIceAtTheMiddle$Chronicle;LIceAtTheMiddle$Ground;II)I"⟩
abbrev cX5_explainedBy : ByteArray := prog_7_method_3_code
def yX5_explainedBy : MethodName := ⟨RX5, "explainedBy", "(LIceAtTheMiddle$Chronicle;LIceAtTheMiddle$Ground;II)I"⟩
abbrev cX5_weigh : ByteArray := prog_7_method_4_code
def yX5_weigh : MethodName := ⟨RX5, "weigh", "(LIceAtTheMiddle$Chronicle;LIceAtTheMiddle$Ground;)V"⟩
abbrev cX5_weighWithout : ByteArray := prog_7_method_5_code
def yX5_weighWithout : MethodName := ⟨RX5, "weighWithout", "(LIceAtTheMiddle$Ground;I)V"⟩
abbrev cX5_greatest : ByteArray := prog_7_method_6_code
def yX5_greatest : MethodName := ⟨RX5, "greatest", "()I"⟩
abbrev cX5_bedThatMovesMost : ByteArray := prog_7_method_7_code
def yX5_bedThatMovesMost : MethodName := ⟨RX5, "bedThatMovesMost", "(LIceAtTheMiddle$Ground;)I"⟩
abbrev cX5_millionths : ByteArray := prog_7_method_8_code
def yX5_millionths : MethodName := ⟨RX5, "millionths", "(JJ)I"⟩
abbrev cX5_whereToGo : ByteArray := prog_7_method_9_code
def yX5_whereToGo : MethodName := ⟨RX5, "whereToGo", "(LIceAtTheMiddle$Chronicle;)I"⟩
abbrev cX5_shareWithIce : ByteArray := prog_7_method_10_code
def yX5_shareWithIce : MethodName := ⟨RX5, "shareWithIce", "(LIceAtTheMiddle$Chronicle;II)J"⟩
def RX6 : String := "IceAtTheMiddle$LawReader"
def TX6 : u_T := fun k => match k with
  | 0 => ("IceAtTheMiddle$LawReader", "numbers", "[I", true)
  | 1 => ("IceAtTheMiddle$LawReader", "parts", "I", false)
  | 2 => ("IceAtTheMiddle$LawReader", "figuresDue", "I", false)
  | 3 => ("IceAtTheMiddle$LawReader", "place", "I", false)
  | _ => ("IceAtTheMiddle$LawReader", "bandDue", "Z", false)
def tyX6 : Nat → FieldType := fun k => match k with
  | 0 => .array .int
  | 1 => .int
  | 2 => .int
  | 3 => .int
  | _ => .boolean
abbrev wsX60 : List Cond := u_ws RX6 TX6 5
theorem nmX6 : ∀ a, a < 5 → ∀ b, b < 5 → a ≠ b → (TX6 a).2.1 ≠ (TX6 b).2.1 := by decide +kernel
theorem tyX6_ok : ∀ k, k < 5 → parseFieldDescriptor (TX6 k).2.2.1 = some (tyX6 k) := by decide +kernel
abbrev cX6_init : ByteArray := prog_8_method_1_code
def yX6_init : MethodName := ⟨RX6, "<init>", "()V"⟩
abbrev cX6_faultOf : ByteArray := prog_8_method_2_code
def yX6_faultOf : MethodName := ⟨RX6, "faultOf", "(LIceAtTheMiddle$Text;)I"⟩
abbrev cX6_giveTo : ByteArray := prog_8_method_3_code
def yX6_giveTo : MethodName := ⟨RX6, "giveTo", "(LIceAtTheMiddle$Earth;)V"⟩
abbrev cX6_begin : ByteArray := prog_8_method_4_code
def yX6_begin : MethodName := ⟨RX6, "begin", "()V"⟩
abbrev cX6_takes : ByteArray := prog_8_method_5_code
def yX6_takes : MethodName := ⟨RX6, "takes", "(I)Z"⟩
abbrev cX6_takesKind : ByteArray := prog_8_method_6_code
def yX6_takesKind : MethodName := ⟨RX6, "takesKind", "(I)Z"⟩
abbrev cX6_takesBand : ByteArray := prog_8_method_7_code
def yX6_takesBand : MethodName := ⟨RX6, "takesBand", "(I)Z"⟩
abbrev cX6_takesFigure : ByteArray := prog_8_method_8_code
def yX6_takesFigure : MethodName := ⟨RX6, "takesFigure", "(I)Z"⟩
abbrev cX6_opens : ByteArray := prog_8_method_9_code
def yX6_opens : MethodName := ⟨RX6, "opens", "(I)Z"⟩
abbrev cX6_someBandIsUntold : ByteArray := prog_8_method_10_code
def yX6_someBandIsUntold : MethodName := ⟨RX6, "someBandIsUntold", "()Z"⟩
def RX7 : String := "IceAtTheMiddle$Run"
def TX7 : u_T := fun k => match k with
  | 0 => ("IceAtTheMiddle$Run", "states", "[I", true)
  | 1 => ("IceAtTheMiddle$Run", "placeBehind", "[I", true)
  | 2 => ("IceAtTheMiddle$Run", "length", "I", false)
  | _ => ("IceAtTheMiddle$Run", "lead", "I", false)
def tyX7 : Nat → FieldType := fun k => match k with
  | 0 => .array .int
  | 1 => .array .int
  | 2 => .int
  | _ => .int
abbrev wsX70 : List Cond := u_ws RX7 TX7 4
theorem nmX7 : ∀ a, a < 4 → ∀ b, b < 4 → a ≠ b → (TX7 a).2.1 ≠ (TX7 b).2.1 := by decide +kernel
theorem tyX7_ok : ∀ k, k < 4 → parseFieldDescriptor (TX7 k).2.2.1 = some (tyX7 k) := by decide +kernel
abbrev cX7_init : ByteArray := prog_9_method_1_code
def yX7_init : MethodName := ⟨RX7, "<init>", "()V"⟩
abbrev cX7_follow : ByteArray := prog_9_method_2_code
def yX7_follow : MethodName := ⟨RX7, "follow", "(LIceAtTheMiddle$Earth;II)V"⟩
abbrev cX7_isNew : ByteArray := prog_9_method_3_code
def yX7_isNew : MethodName := ⟨RX7, "isNew", "(I)Z"⟩
abbrev cX7_ring : ByteArray := prog_9_method_4_code
def yX7_ring : MethodName := ⟨RX7, "ring", "()I"⟩
abbrev cX7_stateAt : ByteArray := prog_9_method_5_code
def yX7_stateAt : MethodName := ⟨RX7, "stateAt", "(I)I"⟩
abbrev cX7_whiteInRing : ByteArray := prog_9_method_6_code
def yX7_whiteInRing : MethodName := ⟨RX7, "whiteInRing", "()I"⟩
abbrev cX7_leastAirInRing : ByteArray := prog_9_method_7_code
def yX7_leastAirInRing : MethodName := ⟨RX7, "leastAirInRing", "()I"⟩
abbrev cX7_greatestAirInRing : ByteArray := prog_9_method_8_code
def yX7_greatestAirInRing : MethodName := ⟨RX7, "greatestAirInRing", "()I"⟩
abbrev cX7_firstWhite : ByteArray := prog_9_method_9_code
def yX7_firstWhite : MethodName := ⟨RX7, "firstWhite", "(Z)I"⟩
def RX8 : String := "IceAtTheMiddle$StoryReader"
def TX8 : u_T := fun k => match k with
  | 0 => ("IceAtTheMiddle$StoryReader", "iceFrom", "[I", true)
  | 1 => ("IceAtTheMiddle$StoryReader", "entries", "I", false)
  | 2 => ("IceAtTheMiddle$StoryReader", "due", "I", false)
  | 3 => ("IceAtTheMiddle$StoryReader", "roundAhead", "I", false)
  | 4 => ("IceAtTheMiddle$StoryReader", "tens", "I", false)
  | 5 => ("IceAtTheMiddle$StoryReader", "roundNow", "I", false)
  | _ => ("IceAtTheMiddle$StoryReader", "bandAhead", "I", false)
def tyX8 : Nat → FieldType := fun k => match k with
  | 0 => .array .int
  | 1 => .int
  | 2 => .int
  | 3 => .int
  | 4 => .int
  | 5 => .int
  | _ => .int
abbrev wsX80 : List Cond := u_ws RX8 TX8 7
theorem nmX8 : ∀ a, a < 7 → ∀ b, b < 7 → a ≠ b → (TX8 a).2.1 ≠ (TX8 b).2.1 := by decide +kernel
theorem tyX8_ok : ∀ k, k < 7 → parseFieldDescriptor (TX8 k).2.2.1 = some (tyX8 k) := by decide +kernel
abbrev cX8_init : ByteArray := prog_10_method_1_code
def yX8_init : MethodName := ⟨RX8, "<init>", "()V"⟩
abbrev cX8_faultOf : ByteArray := prog_10_method_2_code
def yX8_faultOf : MethodName := ⟨RX8, "faultOf", "(LIceAtTheMiddle$Text;)I"⟩
abbrev cX8_giveTo : ByteArray := prog_10_method_3_code
def yX8_giveTo : MethodName := ⟨RX8, "giveTo", "(LIceAtTheMiddle$Chronicle;I)V"⟩
abbrev cX8_begin : ByteArray := prog_10_method_4_code
def yX8_begin : MethodName := ⟨RX8, "begin", "()V"⟩
abbrev cX8_takes : ByteArray := prog_10_method_5_code
def yX8_takes : MethodName := ⟨RX8, "takes", "(I)Z"⟩
abbrev cX8_takesTens : ByteArray := prog_10_method_6_code
def yX8_takesTens : MethodName := ⟨RX8, "takesTens", "(I)Z"⟩
abbrev cX8_takesOnes : ByteArray := prog_10_method_7_code
def yX8_takesOnes : MethodName := ⟨RX8, "takesOnes", "(I)Z"⟩
abbrev cX8_takesColon : ByteArray := prog_10_method_8_code
def yX8_takesColon : MethodName := ⟨RX8, "takesColon", "(I)Z"⟩
abbrev cX8_takesNextEntry : ByteArray := prog_10_method_9_code
def yX8_takesNextEntry : MethodName := ⟨RX8, "takesNextEntry", "()Z"⟩
abbrev cX8_takesBand : ByteArray := prog_10_method_10_code
def yX8_takesBand : MethodName := ⟨RX8, "takesBand", "(I)Z"⟩
def RX9 : String := "IceAtTheMiddle$Text"
def TX9 : u_T := fun k => match k with
  | 0 => ("IceAtTheMiddle$Text", "signs", "[I", true)
  | _ => ("IceAtTheMiddle$Text", "length", "I", false)
def tyX9 : Nat → FieldType := fun k => match k with
  | 0 => .array .int
  | _ => .int
abbrev wsX90 : List Cond := u_ws RX9 TX9 2
theorem nmX9 : ∀ a, a < 2 → ∀ b, b < 2 → a ≠ b → (TX9 a).2.1 ≠ (TX9 b).2.1 := by decide +kernel
theorem tyX9_ok : ∀ k, k < 2 → parseFieldDescriptor (TX9 k).2.2.1 = some (tyX9 k) := by decide +kernel
abbrev cX9_init : ByteArray := prog_11_method_1_code
def yX9_init : MethodName := ⟨RX9, "<init>", "()V"⟩
abbrev cX9_hasRoomFor : ByteArray := prog_11_method_2_code
def yX9_hasRoomFor : MethodName := ⟨RX9, "hasRoomFor", "(I)Z"⟩
abbrev cX9_put : ByteArray := prog_11_method_3_code
def yX9_put : MethodName := ⟨RX9, "put", "(IJ)V"⟩
def RX10 : String := "IceAtTheMiddle"
def TX10 : u_T := fun k => match k with
  | 0 => ("IceAtTheMiddle", "text", "LIceAtTheMiddle$Text;", true)
  | 1 => ("IceAtTheMiddle", "lawReader", "LIceAtTheMiddle$LawReader;", true)
  | 2 => ("IceAtTheMiddle", "storyReader", "LIceAtTheMiddle$StoryReader;", true)
  | 3 => ("IceAtTheMiddle", "earth", "LIceAtTheMiddle$Earth;", true)
  | 4 => ("IceAtTheMiddle", "path", "LIceAtTheMiddle$Run;", true)
  | 5 => ("IceAtTheMiddle", "bend", "LIceAtTheMiddle$Curve;", true)
  | 6 => ("IceAtTheMiddle", "chronicle", "LIceAtTheMiddle$Chronicle;", true)
  | 7 => ("IceAtTheMiddle", "ground", "LIceAtTheMiddle$Ground;", true)
  | 8 => ("IceAtTheMiddle", "judge", "LIceAtTheMiddle$Judge;", true)
  | 9 => ("IceAtTheMiddle", "dates", "LIceAtTheMiddle$Dates;", true)
  | _ => ("IceAtTheMiddle", "slots", "[LIceAtTheMiddle$Ground;", true)
def tyX10 : Nat → FieldType := fun k => match k with
  | 0 => .object "IceAtTheMiddle$Text"
  | 1 => .object "IceAtTheMiddle$LawReader"
  | 2 => .object "IceAtTheMiddle$StoryReader"
  | 3 => .object "IceAtTheMiddle$Earth"
  | 4 => .object "IceAtTheMiddle$Run"
  | 5 => .object "IceAtTheMiddle$Curve"
  | 6 => .object "IceAtTheMiddle$Chronicle"
  | 7 => .object "IceAtTheMiddle$Ground"
  | 8 => .object "IceAtTheMiddle$Judge"
  | 9 => .object "IceAtTheMiddle$Dates"
  | _ => .array (.object "IceAtTheMiddle$Ground")
abbrev wsX100 : List Cond := u_ws RX10 TX10 11
theorem nmX10 : ∀ a, a < 11 → ∀ b, b < 11 → a ≠ b → (TX10 a).2.1 ≠ (TX10 b).2.1 := by decide +kernel
theorem tyX10_ok : ∀ k, k < 11 → parseFieldDescriptor (TX10 k).2.2.1 = some (tyX10 k) := by decide +kernel
abbrev cX10_init : ByteArray := prog_1_method_1_code
def yX10_init : MethodName := ⟨RX10, "<init>", "()V"⟩
abbrev cX10_write : ByteArray := prog_1_method_2_code
def yX10_write : MethodName := ⟨RX10, "write", "(IJ)I"⟩
abbrev cX10_wipe : ByteArray := prog_1_method_3_code
def yX10_wipe : MethodName := ⟨RX10, "wipe", "()I"⟩
abbrev cX10_fault : ByteArray := prog_1_method_4_code
def yX10_fault : MethodName := ⟨RX10, "fault", "(Z)I"⟩
abbrev cX10_law : ByteArray := prog_1_method_5_code
def yX10_law : MethodName := ⟨RX10, "law", "()I"⟩
abbrev cX10_lawful : ByteArray := prog_1_method_6_code
def yX10_lawful : MethodName := ⟨RX10, "lawful", "(I)I"⟩
abbrev cX10_story : ByteArray := prog_1_method_7_code
def yX10_story : MethodName := ⟨RX10, "story", "(I)I"⟩
abbrev cX10_lived : ByteArray := prog_1_method_8_code
def yX10_lived : MethodName := ⟨RX10, "lived", "(III)I"⟩
abbrev cX10_at : ByteArray := prog_1_method_9_code
def yX10_at : MethodName := ⟨RX10, "at", "(II)I"⟩
abbrev cX10_warmth : ByteArray := prog_1_method_10_code
def yX10_warmth : MethodName := ⟨RX10, "warmth", "(III)I"⟩
abbrev cX10_round : ByteArray := prog_1_method_11_code
def yX10_round : MethodName := ⟨RX10, "round", "(II)I"⟩
abbrev cX10_after : ByteArray := prog_1_method_12_code
def yX10_after : MethodName := ⟨RX10, "after", "(III)I"⟩
abbrev cX10_run : ByteArray := prog_1_method_13_code
def yX10_run : MethodName := ⟨RX10, "run", "(III)I"⟩
abbrev cX10_till : ByteArray := prog_1_method_14_code
def yX10_till : MethodName := ⟨RX10, "till", "(IIZ)I"⟩
abbrev cX10_rests : ByteArray := prog_1_method_15_code
def yX10_rests : MethodName := ⟨RX10, "rests", "(I)I"⟩
abbrev cX10_rest : ByteArray := prog_1_method_16_code
def yX10_rest : MethodName := ⟨RX10, "rest", "(II)I"⟩
abbrev cX10_settle : ByteArray := prog_1_method_17_code
def yX10_settle : MethodName := ⟨RX10, "settle", "(II)I"⟩
abbrev cX10_jumps : ByteArray := prog_1_method_18_code
def yX10_jumps : MethodName := ⟨RX10, "jumps", "(III)I"⟩
abbrev cX10_jump : ByteArray := prog_1_method_19_code
def yX10_jump : MethodName := ⟨RX10, "jump", "(IIII)I"⟩
abbrev cX10_curve : ByteArray := prog_1_method_20_code
def yX10_curve : MethodName := ⟨RX10, "curve", "(III)I"⟩
abbrev cX10_least : ByteArray := prog_1_method_21_code
def yX10_least : MethodName := ⟨RX10, "least", "(Z)I"⟩
abbrev cX10_bed : ByteArray := prog_1_method_22_code
def yX10_bed : MethodName := ⟨RX10, "bed", "(IIIIII)I"⟩
abbrev cX10_forget : ByteArray := prog_1_method_23_code
def yX10_forget : MethodName := ⟨RX10, "forget", "()I"⟩
abbrev cX10_about : ByteArray := prog_1_method_24_code
def yX10_about : MethodName := ⟨RX10, "about", "(II)I"⟩
abbrev cX10_explains : ByteArray := prog_1_method_25_code
def yX10_explains : MethodName := ⟨RX10, "explains", "(II)I"⟩
abbrev cX10_chance : ByteArray := prog_1_method_26_code
def yX10_chance : MethodName := ⟨RX10, "chance", "(IIZ)J"⟩
abbrev cX10_weight : ByteArray := prog_1_method_27_code
def yX10_weight : MethodName := ⟨RX10, "weight", "(II)I"⟩
abbrev cX10_odds : ByteArray := prog_1_method_28_code
def yX10_odds : MethodName := ⟨RX10, "odds", "(IZ)J"⟩
abbrev cX10_best : ByteArray := prog_1_method_29_code
def yX10_best : MethodName := ⟨RX10, "best", "()I"⟩
abbrev cX10_mover : ByteArray := prog_1_method_30_code
def yX10_mover : MethodName := ⟨RX10, "mover", "()I"⟩
abbrev cX10_next : ByteArray := prog_1_method_31_code
def yX10_next : MethodName := ⟨RX10, "next", "()I"⟩
abbrev cX10_once : ByteArray := prog_1_method_32_code
def yX10_once : MethodName := ⟨RX10, "once", "()I"⟩
abbrev cX10_times : ByteArray := prog_1_method_33_code
def yX10_times : MethodName := ⟨RX10, "times", "()I"⟩
abbrev cX10_time : ByteArray := prog_1_method_34_code
def yX10_time : MethodName := ⟨RX10, "time", "(I)I"⟩
abbrev cX10_order : ByteArray := prog_1_method_35_code
def yX10_order : MethodName := ⟨RX10, "order", "(I)I"⟩
abbrev cX10_gap : ByteArray := prog_1_method_36_code
def yX10_gap : MethodName := ⟨RX10, "gap", "(I)I"⟩
abbrev cX10_pole : ByteArray := prog_1_method_37_code
def yX10_pole : MethodName := ⟨RX10, "pole", "(II)I"⟩
abbrev cX10_elsewhere : ByteArray := prog_1_method_38_code
def yX10_elsewhere : MethodName := ⟨RX10, "elsewhere", "(I)I"⟩
abbrev cX10_keep : ByteArray := prog_1_method_39_code
def yX10_keep : MethodName := ⟨RX10, "keep", "(I)I"⟩
abbrev cX10_again : ByteArray := prog_1_method_40_code
def yX10_again : MethodName := ⟨RX10, "again", "(I)I"⟩
abbrev cX10_count : ByteArray := prog_1_method_41_code
def yX10_count : MethodName := ⟨RX10, "count", "(I)I"⟩
abbrev cX10_within : ByteArray := prog_1_method_42_code
def yX10_within : MethodName := ⟨RX10, "within", "(III)Z"⟩
abbrev cX10_isBand : ByteArray := prog_1_method_43_code
def yX10_isBand : MethodName := ⟨RX10, "isBand", "(I)Z"⟩
abbrev cX10_isIce : ByteArray := prog_1_method_44_code
def yX10_isIce : MethodName := ⟨RX10, "isIce", "(I)Z"⟩
abbrev cX10_isAir : ByteArray := prog_1_method_45_code
def yX10_isAir : MethodName := ⟨RX10, "isAir", "(I)Z"⟩
abbrev cX10_isRound : ByteArray := prog_1_method_46_code
def yX10_isRound : MethodName := ⟨RX10, "isRound", "(I)Z"⟩
abbrev cX10_isStory : ByteArray := prog_1_method_47_code
def yX10_isStory : MethodName := ⟨RX10, "isStory", "(I)Z"⟩
abbrev cX10_isLand : ByteArray := prog_1_method_48_code
def yX10_isLand : MethodName := ⟨RX10, "isLand", "(I)Z"⟩
abbrev cX10_isSlot : ByteArray := prog_1_method_49_code
def yX10_isSlot : MethodName := ⟨RX10, "isSlot", "(I)Z"⟩
abbrev cX10_isBed : ByteArray := prog_1_method_50_code
def yX10_isBed : MethodName := ⟨RX10, "isBed", "(I)Z"⟩
abbrev cX10_hasIce : ByteArray := prog_1_method_51_code
def yX10_hasIce : MethodName := ⟨RX10, "hasIce", "(II)Z"⟩
abbrev cX10_figure : ByteArray := prog_1_method_52_code
def yX10_figure : MethodName := ⟨RX10, "figure", "(I)I"⟩
abbrev cX10_told : ByteArray := prog_1_method_53_code
def yX10_told : MethodName := ⟨RX10, "told", "(JJZ)J"⟩
abbrev cX10_greatestCommon : ByteArray := prog_1_method_54_code
def yX10_greatestCommon : MethodName := ⟨RX10, "greatestCommon", "(JJ)J"⟩
def RX11 : String := "IceAtTheMiddleModel"
def TX11 : u_T := fun k => match k with
  | 0 => ("IceAtTheMiddleModel", "read", "[I", true)
  | 1 => ("IceAtTheMiddleModel", "laws", "[I", true)
  | 2 => ("IceAtTheMiddleModel", "text", "[I", true)
  | 3 => ("IceAtTheMiddleModel", "length", "I", false)
  | 4 => ("IceAtTheMiddleModel", "at", "I", false)
  | 5 => ("IceAtTheMiddleModel", "faultAt", "I", false)
  | 6 => ("IceAtTheMiddleModel", "parts", "I", false)
  | 7 => ("IceAtTheMiddleModel", "entryRound", "[I", true)
  | 8 => ("IceAtTheMiddleModel", "entryIce", "[I", true)
  | 9 => ("IceAtTheMiddleModel", "entries", "I", false)
  | 10 => ("IceAtTheMiddleModel", "stories", "[I", true)
  | 11 => ("IceAtTheMiddleModel", "weights", "[I", true)
  | 12 => ("IceAtTheMiddleModel", "metAt", "[I", true)
  | 13 => ("IceAtTheMiddleModel", "ringEarth", "I", false)
  | 14 => ("IceAtTheMiddleModel", "lead", "I", false)
  | 15 => ("IceAtTheMiddleModel", "ring", "I", false)
  | 16 => ("IceAtTheMiddleModel", "jumpAir", "[I", true)
  | 17 => ("IceAtTheMiddleModel", "jumpMany", "I", false)
  | 18 => ("IceAtTheMiddleModel", "curveEnd", "I", false)
  | 19 => ("IceAtTheMiddleModel", "beds", "I", false)
  | 20 => ("IceAtTheMiddleModel", "bed", "[I", true)
  | 21 => ("IceAtTheMiddleModel", "lots", "[J", true)
  | 22 => ("IceAtTheMiddleModel", "all", "J", false)
  | 23 => ("IceAtTheMiddleModel", "early", "[I", true)
  | 24 => ("IceAtTheMiddleModel", "late", "[I", true)
  | 25 => ("IceAtTheMiddleModel", "isKept", "[Z", true)
  | 26 => ("IceAtTheMiddleModel", "keptBeds", "[I", true)
  | 27 => ("IceAtTheMiddleModel", "keptBed", "[I", true)
  | _ => ("IceAtTheMiddleModel", "keptWeights", "[I", true)
def tyX11 : Nat → FieldType := fun k => match k with
  | 0 => .array .int
  | 1 => .array .int
  | 2 => .array .int
  | 3 => .int
  | 4 => .int
  | 5 => .int
  | 6 => .int
  | 7 => .array .int
  | 8 => .array .int
  | 9 => .int
  | 10 => .array .int
  | 11 => .array .int
  | 12 => .array .int
  | 13 => .int
  | 14 => .int
  | 15 => .int
  | 16 => .array .int
  | 17 => .int
  | 18 => .int
  | 19 => .int
  | 20 => .array .int
  | 21 => .array .long
  | 22 => .long
  | 23 => .array .int
  | 24 => .array .int
  | 25 => .array .boolean
  | 26 => .array .int
  | 27 => .array .int
  | _ => .array .int
abbrev wsX110 : List Cond := u_ws RX11 TX11 29
theorem nmX11 : ∀ a, a < 29 → ∀ b, b < 29 → a ≠ b → (TX11 a).2.1 ≠ (TX11 b).2.1 := by decide +kernel
theorem tyX11_ok : ∀ k, k < 29 → parseFieldDescriptor (TX11 k).2.2.1 = some (tyX11 k) := by decide +kernel
abbrev cX11_init : ByteArray := prog_13_method_1_code
def yX11_init : MethodName := ⟨RX11, "<init>", "()V"⟩
abbrev cX11_in : ByteArray := prog_13_method_3_code
def yX11_in : MethodName := ⟨RX11, "in", "(JJJ)Z"⟩
abbrev cX11_ones : ByteArray := prog_13_method_4_code
def yX11_ones : MethodName := ⟨RX11, "ones", "(I)I"⟩
abbrev cX11_write : ByteArray := prog_13_method_5_code
def yX11_write : MethodName := ⟨RX11, "write", "(IJ)I"⟩
abbrev cX11_wipe : ByteArray := prog_13_method_6_code
def yX11_wipe : MethodName := ⟨RX11, "wipe", "()I"⟩
abbrev cX11_fail : ByteArray := prog_13_method_7_code
def yX11_fail : MethodName := ⟨RX11, "fail", "()V"⟩
abbrev cX11_isNext : ByteArray := prog_13_method_8_code
def yX11_isNext : MethodName := ⟨RX11, "isNext", "(I)Z"⟩
abbrev cX11_figure : ByteArray := prog_13_method_9_code
def yX11_figure : MethodName := ⟨RX11, "figure", "(I)I"⟩
abbrev cX11_placeOf : ByteArray := prog_13_method_10_code
def yX11_placeOf : MethodName := ⟨RX11, "placeOf", "(I)I"⟩
abbrev cX11_readLaw : ByteArray := prog_13_method_11_code
def yX11_readLaw : MethodName := ⟨RX11, "readLaw", "()I"⟩
abbrev cX11_readStory : ByteArray := prog_13_method_12_code
def yX11_readStory : MethodName := ⟨RX11, "readStory", "()I"⟩
abbrev cX11_readEntry : ByteArray := prog_13_method_13_code
def yX11_readEntry : MethodName := ⟨RX11, "readEntry", "(I)I"⟩
abbrev cX11_fault : ByteArray := prog_13_method_14_code
def yX11_fault : MethodName := ⟨RX11, "fault", "(Z)I"⟩
abbrev cX11_law : ByteArray := prog_13_method_15_code
def yX11_law : MethodName := ⟨RX11, "law", "()I"⟩
abbrev cX11_lawful : ByteArray := prog_13_method_16_code
def yX11_lawful : MethodName := ⟨RX11, "lawful", "(I)I"⟩
abbrev cX11_isStory : ByteArray := prog_13_method_17_code
def yX11_isStory : MethodName := ⟨RX11, "isStory", "(I)Z"⟩
abbrev cX11_story : ByteArray := prog_13_method_18_code
def yX11_story : MethodName := ⟨RX11, "story", "(I)I"⟩
abbrev cX11_isEarth : ByteArray := prog_13_method_19_code
def yX11_isEarth : MethodName := ⟨RX11, "isEarth", "(II)Z"⟩
abbrev cX11_lived : ByteArray := prog_13_method_20_code
def yX11_lived : MethodName := ⟨RX11, "lived", "(III)I"⟩
abbrev cX11_at : ByteArray := prog_13_method_21_code
def yX11_at : MethodName := ⟨RX11, "at", "(II)I"⟩
abbrev cX11_taken : ByteArray := prog_13_method_22_code
def yX11_taken : MethodName := ⟨RX11, "taken", "(II)I"⟩
abbrev cX11_warmthOf : ByteArray := prog_13_method_23_code
def yX11_warmthOf : MethodName := ⟨RX11, "warmthOf", "(III)I"⟩
abbrev cX11_iceThen : ByteArray := prog_13_method_24_code
def yX11_iceThen : MethodName := ⟨RX11, "iceThen", "(II)I"⟩
abbrev cX11_roundOf : ByteArray := prog_13_method_25_code
def yX11_roundOf : MethodName := ⟨RX11, "roundOf", "(I)I"⟩
abbrev cX11_warmth : ByteArray := prog_13_method_26_code
def yX11_warmth : MethodName := ⟨RX11, "warmth", "(III)I"⟩
abbrev cX11_round : ByteArray := prog_13_method_27_code
def yX11_round : MethodName := ⟨RX11, "round", "(II)I"⟩
abbrev cX11_after : ByteArray := prog_13_method_28_code
def yX11_after : MethodName := ⟨RX11, "after", "(III)I"⟩
abbrev cX11_layRun : ByteArray := prog_13_method_29_code
def yX11_layRun : MethodName := ⟨RX11, "layRun", "(II)V"⟩
abbrev cX11_run : ByteArray := prog_13_method_30_code
def yX11_run : MethodName := ⟨RX11, "run", "(III)I"⟩
abbrev cX11_till : ByteArray := prog_13_method_31_code
def yX11_till : MethodName := ⟨RX11, "till", "(IIZ)I"⟩
abbrev cX11_isRest : ByteArray := prog_13_method_32_code
def yX11_isRest : MethodName := ⟨RX11, "isRest", "(II)Z"⟩
abbrev cX11_rests : ByteArray := prog_13_method_33_code
def yX11_rests : MethodName := ⟨RX11, "rests", "(I)I"⟩
abbrev cX11_rest : ByteArray := prog_13_method_34_code
def yX11_rest : MethodName := ⟨RX11, "rest", "(II)I"⟩
abbrev cX11_settleOf : ByteArray := prog_13_method_35_code
def yX11_settleOf : MethodName := ⟨RX11, "settleOf", "(II)I"⟩
abbrev cX11_settle : ByteArray := prog_13_method_36_code
def yX11_settle : MethodName := ⟨RX11, "settle", "(II)I"⟩
abbrev cX11_layCurve : ByteArray := prog_13_method_37_code
def yX11_layCurve : MethodName := ⟨RX11, "layCurve", "(III)V"⟩
abbrev cX11_jumps : ByteArray := prog_13_method_38_code
def yX11_jumps : MethodName := ⟨RX11, "jumps", "(III)I"⟩
abbrev cX11_jump : ByteArray := prog_13_method_39_code
def yX11_jump : MethodName := ⟨RX11, "jump", "(IIII)I"⟩
abbrev cX11_curve : ByteArray := prog_13_method_40_code
def yX11_curve : MethodName := ⟨RX11, "curve", "(III)I"⟩
abbrev cX11_least : ByteArray := prog_13_method_41_code
def yX11_least : MethodName := ⟨RX11, "least", "(Z)I"⟩
abbrev cX11_isBed : ByteArray := prog_13_method_42_code
def yX11_isBed : MethodName := ⟨RX11, "isBed", "(I)Z"⟩
abbrev cX11_bed : ByteArray := prog_13_method_43_code
def yX11_bed : MethodName := ⟨RX11, "bed", "(IIIIII)I"⟩
abbrev cX11_forget : ByteArray := prog_13_method_44_code
def yX11_forget : MethodName := ⟨RX11, "forget", "()I"⟩
abbrev cX11_slide : ByteArray := prog_13_method_45_code
def yX11_slide : MethodName := ⟨RX11, "slide", "(I)I"⟩
abbrev cX11_isIcy : ByteArray := prog_13_method_46_code
def yX11_isIcy : MethodName := ⟨RX11, "isIcy", "(I)Z"⟩
abbrev cX11_about : ByteArray := prog_13_method_47_code
def yX11_about : MethodName := ⟨RX11, "about", "(II)I"⟩
abbrev cX11_rounds : ByteArray := prog_13_method_48_code
def yX11_rounds : MethodName := ⟨RX11, "rounds", "(III)I"⟩
abbrev cX11_explains : ByteArray := prog_13_method_49_code
def yX11_explains : MethodName := ⟨RX11, "explains", "(II)I"⟩
abbrev cX11_chanceOf : ByteArray := prog_13_method_50_code
def yX11_chanceOf : MethodName := ⟨RX11, "chanceOf", "(II)I"⟩
abbrev cX11_told : ByteArray := prog_13_method_51_code
def yX11_told : MethodName := ⟨RX11, "told", "(JJZ)J"⟩
abbrev cX11_chance : ByteArray := prog_13_method_52_code
def yX11_chance : MethodName := ⟨RX11, "chance", "(IIZ)J"⟩
abbrev cX11_weight : ByteArray := prog_13_method_53_code
def yX11_weight : MethodName := ⟨RX11, "weight", "(II)I"⟩
abbrev cX11_layLots : ByteArray := prog_13_method_54_code
def yX11_layLots : MethodName := ⟨RX11, "layLots", "(I)V"⟩
abbrev cX11_odds : ByteArray := prog_13_method_55_code
def yX11_odds : MethodName := ⟨RX11, "odds", "(IZ)J"⟩
abbrev cX11_bestOf : ByteArray := prog_13_method_56_code
def yX11_bestOf : MethodName := ⟨RX11, "bestOf", "()I"⟩
abbrev cX11_best : ByteArray := prog_13_method_57_code
def yX11_best : MethodName := ⟨RX11, "best", "()I"⟩
abbrev cX11_millionths : ByteArray := prog_13_method_58_code
def yX11_millionths : MethodName := ⟨RX11, "millionths", "(I)I"⟩
abbrev cX11_mover : ByteArray := prog_13_method_59_code
def yX11_mover : MethodName := ⟨RX11, "mover", "()I"⟩
abbrev cX11_next : ByteArray := prog_13_method_60_code
def yX11_next : MethodName := ⟨RX11, "next", "()I"⟩
abbrev cX11_once : ByteArray := prog_13_method_61_code
def yX11_once : MethodName := ⟨RX11, "once", "()I"⟩
abbrev cX11_firstEnd : ByteArray := prog_13_method_62_code
def yX11_firstEnd : MethodName := ⟨RX11, "firstEnd", "(I)I"⟩
abbrev cX11_times : ByteArray := prog_13_method_63_code
def yX11_times : MethodName := ⟨RX11, "times", "()I"⟩
abbrev cX11_time : ByteArray := prog_13_method_64_code
def yX11_time : MethodName := ⟨RX11, "time", "(I)I"⟩
abbrev cX11_layOrder : ByteArray := prog_13_method_65_code
def yX11_layOrder : MethodName := ⟨RX11, "layOrder", "(I)Z"⟩
abbrev cX11_order : ByteArray := prog_13_method_66_code
def yX11_order : MethodName := ⟨RX11, "order", "(I)I"⟩
abbrev cX11_gap : ByteArray := prog_13_method_67_code
def yX11_gap : MethodName := ⟨RX11, "gap", "(I)I"⟩
abbrev cX11_poleOf : ByteArray := prog_13_method_68_code
def yX11_poleOf : MethodName := ⟨RX11, "poleOf", "(II)I"⟩
abbrev cX11_pole : ByteArray := prog_13_method_69_code
def yX11_pole : MethodName := ⟨RX11, "pole", "(II)I"⟩
abbrev cX11_elsewhere : ByteArray := prog_13_method_70_code
def yX11_elsewhere : MethodName := ⟨RX11, "elsewhere", "(I)I"⟩
abbrev cX11_keep : ByteArray := prog_13_method_71_code
def yX11_keep : MethodName := ⟨RX11, "keep", "(I)I"⟩
abbrev cX11_again : ByteArray := prog_13_method_72_code
def yX11_again : MethodName := ⟨RX11, "again", "(I)I"⟩
abbrev cX11_count : ByteArray := prog_13_method_73_code
def yX11_count : MethodName := ⟨RX11, "count", "(I)I"⟩
def RJ11 : String := "java/lang/Character"
abbrev cJ11_isValidCodePoint_9a6ad : ByteArray := prog_14_method_11_code
def yJ11_isValidCodePoint_9a6ad : MethodName := ⟨RJ11, "isValidCodePoint", "(I)Z"⟩
abbrev cJ11_highSurrogate_5068e : ByteArray := prog_14_method_28_code
def yJ11_highSurrogate_5068e : MethodName := ⟨RJ11, "highSurrogate", "(I)C"⟩
abbrev cJ11_lowSurrogate_5068e : ByteArray := prog_14_method_29_code
def yJ11_lowSurrogate_5068e : MethodName := ⟨RJ11, "lowSurrogate", "(I)C"⟩
def RJ6 : String := "java/lang/Integer"
abbrev cJ6_bitCount_0f7a4 : ByteArray := prog_15_method_49_code
def yJ6_bitCount_0f7a4 : MethodName := ⟨RJ6, "bitCount", "(I)I"⟩
def RJ9 : String := "java/lang/Math"
abbrev cJ9_abs_0f7a4 : ByteArray := prog_16_method_59_code
def yJ9_abs_0f7a4 : MethodName := ⟨RJ9, "abs", "(I)I"⟩
abbrev cJ9_abs_067f4 : ByteArray := prog_16_method_61_code
def yJ9_abs_067f4 : MethodName := ⟨RJ9, "abs", "(J)J"⟩
abbrev cJ9_max_7cf53 : ByteArray := prog_16_method_65_code
def yJ9_max_7cf53 : MethodName := ⟨RJ9, "max", "(II)I"⟩
abbrev cJ9_min_7cf53 : ByteArray := prog_16_method_69_code
def yJ9_min_7cf53 : MethodName := ⟨RJ9, "min", "(II)I"⟩
def RJ0 : String := "java/lang/String"
abbrev cJ0_length_8abf5 : ByteArray := prog_17_method_54_code
def yJ0_length_8abf5 : MethodName := ⟨RJ0, "length", "()I"⟩
abbrev cJ0_indexOf_0f7a4 : ByteArray := prog_17_method_79_code
def yJ0_indexOf_0f7a4 : MethodName := ⟨RJ0, "indexOf", "(I)I"⟩
abbrev cJ0_indexOf_7cf53 : ByteArray := prog_17_method_80_code
def yJ0_indexOf_7cf53 : MethodName := ⟨RJ0, "indexOf", "(II)I"⟩
abbrev cJ0_coder_7d493 : ByteArray := prog_17_method_152_code
def yJ0_coder_7d493 : MethodName := ⟨RJ0, "coder", "()B"⟩
abbrev cJ0_isLatin1_aae02 : ByteArray := prog_17_method_154_code
def yJ0_isLatin1_aae02 : MethodName := ⟨RJ0, "isLatin1", "()Z"⟩
abbrev cJ0_checkBoundsBeginEnd_23922 : ByteArray := prog_17_method_158_code
def yJ0_checkBoundsBeginEnd_23922 : MethodName := ⟨RJ0, "checkBoundsBeginEnd", "(III)V"⟩
def RJ1 : String := "java/lang/StringLatin1"
abbrev cJ1_canEncode_9a6ad : ByteArray := prog_18_method_4_code
def yJ1_canEncode_9a6ad : MethodName := ⟨RJ1, "canEncode", "(I)Z"⟩
abbrev cJ1_indexOf_4cfef : ByteArray := prog_18_method_22_code
def yJ1_indexOf_4cfef : MethodName := ⟨RJ1, "indexOf", "([BIII)I"⟩
abbrev cJ1_indexOfChar_4cfef : ByteArray := prog_18_method_23_code
def yJ1_indexOfChar_4cfef : MethodName := ⟨RJ1, "indexOfChar", "([BIII)I"⟩
def RJ2 : String := "java/lang/StringUTF16"
abbrev cJ2_getChar_3b067 : ByteArray := prog_19_method_5_code
def yJ2_getChar_3b067 : MethodName := ⟨RJ2, "getChar", "([BI)C"⟩
abbrev cJ2_length_9d52b : ByteArray := prog_19_method_6_code
def yJ2_length_9d52b : MethodName := ⟨RJ2, "length", "([B)I"⟩
abbrev cJ2_indexOf_4cfef : ByteArray := prog_19_method_40_code
def yJ2_indexOf_4cfef : MethodName := ⟨RJ2, "indexOf", "([BIII)I"⟩
abbrev cJ2_indexOfChar_4cfef : ByteArray := prog_19_method_47_code
def yJ2_indexOfChar_4cfef : MethodName := ⟨RJ2, "indexOfChar", "([BIII)I"⟩
abbrev cJ2_indexOfCharUnsafe_4cfef : ByteArray := prog_19_method_48_code
def yJ2_indexOfCharUnsafe_4cfef : MethodName := ⟨RJ2, "indexOfCharUnsafe", "([BIII)I"⟩
abbrev cJ2_indexOfSupplementary_4cfef : ByteArray := prog_19_method_49_code
def yJ2_indexOfSupplementary_4cfef : MethodName := ⟨RJ2, "indexOfSupplementary", "([BIII)I"⟩
abbrev cJ2_checkBoundsBeginEnd_d044e : ByteArray := prog_19_method_93_code
def yJ2_checkBoundsBeginEnd_d044e : MethodName := ⟨RJ2, "checkBoundsBeginEnd", "(II[B)V"⟩
def RJ10 : String := "java/lang/System"
def RJ3 : String := "jdk/internal/util/Preconditions"
abbrev cJ3_checkFromToIndex_8c36e : ByteArray := prog_21_method_12_code
def yJ3_checkFromToIndex_8c36e : MethodName := ⟨RJ3, "checkFromToIndex", "(IIILjava/util/function/BiFunction;)I"⟩
def RL : String := "IceAtTheMiddleLaw"
abbrev cL_law : ByteArray := code
def yL_law : MethodName := ⟨RL, "law", "([I)Z"⟩
abbrev vwCl : List vw_C := [(RX0, TX0, 1), (RX1, TX1, 3), (RX2, TX2, 2), (RX3, TX3, 1), (RX4, TX4, 4), (RX5, TX5, 3), (RX6, TX6, 5), (RX7, TX7, 4), (RX8, TX8, 7), (RX9, TX9, 2), (RX10, TX10, 11), (RX11, TX11, 29)]
end
section
theorem dX0_init_0 : decode cX0_init 0 = .ok (.aload_n 0, 1) := by decide +kernel
theorem dX0_init_1 : decode cX0_init 1 = .ok (.invokespecial 3, 3) := by decide +kernel
theorem dX0_init_4 : decode cX0_init 4 = .ok (.aload_n 0, 1) := by decide +kernel
theorem dX0_init_5 : decode cX0_init 5 = .ok (.sipush 400, 3) := by decide +kernel
theorem dX0_init_8 : decode cX0_init 8 = .ok (.newarray .int, 2) := by decide +kernel
theorem dX0_init_10 : decode cX0_init 10 = .ok (.putfield 9, 3) := by decide +kernel
theorem dX0_init_13 : decode cX0_init 13 = .ok (.return_, 1) := by decide +kernel
theorem dX0_tell_0 : decode cX0_tell 0 = .ok (.iload_n 1, 1) := by decide +kernel
theorem dX0_tell_1 : decode cX0_tell 1 = .ok (.invokestatic 15, 3) := by decide +kernel
theorem dX0_tell_4 : decode cX0_tell 4 = .ok (.ifCond .eq 22, 3) := by decide +kernel
theorem dX0_tell_7 : decode cX0_tell 7 = .ok (.iload_n 2, 1) := by decide +kernel
theorem dX0_tell_8 : decode cX0_tell 8 = .ok (.invokestatic 19, 3) := by decide +kernel
theorem dX0_tell_11 : decode cX0_tell 11 = .ok (.ifCond .eq 15, 3) := by decide +kernel
theorem dX0_tell_14 : decode cX0_tell 14 = .ok (.aload_n 0, 1) := by decide +kernel
theorem dX0_tell_15 : decode cX0_tell 15 = .ok (.getfield 9, 3) := by decide +kernel
theorem dX0_tell_18 : decode cX0_tell 18 = .ok (.iload_n 1, 1) := by decide +kernel
theorem dX0_tell_19 : decode cX0_tell 19 = .ok (.bipush 100, 2) := by decide +kernel
theorem dX0_tell_21 : decode cX0_tell 21 = .ok (.imul, 1) := by decide +kernel
theorem dX0_tell_22 : decode cX0_tell 22 = .ok (.iload_n 2, 1) := by decide +kernel
theorem dX0_tell_23 : decode cX0_tell 23 = .ok (.iadd, 1) := by decide +kernel
theorem dX0_tell_24 : decode cX0_tell 24 = .ok (.iload_n 3, 1) := by decide +kernel
theorem dX0_tell_25 : decode cX0_tell 25 = .ok (.iastore, 1) := by decide +kernel
theorem dX0_tell_26 : decode cX0_tell 26 = .ok (.return_, 1) := by decide +kernel
theorem dX0_iceOf_0 : decode cX0_iceOf 0 = .ok (.iload_n 1, 1) := by decide +kernel
theorem dX0_iceOf_1 : decode cX0_iceOf 1 = .ok (.invokestatic 15, 3) := by decide +kernel
theorem dX0_iceOf_4 : decode cX0_iceOf 4 = .ok (.ifCond .eq 24, 3) := by decide +kernel
theorem dX0_iceOf_7 : decode cX0_iceOf 7 = .ok (.iload_n 2, 1) := by decide +kernel
theorem dX0_iceOf_8 : decode cX0_iceOf 8 = .ok (.invokestatic 19, 3) := by decide +kernel
theorem dX0_iceOf_11 : decode cX0_iceOf 11 = .ok (.ifCond .eq 17, 3) := by decide +kernel
theorem dX0_iceOf_14 : decode cX0_iceOf 14 = .ok (.aload_n 0, 1) := by decide +kernel
theorem dX0_iceOf_15 : decode cX0_iceOf 15 = .ok (.getfield 9, 3) := by decide +kernel
theorem dX0_iceOf_18 : decode cX0_iceOf 18 = .ok (.iload_n 1, 1) := by decide +kernel
theorem dX0_iceOf_19 : decode cX0_iceOf 19 = .ok (.bipush 100, 2) := by decide +kernel
theorem dX0_iceOf_21 : decode cX0_iceOf 21 = .ok (.imul, 1) := by decide +kernel
theorem dX0_iceOf_22 : decode cX0_iceOf 22 = .ok (.iload_n 2, 1) := by decide +kernel
theorem dX0_iceOf_23 : decode cX0_iceOf 23 = .ok (.iadd, 1) := by decide +kernel
theorem dX0_iceOf_24 : decode cX0_iceOf 24 = .ok (.iaload, 1) := by decide +kernel
theorem dX0_iceOf_25 : decode cX0_iceOf 25 = .ok (.goto 4, 3) := by decide +kernel
theorem dX0_iceOf_28 : decode cX0_iceOf 28 = .ok (.iconst 0, 1) := by decide +kernel
theorem dX0_iceOf_29 : decode cX0_iceOf 29 = .ok (.ireturn, 1) := by decide +kernel
theorem dX0_someIce_0 : decode cX0_someIce 0 = .ok (.iconst 0, 1) := by decide +kernel
theorem dX0_someIce_1 : decode cX0_someIce 1 = .ok (.istore 4, 2) := by decide +kernel
theorem dX0_someIce_3 : decode cX0_someIce 3 = .ok (.iload_n 2, 1) := by decide +kernel
theorem dX0_someIce_4 : decode cX0_someIce 4 = .ok (.istore 5, 2) := by decide +kernel
theorem dX0_someIce_6 : decode cX0_someIce 6 = .ok (.iload 5, 2) := by decide +kernel
theorem dX0_someIce_8 : decode cX0_someIce 8 = .ok (.iload_n 3, 1) := by decide +kernel
theorem dX0_someIce_9 : decode cX0_someIce 9 = .ok (.if_icmp .gt 21, 3) := by decide +kernel
theorem dX0_someIce_12 : decode cX0_someIce 12 = .ok (.iload 4, 2) := by decide +kernel
theorem dX0_someIce_14 : decode cX0_someIce 14 = .ok (.aload_n 0, 1) := by decide +kernel
theorem dX0_someIce_15 : decode cX0_someIce 15 = .ok (.iload_n 1, 1) := by decide +kernel
theorem dX0_someIce_16 : decode cX0_someIce 16 = .ok (.iload 5, 2) := by decide +kernel
theorem dX0_someIce_18 : decode cX0_someIce 18 = .ok (.invokevirtual 22, 3) := by decide +kernel
theorem dX0_someIce_21 : decode cX0_someIce 21 = .ok (.ior, 1) := by decide +kernel
theorem dX0_someIce_22 : decode cX0_someIce 22 = .ok (.istore 4, 2) := by decide +kernel
theorem dX0_someIce_24 : decode cX0_someIce 24 = .ok (.iinc 5 1, 3) := by decide +kernel
theorem dX0_someIce_27 : decode cX0_someIce 27 = .ok (.goto (-21), 3) := by decide +kernel
theorem dX0_someIce_30 : decode cX0_someIce 30 = .ok (.iload 4, 2) := by decide +kernel
theorem dX0_someIce_32 : decode cX0_someIce 32 = .ok (.ireturn, 1) := by decide +kernel
theorem dX0_lastingIce_0 : decode cX0_lastingIce 0 = .ok (.bipush 63, 2) := by decide +kernel
theorem dX0_lastingIce_2 : decode cX0_lastingIce 2 = .ok (.istore 4, 2) := by decide +kernel
theorem dX0_lastingIce_4 : decode cX0_lastingIce 4 = .ok (.iload_n 2, 1) := by decide +kernel
theorem dX0_lastingIce_5 : decode cX0_lastingIce 5 = .ok (.istore 5, 2) := by decide +kernel
theorem dX0_lastingIce_7 : decode cX0_lastingIce 7 = .ok (.iload 5, 2) := by decide +kernel
theorem dX0_lastingIce_9 : decode cX0_lastingIce 9 = .ok (.iload_n 3, 1) := by decide +kernel
theorem dX0_lastingIce_10 : decode cX0_lastingIce 10 = .ok (.if_icmp .gt 21, 3) := by decide +kernel
theorem dX0_lastingIce_13 : decode cX0_lastingIce 13 = .ok (.iload 4, 2) := by decide +kernel
theorem dX0_lastingIce_15 : decode cX0_lastingIce 15 = .ok (.aload_n 0, 1) := by decide +kernel
theorem dX0_lastingIce_16 : decode cX0_lastingIce 16 = .ok (.iload_n 1, 1) := by decide +kernel
theorem dX0_lastingIce_17 : decode cX0_lastingIce 17 = .ok (.iload 5, 2) := by decide +kernel
theorem dX0_lastingIce_19 : decode cX0_lastingIce 19 = .ok (.invokevirtual 22, 3) := by decide +kernel
theorem dX0_lastingIce_22 : decode cX0_lastingIce 22 = .ok (.iand, 1) := by decide +kernel
theorem dX0_lastingIce_23 : decode cX0_lastingIce 23 = .ok (.istore 4, 2) := by decide +kernel
theorem dX0_lastingIce_25 : decode cX0_lastingIce 25 = .ok (.iinc 5 1, 3) := by decide +kernel
theorem dX0_lastingIce_28 : decode cX0_lastingIce 28 = .ok (.goto (-21), 3) := by decide +kernel
theorem dX0_lastingIce_31 : decode cX0_lastingIce 31 = .ok (.iload 4, 2) := by decide +kernel
theorem dX0_lastingIce_33 : decode cX0_lastingIce 33 = .ok (.ireturn, 1) := by decide +kernel
theorem dX1_init_0 : decode cX1_init 0 = .ok (.aload_n 0, 1) := by decide +kernel
theorem dX1_init_1 : decode cX1_init 1 = .ok (.invokespecial 3, 3) := by decide +kernel
theorem dX1_init_4 : decode cX1_init 4 = .ok (.aload_n 0, 1) := by decide +kernel
theorem dX1_init_5 : decode cX1_init 5 = .ok (.bipush 100, 2) := by decide +kernel
theorem dX1_init_7 : decode cX1_init 7 = .ok (.newarray .int, 2) := by decide +kernel
theorem dX1_init_9 : decode cX1_init 9 = .ok (.putfield 9, 3) := by decide +kernel
theorem dX1_init_12 : decode cX1_init 12 = .ok (.return_, 1) := by decide +kernel
theorem dX1_follow_0 : decode cX1_follow 0 = .ok (.iload 4, 2) := by decide +kernel
theorem dX1_follow_2 : decode cX1_follow 2 = .ok (.iload_n 3, 1) := by decide +kernel
theorem dX1_follow_3 : decode cX1_follow 3 = .ok (.if_icmp .ge 7, 3) := by decide +kernel
theorem dX1_follow_6 : decode cX1_follow 6 = .ok (.iconst (-1), 1) := by decide +kernel
theorem dX1_follow_7 : decode cX1_follow 7 = .ok (.goto 4, 3) := by decide +kernel
theorem dX1_follow_10 : decode cX1_follow 10 = .ok (.iconst 1, 1) := by decide +kernel
theorem dX1_follow_11 : decode cX1_follow 11 = .ok (.istore 5, 2) := by decide +kernel
theorem dX1_follow_13 : decode cX1_follow 13 = .ok (.iload 4, 2) := by decide +kernel
theorem dX1_follow_15 : decode cX1_follow 15 = .ok (.iload_n 3, 1) := by decide +kernel
theorem dX1_follow_16 : decode cX1_follow 16 = .ok (.isub, 1) := by decide +kernel
theorem dX1_follow_17 : decode cX1_follow 17 = .ok (.invokestatic 15, 3) := by decide +kernel
theorem dX1_follow_20 : decode cX1_follow 20 = .ok (.istore 6, 2) := by decide +kernel
theorem dX1_follow_22 : decode cX1_follow 22 = .ok (.aload_n 0, 1) := by decide +kernel
theorem dX1_follow_23 : decode cX1_follow 23 = .ok (.iconst 0, 1) := by decide +kernel
theorem dX1_follow_24 : decode cX1_follow 24 = .ok (.putfield 21, 3) := by decide +kernel
theorem dX1_follow_27 : decode cX1_follow 27 = .ok (.aload_n 0, 1) := by decide +kernel
theorem dX1_follow_28 : decode cX1_follow 28 = .ok (.iload_n 2, 1) := by decide +kernel
theorem dX1_follow_29 : decode cX1_follow 29 = .ok (.putfield 25, 3) := by decide +kernel
theorem dX1_follow_32 : decode cX1_follow 32 = .ok (.iconst 0, 1) := by decide +kernel
theorem dX1_follow_33 : decode cX1_follow 33 = .ok (.istore 7, 2) := by decide +kernel
theorem dX1_follow_35 : decode cX1_follow 35 = .ok (.iload 7, 2) := by decide +kernel
theorem dX1_follow_37 : decode cX1_follow 37 = .ok (.iload 6, 2) := by decide +kernel
theorem dX1_follow_39 : decode cX1_follow 39 = .ok (.if_icmp .gt 71, 3) := by decide +kernel
theorem dX1_follow_42 : decode cX1_follow 42 = .ok (.aload_n 0, 1) := by decide +kernel
theorem dX1_follow_43 : decode cX1_follow 43 = .ok (.getfield 25, 3) := by decide +kernel
theorem dX1_follow_46 : decode cX1_follow 46 = .ok (.bipush (-9), 2) := by decide +kernel
theorem dX1_follow_48 : decode cX1_follow 48 = .ok (.if_icmp .eq 62, 3) := by decide +kernel
theorem dX1_follow_51 : decode cX1_follow 51 = .ok (.aload_n 1, 1) := by decide +kernel
theorem dX1_follow_52 : decode cX1_follow 52 = .ok (.aload_n 0, 1) := by decide +kernel
theorem dX1_follow_53 : decode cX1_follow 53 = .ok (.getfield 25, 3) := by decide +kernel
theorem dX1_follow_56 : decode cX1_follow 56 = .ok (.iload_n 3, 1) := by decide +kernel
theorem dX1_follow_57 : decode cX1_follow 57 = .ok (.iload 5, 2) := by decide +kernel
theorem dX1_follow_59 : decode cX1_follow 59 = .ok (.iload 7, 2) := by decide +kernel
theorem dX1_follow_61 : decode cX1_follow 61 = .ok (.imul, 1) := by decide +kernel
theorem dX1_follow_62 : decode cX1_follow 62 = .ok (.iadd, 1) := by decide +kernel
theorem dX1_follow_63 : decode cX1_follow 63 = .ok (.invokevirtual 28, 3) := by decide +kernel
theorem dX1_follow_66 : decode cX1_follow 66 = .ok (.istore 8, 2) := by decide +kernel
theorem dX1_follow_68 : decode cX1_follow 68 = .ok (.iload 8, 2) := by decide +kernel
theorem dX1_follow_70 : decode cX1_follow 70 = .ok (.bipush (-9), 2) := by decide +kernel
theorem dX1_follow_72 : decode cX1_follow 72 = .ok (.if_icmp .eq 26, 3) := by decide +kernel
theorem dX1_follow_75 : decode cX1_follow 75 = .ok (.aload_n 0, 1) := by decide +kernel
theorem dX1_follow_76 : decode cX1_follow 76 = .ok (.getfield 25, 3) := by decide +kernel
theorem dX1_follow_79 : decode cX1_follow 79 = .ok (.iload 8, 2) := by decide +kernel
theorem dX1_follow_81 : decode cX1_follow 81 = .ok (.invokestatic 34, 3) := by decide +kernel
theorem dX1_follow_84 : decode cX1_follow 84 = .ok (.ifCond .eq 14, 3) := by decide +kernel
theorem dX1_follow_87 : decode cX1_follow 87 = .ok (.aload_n 0, 1) := by decide +kernel
theorem dX1_follow_88 : decode cX1_follow 88 = .ok (.iload_n 3, 1) := by decide +kernel
theorem dX1_follow_89 : decode cX1_follow 89 = .ok (.iload 5, 2) := by decide +kernel
theorem dX1_follow_91 : decode cX1_follow 91 = .ok (.iload 7, 2) := by decide +kernel
theorem dX1_follow_93 : decode cX1_follow 93 = .ok (.imul, 1) := by decide +kernel
theorem dX1_follow_94 : decode cX1_follow 94 = .ok (.iadd, 1) := by decide +kernel
theorem dX1_follow_95 : decode cX1_follow 95 = .ok (.invokevirtual 38, 3) := by decide +kernel
theorem dX1_follow_98 : decode cX1_follow 98 = .ok (.aload_n 0, 1) := by decide +kernel
theorem dX1_follow_99 : decode cX1_follow 99 = .ok (.iload 8, 2) := by decide +kernel
theorem dX1_follow_101 : decode cX1_follow 101 = .ok (.putfield 25, 3) := by decide +kernel
theorem dX1_follow_104 : decode cX1_follow 104 = .ok (.iinc 7 1, 3) := by decide +kernel
theorem dX1_follow_107 : decode cX1_follow 107 = .ok (.goto (-72), 3) := by decide +kernel
theorem dX1_follow_110 : decode cX1_follow 110 = .ok (.return_, 1) := by decide +kernel
theorem dX1_airOf_0 : decode cX1_airOf 0 = .ok (.iload_n 1, 1) := by decide +kernel
theorem dX1_airOf_1 : decode cX1_airOf 1 = .ok (.iconst 0, 1) := by decide +kernel
theorem dX1_airOf_2 : decode cX1_airOf 2 = .ok (.aload_n 0, 1) := by decide +kernel
theorem dX1_airOf_3 : decode cX1_airOf 3 = .ok (.getfield 21, 3) := by decide +kernel
theorem dX1_airOf_6 : decode cX1_airOf 6 = .ok (.iconst 1, 1) := by decide +kernel
theorem dX1_airOf_7 : decode cX1_airOf 7 = .ok (.isub, 1) := by decide +kernel
theorem dX1_airOf_8 : decode cX1_airOf 8 = .ok (.invokestatic 42, 3) := by decide +kernel
theorem dX1_airOf_11 : decode cX1_airOf 11 = .ok (.ifCond .eq 12, 3) := by decide +kernel
theorem dX1_airOf_14 : decode cX1_airOf 14 = .ok (.aload_n 0, 1) := by decide +kernel
theorem dX1_airOf_15 : decode cX1_airOf 15 = .ok (.getfield 9, 3) := by decide +kernel
theorem dX1_airOf_18 : decode cX1_airOf 18 = .ok (.iload_n 1, 1) := by decide +kernel
theorem dX1_airOf_19 : decode cX1_airOf 19 = .ok (.iaload, 1) := by decide +kernel
theorem dX1_airOf_20 : decode cX1_airOf 20 = .ok (.goto 5, 3) := by decide +kernel
theorem dX1_airOf_23 : decode cX1_airOf 23 = .ok (.bipush (-9), 2) := by decide +kernel
theorem dX1_airOf_25 : decode cX1_airOf 25 = .ok (.ireturn, 1) := by decide +kernel
theorem dX1_isJump_0 : decode cX1_isJump 0 = .ok (.iload_n 0, 1) := by decide +kernel
theorem dX1_isJump_1 : decode cX1_isJump 1 = .ok (.invokestatic 46, 3) := by decide +kernel
theorem dX1_isJump_4 : decode cX1_isJump 4 = .ok (.iload_n 1, 1) := by decide +kernel
theorem dX1_isJump_5 : decode cX1_isJump 5 = .ok (.invokestatic 46, 3) := by decide +kernel
theorem dX1_isJump_8 : decode cX1_isJump 8 = .ok (.isub, 1) := by decide +kernel
theorem dX1_isJump_9 : decode cX1_isJump 9 = .ok (.invokestatic 15, 3) := by decide +kernel
theorem dX1_isJump_12 : decode cX1_isJump 12 = .ok (.iconst 2, 1) := by decide +kernel
theorem dX1_isJump_13 : decode cX1_isJump 13 = .ok (.if_icmp .lt 7, 3) := by decide +kernel
theorem dX1_isJump_16 : decode cX1_isJump 16 = .ok (.iconst 1, 1) := by decide +kernel
theorem dX1_isJump_17 : decode cX1_isJump 17 = .ok (.goto 4, 3) := by decide +kernel
theorem dX1_isJump_20 : decode cX1_isJump 20 = .ok (.iconst 0, 1) := by decide +kernel
theorem dX1_isJump_21 : decode cX1_isJump 21 = .ok (.ireturn, 1) := by decide +kernel
theorem dX1_add_0 : decode cX1_add 0 = .ok (.aload_n 0, 1) := by decide +kernel
theorem dX1_add_1 : decode cX1_add 1 = .ok (.getfield 21, 3) := by decide +kernel
theorem dX1_add_4 : decode cX1_add 4 = .ok (.bipush 100, 2) := by decide +kernel
theorem dX1_add_6 : decode cX1_add 6 = .ok (.if_icmp .ge 23, 3) := by decide +kernel
theorem dX1_add_9 : decode cX1_add 9 = .ok (.aload_n 0, 1) := by decide +kernel
theorem dX1_add_10 : decode cX1_add 10 = .ok (.getfield 9, 3) := by decide +kernel
theorem dX1_add_13 : decode cX1_add 13 = .ok (.aload_n 0, 1) := by decide +kernel
theorem dX1_add_14 : decode cX1_add 14 = .ok (.getfield 21, 3) := by decide +kernel
theorem dX1_add_17 : decode cX1_add 17 = .ok (.iload_n 1, 1) := by decide +kernel
theorem dX1_add_18 : decode cX1_add 18 = .ok (.iastore, 1) := by decide +kernel
theorem dX1_add_19 : decode cX1_add 19 = .ok (.aload_n 0, 1) := by decide +kernel
theorem dX1_add_20 : decode cX1_add 20 = .ok (.dup, 1) := by decide +kernel
theorem dX1_add_21 : decode cX1_add 21 = .ok (.getfield 21, 3) := by decide +kernel
theorem dX1_add_24 : decode cX1_add 24 = .ok (.iconst 1, 1) := by decide +kernel
theorem dX1_add_25 : decode cX1_add 25 = .ok (.iadd, 1) := by decide +kernel
theorem dX1_add_26 : decode cX1_add 26 = .ok (.putfield 21, 3) := by decide +kernel
theorem dX1_add_29 : decode cX1_add 29 = .ok (.return_, 1) := by decide +kernel
theorem dX2_init_0 : decode cX2_init 0 = .ok (.aload_n 0, 1) := by decide +kernel
theorem dX2_init_1 : decode cX2_init 1 = .ok (.invokespecial 3, 3) := by decide +kernel
theorem dX2_init_4 : decode cX2_init 4 = .ok (.aload_n 0, 1) := by decide +kernel
theorem dX2_init_5 : decode cX2_init 5 = .ok (.bipush 8, 2) := by decide +kernel
theorem dX2_init_7 : decode cX2_init 7 = .ok (.newarray .int, 2) := by decide +kernel
theorem dX2_init_9 : decode cX2_init 9 = .ok (.putfield 11, 3) := by decide +kernel
theorem dX2_init_12 : decode cX2_init 12 = .ok (.return_, 1) := by decide +kernel
theorem dX2_firstCommonRound_0 : decode cX2_firstCommonRound 0 = .ok (.bipush (-9), 2) := by decide +kernel
theorem dX2_firstCommonRound_2 : decode cX2_firstCommonRound 2 = .ok (.istore_n 1, 1) := by decide +kernel
theorem dX2_firstCommonRound_3 : decode cX2_firstCommonRound 3 = .ok (.bipush 100, 2) := by decide +kernel
theorem dX2_firstCommonRound_5 : decode cX2_firstCommonRound 5 = .ok (.istore_n 2, 1) := by decide +kernel
theorem dX2_firstCommonRound_6 : decode cX2_firstCommonRound 6 = .ok (.iconst 0, 1) := by decide +kernel
theorem dX2_firstCommonRound_7 : decode cX2_firstCommonRound 7 = .ok (.istore_n 3, 1) := by decide +kernel
theorem dX2_firstCommonRound_8 : decode cX2_firstCommonRound 8 = .ok (.iload_n 3, 1) := by decide +kernel
theorem dX2_firstCommonRound_9 : decode cX2_firstCommonRound 9 = .ok (.aload_n 0, 1) := by decide +kernel
theorem dX2_firstCommonRound_10 : decode cX2_firstCommonRound 10 = .ok (.getfield 17, 3) := by decide +kernel
theorem dX2_firstCommonRound_13 : decode cX2_firstCommonRound 13 = .ok (.if_icmp .ge 39, 3) := by decide +kernel
theorem dX2_firstCommonRound_16 : decode cX2_firstCommonRound 16 = .ok (.aload_n 0, 1) := by decide +kernel
theorem dX2_firstCommonRound_17 : decode cX2_firstCommonRound 17 = .ok (.iload_n 3, 1) := by decide +kernel
theorem dX2_firstCommonRound_18 : decode cX2_firstCommonRound 18 = .ok (.invokevirtual 21, 3) := by decide +kernel
theorem dX2_firstCommonRound_21 : decode cX2_firstCommonRound 21 = .ok (.ifCond .eq 25, 3) := by decide +kernel
theorem dX2_firstCommonRound_24 : decode cX2_firstCommonRound 24 = .ok (.iload_n 1, 1) := by decide +kernel
theorem dX2_firstCommonRound_25 : decode cX2_firstCommonRound 25 = .ok (.aload_n 0, 1) := by decide +kernel
theorem dX2_firstCommonRound_26 : decode cX2_firstCommonRound 26 = .ok (.iload_n 3, 1) := by decide +kernel
theorem dX2_firstCommonRound_27 : decode cX2_firstCommonRound 27 = .ok (.iconst 2, 1) := by decide +kernel
theorem dX2_firstCommonRound_28 : decode cX2_firstCommonRound 28 = .ok (.invokevirtual 25, 3) := by decide +kernel
theorem dX2_firstCommonRound_31 : decode cX2_firstCommonRound 31 = .ok (.invokestatic 29, 3) := by decide +kernel
theorem dX2_firstCommonRound_34 : decode cX2_firstCommonRound 34 = .ok (.istore_n 1, 1) := by decide +kernel
theorem dX2_firstCommonRound_35 : decode cX2_firstCommonRound 35 = .ok (.iload_n 2, 1) := by decide +kernel
theorem dX2_firstCommonRound_36 : decode cX2_firstCommonRound 36 = .ok (.aload_n 0, 1) := by decide +kernel
theorem dX2_firstCommonRound_37 : decode cX2_firstCommonRound 37 = .ok (.iload_n 3, 1) := by decide +kernel
theorem dX2_firstCommonRound_38 : decode cX2_firstCommonRound 38 = .ok (.iconst 3, 1) := by decide +kernel
theorem dX2_firstCommonRound_39 : decode cX2_firstCommonRound 39 = .ok (.invokevirtual 25, 3) := by decide +kernel
theorem dX2_firstCommonRound_42 : decode cX2_firstCommonRound 42 = .ok (.invokestatic 34, 3) := by decide +kernel
theorem dX2_firstCommonRound_45 : decode cX2_firstCommonRound 45 = .ok (.istore_n 2, 1) := by decide +kernel
theorem dX2_firstCommonRound_46 : decode cX2_firstCommonRound 46 = .ok (.iinc 3 1, 3) := by decide +kernel
theorem dX2_firstCommonRound_49 : decode cX2_firstCommonRound 49 = .ok (.goto (-41), 3) := by decide +kernel
theorem dX2_firstCommonRound_52 : decode cX2_firstCommonRound 52 = .ok (.iload_n 1, 1) := by decide +kernel
theorem dX2_firstCommonRound_53 : decode cX2_firstCommonRound 53 = .ok (.iload_n 2, 1) := by decide +kernel
theorem dX2_firstCommonRound_54 : decode cX2_firstCommonRound 54 = .ok (.if_icmp .gt 7, 3) := by decide +kernel
theorem dX2_firstCommonRound_57 : decode cX2_firstCommonRound 57 = .ok (.iload_n 1, 1) := by decide +kernel
theorem dX2_firstCommonRound_58 : decode cX2_firstCommonRound 58 = .ok (.goto 5, 3) := by decide +kernel
theorem dX2_firstCommonRound_61 : decode cX2_firstCommonRound 61 = .ok (.bipush (-9), 2) := by decide +kernel
theorem dX2_firstCommonRound_63 : decode cX2_firstCommonRound 63 = .ok (.ireturn, 1) := by decide +kernel
theorem dX2_part_0 : decode cX2_part 0 = .ok (.aload_n 0, 1) := by decide +kernel
theorem dX2_part_1 : decode cX2_part 1 = .ok (.iconst 0, 1) := by decide +kernel
theorem dX2_part_2 : decode cX2_part 2 = .ok (.putfield 37, 3) := by decide +kernel
theorem dX2_part_5 : decode cX2_part 5 = .ok (.iconst (-1), 1) := by decide +kernel
theorem dX2_part_6 : decode cX2_part 6 = .ok (.istore_n 2, 1) := by decide +kernel
theorem dX2_part_7 : decode cX2_part 7 = .ok (.iconst 0, 1) := by decide +kernel
theorem dX2_part_8 : decode cX2_part 8 = .ok (.istore_n 3, 1) := by decide +kernel
theorem dX2_part_9 : decode cX2_part 9 = .ok (.iload_n 3, 1) := by decide +kernel
theorem dX2_part_10 : decode cX2_part 10 = .ok (.bipush 8, 2) := by decide +kernel
theorem dX2_part_12 : decode cX2_part 12 = .ok (.if_icmp .ge 50, 3) := by decide +kernel
theorem dX2_part_15 : decode cX2_part 15 = .ok (.aload_n 1, 1) := by decide +kernel
theorem dX2_part_16 : decode cX2_part 16 = .ok (.iload_n 2, 1) := by decide +kernel
theorem dX2_part_17 : decode cX2_part 17 = .ok (.invokestatic 40, 3) := by decide +kernel
theorem dX2_part_20 : decode cX2_part 20 = .ok (.istore 4, 2) := by decide +kernel
theorem dX2_part_22 : decode cX2_part 22 = .ok (.iload 4, 2) := by decide +kernel
theorem dX2_part_24 : decode cX2_part 24 = .ok (.bipush (-9), 2) := by decide +kernel
theorem dX2_part_26 : decode cX2_part 26 = .ok (.if_icmp .ne 6, 3) := by decide +kernel
theorem dX2_part_29 : decode cX2_part 29 = .ok (.goto 33, 3) := by decide +kernel
theorem dX2_part_32 : decode cX2_part 32 = .ok (.aload_n 0, 1) := by decide +kernel
theorem dX2_part_33 : decode cX2_part 33 = .ok (.getfield 11, 3) := by decide +kernel
theorem dX2_part_36 : decode cX2_part 36 = .ok (.aload_n 0, 1) := by decide +kernel
theorem dX2_part_37 : decode cX2_part 37 = .ok (.getfield 37, 3) := by decide +kernel
theorem dX2_part_40 : decode cX2_part 40 = .ok (.iload 4, 2) := by decide +kernel
theorem dX2_part_42 : decode cX2_part 42 = .ok (.iastore, 1) := by decide +kernel
theorem dX2_part_43 : decode cX2_part 43 = .ok (.aload_n 0, 1) := by decide +kernel
theorem dX2_part_44 : decode cX2_part 44 = .ok (.dup, 1) := by decide +kernel
theorem dX2_part_45 : decode cX2_part 45 = .ok (.getfield 37, 3) := by decide +kernel
theorem dX2_part_48 : decode cX2_part 48 = .ok (.iconst 1, 1) := by decide +kernel
theorem dX2_part_49 : decode cX2_part 49 = .ok (.iadd, 1) := by decide +kernel
theorem dX2_part_50 : decode cX2_part 50 = .ok (.putfield 37, 3) := by decide +kernel
theorem dX2_part_53 : decode cX2_part 53 = .ok (.iload 4, 2) := by decide +kernel
theorem dX2_part_55 : decode cX2_part 55 = .ok (.istore_n 2, 1) := by decide +kernel
theorem dX2_part_56 : decode cX2_part 56 = .ok (.iinc 3 1, 3) := by decide +kernel
theorem dX2_part_59 : decode cX2_part 59 = .ok (.goto (-50), 3) := by decide +kernel
theorem dX2_part_62 : decode cX2_part 62 = .ok (.return_, 1) := by decide +kernel
theorem dX2_firstEndBehind_0 : decode cX2_firstEndBehind 0 = .ok (.bipush (-9), 2) := by decide +kernel
theorem dX2_firstEndBehind_2 : decode cX2_firstEndBehind 2 = .ok (.istore_n 2, 1) := by decide +kernel
theorem dX2_firstEndBehind_3 : decode cX2_firstEndBehind 3 = .ok (.iconst 0, 1) := by decide +kernel
theorem dX2_firstEndBehind_4 : decode cX2_firstEndBehind 4 = .ok (.istore_n 3, 1) := by decide +kernel
theorem dX2_firstEndBehind_5 : decode cX2_firstEndBehind 5 = .ok (.iload_n 3, 1) := by decide +kernel
theorem dX2_firstEndBehind_6 : decode cX2_firstEndBehind 6 = .ok (.aload_n 0, 1) := by decide +kernel
theorem dX2_firstEndBehind_7 : decode cX2_firstEndBehind 7 = .ok (.getfield 17, 3) := by decide +kernel
theorem dX2_firstEndBehind_10 : decode cX2_firstEndBehind 10 = .ok (.if_icmp .ge 62, 3) := by decide +kernel
theorem dX2_firstEndBehind_13 : decode cX2_firstEndBehind 13 = .ok (.aload_n 0, 1) := by decide +kernel
theorem dX2_firstEndBehind_14 : decode cX2_firstEndBehind 14 = .ok (.iload_n 3, 1) := by decide +kernel
theorem dX2_firstEndBehind_15 : decode cX2_firstEndBehind 15 = .ok (.iconst 3, 1) := by decide +kernel
theorem dX2_firstEndBehind_16 : decode cX2_firstEndBehind 16 = .ok (.invokevirtual 25, 3) := by decide +kernel
theorem dX2_firstEndBehind_19 : decode cX2_firstEndBehind 19 = .ok (.istore 4, 2) := by decide +kernel
theorem dX2_firstEndBehind_21 : decode cX2_firstEndBehind 21 = .ok (.aload_n 0, 1) := by decide +kernel
theorem dX2_firstEndBehind_22 : decode cX2_firstEndBehind 22 = .ok (.iload_n 3, 1) := by decide +kernel
theorem dX2_firstEndBehind_23 : decode cX2_firstEndBehind 23 = .ok (.invokevirtual 21, 3) := by decide +kernel
theorem dX2_firstEndBehind_26 : decode cX2_firstEndBehind 26 = .ok (.ifCond .eq 17, 3) := by decide +kernel
theorem dX2_firstEndBehind_29 : decode cX2_firstEndBehind 29 = .ok (.aload_n 0, 1) := by decide +kernel
theorem dX2_firstEndBehind_30 : decode cX2_firstEndBehind 30 = .ok (.iload_n 3, 1) := by decide +kernel
theorem dX2_firstEndBehind_31 : decode cX2_firstEndBehind 31 = .ok (.iconst 2, 1) := by decide +kernel
theorem dX2_firstEndBehind_32 : decode cX2_firstEndBehind 32 = .ok (.invokevirtual 25, 3) := by decide +kernel
theorem dX2_firstEndBehind_35 : decode cX2_firstEndBehind 35 = .ok (.iload_n 1, 1) := by decide +kernel
theorem dX2_firstEndBehind_36 : decode cX2_firstEndBehind 36 = .ok (.if_icmp .le 7, 3) := by decide +kernel
theorem dX2_firstEndBehind_39 : decode cX2_firstEndBehind 39 = .ok (.iconst 1, 1) := by decide +kernel
theorem dX2_firstEndBehind_40 : decode cX2_firstEndBehind 40 = .ok (.goto 4, 3) := by decide +kernel
theorem dX2_firstEndBehind_43 : decode cX2_firstEndBehind 43 = .ok (.iconst 0, 1) := by decide +kernel
theorem dX2_firstEndBehind_44 : decode cX2_firstEndBehind 44 = .ok (.istore 5, 2) := by decide +kernel
theorem dX2_firstEndBehind_46 : decode cX2_firstEndBehind 46 = .ok (.iload 5, 2) := by decide +kernel
theorem dX2_firstEndBehind_48 : decode cX2_firstEndBehind 48 = .ok (.ifCond .eq 18, 3) := by decide +kernel
theorem dX2_firstEndBehind_51 : decode cX2_firstEndBehind 51 = .ok (.iload_n 2, 1) := by decide +kernel
theorem dX2_firstEndBehind_52 : decode cX2_firstEndBehind 52 = .ok (.bipush (-9), 2) := by decide +kernel
theorem dX2_firstEndBehind_54 : decode cX2_firstEndBehind 54 = .ok (.if_icmp .eq 9, 3) := by decide +kernel
theorem dX2_firstEndBehind_57 : decode cX2_firstEndBehind 57 = .ok (.iload 4, 2) := by decide +kernel
theorem dX2_firstEndBehind_59 : decode cX2_firstEndBehind 59 = .ok (.iload_n 2, 1) := by decide +kernel
theorem dX2_firstEndBehind_60 : decode cX2_firstEndBehind 60 = .ok (.if_icmp .ge 6, 3) := by decide +kernel
theorem dX2_firstEndBehind_63 : decode cX2_firstEndBehind 63 = .ok (.iload 4, 2) := by decide +kernel
theorem dX2_firstEndBehind_65 : decode cX2_firstEndBehind 65 = .ok (.istore_n 2, 1) := by decide +kernel
theorem dX2_firstEndBehind_66 : decode cX2_firstEndBehind 66 = .ok (.iinc 3 1, 3) := by decide +kernel
theorem dX2_firstEndBehind_69 : decode cX2_firstEndBehind 69 = .ok (.goto (-64), 3) := by decide +kernel
theorem dX2_firstEndBehind_72 : decode cX2_firstEndBehind 72 = .ok (.iload_n 2, 1) := by decide +kernel
theorem dX2_firstEndBehind_73 : decode cX2_firstEndBehind 73 = .ok (.ireturn, 1) := by decide +kernel
theorem dX2_roundOf_0 : decode cX2_roundOf 0 = .ok (.iload_n 1, 1) := by decide +kernel
theorem dX2_roundOf_1 : decode cX2_roundOf 1 = .ok (.iconst 0, 1) := by decide +kernel
theorem dX2_roundOf_2 : decode cX2_roundOf 2 = .ok (.aload_n 0, 1) := by decide +kernel
theorem dX2_roundOf_3 : decode cX2_roundOf 3 = .ok (.getfield 37, 3) := by decide +kernel
theorem dX2_roundOf_6 : decode cX2_roundOf 6 = .ok (.iconst 1, 1) := by decide +kernel
theorem dX2_roundOf_7 : decode cX2_roundOf 7 = .ok (.isub, 1) := by decide +kernel
theorem dX2_roundOf_8 : decode cX2_roundOf 8 = .ok (.invokestatic 44, 3) := by decide +kernel
theorem dX2_roundOf_11 : decode cX2_roundOf 11 = .ok (.ifCond .eq 12, 3) := by decide +kernel
theorem dX2_roundOf_14 : decode cX2_roundOf 14 = .ok (.aload_n 0, 1) := by decide +kernel
theorem dX2_roundOf_15 : decode cX2_roundOf 15 = .ok (.getfield 11, 3) := by decide +kernel
theorem dX2_roundOf_18 : decode cX2_roundOf 18 = .ok (.iload_n 1, 1) := by decide +kernel
theorem dX2_roundOf_19 : decode cX2_roundOf 19 = .ok (.iaload, 1) := by decide +kernel
theorem dX2_roundOf_20 : decode cX2_roundOf 20 = .ok (.goto 5, 3) := by decide +kernel
theorem dX2_roundOf_23 : decode cX2_roundOf 23 = .ok (.bipush (-9), 2) := by decide +kernel
theorem dX2_roundOf_25 : decode cX2_roundOf 25 = .ok (.ireturn, 1) := by decide +kernel
theorem dX2_isInOrder_0 : decode cX2_isInOrder 0 = .ok (.iconst 0, 1) := by decide +kernel
theorem dX2_isInOrder_1 : decode cX2_isInOrder 1 = .ok (.istore_n 2, 1) := by decide +kernel
theorem dX2_isInOrder_2 : decode cX2_isInOrder 2 = .ok (.iconst 0, 1) := by decide +kernel
theorem dX2_isInOrder_3 : decode cX2_isInOrder 3 = .ok (.istore_n 3, 1) := by decide +kernel
theorem dX2_isInOrder_4 : decode cX2_isInOrder 4 = .ok (.iload_n 3, 1) := by decide +kernel
theorem dX2_isInOrder_5 : decode cX2_isInOrder 5 = .ok (.aload_n 0, 1) := by decide +kernel
theorem dX2_isInOrder_6 : decode cX2_isInOrder 6 = .ok (.getfield 17, 3) := by decide +kernel
theorem dX2_isInOrder_9 : decode cX2_isInOrder 9 = .ok (.if_icmp .ge 41, 3) := by decide +kernel
theorem dX2_isInOrder_12 : decode cX2_isInOrder 12 = .ok (.aload_n 0, 1) := by decide +kernel
theorem dX2_isInOrder_13 : decode cX2_isInOrder 13 = .ok (.iload_n 3, 1) := by decide +kernel
theorem dX2_isInOrder_14 : decode cX2_isInOrder 14 = .ok (.iload_n 1, 1) := by decide +kernel
theorem dX2_isInOrder_15 : decode cX2_isInOrder 15 = .ok (.invokevirtual 48, 3) := by decide +kernel
theorem dX2_isInOrder_18 : decode cX2_isInOrder 18 = .ok (.ifCond .eq 26, 3) := by decide +kernel
theorem dX2_isInOrder_21 : decode cX2_isInOrder 21 = .ok (.iload_n 2, 1) := by decide +kernel
theorem dX2_isInOrder_22 : decode cX2_isInOrder 22 = .ok (.aload_n 0, 1) := by decide +kernel
theorem dX2_isInOrder_23 : decode cX2_isInOrder 23 = .ok (.iload_n 3, 1) := by decide +kernel
theorem dX2_isInOrder_24 : decode cX2_isInOrder 24 = .ok (.iconst 2, 1) := by decide +kernel
theorem dX2_isInOrder_25 : decode cX2_isInOrder 25 = .ok (.invokevirtual 25, 3) := by decide +kernel
theorem dX2_isInOrder_28 : decode cX2_isInOrder 28 = .ok (.invokestatic 29, 3) := by decide +kernel
theorem dX2_isInOrder_31 : decode cX2_isInOrder 31 = .ok (.istore_n 2, 1) := by decide +kernel
theorem dX2_isInOrder_32 : decode cX2_isInOrder 32 = .ok (.iload_n 2, 1) := by decide +kernel
theorem dX2_isInOrder_33 : decode cX2_isInOrder 33 = .ok (.aload_n 0, 1) := by decide +kernel
theorem dX2_isInOrder_34 : decode cX2_isInOrder 34 = .ok (.iload_n 3, 1) := by decide +kernel
theorem dX2_isInOrder_35 : decode cX2_isInOrder 35 = .ok (.iconst 3, 1) := by decide +kernel
theorem dX2_isInOrder_36 : decode cX2_isInOrder 36 = .ok (.invokevirtual 25, 3) := by decide +kernel
theorem dX2_isInOrder_39 : decode cX2_isInOrder 39 = .ok (.if_icmp .le 5, 3) := by decide +kernel
theorem dX2_isInOrder_42 : decode cX2_isInOrder 42 = .ok (.iconst 0, 1) := by decide +kernel
theorem dX2_isInOrder_43 : decode cX2_isInOrder 43 = .ok (.ireturn, 1) := by decide +kernel
theorem dX2_isInOrder_44 : decode cX2_isInOrder 44 = .ok (.iinc 3 1, 3) := by decide +kernel
theorem dX2_isInOrder_47 : decode cX2_isInOrder 47 = .ok (.goto (-43), 3) := by decide +kernel
theorem dX2_isInOrder_50 : decode cX2_isInOrder 50 = .ok (.iconst 1, 1) := by decide +kernel
theorem dX2_isInOrder_51 : decode cX2_isInOrder 51 = .ok (.ireturn, 1) := by decide +kernel
theorem dX2_earliestBelow_0 : decode cX2_earliestBelow 0 = .ok (.bipush (-9), 2) := by decide +kernel
theorem dX2_earliestBelow_2 : decode cX2_earliestBelow 2 = .ok (.istore_n 3, 1) := by decide +kernel
theorem dX2_earliestBelow_3 : decode cX2_earliestBelow 3 = .ok (.iconst 0, 1) := by decide +kernel
theorem dX2_earliestBelow_4 : decode cX2_earliestBelow 4 = .ok (.istore 4, 2) := by decide +kernel
theorem dX2_earliestBelow_6 : decode cX2_earliestBelow 6 = .ok (.iload 4, 2) := by decide +kernel
theorem dX2_earliestBelow_8 : decode cX2_earliestBelow 8 = .ok (.iload_n 2, 1) := by decide +kernel
theorem dX2_earliestBelow_9 : decode cX2_earliestBelow 9 = .ok (.if_icmp .ge 31, 3) := by decide +kernel
theorem dX2_earliestBelow_12 : decode cX2_earliestBelow 12 = .ok (.aload_n 0, 1) := by decide +kernel
theorem dX2_earliestBelow_13 : decode cX2_earliestBelow 13 = .ok (.iload 4, 2) := by decide +kernel
theorem dX2_earliestBelow_15 : decode cX2_earliestBelow 15 = .ok (.iload_n 1, 1) := by decide +kernel
theorem dX2_earliestBelow_16 : decode cX2_earliestBelow 16 = .ok (.invokevirtual 48, 3) := by decide +kernel
theorem dX2_earliestBelow_19 : decode cX2_earliestBelow 19 = .ok (.ifCond .eq 15, 3) := by decide +kernel
theorem dX2_earliestBelow_22 : decode cX2_earliestBelow 22 = .ok (.iload_n 3, 1) := by decide +kernel
theorem dX2_earliestBelow_23 : decode cX2_earliestBelow 23 = .ok (.aload_n 0, 1) := by decide +kernel
theorem dX2_earliestBelow_24 : decode cX2_earliestBelow 24 = .ok (.iload 4, 2) := by decide +kernel
theorem dX2_earliestBelow_26 : decode cX2_earliestBelow 26 = .ok (.iconst 2, 1) := by decide +kernel
theorem dX2_earliestBelow_27 : decode cX2_earliestBelow 27 = .ok (.invokevirtual 25, 3) := by decide +kernel
theorem dX2_earliestBelow_30 : decode cX2_earliestBelow 30 = .ok (.invokestatic 29, 3) := by decide +kernel
theorem dX2_earliestBelow_33 : decode cX2_earliestBelow 33 = .ok (.istore_n 3, 1) := by decide +kernel
theorem dX2_earliestBelow_34 : decode cX2_earliestBelow 34 = .ok (.iinc 4 1, 3) := by decide +kernel
theorem dX2_earliestBelow_37 : decode cX2_earliestBelow 37 = .ok (.goto (-31), 3) := by decide +kernel
theorem dX2_earliestBelow_40 : decode cX2_earliestBelow 40 = .ok (.iload_n 3, 1) := by decide +kernel
theorem dX2_earliestBelow_41 : decode cX2_earliestBelow 41 = .ok (.ireturn, 1) := by decide +kernel
theorem dX2_latestFrom_0 : decode cX2_latestFrom 0 = .ok (.bipush 99, 2) := by decide +kernel
theorem dX2_latestFrom_2 : decode cX2_latestFrom 2 = .ok (.istore_n 3, 1) := by decide +kernel
theorem dX2_latestFrom_3 : decode cX2_latestFrom 3 = .ok (.iload_n 2, 1) := by decide +kernel
theorem dX2_latestFrom_4 : decode cX2_latestFrom 4 = .ok (.istore 4, 2) := by decide +kernel
theorem dX2_latestFrom_6 : decode cX2_latestFrom 6 = .ok (.iload 4, 2) := by decide +kernel
theorem dX2_latestFrom_8 : decode cX2_latestFrom 8 = .ok (.aload_n 0, 1) := by decide +kernel
theorem dX2_latestFrom_9 : decode cX2_latestFrom 9 = .ok (.getfield 17, 3) := by decide +kernel
theorem dX2_latestFrom_12 : decode cX2_latestFrom 12 = .ok (.if_icmp .ge 31, 3) := by decide +kernel
theorem dX2_latestFrom_15 : decode cX2_latestFrom 15 = .ok (.aload_n 0, 1) := by decide +kernel
theorem dX2_latestFrom_16 : decode cX2_latestFrom 16 = .ok (.iload 4, 2) := by decide +kernel
theorem dX2_latestFrom_18 : decode cX2_latestFrom 18 = .ok (.iload_n 1, 1) := by decide +kernel
theorem dX2_latestFrom_19 : decode cX2_latestFrom 19 = .ok (.invokevirtual 48, 3) := by decide +kernel
theorem dX2_latestFrom_22 : decode cX2_latestFrom 22 = .ok (.ifCond .eq 15, 3) := by decide +kernel
theorem dX2_latestFrom_25 : decode cX2_latestFrom 25 = .ok (.iload_n 3, 1) := by decide +kernel
theorem dX2_latestFrom_26 : decode cX2_latestFrom 26 = .ok (.aload_n 0, 1) := by decide +kernel
theorem dX2_latestFrom_27 : decode cX2_latestFrom 27 = .ok (.iload 4, 2) := by decide +kernel
theorem dX2_latestFrom_29 : decode cX2_latestFrom 29 = .ok (.iconst 3, 1) := by decide +kernel
theorem dX2_latestFrom_30 : decode cX2_latestFrom 30 = .ok (.invokevirtual 25, 3) := by decide +kernel
theorem dX2_latestFrom_33 : decode cX2_latestFrom 33 = .ok (.invokestatic 34, 3) := by decide +kernel
theorem dX2_latestFrom_36 : decode cX2_latestFrom 36 = .ok (.istore_n 3, 1) := by decide +kernel
theorem dX2_latestFrom_37 : decode cX2_latestFrom 37 = .ok (.iinc 4 1, 3) := by decide +kernel
theorem dX2_latestFrom_40 : decode cX2_latestFrom 40 = .ok (.goto (-34), 3) := by decide +kernel
theorem dX2_latestFrom_43 : decode cX2_latestFrom 43 = .ok (.iload_n 3, 1) := by decide +kernel
theorem dX2_latestFrom_44 : decode cX2_latestFrom 44 = .ok (.ireturn, 1) := by decide +kernel
theorem dX3_init_0 : decode cX3_init 0 = .ok (.aload_n 0, 1) := by decide +kernel
theorem dX3_init_1 : decode cX3_init 1 = .ok (.invokespecial 3, 3) := by decide +kernel
theorem dX3_init_4 : decode cX3_init 4 = .ok (.aload_n 0, 1) := by decide +kernel
theorem dX3_init_5 : decode cX3_init 5 = .ok (.bipush 12, 2) := by decide +kernel
theorem dX3_init_7 : decode cX3_init 7 = .ok (.newarray .int, 2) := by decide +kernel
theorem dX3_init_9 : decode cX3_init 9 = .ok (.putfield 11, 3) := by decide +kernel
theorem dX3_init_12 : decode cX3_init 12 = .ok (.return_, 1) := by decide +kernel
theorem dX3_stateOf_0 : decode cX3_stateOf 0 = .ok (.bipush 100, 2) := by decide +kernel
theorem dX3_stateOf_2 : decode cX3_stateOf 2 = .ok (.iload_n 0, 1) := by decide +kernel
theorem dX3_stateOf_3 : decode cX3_stateOf 3 = .ok (.imul, 1) := by decide +kernel
theorem dX3_stateOf_4 : decode cX3_stateOf 4 = .ok (.iload_n 1, 1) := by decide +kernel
theorem dX3_stateOf_5 : decode cX3_stateOf 5 = .ok (.iadd, 1) := by decide +kernel
theorem dX3_stateOf_6 : decode cX3_stateOf 6 = .ok (.ireturn, 1) := by decide +kernel
theorem dX3_iceIn_0 : decode cX3_iceIn 0 = .ok (.iload_n 0, 1) := by decide +kernel
theorem dX3_iceIn_1 : decode cX3_iceIn 1 = .ok (.bipush 100, 2) := by decide +kernel
theorem dX3_iceIn_3 : decode cX3_iceIn 3 = .ok (.idiv, 1) := by decide +kernel
theorem dX3_iceIn_4 : decode cX3_iceIn 4 = .ok (.ireturn, 1) := by decide +kernel
theorem dX3_airIn_0 : decode cX3_airIn 0 = .ok (.iload_n 0, 1) := by decide +kernel
theorem dX3_airIn_1 : decode cX3_airIn 1 = .ok (.bipush 100, 2) := by decide +kernel
theorem dX3_airIn_3 : decode cX3_airIn 3 = .ok (.irem, 1) := by decide +kernel
theorem dX3_airIn_4 : decode cX3_airIn 4 = .ok (.ireturn, 1) := by decide +kernel
theorem dX3_takenBy_0 : decode cX3_takenBy 0 = .ok (.iload_n 1, 1) := by decide +kernel
theorem dX3_takenBy_1 : decode cX3_takenBy 1 = .ok (.ifCond .lt 9, 3) := by decide +kernel
theorem dX3_takenBy_4 : decode cX3_takenBy 4 = .ok (.iload_n 1, 1) := by decide +kernel
theorem dX3_takenBy_5 : decode cX3_takenBy 5 = .ok (.bipush 6, 2) := by decide +kernel
theorem dX3_takenBy_7 : decode cX3_takenBy 7 = .ok (.if_icmp .lt 5, 3) := by decide +kernel
theorem dX3_takenBy_10 : decode cX3_takenBy 10 = .ok (.iconst 0, 1) := by decide +kernel
theorem dX3_takenBy_11 : decode cX3_takenBy 11 = .ok (.ireturn, 1) := by decide +kernel
theorem dX3_takenBy_12 : decode cX3_takenBy 12 = .ok (.aload_n 0, 1) := by decide +kernel
theorem dX3_takenBy_13 : decode cX3_takenBy 13 = .ok (.getfield 11, 3) := by decide +kernel
theorem dX3_takenBy_16 : decode cX3_takenBy 16 = .ok (.iload_n 1, 1) := by decide +kernel
theorem dX3_takenBy_17 : decode cX3_takenBy 17 = .ok (.iaload, 1) := by decide +kernel
theorem dX3_takenBy_18 : decode cX3_takenBy 18 = .ok (.iload_n 2, 1) := by decide +kernel
theorem dX3_takenBy_19 : decode cX3_takenBy 19 = .ok (.iload_n 1, 1) := by decide +kernel
theorem dX3_takenBy_20 : decode cX3_takenBy 20 = .ok (.invokestatic 15, 3) := by decide +kernel
theorem dX3_takenBy_23 : decode cX3_takenBy 23 = .ok (.ifCond .eq 16, 3) := by decide +kernel
theorem dX3_takenBy_26 : decode cX3_takenBy 26 = .ok (.bipush 10, 2) := by decide +kernel
theorem dX3_takenBy_28 : decode cX3_takenBy 28 = .ok (.aload_n 0, 1) := by decide +kernel
theorem dX3_takenBy_29 : decode cX3_takenBy 29 = .ok (.getfield 11, 3) := by decide +kernel
theorem dX3_takenBy_32 : decode cX3_takenBy 32 = .ok (.bipush 6, 2) := by decide +kernel
theorem dX3_takenBy_34 : decode cX3_takenBy 34 = .ok (.iaload, 1) := by decide +kernel
theorem dX3_takenBy_35 : decode cX3_takenBy 35 = .ok (.isub, 1) := by decide +kernel
theorem dX3_takenBy_36 : decode cX3_takenBy 36 = .ok (.goto 5, 3) := by decide +kernel
theorem dX3_takenBy_39 : decode cX3_takenBy 39 = .ok (.bipush 10, 2) := by decide +kernel
theorem dX3_takenBy_41 : decode cX3_takenBy 41 = .ok (.imul, 1) := by decide +kernel
theorem dX3_takenBy_42 : decode cX3_takenBy 42 = .ok (.ireturn, 1) := by decide +kernel
theorem dX3_fortyWarmth_0 : decode cX3_fortyWarmth 0 = .ok (.iload_n 1, 1) := by decide +kernel
theorem dX3_fortyWarmth_1 : decode cX3_fortyWarmth 1 = .ok (.iconst 1, 1) := by decide +kernel
theorem dX3_fortyWarmth_2 : decode cX3_fortyWarmth 2 = .ok (.isub, 1) := by decide +kernel
theorem dX3_fortyWarmth_3 : decode cX3_fortyWarmth 3 = .ok (.iconst 0, 1) := by decide +kernel
theorem dX3_fortyWarmth_4 : decode cX3_fortyWarmth 4 = .ok (.invokestatic 19, 3) := by decide +kernel
theorem dX3_fortyWarmth_7 : decode cX3_fortyWarmth 7 = .ok (.istore 4, 2) := by decide +kernel
theorem dX3_fortyWarmth_9 : decode cX3_fortyWarmth 9 = .ok (.iload_n 1, 1) := by decide +kernel
theorem dX3_fortyWarmth_10 : decode cX3_fortyWarmth 10 = .ok (.iconst 1, 1) := by decide +kernel
theorem dX3_fortyWarmth_11 : decode cX3_fortyWarmth 11 = .ok (.iadd, 1) := by decide +kernel
theorem dX3_fortyWarmth_12 : decode cX3_fortyWarmth 12 = .ok (.iconst 5, 1) := by decide +kernel
theorem dX3_fortyWarmth_13 : decode cX3_fortyWarmth 13 = .ok (.invokestatic 25, 3) := by decide +kernel
theorem dX3_fortyWarmth_16 : decode cX3_fortyWarmth 16 = .ok (.istore 5, 2) := by decide +kernel
theorem dX3_fortyWarmth_18 : decode cX3_fortyWarmth 18 = .ok (.iconst 2, 1) := by decide +kernel
theorem dX3_fortyWarmth_19 : decode cX3_fortyWarmth 19 = .ok (.aload_n 0, 1) := by decide +kernel
theorem dX3_fortyWarmth_20 : decode cX3_fortyWarmth 20 = .ok (.iload_n 1, 1) := by decide +kernel
theorem dX3_fortyWarmth_21 : decode cX3_fortyWarmth 21 = .ok (.iload_n 2, 1) := by decide +kernel
theorem dX3_fortyWarmth_22 : decode cX3_fortyWarmth 22 = .ok (.invokevirtual 28, 3) := by decide +kernel
theorem dX3_fortyWarmth_25 : decode cX3_fortyWarmth 25 = .ok (.imul, 1) := by decide +kernel
theorem dX3_fortyWarmth_26 : decode cX3_fortyWarmth 26 = .ok (.aload_n 0, 1) := by decide +kernel
theorem dX3_fortyWarmth_27 : decode cX3_fortyWarmth 27 = .ok (.iload 4, 2) := by decide +kernel
theorem dX3_fortyWarmth_29 : decode cX3_fortyWarmth 29 = .ok (.iload_n 2, 1) := by decide +kernel
theorem dX3_fortyWarmth_30 : decode cX3_fortyWarmth 30 = .ok (.invokevirtual 28, 3) := by decide +kernel
theorem dX3_fortyWarmth_33 : decode cX3_fortyWarmth 33 = .ok (.iadd, 1) := by decide +kernel
theorem dX3_fortyWarmth_34 : decode cX3_fortyWarmth 34 = .ok (.aload_n 0, 1) := by decide +kernel
theorem dX3_fortyWarmth_35 : decode cX3_fortyWarmth 35 = .ok (.iload 5, 2) := by decide +kernel
theorem dX3_fortyWarmth_37 : decode cX3_fortyWarmth 37 = .ok (.iload_n 2, 1) := by decide +kernel
theorem dX3_fortyWarmth_38 : decode cX3_fortyWarmth 38 = .ok (.invokevirtual 28, 3) := by decide +kernel
theorem dX3_fortyWarmth_41 : decode cX3_fortyWarmth 41 = .ok (.iadd, 1) := by decide +kernel
theorem dX3_fortyWarmth_42 : decode cX3_fortyWarmth 42 = .ok (.istore 6, 2) := by decide +kernel
theorem dX3_fortyWarmth_44 : decode cX3_fortyWarmth 44 = .ok (.iload 6, 2) := by decide +kernel
theorem dX3_fortyWarmth_46 : decode cX3_fortyWarmth 46 = .ok (.bipush 40, 2) := by decide +kernel
theorem dX3_fortyWarmth_48 : decode cX3_fortyWarmth 48 = .ok (.aload_n 0, 1) := by decide +kernel
theorem dX3_fortyWarmth_49 : decode cX3_fortyWarmth 49 = .ok (.getfield 11, 3) := by decide +kernel
theorem dX3_fortyWarmth_52 : decode cX3_fortyWarmth 52 = .ok (.bipush 7, 2) := by decide +kernel
theorem dX3_fortyWarmth_54 : decode cX3_fortyWarmth 54 = .ok (.iaload, 1) := by decide +kernel
theorem dX3_fortyWarmth_55 : decode cX3_fortyWarmth 55 = .ok (.imul, 1) := by decide +kernel
theorem dX3_fortyWarmth_56 : decode cX3_fortyWarmth 56 = .ok (.iload_n 3, 1) := by decide +kernel
theorem dX3_fortyWarmth_57 : decode cX3_fortyWarmth 57 = .ok (.imul, 1) := by decide +kernel
theorem dX3_fortyWarmth_58 : decode cX3_fortyWarmth 58 = .ok (.iadd, 1) := by decide +kernel
theorem dX3_fortyWarmth_59 : decode cX3_fortyWarmth 59 = .ok (.ireturn, 1) := by decide +kernel
theorem dX3_iceAfter_0 : decode cX3_iceAfter 0 = .ok (.bipush 40, 2) := by decide +kernel
theorem dX3_iceAfter_2 : decode cX3_iceAfter 2 = .ok (.aload_n 0, 1) := by decide +kernel
theorem dX3_iceAfter_3 : decode cX3_iceAfter 3 = .ok (.getfield 11, 3) := by decide +kernel
theorem dX3_iceAfter_6 : decode cX3_iceAfter 6 = .ok (.bipush 8, 2) := by decide +kernel
theorem dX3_iceAfter_8 : decode cX3_iceAfter 8 = .ok (.iaload, 1) := by decide +kernel
theorem dX3_iceAfter_9 : decode cX3_iceAfter 9 = .ok (.imul, 1) := by decide +kernel
theorem dX3_iceAfter_10 : decode cX3_iceAfter 10 = .ok (.istore_n 3, 1) := by decide +kernel
theorem dX3_iceAfter_11 : decode cX3_iceAfter 11 = .ok (.iload_n 3, 1) := by decide +kernel
theorem dX3_iceAfter_12 : decode cX3_iceAfter 12 = .ok (.bipush 40, 2) := by decide +kernel
theorem dX3_iceAfter_14 : decode cX3_iceAfter 14 = .ok (.aload_n 0, 1) := by decide +kernel
theorem dX3_iceAfter_15 : decode cX3_iceAfter 15 = .ok (.getfield 11, 3) := by decide +kernel
theorem dX3_iceAfter_18 : decode cX3_iceAfter 18 = .ok (.bipush 9, 2) := by decide +kernel
theorem dX3_iceAfter_20 : decode cX3_iceAfter 20 = .ok (.iaload, 1) := by decide +kernel
theorem dX3_iceAfter_21 : decode cX3_iceAfter 21 = .ok (.imul, 1) := by decide +kernel
theorem dX3_iceAfter_22 : decode cX3_iceAfter 22 = .ok (.iadd, 1) := by decide +kernel
theorem dX3_iceAfter_23 : decode cX3_iceAfter 23 = .ok (.istore 4, 2) := by decide +kernel
theorem dX3_iceAfter_25 : decode cX3_iceAfter 25 = .ok (.iconst 0, 1) := by decide +kernel
theorem dX3_iceAfter_26 : decode cX3_iceAfter 26 = .ok (.istore 5, 2) := by decide +kernel
theorem dX3_iceAfter_28 : decode cX3_iceAfter 28 = .ok (.iconst 0, 1) := by decide +kernel
theorem dX3_iceAfter_29 : decode cX3_iceAfter 29 = .ok (.istore 6, 2) := by decide +kernel
theorem dX3_iceAfter_31 : decode cX3_iceAfter 31 = .ok (.iload 6, 2) := by decide +kernel
theorem dX3_iceAfter_33 : decode cX3_iceAfter 33 = .ok (.bipush 6, 2) := by decide +kernel
theorem dX3_iceAfter_35 : decode cX3_iceAfter 35 = .ok (.if_icmp .ge 50, 3) := by decide +kernel
theorem dX3_iceAfter_38 : decode cX3_iceAfter 38 = .ok (.aload_n 0, 1) := by decide +kernel
theorem dX3_iceAfter_39 : decode cX3_iceAfter 39 = .ok (.iload 6, 2) := by decide +kernel
theorem dX3_iceAfter_41 : decode cX3_iceAfter 41 = .ok (.iload_n 1, 1) := by decide +kernel
theorem dX3_iceAfter_42 : decode cX3_iceAfter 42 = .ok (.iload_n 2, 1) := by decide +kernel
theorem dX3_iceAfter_43 : decode cX3_iceAfter 43 = .ok (.invokevirtual 31, 3) := by decide +kernel
theorem dX3_iceAfter_46 : decode cX3_iceAfter 46 = .ok (.istore 7, 2) := by decide +kernel
theorem dX3_iceAfter_48 : decode cX3_iceAfter 48 = .ok (.iload 7, 2) := by decide +kernel
theorem dX3_iceAfter_50 : decode cX3_iceAfter 50 = .ok (.iload_n 3, 1) := by decide +kernel
theorem dX3_iceAfter_51 : decode cX3_iceAfter 51 = .ok (.if_icmp .lt 19, 3) := by decide +kernel
theorem dX3_iceAfter_54 : decode cX3_iceAfter 54 = .ok (.iload 7, 2) := by decide +kernel
theorem dX3_iceAfter_56 : decode cX3_iceAfter 56 = .ok (.iload 4, 2) := by decide +kernel
theorem dX3_iceAfter_58 : decode cX3_iceAfter 58 = .ok (.if_icmp .ge 21, 3) := by decide +kernel
theorem dX3_iceAfter_61 : decode cX3_iceAfter 61 = .ok (.iload_n 1, 1) := by decide +kernel
theorem dX3_iceAfter_62 : decode cX3_iceAfter 62 = .ok (.iload 6, 2) := by decide +kernel
theorem dX3_iceAfter_64 : decode cX3_iceAfter 64 = .ok (.invokestatic 15, 3) := by decide +kernel
theorem dX3_iceAfter_67 : decode cX3_iceAfter 67 = .ok (.ifCond .eq 12, 3) := by decide +kernel
theorem dX3_iceAfter_70 : decode cX3_iceAfter 70 = .ok (.iload 5, 2) := by decide +kernel
theorem dX3_iceAfter_72 : decode cX3_iceAfter 72 = .ok (.iconst 1, 1) := by decide +kernel
theorem dX3_iceAfter_73 : decode cX3_iceAfter 73 = .ok (.iload 6, 2) := by decide +kernel
theorem dX3_iceAfter_75 : decode cX3_iceAfter 75 = .ok (.ishl, 1) := by decide +kernel
theorem dX3_iceAfter_76 : decode cX3_iceAfter 76 = .ok (.ior, 1) := by decide +kernel
theorem dX3_iceAfter_77 : decode cX3_iceAfter 77 = .ok (.istore 5, 2) := by decide +kernel
theorem dX3_iceAfter_79 : decode cX3_iceAfter 79 = .ok (.iinc 6 1, 3) := by decide +kernel
theorem dX3_iceAfter_82 : decode cX3_iceAfter 82 = .ok (.goto (-51), 3) := by decide +kernel
theorem dX3_iceAfter_85 : decode cX3_iceAfter 85 = .ok (.iload 5, 2) := by decide +kernel
theorem dX3_iceAfter_87 : decode cX3_iceAfter 87 = .ok (.ireturn, 1) := by decide +kernel
theorem dX3_airAfter_0 : decode cX3_airAfter 0 = .ok (.bipush 6, 2) := by decide +kernel
theorem dX3_airAfter_2 : decode cX3_airAfter 2 = .ok (.iload_n 1, 1) := by decide +kernel
theorem dX3_airAfter_3 : decode cX3_airAfter 3 = .ok (.invokestatic 35, 3) := by decide +kernel
theorem dX3_airAfter_6 : decode cX3_airAfter 6 = .ok (.isub, 1) := by decide +kernel
theorem dX3_airAfter_7 : decode cX3_airAfter 7 = .ok (.istore_n 3, 1) := by decide +kernel
theorem dX3_airAfter_8 : decode cX3_airAfter 8 = .ok (.iload_n 2, 1) := by decide +kernel
theorem dX3_airAfter_9 : decode cX3_airAfter 9 = .ok (.aload_n 0, 1) := by decide +kernel
theorem dX3_airAfter_10 : decode cX3_airAfter 10 = .ok (.getfield 11, 3) := by decide +kernel
theorem dX3_airAfter_13 : decode cX3_airAfter 13 = .ok (.bipush 10, 2) := by decide +kernel
theorem dX3_airAfter_15 : decode cX3_airAfter 15 = .ok (.iaload, 1) := by decide +kernel
theorem dX3_airAfter_16 : decode cX3_airAfter 16 = .ok (.iadd, 1) := by decide +kernel
theorem dX3_airAfter_17 : decode cX3_airAfter 17 = .ok (.aload_n 0, 1) := by decide +kernel
theorem dX3_airAfter_18 : decode cX3_airAfter 18 = .ok (.getfield 11, 3) := by decide +kernel
theorem dX3_airAfter_21 : decode cX3_airAfter 21 = .ok (.bipush 11, 2) := by decide +kernel
theorem dX3_airAfter_23 : decode cX3_airAfter 23 = .ok (.iaload, 1) := by decide +kernel
theorem dX3_airAfter_24 : decode cX3_airAfter 24 = .ok (.iload_n 3, 1) := by decide +kernel
theorem dX3_airAfter_25 : decode cX3_airAfter 25 = .ok (.imul, 1) := by decide +kernel
theorem dX3_airAfter_26 : decode cX3_airAfter 26 = .ok (.isub, 1) := by decide +kernel
theorem dX3_airAfter_27 : decode cX3_airAfter 27 = .ok (.istore 4, 2) := by decide +kernel
theorem dX3_airAfter_29 : decode cX3_airAfter 29 = .ok (.iconst 0, 1) := by decide +kernel
theorem dX3_airAfter_30 : decode cX3_airAfter 30 = .ok (.bipush 99, 2) := by decide +kernel
theorem dX3_airAfter_32 : decode cX3_airAfter 32 = .ok (.iload 4, 2) := by decide +kernel
theorem dX3_airAfter_34 : decode cX3_airAfter 34 = .ok (.invokestatic 25, 3) := by decide +kernel
theorem dX3_airAfter_37 : decode cX3_airAfter 37 = .ok (.invokestatic 19, 3) := by decide +kernel
theorem dX3_airAfter_40 : decode cX3_airAfter 40 = .ok (.ireturn, 1) := by decide +kernel
theorem dX3_stateAfter_0 : decode cX3_stateAfter 0 = .ok (.iload_n 1, 1) := by decide +kernel
theorem dX3_stateAfter_1 : decode cX3_stateAfter 1 = .ok (.invokestatic 41, 3) := by decide +kernel
theorem dX3_stateAfter_4 : decode cX3_stateAfter 4 = .ok (.istore_n 2, 1) := by decide +kernel
theorem dX3_stateAfter_5 : decode cX3_stateAfter 5 = .ok (.iload_n 1, 1) := by decide +kernel
theorem dX3_stateAfter_6 : decode cX3_stateAfter 6 = .ok (.invokestatic 44, 3) := by decide +kernel
theorem dX3_stateAfter_9 : decode cX3_stateAfter 9 = .ok (.istore_n 3, 1) := by decide +kernel
theorem dX3_stateAfter_10 : decode cX3_stateAfter 10 = .ok (.aload_n 0, 1) := by decide +kernel
theorem dX3_stateAfter_11 : decode cX3_stateAfter 11 = .ok (.iload_n 2, 1) := by decide +kernel
theorem dX3_stateAfter_12 : decode cX3_stateAfter 12 = .ok (.iload_n 3, 1) := by decide +kernel
theorem dX3_stateAfter_13 : decode cX3_stateAfter 13 = .ok (.invokevirtual 47, 3) := by decide +kernel
theorem dX3_stateAfter_16 : decode cX3_stateAfter 16 = .ok (.aload_n 0, 1) := by decide +kernel
theorem dX3_stateAfter_17 : decode cX3_stateAfter 17 = .ok (.iload_n 2, 1) := by decide +kernel
theorem dX3_stateAfter_18 : decode cX3_stateAfter 18 = .ok (.iload_n 3, 1) := by decide +kernel
theorem dX3_stateAfter_19 : decode cX3_stateAfter 19 = .ok (.invokevirtual 50, 3) := by decide +kernel
theorem dX3_stateAfter_22 : decode cX3_stateAfter 22 = .ok (.invokestatic 53, 3) := by decide +kernel
theorem dX3_stateAfter_25 : decode cX3_stateAfter 25 = .ok (.ireturn, 1) := by decide +kernel
theorem dX3_isRest_0 : decode cX3_isRest 0 = .ok (.aload_n 0, 1) := by decide +kernel
theorem dX3_isRest_1 : decode cX3_isRest 1 = .ok (.iload_n 1, 1) := by decide +kernel
theorem dX3_isRest_2 : decode cX3_isRest 2 = .ok (.iload_n 2, 1) := by decide +kernel
theorem dX3_isRest_3 : decode cX3_isRest 3 = .ok (.invokevirtual 47, 3) := by decide +kernel
theorem dX3_isRest_6 : decode cX3_isRest 6 = .ok (.iload_n 1, 1) := by decide +kernel
theorem dX3_isRest_7 : decode cX3_isRest 7 = .ok (.if_icmp .ne 7, 3) := by decide +kernel
theorem dX3_isRest_10 : decode cX3_isRest 10 = .ok (.iconst 1, 1) := by decide +kernel
theorem dX3_isRest_11 : decode cX3_isRest 11 = .ok (.goto 4, 3) := by decide +kernel
theorem dX3_isRest_14 : decode cX3_isRest 14 = .ok (.iconst 0, 1) := by decide +kernel
theorem dX3_isRest_15 : decode cX3_isRest 15 = .ok (.ireturn, 1) := by decide +kernel
theorem dX3_settled_0 : decode cX3_settled 0 = .ok (.iload_n 1, 1) := by decide +kernel
theorem dX3_settled_1 : decode cX3_settled 1 = .ok (.istore_n 3, 1) := by decide +kernel
theorem dX3_settled_2 : decode cX3_settled 2 = .ok (.iconst 0, 1) := by decide +kernel
theorem dX3_settled_3 : decode cX3_settled 3 = .ok (.istore 4, 2) := by decide +kernel
theorem dX3_settled_5 : decode cX3_settled 5 = .ok (.iload 4, 2) := by decide +kernel
theorem dX3_settled_7 : decode cX3_settled 7 = .ok (.bipush 63, 2) := by decide +kernel
theorem dX3_settled_9 : decode cX3_settled 9 = .ok (.if_icmp .gt 28, 3) := by decide +kernel
theorem dX3_settled_12 : decode cX3_settled 12 = .ok (.aload_n 0, 1) := by decide +kernel
theorem dX3_settled_13 : decode cX3_settled 13 = .ok (.iload_n 3, 1) := by decide +kernel
theorem dX3_settled_14 : decode cX3_settled 14 = .ok (.iload_n 2, 1) := by decide +kernel
theorem dX3_settled_15 : decode cX3_settled 15 = .ok (.invokevirtual 47, 3) := by decide +kernel
theorem dX3_settled_18 : decode cX3_settled 18 = .ok (.istore 5, 2) := by decide +kernel
theorem dX3_settled_20 : decode cX3_settled 20 = .ok (.iload 5, 2) := by decide +kernel
theorem dX3_settled_22 : decode cX3_settled 22 = .ok (.iload_n 3, 1) := by decide +kernel
theorem dX3_settled_23 : decode cX3_settled 23 = .ok (.if_icmp .ne 5, 3) := by decide +kernel
theorem dX3_settled_26 : decode cX3_settled 26 = .ok (.iload_n 3, 1) := by decide +kernel
theorem dX3_settled_27 : decode cX3_settled 27 = .ok (.ireturn, 1) := by decide +kernel
theorem dX3_settled_28 : decode cX3_settled 28 = .ok (.iload 5, 2) := by decide +kernel
theorem dX3_settled_30 : decode cX3_settled 30 = .ok (.istore_n 3, 1) := by decide +kernel
theorem dX3_settled_31 : decode cX3_settled 31 = .ok (.iinc 4 1, 3) := by decide +kernel
theorem dX3_settled_34 : decode cX3_settled 34 = .ok (.goto (-29), 3) := by decide +kernel
theorem dX3_settled_37 : decode cX3_settled 37 = .ok (.bipush (-9), 2) := by decide +kernel
theorem dX3_settled_39 : decode cX3_settled 39 = .ok (.ireturn, 1) := by decide +kernel
theorem dX4_init_0 : decode cX4_init 0 = .ok (.aload_n 0, 1) := by decide +kernel
theorem dX4_init_1 : decode cX4_init 1 = .ok (.invokespecial 3, 3) := by decide +kernel
theorem dX4_init_4 : decode cX4_init 4 = .ok (.aload_n 0, 1) := by decide +kernel
theorem dX4_init_5 : decode cX4_init 5 = .ok (.bipush 48, 2) := by decide +kernel
theorem dX4_init_7 : decode cX4_init 7 = .ok (.newarray .int, 2) := by decide +kernel
theorem dX4_init_9 : decode cX4_init 9 = .ok (.putfield 11, 3) := by decide +kernel
theorem dX4_init_12 : decode cX4_init 12 = .ok (.aload_n 0, 1) := by decide +kernel
theorem dX4_init_13 : decode cX4_init 13 = .ok (.iconst 4, 1) := by decide +kernel
theorem dX4_init_14 : decode cX4_init 14 = .ok (.newarray .int, 2) := by decide +kernel
theorem dX4_init_16 : decode cX4_init 16 = .ok (.dup, 1) := by decide +kernel
theorem dX4_init_17 : decode cX4_init 17 = .ok (.iconst 0, 1) := by decide +kernel
theorem dX4_init_18 : decode cX4_init 18 = .ok (.iconst 1, 1) := by decide +kernel
theorem dX4_init_19 : decode cX4_init 19 = .ok (.iastore, 1) := by decide +kernel
theorem dX4_init_20 : decode cX4_init 20 = .ok (.dup, 1) := by decide +kernel
theorem dX4_init_21 : decode cX4_init 21 = .ok (.iconst 1, 1) := by decide +kernel
theorem dX4_init_22 : decode cX4_init 22 = .ok (.iconst 1, 1) := by decide +kernel
theorem dX4_init_23 : decode cX4_init 23 = .ok (.iastore, 1) := by decide +kernel
theorem dX4_init_24 : decode cX4_init 24 = .ok (.dup, 1) := by decide +kernel
theorem dX4_init_25 : decode cX4_init 25 = .ok (.iconst 2, 1) := by decide +kernel
theorem dX4_init_26 : decode cX4_init 26 = .ok (.iconst 1, 1) := by decide +kernel
theorem dX4_init_27 : decode cX4_init 27 = .ok (.iastore, 1) := by decide +kernel
theorem dX4_init_28 : decode cX4_init 28 = .ok (.dup, 1) := by decide +kernel
theorem dX4_init_29 : decode cX4_init 29 = .ok (.iconst 3, 1) := by decide +kernel
theorem dX4_init_30 : decode cX4_init 30 = .ok (.iconst 1, 1) := by decide +kernel
theorem dX4_init_31 : decode cX4_init 31 = .ok (.iastore, 1) := by decide +kernel
theorem dX4_init_32 : decode cX4_init 32 = .ok (.putfield 15, 3) := by decide +kernel
theorem dX4_init_35 : decode cX4_init 35 = .ok (.return_, 1) := by decide +kernel
theorem dX4_mark_0 : decode cX4_mark 0 = .ok (.iload_n 1, 1) := by decide +kernel
theorem dX4_mark_1 : decode cX4_mark 1 = .ok (.iconst 0, 1) := by decide +kernel
theorem dX4_mark_2 : decode cX4_mark 2 = .ok (.bipush 7, 2) := by decide +kernel
theorem dX4_mark_4 : decode cX4_mark 4 = .ok (.invokestatic 18, 3) := by decide +kernel
theorem dX4_mark_7 : decode cX4_mark 7 = .ok (.ifCond .eq 24, 3) := by decide +kernel
theorem dX4_mark_10 : decode cX4_mark 10 = .ok (.iload_n 2, 1) := by decide +kernel
theorem dX4_mark_11 : decode cX4_mark 11 = .ok (.iconst 0, 1) := by decide +kernel
theorem dX4_mark_12 : decode cX4_mark 12 = .ok (.iconst 5, 1) := by decide +kernel
theorem dX4_mark_13 : decode cX4_mark 13 = .ok (.invokestatic 18, 3) := by decide +kernel
theorem dX4_mark_16 : decode cX4_mark 16 = .ok (.ifCond .eq 15, 3) := by decide +kernel
theorem dX4_mark_19 : decode cX4_mark 19 = .ok (.aload_n 0, 1) := by decide +kernel
theorem dX4_mark_20 : decode cX4_mark 20 = .ok (.getfield 11, 3) := by decide +kernel
theorem dX4_mark_23 : decode cX4_mark 23 = .ok (.iload_n 1, 1) := by decide +kernel
theorem dX4_mark_24 : decode cX4_mark 24 = .ok (.bipush 6, 2) := by decide +kernel
theorem dX4_mark_26 : decode cX4_mark 26 = .ok (.imul, 1) := by decide +kernel
theorem dX4_mark_27 : decode cX4_mark 27 = .ok (.iload_n 2, 1) := by decide +kernel
theorem dX4_mark_28 : decode cX4_mark 28 = .ok (.iadd, 1) := by decide +kernel
theorem dX4_mark_29 : decode cX4_mark 29 = .ok (.iload_n 3, 1) := by decide +kernel
theorem dX4_mark_30 : decode cX4_mark 30 = .ok (.iastore, 1) := by decide +kernel
theorem dX4_mark_31 : decode cX4_mark 31 = .ok (.return_, 1) := by decide +kernel
theorem dX4_markOf_0 : decode cX4_markOf 0 = .ok (.iload_n 1, 1) := by decide +kernel
theorem dX4_markOf_1 : decode cX4_markOf 1 = .ok (.iconst 0, 1) := by decide +kernel
theorem dX4_markOf_2 : decode cX4_markOf 2 = .ok (.bipush 7, 2) := by decide +kernel
theorem dX4_markOf_4 : decode cX4_markOf 4 = .ok (.invokestatic 18, 3) := by decide +kernel
theorem dX4_markOf_7 : decode cX4_markOf 7 = .ok (.ifCond .eq 16, 3) := by decide +kernel
theorem dX4_markOf_10 : decode cX4_markOf 10 = .ok (.iload_n 2, 1) := by decide +kernel
theorem dX4_markOf_11 : decode cX4_markOf 11 = .ok (.iconst 0, 1) := by decide +kernel
theorem dX4_markOf_12 : decode cX4_markOf 12 = .ok (.iconst 5, 1) := by decide +kernel
theorem dX4_markOf_13 : decode cX4_markOf 13 = .ok (.invokestatic 18, 3) := by decide +kernel
theorem dX4_markOf_16 : decode cX4_markOf 16 = .ok (.ifCond .eq 7, 3) := by decide +kernel
theorem dX4_markOf_19 : decode cX4_markOf 19 = .ok (.iconst 1, 1) := by decide +kernel
theorem dX4_markOf_20 : decode cX4_markOf 20 = .ok (.goto 4, 3) := by decide +kernel
theorem dX4_markOf_23 : decode cX4_markOf 23 = .ok (.iconst 0, 1) := by decide +kernel
theorem dX4_markOf_24 : decode cX4_markOf 24 = .ok (.istore_n 3, 1) := by decide +kernel
theorem dX4_markOf_25 : decode cX4_markOf 25 = .ok (.iload_n 3, 1) := by decide +kernel
theorem dX4_markOf_26 : decode cX4_markOf 26 = .ok (.ifCond .eq 17, 3) := by decide +kernel
theorem dX4_markOf_29 : decode cX4_markOf 29 = .ok (.aload_n 0, 1) := by decide +kernel
theorem dX4_markOf_30 : decode cX4_markOf 30 = .ok (.getfield 11, 3) := by decide +kernel
theorem dX4_markOf_33 : decode cX4_markOf 33 = .ok (.iload_n 1, 1) := by decide +kernel
theorem dX4_markOf_34 : decode cX4_markOf 34 = .ok (.bipush 6, 2) := by decide +kernel
theorem dX4_markOf_36 : decode cX4_markOf 36 = .ok (.imul, 1) := by decide +kernel
theorem dX4_markOf_37 : decode cX4_markOf 37 = .ok (.iload_n 2, 1) := by decide +kernel
theorem dX4_markOf_38 : decode cX4_markOf 38 = .ok (.iadd, 1) := by decide +kernel
theorem dX4_markOf_39 : decode cX4_markOf 39 = .ok (.iaload, 1) := by decide +kernel
theorem dX4_markOf_40 : decode cX4_markOf 40 = .ok (.goto 4, 3) := by decide +kernel
theorem dX4_markOf_43 : decode cX4_markOf 43 = .ok (.iconst 0, 1) := by decide +kernel
theorem dX4_markOf_44 : decode cX4_markOf 44 = .ok (.ireturn, 1) := by decide +kernel
theorem dX4_hasSign_0 : decode cX4_hasSign 0 = .ok (.aload_n 0, 1) := by decide +kernel
theorem dX4_hasSign_1 : decode cX4_hasSign 1 = .ok (.iload_n 1, 1) := by decide +kernel
theorem dX4_hasSign_2 : decode cX4_hasSign 2 = .ok (.iconst 1, 1) := by decide +kernel
theorem dX4_hasSign_3 : decode cX4_hasSign 3 = .ok (.invokevirtual 22, 3) := by decide +kernel
theorem dX4_hasSign_6 : decode cX4_hasSign 6 = .ok (.iload_n 2, 1) := by decide +kernel
theorem dX4_hasSign_7 : decode cX4_hasSign 7 = .ok (.iand, 1) := by decide +kernel
theorem dX4_hasSign_8 : decode cX4_hasSign 8 = .ok (.ifCond .eq 7, 3) := by decide +kernel
theorem dX4_hasSign_11 : decode cX4_hasSign 11 = .ok (.iconst 1, 1) := by decide +kernel
theorem dX4_hasSign_12 : decode cX4_hasSign 12 = .ok (.goto 4, 3) := by decide +kernel
theorem dX4_hasSign_15 : decode cX4_hasSign 15 = .ok (.iconst 0, 1) := by decide +kernel
theorem dX4_hasSign_16 : decode cX4_hasSign 16 = .ok (.ireturn, 1) := by decide +kernel
theorem dX4_isIcy_0 : decode cX4_isIcy 0 = .ok (.aload_n 0, 1) := by decide +kernel
theorem dX4_isIcy_1 : decode cX4_isIcy 1 = .ok (.iload_n 1, 1) := by decide +kernel
theorem dX4_isIcy_2 : decode cX4_isIcy 2 = .ok (.iconst 3, 1) := by decide +kernel
theorem dX4_isIcy_3 : decode cX4_isIcy 3 = .ok (.invokevirtual 26, 3) := by decide +kernel
theorem dX4_isIcy_6 : decode cX4_isIcy 6 = .ok (.ireturn, 1) := by decide +kernel
theorem dX4_liesIn_0 : decode cX4_liesIn 0 = .ok (.aload_n 0, 1) := by decide +kernel
theorem dX4_liesIn_1 : decode cX4_liesIn 1 = .ok (.iload_n 1, 1) := by decide +kernel
theorem dX4_liesIn_2 : decode cX4_liesIn 2 = .ok (.iconst 0, 1) := by decide +kernel
theorem dX4_liesIn_3 : decode cX4_liesIn 3 = .ok (.invokevirtual 22, 3) := by decide +kernel
theorem dX4_liesIn_6 : decode cX4_liesIn 6 = .ok (.iload_n 2, 1) := by decide +kernel
theorem dX4_liesIn_7 : decode cX4_liesIn 7 = .ok (.if_icmp .ne 7, 3) := by decide +kernel
theorem dX4_liesIn_10 : decode cX4_liesIn 10 = .ok (.iconst 1, 1) := by decide +kernel
theorem dX4_liesIn_11 : decode cX4_liesIn 11 = .ok (.goto 4, 3) := by decide +kernel
theorem dX4_liesIn_14 : decode cX4_liesIn 14 = .ok (.iconst 0, 1) := by decide +kernel
theorem dX4_liesIn_15 : decode cX4_liesIn 15 = .ok (.ireturn, 1) := by decide +kernel
theorem dX4_slideTenths_0 : decode cX4_slideTenths 0 = .ok (.aload_n 0, 1) := by decide +kernel
theorem dX4_slideTenths_1 : decode cX4_slideTenths 1 = .ok (.iload_n 1, 1) := by decide +kernel
theorem dX4_slideTenths_2 : decode cX4_slideTenths 2 = .ok (.bipush 8, 2) := by decide +kernel
theorem dX4_slideTenths_4 : decode cX4_slideTenths 4 = .ok (.invokevirtual 26, 3) := by decide +kernel
theorem dX4_slideTenths_7 : decode cX4_slideTenths 7 = .ok (.ifCond .eq 8, 3) := by decide +kernel
theorem dX4_slideTenths_10 : decode cX4_slideTenths 10 = .ok (.bipush 6, 2) := by decide +kernel
theorem dX4_slideTenths_12 : decode cX4_slideTenths 12 = .ok (.goto 4, 3) := by decide +kernel
theorem dX4_slideTenths_15 : decode cX4_slideTenths 15 = .ok (.iconst 2, 1) := by decide +kernel
theorem dX4_slideTenths_16 : decode cX4_slideTenths 16 = .ok (.istore_n 2, 1) := by decide +kernel
theorem dX4_slideTenths_17 : decode cX4_slideTenths 17 = .ok (.aload_n 0, 1) := by decide +kernel
theorem dX4_slideTenths_18 : decode cX4_slideTenths 18 = .ok (.iload_n 1, 1) := by decide +kernel
theorem dX4_slideTenths_19 : decode cX4_slideTenths 19 = .ok (.iconst 2, 1) := by decide +kernel
theorem dX4_slideTenths_20 : decode cX4_slideTenths 20 = .ok (.invokevirtual 26, 3) := by decide +kernel
theorem dX4_slideTenths_23 : decode cX4_slideTenths 23 = .ok (.ifCond .eq 6, 3) := by decide +kernel
theorem dX4_slideTenths_26 : decode cX4_slideTenths 26 = .ok (.iinc 2 (-1), 3) := by decide +kernel
theorem dX4_slideTenths_29 : decode cX4_slideTenths 29 = .ok (.aload_n 0, 1) := by decide +kernel
theorem dX4_slideTenths_30 : decode cX4_slideTenths 30 = .ok (.iload_n 1, 1) := by decide +kernel
theorem dX4_slideTenths_31 : decode cX4_slideTenths 31 = .ok (.iconst 4, 1) := by decide +kernel
theorem dX4_slideTenths_32 : decode cX4_slideTenths 32 = .ok (.invokevirtual 26, 3) := by decide +kernel
theorem dX4_slideTenths_35 : decode cX4_slideTenths 35 = .ok (.ifCond .eq 6, 3) := by decide +kernel
theorem dX4_slideTenths_38 : decode cX4_slideTenths 38 = .ok (.iinc 2 (-1), 3) := by decide +kernel
theorem dX4_slideTenths_41 : decode cX4_slideTenths 41 = .ok (.iload_n 2, 1) := by decide +kernel
theorem dX4_slideTenths_42 : decode cX4_slideTenths 42 = .ok (.ireturn, 1) := by decide +kernel
theorem dX4_icyBeds_0 : decode cX4_icyBeds 0 = .ok (.iconst 0, 1) := by decide +kernel
theorem dX4_icyBeds_1 : decode cX4_icyBeds 1 = .ok (.istore_n 1, 1) := by decide +kernel
theorem dX4_icyBeds_2 : decode cX4_icyBeds 2 = .ok (.iconst 0, 1) := by decide +kernel
theorem dX4_icyBeds_3 : decode cX4_icyBeds 3 = .ok (.istore_n 2, 1) := by decide +kernel
theorem dX4_icyBeds_4 : decode cX4_icyBeds 4 = .ok (.iload_n 2, 1) := by decide +kernel
theorem dX4_icyBeds_5 : decode cX4_icyBeds 5 = .ok (.aload_n 0, 1) := by decide +kernel
theorem dX4_icyBeds_6 : decode cX4_icyBeds 6 = .ok (.getfield 30, 3) := by decide +kernel
theorem dX4_icyBeds_9 : decode cX4_icyBeds 9 = .ok (.if_icmp .ge 20, 3) := by decide +kernel
theorem dX4_icyBeds_12 : decode cX4_icyBeds 12 = .ok (.aload_n 0, 1) := by decide +kernel
theorem dX4_icyBeds_13 : decode cX4_icyBeds 13 = .ok (.iload_n 2, 1) := by decide +kernel
theorem dX4_icyBeds_14 : decode cX4_icyBeds 14 = .ok (.invokevirtual 34, 3) := by decide +kernel
theorem dX4_icyBeds_17 : decode cX4_icyBeds 17 = .ok (.ifCond .eq 6, 3) := by decide +kernel
theorem dX4_icyBeds_20 : decode cX4_icyBeds 20 = .ok (.iinc 1 1, 3) := by decide +kernel
theorem dX4_icyBeds_23 : decode cX4_icyBeds 23 = .ok (.iinc 2 1, 3) := by decide +kernel
theorem dX4_icyBeds_26 : decode cX4_icyBeds 26 = .ok (.goto (-22), 3) := by decide +kernel
theorem dX4_icyBeds_29 : decode cX4_icyBeds 29 = .ok (.iload_n 1, 1) := by decide +kernel
theorem dX4_icyBeds_30 : decode cX4_icyBeds 30 = .ok (.ireturn, 1) := by decide +kernel
theorem dX4_weightsTogether_0 : decode cX4_weightsTogether 0 = .ok (.iconst 0, 1) := by decide +kernel
theorem dX4_weightsTogether_1 : decode cX4_weightsTogether 1 = .ok (.istore_n 1, 1) := by decide +kernel
theorem dX4_weightsTogether_2 : decode cX4_weightsTogether 2 = .ok (.iconst 0, 1) := by decide +kernel
theorem dX4_weightsTogether_3 : decode cX4_weightsTogether 3 = .ok (.istore_n 2, 1) := by decide +kernel
theorem dX4_weightsTogether_4 : decode cX4_weightsTogether 4 = .ok (.iload_n 2, 1) := by decide +kernel
theorem dX4_weightsTogether_5 : decode cX4_weightsTogether 5 = .ok (.iconst 4, 1) := by decide +kernel
theorem dX4_weightsTogether_6 : decode cX4_weightsTogether 6 = .ok (.if_icmp .ge 18, 3) := by decide +kernel
theorem dX4_weightsTogether_9 : decode cX4_weightsTogether 9 = .ok (.iload_n 1, 1) := by decide +kernel
theorem dX4_weightsTogether_10 : decode cX4_weightsTogether 10 = .ok (.aload_n 0, 1) := by decide +kernel
theorem dX4_weightsTogether_11 : decode cX4_weightsTogether 11 = .ok (.getfield 15, 3) := by decide +kernel
theorem dX4_weightsTogether_14 : decode cX4_weightsTogether 14 = .ok (.iload_n 2, 1) := by decide +kernel
theorem dX4_weightsTogether_15 : decode cX4_weightsTogether 15 = .ok (.iaload, 1) := by decide +kernel
theorem dX4_weightsTogether_16 : decode cX4_weightsTogether 16 = .ok (.iadd, 1) := by decide +kernel
theorem dX4_weightsTogether_17 : decode cX4_weightsTogether 17 = .ok (.istore_n 1, 1) := by decide +kernel
theorem dX4_weightsTogether_18 : decode cX4_weightsTogether 18 = .ok (.iinc 2 1, 3) := by decide +kernel
theorem dX4_weightsTogether_21 : decode cX4_weightsTogether 21 = .ok (.goto (-17), 3) := by decide +kernel
theorem dX4_weightsTogether_24 : decode cX4_weightsTogether 24 = .ok (.iload_n 1, 1) := by decide +kernel
theorem dX4_weightsTogether_25 : decode cX4_weightsTogether 25 = .ok (.ireturn, 1) := by decide +kernel
theorem dX4_copyFrom_0 : decode cX4_copyFrom 0 = .ok (.aload_n 1, 1) := by decide +kernel
theorem dX4_copyFrom_1 : decode cX4_copyFrom 1 = .ok (.getfield 11, 3) := by decide +kernel
theorem dX4_copyFrom_4 : decode cX4_copyFrom 4 = .ok (.iconst 0, 1) := by decide +kernel
theorem dX4_copyFrom_5 : decode cX4_copyFrom 5 = .ok (.aload_n 0, 1) := by decide +kernel
theorem dX4_copyFrom_6 : decode cX4_copyFrom 6 = .ok (.getfield 11, 3) := by decide +kernel
theorem dX4_copyFrom_9 : decode cX4_copyFrom 9 = .ok (.iconst 0, 1) := by decide +kernel
theorem dX4_copyFrom_10 : decode cX4_copyFrom 10 = .ok (.bipush 48, 2) := by decide +kernel
theorem dX4_copyFrom_12 : decode cX4_copyFrom 12 = .ok (.invokestatic 38, 3) := by decide +kernel
theorem dX4_copyFrom_15 : decode cX4_copyFrom 15 = .ok (.aload_n 1, 1) := by decide +kernel
theorem dX4_copyFrom_16 : decode cX4_copyFrom 16 = .ok (.getfield 15, 3) := by decide +kernel
theorem dX4_copyFrom_19 : decode cX4_copyFrom 19 = .ok (.iconst 0, 1) := by decide +kernel
theorem dX4_copyFrom_20 : decode cX4_copyFrom 20 = .ok (.aload_n 0, 1) := by decide +kernel
theorem dX4_copyFrom_21 : decode cX4_copyFrom 21 = .ok (.getfield 15, 3) := by decide +kernel
theorem dX4_copyFrom_24 : decode cX4_copyFrom 24 = .ok (.iconst 0, 1) := by decide +kernel
theorem dX4_copyFrom_25 : decode cX4_copyFrom 25 = .ok (.iconst 4, 1) := by decide +kernel
theorem dX4_copyFrom_26 : decode cX4_copyFrom 26 = .ok (.invokestatic 38, 3) := by decide +kernel
theorem dX4_copyFrom_29 : decode cX4_copyFrom 29 = .ok (.aload_n 0, 1) := by decide +kernel
theorem dX4_copyFrom_30 : decode cX4_copyFrom 30 = .ok (.aload_n 1, 1) := by decide +kernel
theorem dX4_copyFrom_31 : decode cX4_copyFrom 31 = .ok (.getfield 30, 3) := by decide +kernel
theorem dX4_copyFrom_34 : decode cX4_copyFrom 34 = .ok (.putfield 30, 3) := by decide +kernel
theorem dX4_copyFrom_37 : decode cX4_copyFrom 37 = .ok (.return_, 1) := by decide +kernel
theorem dX5_init_0 : decode cX5_init 0 = .ok (.aload_n 0, 1) := by decide +kernel
theorem dX5_init_1 : decode cX5_init 1 = .ok (.invokespecial 3, 3) := by decide +kernel
theorem dX5_init_4 : decode cX5_init 4 = .ok (.aload_n 0, 1) := by decide +kernel
theorem dX5_init_5 : decode cX5_init 5 = .ok (.iconst 4, 1) := by decide +kernel
theorem dX5_init_6 : decode cX5_init 6 = .ok (.newarray .long, 2) := by decide +kernel
theorem dX5_init_8 : decode cX5_init 8 = .ok (.putfield 9, 3) := by decide +kernel
theorem dX5_init_11 : decode cX5_init 11 = .ok (.aload_n 0, 1) := by decide +kernel
theorem dX5_init_12 : decode cX5_init 12 = .ok (.bipush 32, 2) := by decide +kernel
theorem dX5_init_14 : decode cX5_init 14 = .ok (.newarray .int, 2) := by decide +kernel
theorem dX5_init_16 : decode cX5_init 16 = .ok (.putfield 17, 3) := by decide +kernel
theorem dX5_init_19 : decode cX5_init 19 = .ok (.return_, 1) := by decide +kernel
theorem dX5_hundredths_0 : decode cX5_hundredths 0 = .ok (.aload_n 1, 1) := by decide +kernel
theorem dX5_hundredths_1 : decode cX5_hundredths 1 = .ok (.iload_n 3, 1) := by decide +kernel
theorem dX5_hundredths_2 : decode cX5_hundredths 2 = .ok (.iconst 2, 1) := by decide +kernel
theorem dX5_hundredths_3 : decode cX5_hundredths 3 = .ok (.invokevirtual 21, 3) := by decide +kernel
theorem dX5_hundredths_6 : decode cX5_hundredths 6 = .ok (.istore 4, 2) := by decide +kernel
theorem dX5_hundredths_8 : decode cX5_hundredths 8 = .ok (.aload_n 1, 1) := by decide +kernel
theorem dX5_hundredths_9 : decode cX5_hundredths 9 = .ok (.iload_n 3, 1) := by decide +kernel
theorem dX5_hundredths_10 : decode cX5_hundredths 10 = .ok (.iconst 3, 1) := by decide +kernel
theorem dX5_hundredths_11 : decode cX5_hundredths 11 = .ok (.invokevirtual 21, 3) := by decide +kernel
theorem dX5_hundredths_14 : decode cX5_hundredths 14 = .ok (.istore 5, 2) := by decide +kernel
theorem dX5_hundredths_16 : decode cX5_hundredths 16 = .ok (.aload_n 1, 1) := by decide +kernel
theorem dX5_hundredths_17 : decode cX5_hundredths 17 = .ok (.iload_n 3, 1) := by decide +kernel
theorem dX5_hundredths_18 : decode cX5_hundredths 18 = .ok (.iconst 4, 1) := by decide +kernel
theorem dX5_hundredths_19 : decode cX5_hundredths 19 = .ok (.invokevirtual 21, 3) := by decide +kernel
theorem dX5_hundredths_22 : decode cX5_hundredths 22 = .ok (.istore 6, 2) := by decide +kernel
theorem dX5_hundredths_24 : decode cX5_hundredths 24 = .ok (.aload_n 1, 1) := by decide +kernel
theorem dX5_hundredths_25 : decode cX5_hundredths 25 = .ok (.iload_n 3, 1) := by decide +kernel
theorem dX5_hundredths_26 : decode cX5_hundredths 26 = .ok (.iconst 5, 1) := by decide +kernel
theorem dX5_hundredths_27 : decode cX5_hundredths 27 = .ok (.invokevirtual 21, 3) := by decide +kernel
theorem dX5_hundredths_30 : decode cX5_hundredths 30 = .ok (.istore 7, 2) := by decide +kernel
theorem dX5_hundredths_32 : decode cX5_hundredths 32 = .ok (.aload_n 1, 1) := by decide +kernel
theorem dX5_hundredths_33 : decode cX5_hundredths 33 = .ok (.iload_n 3, 1) := by decide +kernel
theorem dX5_hundredths_34 : decode cX5_hundredths 34 = .ok (.invokevirtual 25, 3) := by decide +kernel
theorem dX5_hundredths_37 : decode cX5_hundredths 37 = .ok (.ifCond .ne 43, 3) := by decide +kernel
theorem dX5_hundredths_40 : decode cX5_hundredths 40 = .ok (.aload_n 0, 1) := by decide +kernel
theorem dX5_hundredths_41 : decode cX5_hundredths 41 = .ok (.iload_n 2, 1) := by decide +kernel
theorem dX5_hundredths_42 : decode cX5_hundredths 42 = .ok (.iload 4, 2) := by decide +kernel
theorem dX5_hundredths_44 : decode cX5_hundredths 44 = .ok (.iload 5, 2) := by decide +kernel
theorem dX5_hundredths_46 : decode cX5_hundredths 46 = .ok (.invokevirtual 29, 3) := by decide +kernel
theorem dX5_hundredths_49 : decode cX5_hundredths 49 = .ok (.iload 6, 2) := by decide +kernel
theorem dX5_hundredths_51 : decode cX5_hundredths 51 = .ok (.invokestatic 35, 3) := by decide +kernel
theorem dX5_hundredths_54 : decode cX5_hundredths 54 = .ok (.istore 8, 2) := by decide +kernel
theorem dX5_hundredths_56 : decode cX5_hundredths 56 = .ok (.iload 7, 2) := by decide +kernel
theorem dX5_hundredths_58 : decode cX5_hundredths 58 = .ok (.iload 8, 2) := by decide +kernel
theorem dX5_hundredths_60 : decode cX5_hundredths 60 = .ok (.ifCond .eq 7, 3) := by decide +kernel
theorem dX5_hundredths_63 : decode cX5_hundredths 63 = .ok (.iconst 5, 1) := by decide +kernel
theorem dX5_hundredths_64 : decode cX5_hundredths 64 = .ok (.goto 5, 3) := by decide +kernel
theorem dX5_hundredths_67 : decode cX5_hundredths 67 = .ok (.bipush 10, 2) := by decide +kernel
theorem dX5_hundredths_69 : decode cX5_hundredths 69 = .ok (.imul, 1) := by decide +kernel
theorem dX5_hundredths_70 : decode cX5_hundredths 70 = .ok (.bipush 10, 2) := by decide +kernel
theorem dX5_hundredths_72 : decode cX5_hundredths 72 = .ok (.iload 7, 2) := by decide +kernel
theorem dX5_hundredths_74 : decode cX5_hundredths 74 = .ok (.isub, 1) := by decide +kernel
theorem dX5_hundredths_75 : decode cX5_hundredths 75 = .ok (.bipush 10, 2) := by decide +kernel
theorem dX5_hundredths_77 : decode cX5_hundredths 77 = .ok (.imul, 1) := by decide +kernel
theorem dX5_hundredths_78 : decode cX5_hundredths 78 = .ok (.iadd, 1) := by decide +kernel
theorem dX5_hundredths_79 : decode cX5_hundredths 79 = .ok (.ireturn, 1) := by decide +kernel
theorem dX5_hundredths_80 : decode cX5_hundredths 80 = .ok (.aload_n 0, 1) := by decide +kernel
theorem dX5_hundredths_81 : decode cX5_hundredths 81 = .ok (.iload_n 2, 1) := by decide +kernel
theorem dX5_hundredths_82 : decode cX5_hundredths 82 = .ok (.iload 4, 2) := by decide +kernel
theorem dX5_hundredths_84 : decode cX5_hundredths 84 = .ok (.iload 5, 2) := by decide +kernel
theorem dX5_hundredths_86 : decode cX5_hundredths 86 = .ok (.invokevirtual 39, 3) := by decide +kernel
theorem dX5_hundredths_89 : decode cX5_hundredths 89 = .ok (.istore 8, 2) := by decide +kernel
theorem dX5_hundredths_91 : decode cX5_hundredths 91 = .ok (.aload_n 1, 1) := by decide +kernel
theorem dX5_hundredths_92 : decode cX5_hundredths 92 = .ok (.iload_n 3, 1) := by decide +kernel
theorem dX5_hundredths_93 : decode cX5_hundredths 93 = .ok (.invokevirtual 42, 3) := by decide +kernel
theorem dX5_hundredths_96 : decode cX5_hundredths 96 = .ok (.istore 9, 2) := by decide +kernel
theorem dX5_hundredths_98 : decode cX5_hundredths 98 = .ok (.iload 7, 2) := by decide +kernel
theorem dX5_hundredths_100 : decode cX5_hundredths 100 = .ok (.iload 8, 2) := by decide +kernel
theorem dX5_hundredths_102 : decode cX5_hundredths 102 = .ok (.iload 6, 2) := by decide +kernel
theorem dX5_hundredths_104 : decode cX5_hundredths 104 = .ok (.invokestatic 35, 3) := by decide +kernel
theorem dX5_hundredths_107 : decode cX5_hundredths 107 = .ok (.ifCond .eq 8, 3) := by decide +kernel
theorem dX5_hundredths_110 : decode cX5_hundredths 110 = .ok (.bipush 10, 2) := by decide +kernel
theorem dX5_hundredths_112 : decode cX5_hundredths 112 = .ok (.goto 5, 3) := by decide +kernel
theorem dX5_hundredths_115 : decode cX5_hundredths 115 = .ok (.iload 9, 2) := by decide +kernel
theorem dX5_hundredths_117 : decode cX5_hundredths 117 = .ok (.imul, 1) := by decide +kernel
theorem dX5_hundredths_118 : decode cX5_hundredths 118 = .ok (.bipush 10, 2) := by decide +kernel
theorem dX5_hundredths_120 : decode cX5_hundredths 120 = .ok (.iload 7, 2) := by decide +kernel
theorem dX5_hundredths_122 : decode cX5_hundredths 122 = .ok (.isub, 1) := by decide +kernel
theorem dX5_hundredths_123 : decode cX5_hundredths 123 = .ok (.iload 8, 2) := by decide +kernel
theorem dX5_hundredths_125 : decode cX5_hundredths 125 = .ok (.ifCond .eq 8, 3) := by decide +kernel
theorem dX5_hundredths_128 : decode cX5_hundredths 128 = .ok (.bipush 10, 2) := by decide +kernel
theorem dX5_hundredths_130 : decode cX5_hundredths 130 = .ok (.goto 5, 3) := by decide +kernel
theorem dX5_hundredths_133 : decode cX5_hundredths 133 = .ok (.iload 9, 2) := by decide +kernel
theorem dX5_hundredths_135 : decode cX5_hundredths 135 = .ok (.imul, 1) := by decide +kernel
theorem dX5_hundredths_136 : decode cX5_hundredths 136 = .ok (.iadd, 1) := by decide +kernel
theorem dX5_hundredths_137 : decode cX5_hundredths 137 = .ok (.ireturn, 1) := by decide +kernel
theorem dX5_explainedBy_0 : decode cX5_explainedBy 0 = .ok (.iconst 0, 1) := by decide +kernel
theorem dX5_explainedBy_1 : decode cX5_explainedBy 1 = .ok (.istore 4, 2) := by decide +kernel
theorem dX5_explainedBy_3 : decode cX5_explainedBy 3 = .ok (.iconst 0, 1) := by decide +kernel
theorem dX5_explainedBy_4 : decode cX5_explainedBy 4 = .ok (.istore 5, 2) := by decide +kernel
theorem dX5_explainedBy_6 : decode cX5_explainedBy 6 = .ok (.iload 5, 2) := by decide +kernel
theorem dX5_explainedBy_8 : decode cX5_explainedBy 8 = .ok (.aload_n 1, 1) := by decide +kernel
theorem dX5_explainedBy_9 : decode cX5_explainedBy 9 = .ok (.getfield 46, 3) := by decide +kernel
theorem dX5_explainedBy_12 : decode cX5_explainedBy 12 = .ok (.if_icmp .ge 66, 3) := by decide +kernel
theorem dX5_explainedBy_15 : decode cX5_explainedBy 15 = .ok (.aload_n 0, 1) := by decide +kernel
theorem dX5_explainedBy_16 : decode cX5_explainedBy 16 = .ok (.iload_n 2, 1) := by decide +kernel
theorem dX5_explainedBy_17 : decode cX5_explainedBy 17 = .ok (.aload_n 1, 1) := by decide +kernel
theorem dX5_explainedBy_18 : decode cX5_explainedBy 18 = .ok (.iload 5, 2) := by decide +kernel
theorem dX5_explainedBy_20 : decode cX5_explainedBy 20 = .ok (.iconst 2, 1) := by decide +kernel
theorem dX5_explainedBy_21 : decode cX5_explainedBy 21 = .ok (.invokevirtual 21, 3) := by decide +kernel
theorem dX5_explainedBy_24 : decode cX5_explainedBy 24 = .ok (.aload_n 1, 1) := by decide +kernel
theorem dX5_explainedBy_25 : decode cX5_explainedBy 25 = .ok (.iload 5, 2) := by decide +kernel
theorem dX5_explainedBy_27 : decode cX5_explainedBy 27 = .ok (.iconst 3, 1) := by decide +kernel
theorem dX5_explainedBy_28 : decode cX5_explainedBy 28 = .ok (.invokevirtual 21, 3) := by decide +kernel
theorem dX5_explainedBy_31 : decode cX5_explainedBy 31 = .ok (.invokevirtual 39, 3) := by decide +kernel
theorem dX5_explainedBy_34 : decode cX5_explainedBy 34 = .ok (.istore 6, 2) := by decide +kernel
theorem dX5_explainedBy_36 : decode cX5_explainedBy 36 = .ok (.aload_n 1, 1) := by decide +kernel
theorem dX5_explainedBy_37 : decode cX5_explainedBy 37 = .ok (.iload 5, 2) := by decide +kernel
theorem dX5_explainedBy_39 : decode cX5_explainedBy 39 = .ok (.iconst 4, 1) := by decide +kernel
theorem dX5_explainedBy_40 : decode cX5_explainedBy 40 = .ok (.invokevirtual 21, 3) := by decide +kernel
theorem dX5_explainedBy_43 : decode cX5_explainedBy 43 = .ok (.iload_n 3, 1) := by decide +kernel
theorem dX5_explainedBy_44 : decode cX5_explainedBy 44 = .ok (.isub, 1) := by decide +kernel
theorem dX5_explainedBy_45 : decode cX5_explainedBy 45 = .ok (.invokestatic 50, 3) := by decide +kernel
theorem dX5_explainedBy_48 : decode cX5_explainedBy 48 = .ok (.istore 7, 2) := by decide +kernel
theorem dX5_explainedBy_50 : decode cX5_explainedBy 50 = .ok (.aload_n 1, 1) := by decide +kernel
theorem dX5_explainedBy_51 : decode cX5_explainedBy 51 = .ok (.iload 5, 2) := by decide +kernel
theorem dX5_explainedBy_53 : decode cX5_explainedBy 53 = .ok (.invokevirtual 25, 3) := by decide +kernel
theorem dX5_explainedBy_56 : decode cX5_explainedBy 56 = .ok (.ifCond .eq 16, 3) := by decide +kernel
theorem dX5_explainedBy_59 : decode cX5_explainedBy 59 = .ok (.iload 6, 2) := by decide +kernel
theorem dX5_explainedBy_61 : decode cX5_explainedBy 61 = .ok (.iload 7, 2) := by decide +kernel
theorem dX5_explainedBy_63 : decode cX5_explainedBy 63 = .ok (.invokestatic 35, 3) := by decide +kernel
theorem dX5_explainedBy_66 : decode cX5_explainedBy 66 = .ok (.ifCond .eq 6, 3) := by decide +kernel
theorem dX5_explainedBy_69 : decode cX5_explainedBy 69 = .ok (.iinc 4 1, 3) := by decide +kernel
theorem dX5_explainedBy_72 : decode cX5_explainedBy 72 = .ok (.iinc 5 1, 3) := by decide +kernel
theorem dX5_explainedBy_75 : decode cX5_explainedBy 75 = .ok (.goto (-69), 3) := by decide +kernel
theorem dX5_explainedBy_78 : decode cX5_explainedBy 78 = .ok (.iload 4, 2) := by decide +kernel
theorem dX5_explainedBy_80 : decode cX5_explainedBy 80 = .ok (.ireturn, 1) := by decide +kernel
theorem dX5_weigh_0 : decode cX5_weigh 0 = .ok (.iconst 0, 1) := by decide +kernel
theorem dX5_weigh_1 : decode cX5_weigh 1 = .ok (.istore_n 3, 1) := by decide +kernel
theorem dX5_weigh_2 : decode cX5_weigh 2 = .ok (.iload_n 3, 1) := by decide +kernel
theorem dX5_weigh_3 : decode cX5_weigh 3 = .ok (.iconst 4, 1) := by decide +kernel
theorem dX5_weigh_4 : decode cX5_weigh 4 = .ok (.if_icmp .ge 54, 3) := by decide +kernel
theorem dX5_weigh_7 : decode cX5_weigh 7 = .ok (.iconst 0, 1) := by decide +kernel
theorem dX5_weigh_8 : decode cX5_weigh 8 = .ok (.istore 4, 2) := by decide +kernel
theorem dX5_weigh_10 : decode cX5_weigh 10 = .ok (.iload 4, 2) := by decide +kernel
theorem dX5_weigh_12 : decode cX5_weigh 12 = .ok (.aload_n 2, 1) := by decide +kernel
theorem dX5_weigh_13 : decode cX5_weigh 13 = .ok (.getfield 46, 3) := by decide +kernel
theorem dX5_weigh_16 : decode cX5_weigh 16 = .ok (.if_icmp .ge 36, 3) := by decide +kernel
theorem dX5_weigh_19 : decode cX5_weigh 19 = .ok (.iload 4, 2) := by decide +kernel
theorem dX5_weigh_21 : decode cX5_weigh 21 = .ok (.bipush 8, 2) := by decide +kernel
theorem dX5_weigh_23 : decode cX5_weigh 23 = .ok (.if_icmp .ge 29, 3) := by decide +kernel
theorem dX5_weigh_26 : decode cX5_weigh 26 = .ok (.aload_n 0, 1) := by decide +kernel
theorem dX5_weigh_27 : decode cX5_weigh 27 = .ok (.getfield 17, 3) := by decide +kernel
theorem dX5_weigh_30 : decode cX5_weigh 30 = .ok (.iload_n 3, 1) := by decide +kernel
theorem dX5_weigh_31 : decode cX5_weigh 31 = .ok (.bipush 8, 2) := by decide +kernel
theorem dX5_weigh_33 : decode cX5_weigh 33 = .ok (.imul, 1) := by decide +kernel
theorem dX5_weigh_34 : decode cX5_weigh 34 = .ok (.iload 4, 2) := by decide +kernel
theorem dX5_weigh_36 : decode cX5_weigh 36 = .ok (.iadd, 1) := by decide +kernel
theorem dX5_weigh_37 : decode cX5_weigh 37 = .ok (.aload_n 1, 1) := by decide +kernel
theorem dX5_weigh_38 : decode cX5_weigh 38 = .ok (.aload_n 2, 1) := by decide +kernel
theorem dX5_weigh_39 : decode cX5_weigh 39 = .ok (.iload_n 3, 1) := by decide +kernel
theorem dX5_weigh_40 : decode cX5_weigh 40 = .ok (.iload 4, 2) := by decide +kernel
theorem dX5_weigh_42 : decode cX5_weigh 42 = .ok (.invokestatic 55, 3) := by decide +kernel
theorem dX5_weigh_45 : decode cX5_weigh 45 = .ok (.iastore, 1) := by decide +kernel
theorem dX5_weigh_46 : decode cX5_weigh 46 = .ok (.iinc 4 1, 3) := by decide +kernel
theorem dX5_weigh_49 : decode cX5_weigh 49 = .ok (.goto (-39), 3) := by decide +kernel
theorem dX5_weigh_52 : decode cX5_weigh 52 = .ok (.iinc 3 1, 3) := by decide +kernel
theorem dX5_weigh_55 : decode cX5_weigh 55 = .ok (.goto (-53), 3) := by decide +kernel
theorem dX5_weigh_58 : decode cX5_weigh 58 = .ok (.aload_n 0, 1) := by decide +kernel
theorem dX5_weigh_59 : decode cX5_weigh 59 = .ok (.aload_n 2, 1) := by decide +kernel
theorem dX5_weigh_60 : decode cX5_weigh 60 = .ok (.bipush (-9), 2) := by decide +kernel
theorem dX5_weigh_62 : decode cX5_weigh 62 = .ok (.invokevirtual 59, 3) := by decide +kernel
theorem dX5_weigh_65 : decode cX5_weigh 65 = .ok (.return_, 1) := by decide +kernel
theorem dX5_weighWithout_0 : decode cX5_weighWithout 0 = .ok (.aload_n 0, 1) := by decide +kernel
theorem dX5_weighWithout_1 : decode cX5_weighWithout 1 = .ok (.lconst 0, 1) := by decide +kernel
theorem dX5_weighWithout_2 : decode cX5_weighWithout 2 = .ok (.putfield 63, 3) := by decide +kernel
theorem dX5_weighWithout_5 : decode cX5_weighWithout 5 = .ok (.iconst 0, 1) := by decide +kernel
theorem dX5_weighWithout_6 : decode cX5_weighWithout 6 = .ok (.istore_n 3, 1) := by decide +kernel
theorem dX5_weighWithout_7 : decode cX5_weighWithout 7 = .ok (.iload_n 3, 1) := by decide +kernel
theorem dX5_weighWithout_8 : decode cX5_weighWithout 8 = .ok (.iconst 4, 1) := by decide +kernel
theorem dX5_weighWithout_9 : decode cX5_weighWithout 9 = .ok (.if_icmp .ge 86, 3) := by decide +kernel
theorem dX5_weighWithout_12 : decode cX5_weighWithout 12 = .ok (.aload_n 1, 1) := by decide +kernel
theorem dX5_weighWithout_13 : decode cX5_weighWithout 13 = .ok (.getfield 67, 3) := by decide +kernel
theorem dX5_weighWithout_16 : decode cX5_weighWithout 16 = .ok (.iload_n 3, 1) := by decide +kernel
theorem dX5_weighWithout_17 : decode cX5_weighWithout 17 = .ok (.iaload, 1) := by decide +kernel
theorem dX5_weighWithout_18 : decode cX5_weighWithout 18 = .ok (.i2l, 1) := by decide +kernel
theorem dX5_weighWithout_19 : decode cX5_weighWithout 19 = .ok (.lstore 4, 2) := by decide +kernel
theorem dX5_weighWithout_21 : decode cX5_weighWithout 21 = .ok (.iconst 0, 1) := by decide +kernel
theorem dX5_weighWithout_22 : decode cX5_weighWithout 22 = .ok (.istore 6, 2) := by decide +kernel
theorem dX5_weighWithout_24 : decode cX5_weighWithout 24 = .ok (.iload 6, 2) := by decide +kernel
theorem dX5_weighWithout_26 : decode cX5_weighWithout 26 = .ok (.aload_n 1, 1) := by decide +kernel
theorem dX5_weighWithout_27 : decode cX5_weighWithout 27 = .ok (.getfield 46, 3) := by decide +kernel
theorem dX5_weighWithout_30 : decode cX5_weighWithout 30 = .ok (.if_icmp .ge 40, 3) := by decide +kernel
theorem dX5_weighWithout_33 : decode cX5_weighWithout 33 = .ok (.iload 6, 2) := by decide +kernel
theorem dX5_weighWithout_35 : decode cX5_weighWithout 35 = .ok (.bipush 8, 2) := by decide +kernel
theorem dX5_weighWithout_37 : decode cX5_weighWithout 37 = .ok (.if_icmp .ge 33, 3) := by decide +kernel
theorem dX5_weighWithout_40 : decode cX5_weighWithout 40 = .ok (.iload 6, 2) := by decide +kernel
theorem dX5_weighWithout_42 : decode cX5_weighWithout 42 = .ok (.iload_n 2, 1) := by decide +kernel
theorem dX5_weighWithout_43 : decode cX5_weighWithout 43 = .ok (.if_icmp .eq 21, 3) := by decide +kernel
theorem dX5_weighWithout_46 : decode cX5_weighWithout 46 = .ok (.lload 4, 2) := by decide +kernel
theorem dX5_weighWithout_48 : decode cX5_weighWithout 48 = .ok (.aload_n 0, 1) := by decide +kernel
theorem dX5_weighWithout_49 : decode cX5_weighWithout 49 = .ok (.getfield 17, 3) := by decide +kernel
theorem dX5_weighWithout_52 : decode cX5_weighWithout 52 = .ok (.iload_n 3, 1) := by decide +kernel
theorem dX5_weighWithout_53 : decode cX5_weighWithout 53 = .ok (.bipush 8, 2) := by decide +kernel
theorem dX5_weighWithout_55 : decode cX5_weighWithout 55 = .ok (.imul, 1) := by decide +kernel
theorem dX5_weighWithout_56 : decode cX5_weighWithout 56 = .ok (.iload 6, 2) := by decide +kernel
theorem dX5_weighWithout_58 : decode cX5_weighWithout 58 = .ok (.iadd, 1) := by decide +kernel
theorem dX5_weighWithout_59 : decode cX5_weighWithout 59 = .ok (.iaload, 1) := by decide +kernel
theorem dX5_weighWithout_60 : decode cX5_weighWithout 60 = .ok (.i2l, 1) := by decide +kernel
theorem dX5_weighWithout_61 : decode cX5_weighWithout 61 = .ok (.lmul, 1) := by decide +kernel
theorem dX5_weighWithout_62 : decode cX5_weighWithout 62 = .ok (.lstore 4, 2) := by decide +kernel
theorem dX5_weighWithout_64 : decode cX5_weighWithout 64 = .ok (.iinc 6 1, 3) := by decide +kernel
theorem dX5_weighWithout_67 : decode cX5_weighWithout 67 = .ok (.goto (-43), 3) := by decide +kernel
theorem dX5_weighWithout_70 : decode cX5_weighWithout 70 = .ok (.aload_n 0, 1) := by decide +kernel
theorem dX5_weighWithout_71 : decode cX5_weighWithout 71 = .ok (.getfield 9, 3) := by decide +kernel
theorem dX5_weighWithout_74 : decode cX5_weighWithout 74 = .ok (.iload_n 3, 1) := by decide +kernel
theorem dX5_weighWithout_75 : decode cX5_weighWithout 75 = .ok (.lload 4, 2) := by decide +kernel
theorem dX5_weighWithout_77 : decode cX5_weighWithout 77 = .ok (.lastore, 1) := by decide +kernel
theorem dX5_weighWithout_78 : decode cX5_weighWithout 78 = .ok (.aload_n 0, 1) := by decide +kernel
theorem dX5_weighWithout_79 : decode cX5_weighWithout 79 = .ok (.dup, 1) := by decide +kernel
theorem dX5_weighWithout_80 : decode cX5_weighWithout 80 = .ok (.getfield 63, 3) := by decide +kernel
theorem dX5_weighWithout_83 : decode cX5_weighWithout 83 = .ok (.lload 4, 2) := by decide +kernel
theorem dX5_weighWithout_85 : decode cX5_weighWithout 85 = .ok (.ladd, 1) := by decide +kernel
theorem dX5_weighWithout_86 : decode cX5_weighWithout 86 = .ok (.putfield 63, 3) := by decide +kernel
theorem dX5_weighWithout_89 : decode cX5_weighWithout 89 = .ok (.iinc 3 1, 3) := by decide +kernel
theorem dX5_weighWithout_92 : decode cX5_weighWithout 92 = .ok (.goto (-85), 3) := by decide +kernel
theorem dX5_weighWithout_95 : decode cX5_weighWithout 95 = .ok (.return_, 1) := by decide +kernel
theorem dX5_greatest_0 : decode cX5_greatest 0 = .ok (.iconst 0, 1) := by decide +kernel
theorem dX5_greatest_1 : decode cX5_greatest 1 = .ok (.istore_n 1, 1) := by decide +kernel
theorem dX5_greatest_2 : decode cX5_greatest 2 = .ok (.iconst 1, 1) := by decide +kernel
theorem dX5_greatest_3 : decode cX5_greatest 3 = .ok (.istore_n 2, 1) := by decide +kernel
theorem dX5_greatest_4 : decode cX5_greatest 4 = .ok (.iload_n 2, 1) := by decide +kernel
theorem dX5_greatest_5 : decode cX5_greatest 5 = .ok (.iconst 4, 1) := by decide +kernel
theorem dX5_greatest_6 : decode cX5_greatest 6 = .ok (.if_icmp .ge 27, 3) := by decide +kernel
theorem dX5_greatest_9 : decode cX5_greatest 9 = .ok (.aload_n 0, 1) := by decide +kernel
theorem dX5_greatest_10 : decode cX5_greatest 10 = .ok (.getfield 9, 3) := by decide +kernel
theorem dX5_greatest_13 : decode cX5_greatest 13 = .ok (.iload_n 2, 1) := by decide +kernel
theorem dX5_greatest_14 : decode cX5_greatest 14 = .ok (.laload, 1) := by decide +kernel
theorem dX5_greatest_15 : decode cX5_greatest 15 = .ok (.aload_n 0, 1) := by decide +kernel
theorem dX5_greatest_16 : decode cX5_greatest 16 = .ok (.getfield 9, 3) := by decide +kernel
theorem dX5_greatest_19 : decode cX5_greatest 19 = .ok (.iload_n 1, 1) := by decide +kernel
theorem dX5_greatest_20 : decode cX5_greatest 20 = .ok (.laload, 1) := by decide +kernel
theorem dX5_greatest_21 : decode cX5_greatest 21 = .ok (.lcmp, 1) := by decide +kernel
theorem dX5_greatest_22 : decode cX5_greatest 22 = .ok (.ifCond .le 5, 3) := by decide +kernel
theorem dX5_greatest_25 : decode cX5_greatest 25 = .ok (.iload_n 2, 1) := by decide +kernel
theorem dX5_greatest_26 : decode cX5_greatest 26 = .ok (.istore_n 1, 1) := by decide +kernel
theorem dX5_greatest_27 : decode cX5_greatest 27 = .ok (.iinc 2 1, 3) := by decide +kernel
theorem dX5_greatest_30 : decode cX5_greatest 30 = .ok (.goto (-26), 3) := by decide +kernel
theorem dX5_greatest_33 : decode cX5_greatest 33 = .ok (.iload_n 1, 1) := by decide +kernel
theorem dX5_greatest_34 : decode cX5_greatest 34 = .ok (.ireturn, 1) := by decide +kernel
theorem dX5_bedThatMovesMost_0 : decode cX5_bedThatMovesMost 0 = .ok (.aload_n 0, 1) := by decide +kernel
theorem dX5_bedThatMovesMost_1 : decode cX5_bedThatMovesMost 1 = .ok (.invokevirtual 70, 3) := by decide +kernel
theorem dX5_bedThatMovesMost_4 : decode cX5_bedThatMovesMost 4 = .ok (.istore_n 2, 1) := by decide +kernel
theorem dX5_bedThatMovesMost_5 : decode cX5_bedThatMovesMost 5 = .ok (.aload_n 0, 1) := by decide +kernel
theorem dX5_bedThatMovesMost_6 : decode cX5_bedThatMovesMost 6 = .ok (.getfield 9, 3) := by decide +kernel
theorem dX5_bedThatMovesMost_9 : decode cX5_bedThatMovesMost 9 = .ok (.iload_n 2, 1) := by decide +kernel
theorem dX5_bedThatMovesMost_10 : decode cX5_bedThatMovesMost 10 = .ok (.laload, 1) := by decide +kernel
theorem dX5_bedThatMovesMost_11 : decode cX5_bedThatMovesMost 11 = .ok (.aload_n 0, 1) := by decide +kernel
theorem dX5_bedThatMovesMost_12 : decode cX5_bedThatMovesMost 12 = .ok (.getfield 63, 3) := by decide +kernel
theorem dX5_bedThatMovesMost_15 : decode cX5_bedThatMovesMost 15 = .ok (.invokestatic 74, 3) := by decide +kernel
theorem dX5_bedThatMovesMost_18 : decode cX5_bedThatMovesMost 18 = .ok (.istore_n 3, 1) := by decide +kernel
theorem dX5_bedThatMovesMost_19 : decode cX5_bedThatMovesMost 19 = .ok (.bipush (-9), 2) := by decide +kernel
theorem dX5_bedThatMovesMost_21 : decode cX5_bedThatMovesMost 21 = .ok (.istore 4, 2) := by decide +kernel
theorem dX5_bedThatMovesMost_23 : decode cX5_bedThatMovesMost 23 = .ok (.iconst (-1), 1) := by decide +kernel
theorem dX5_bedThatMovesMost_24 : decode cX5_bedThatMovesMost 24 = .ok (.istore 5, 2) := by decide +kernel
theorem dX5_bedThatMovesMost_26 : decode cX5_bedThatMovesMost 26 = .ok (.iconst 0, 1) := by decide +kernel
theorem dX5_bedThatMovesMost_27 : decode cX5_bedThatMovesMost 27 = .ok (.istore 6, 2) := by decide +kernel
theorem dX5_bedThatMovesMost_29 : decode cX5_bedThatMovesMost 29 = .ok (.iload 6, 2) := by decide +kernel
theorem dX5_bedThatMovesMost_31 : decode cX5_bedThatMovesMost 31 = .ok (.aload_n 1, 1) := by decide +kernel
theorem dX5_bedThatMovesMost_32 : decode cX5_bedThatMovesMost 32 = .ok (.getfield 46, 3) := by decide +kernel
theorem dX5_bedThatMovesMost_35 : decode cX5_bedThatMovesMost 35 = .ok (.if_icmp .ge 51, 3) := by decide +kernel
theorem dX5_bedThatMovesMost_38 : decode cX5_bedThatMovesMost 38 = .ok (.aload_n 0, 1) := by decide +kernel
theorem dX5_bedThatMovesMost_39 : decode cX5_bedThatMovesMost 39 = .ok (.aload_n 1, 1) := by decide +kernel
theorem dX5_bedThatMovesMost_40 : decode cX5_bedThatMovesMost 40 = .ok (.iload 6, 2) := by decide +kernel
theorem dX5_bedThatMovesMost_42 : decode cX5_bedThatMovesMost 42 = .ok (.invokevirtual 59, 3) := by decide +kernel
theorem dX5_bedThatMovesMost_45 : decode cX5_bedThatMovesMost 45 = .ok (.aload_n 0, 1) := by decide +kernel
theorem dX5_bedThatMovesMost_46 : decode cX5_bedThatMovesMost 46 = .ok (.getfield 9, 3) := by decide +kernel
theorem dX5_bedThatMovesMost_49 : decode cX5_bedThatMovesMost 49 = .ok (.iload_n 2, 1) := by decide +kernel
theorem dX5_bedThatMovesMost_50 : decode cX5_bedThatMovesMost 50 = .ok (.laload, 1) := by decide +kernel
theorem dX5_bedThatMovesMost_51 : decode cX5_bedThatMovesMost 51 = .ok (.aload_n 0, 1) := by decide +kernel
theorem dX5_bedThatMovesMost_52 : decode cX5_bedThatMovesMost 52 = .ok (.getfield 63, 3) := by decide +kernel
theorem dX5_bedThatMovesMost_55 : decode cX5_bedThatMovesMost 55 = .ok (.invokestatic 74, 3) := by decide +kernel
theorem dX5_bedThatMovesMost_58 : decode cX5_bedThatMovesMost 58 = .ok (.iload_n 3, 1) := by decide +kernel
theorem dX5_bedThatMovesMost_59 : decode cX5_bedThatMovesMost 59 = .ok (.isub, 1) := by decide +kernel
theorem dX5_bedThatMovesMost_60 : decode cX5_bedThatMovesMost 60 = .ok (.invokestatic 50, 3) := by decide +kernel
theorem dX5_bedThatMovesMost_63 : decode cX5_bedThatMovesMost 63 = .ok (.istore 7, 2) := by decide +kernel
theorem dX5_bedThatMovesMost_65 : decode cX5_bedThatMovesMost 65 = .ok (.iload 7, 2) := by decide +kernel
theorem dX5_bedThatMovesMost_67 : decode cX5_bedThatMovesMost 67 = .ok (.iload 5, 2) := by decide +kernel
theorem dX5_bedThatMovesMost_69 : decode cX5_bedThatMovesMost 69 = .ok (.if_icmp .le 11, 3) := by decide +kernel
theorem dX5_bedThatMovesMost_72 : decode cX5_bedThatMovesMost 72 = .ok (.iload 7, 2) := by decide +kernel
theorem dX5_bedThatMovesMost_74 : decode cX5_bedThatMovesMost 74 = .ok (.istore 5, 2) := by decide +kernel
theorem dX5_bedThatMovesMost_76 : decode cX5_bedThatMovesMost 76 = .ok (.iload 6, 2) := by decide +kernel
theorem dX5_bedThatMovesMost_78 : decode cX5_bedThatMovesMost 78 = .ok (.istore 4, 2) := by decide +kernel
theorem dX5_bedThatMovesMost_80 : decode cX5_bedThatMovesMost 80 = .ok (.iinc 6 1, 3) := by decide +kernel
theorem dX5_bedThatMovesMost_83 : decode cX5_bedThatMovesMost 83 = .ok (.goto (-54), 3) := by decide +kernel
theorem dX5_bedThatMovesMost_86 : decode cX5_bedThatMovesMost 86 = .ok (.iload 4, 2) := by decide +kernel
theorem dX5_bedThatMovesMost_88 : decode cX5_bedThatMovesMost 88 = .ok (.ireturn, 1) := by decide +kernel
theorem dX5_millionths_0 : decode cX5_millionths 0 = .ok (.lload_n 2, 1) := by decide +kernel
theorem dX5_millionths_1 : decode cX5_millionths 1 = .ok (.lconst 0, 1) := by decide +kernel
theorem dX5_millionths_2 : decode cX5_millionths 2 = .ok (.lcmp, 1) := by decide +kernel
theorem dX5_millionths_3 : decode cX5_millionths 3 = .ok (.ifCond .gt 5, 3) := by decide +kernel
theorem dX5_millionths_6 : decode cX5_millionths 6 = .ok (.iconst 0, 1) := by decide +kernel
theorem dX5_millionths_7 : decode cX5_millionths 7 = .ok (.ireturn, 1) := by decide +kernel
theorem dX5_millionths_8 : decode cX5_millionths 8 = .ok (.lload_n 0, 1) := by decide +kernel
theorem dX5_millionths_9 : decode cX5_millionths 9 = .ok (.lload_n 2, 1) := by decide +kernel
theorem dX5_millionths_10 : decode cX5_millionths 10 = .ok (.ldiv, 1) := by decide +kernel
theorem dX5_millionths_11 : decode cX5_millionths 11 = .ok (.l2i, 1) := by decide +kernel
theorem dX5_millionths_12 : decode cX5_millionths 12 = .ok (.istore 4, 2) := by decide +kernel
theorem dX5_millionths_14 : decode cX5_millionths 14 = .ok (.lload_n 0, 1) := by decide +kernel
theorem dX5_millionths_15 : decode cX5_millionths 15 = .ok (.lload_n 2, 1) := by decide +kernel
theorem dX5_millionths_16 : decode cX5_millionths 16 = .ok (.lrem, 1) := by decide +kernel
theorem dX5_millionths_17 : decode cX5_millionths 17 = .ok (.lstore 5, 2) := by decide +kernel
theorem dX5_millionths_19 : decode cX5_millionths 19 = .ok (.iconst 0, 1) := by decide +kernel
theorem dX5_millionths_20 : decode cX5_millionths 20 = .ok (.istore 7, 2) := by decide +kernel
theorem dX5_millionths_22 : decode cX5_millionths 22 = .ok (.iload 7, 2) := by decide +kernel
theorem dX5_millionths_24 : decode cX5_millionths 24 = .ok (.bipush 6, 2) := by decide +kernel
theorem dX5_millionths_26 : decode cX5_millionths 26 = .ok (.if_icmp .ge 36, 3) := by decide +kernel
theorem dX5_millionths_29 : decode cX5_millionths 29 = .ok (.lload 5, 2) := by decide +kernel
theorem dX5_millionths_31 : decode cX5_millionths 31 = .ok (.ldc2_w 78, 3) := by decide +kernel
theorem dX5_millionths_34 : decode cX5_millionths 34 = .ok (.lmul, 1) := by decide +kernel
theorem dX5_millionths_35 : decode cX5_millionths 35 = .ok (.lstore 5, 2) := by decide +kernel
theorem dX5_millionths_37 : decode cX5_millionths 37 = .ok (.bipush 10, 2) := by decide +kernel
theorem dX5_millionths_39 : decode cX5_millionths 39 = .ok (.iload 4, 2) := by decide +kernel
theorem dX5_millionths_41 : decode cX5_millionths 41 = .ok (.imul, 1) := by decide +kernel
theorem dX5_millionths_42 : decode cX5_millionths 42 = .ok (.lload 5, 2) := by decide +kernel
theorem dX5_millionths_44 : decode cX5_millionths 44 = .ok (.lload_n 2, 1) := by decide +kernel
theorem dX5_millionths_45 : decode cX5_millionths 45 = .ok (.ldiv, 1) := by decide +kernel
theorem dX5_millionths_46 : decode cX5_millionths 46 = .ok (.l2i, 1) := by decide +kernel
theorem dX5_millionths_47 : decode cX5_millionths 47 = .ok (.iadd, 1) := by decide +kernel
theorem dX5_millionths_48 : decode cX5_millionths 48 = .ok (.istore 4, 2) := by decide +kernel
theorem dX5_millionths_50 : decode cX5_millionths 50 = .ok (.lload 5, 2) := by decide +kernel
theorem dX5_millionths_52 : decode cX5_millionths 52 = .ok (.lload_n 2, 1) := by decide +kernel
theorem dX5_millionths_53 : decode cX5_millionths 53 = .ok (.lrem, 1) := by decide +kernel
theorem dX5_millionths_54 : decode cX5_millionths 54 = .ok (.lstore 5, 2) := by decide +kernel
theorem dX5_millionths_56 : decode cX5_millionths 56 = .ok (.iinc 7 1, 3) := by decide +kernel
theorem dX5_millionths_59 : decode cX5_millionths 59 = .ok (.goto (-37), 3) := by decide +kernel
theorem dX5_millionths_62 : decode cX5_millionths 62 = .ok (.iload 4, 2) := by decide +kernel
theorem dX5_millionths_64 : decode cX5_millionths 64 = .ok (.ireturn, 1) := by decide +kernel
theorem dX5_whereToGo_0 : decode cX5_whereToGo 0 = .ok (.iconst 0, 1) := by decide +kernel
theorem dX5_whereToGo_1 : decode cX5_whereToGo 1 = .ok (.istore_n 2, 1) := by decide +kernel
theorem dX5_whereToGo_2 : decode cX5_whereToGo 2 = .ok (.aload_n 0, 1) := by decide +kernel
theorem dX5_whereToGo_3 : decode cX5_whereToGo 3 = .ok (.getfield 63, 3) := by decide +kernel
theorem dX5_whereToGo_6 : decode cX5_whereToGo 6 = .ok (.lconst 1, 1) := by decide +kernel
theorem dX5_whereToGo_7 : decode cX5_whereToGo 7 = .ok (.ladd, 1) := by decide +kernel
theorem dX5_whereToGo_8 : decode cX5_whereToGo 8 = .ok (.lstore_n 3, 1) := by decide +kernel
theorem dX5_whereToGo_9 : decode cX5_whereToGo 9 = .ok (.iconst 0, 1) := by decide +kernel
theorem dX5_whereToGo_10 : decode cX5_whereToGo 10 = .ok (.istore 5, 2) := by decide +kernel
theorem dX5_whereToGo_12 : decode cX5_whereToGo 12 = .ok (.iload 5, 2) := by decide +kernel
theorem dX5_whereToGo_14 : decode cX5_whereToGo 14 = .ok (.bipush 6, 2) := by decide +kernel
theorem dX5_whereToGo_16 : decode cX5_whereToGo 16 = .ok (.if_icmp .ge 70, 3) := by decide +kernel
theorem dX5_whereToGo_19 : decode cX5_whereToGo 19 = .ok (.iconst 0, 1) := by decide +kernel
theorem dX5_whereToGo_20 : decode cX5_whereToGo 20 = .ok (.istore 6, 2) := by decide +kernel
theorem dX5_whereToGo_22 : decode cX5_whereToGo 22 = .ok (.iload 6, 2) := by decide +kernel
theorem dX5_whereToGo_24 : decode cX5_whereToGo 24 = .ok (.bipush 10, 2) := by decide +kernel
theorem dX5_whereToGo_26 : decode cX5_whereToGo 26 = .ok (.if_icmp .ge 54, 3) := by decide +kernel
theorem dX5_whereToGo_29 : decode cX5_whereToGo 29 = .ok (.ldc2_w 80, 3) := by decide +kernel
theorem dX5_whereToGo_32 : decode cX5_whereToGo 32 = .ok (.aload_n 0, 1) := by decide +kernel
theorem dX5_whereToGo_33 : decode cX5_whereToGo 33 = .ok (.aload_n 1, 1) := by decide +kernel
theorem dX5_whereToGo_34 : decode cX5_whereToGo 34 = .ok (.iload 5, 2) := by decide +kernel
theorem dX5_whereToGo_36 : decode cX5_whereToGo 36 = .ok (.bipush 10, 2) := by decide +kernel
theorem dX5_whereToGo_38 : decode cX5_whereToGo 38 = .ok (.iload 6, 2) := by decide +kernel
theorem dX5_whereToGo_40 : decode cX5_whereToGo 40 = .ok (.imul, 1) := by decide +kernel
theorem dX5_whereToGo_41 : decode cX5_whereToGo 41 = .ok (.invokevirtual 82, 3) := by decide +kernel
theorem dX5_whereToGo_44 : decode cX5_whereToGo 44 = .ok (.lmul, 1) := by decide +kernel
theorem dX5_whereToGo_45 : decode cX5_whereToGo 45 = .ok (.aload_n 0, 1) := by decide +kernel
theorem dX5_whereToGo_46 : decode cX5_whereToGo 46 = .ok (.getfield 63, 3) := by decide +kernel
theorem dX5_whereToGo_49 : decode cX5_whereToGo 49 = .ok (.lsub, 1) := by decide +kernel
theorem dX5_whereToGo_50 : decode cX5_whereToGo 50 = .ok (.invokestatic 86, 3) := by decide +kernel
theorem dX5_whereToGo_53 : decode cX5_whereToGo 53 = .ok (.lstore 7, 2) := by decide +kernel
theorem dX5_whereToGo_55 : decode cX5_whereToGo 55 = .ok (.lload 7, 2) := by decide +kernel
theorem dX5_whereToGo_57 : decode cX5_whereToGo 57 = .ok (.lload_n 3, 1) := by decide +kernel
theorem dX5_whereToGo_58 : decode cX5_whereToGo 58 = .ok (.lcmp, 1) := by decide +kernel
theorem dX5_whereToGo_59 : decode cX5_whereToGo 59 = .ok (.ifCond .ge 15, 3) := by decide +kernel
theorem dX5_whereToGo_62 : decode cX5_whereToGo 62 = .ok (.lload 7, 2) := by decide +kernel
theorem dX5_whereToGo_64 : decode cX5_whereToGo 64 = .ok (.lstore_n 3, 1) := by decide +kernel
theorem dX5_whereToGo_65 : decode cX5_whereToGo 65 = .ok (.bipush 10, 2) := by decide +kernel
theorem dX5_whereToGo_67 : decode cX5_whereToGo 67 = .ok (.iload 5, 2) := by decide +kernel
theorem dX5_whereToGo_69 : decode cX5_whereToGo 69 = .ok (.imul, 1) := by decide +kernel
theorem dX5_whereToGo_70 : decode cX5_whereToGo 70 = .ok (.iload 6, 2) := by decide +kernel
theorem dX5_whereToGo_72 : decode cX5_whereToGo 72 = .ok (.iadd, 1) := by decide +kernel
theorem dX5_whereToGo_73 : decode cX5_whereToGo 73 = .ok (.istore_n 2, 1) := by decide +kernel
theorem dX5_whereToGo_74 : decode cX5_whereToGo 74 = .ok (.iinc 6 1, 3) := by decide +kernel
theorem dX5_whereToGo_77 : decode cX5_whereToGo 77 = .ok (.goto (-55), 3) := by decide +kernel
theorem dX5_whereToGo_80 : decode cX5_whereToGo 80 = .ok (.iinc 5 1, 3) := by decide +kernel
theorem dX5_whereToGo_83 : decode cX5_whereToGo 83 = .ok (.goto (-71), 3) := by decide +kernel
theorem dX5_whereToGo_86 : decode cX5_whereToGo 86 = .ok (.iload_n 2, 1) := by decide +kernel
theorem dX5_whereToGo_87 : decode cX5_whereToGo 87 = .ok (.ireturn, 1) := by decide +kernel
theorem dX5_shareWithIce_0 : decode cX5_shareWithIce 0 = .ok (.lconst 0, 1) := by decide +kernel
theorem dX5_shareWithIce_1 : decode cX5_shareWithIce 1 = .ok (.lstore 4, 2) := by decide +kernel
theorem dX5_shareWithIce_3 : decode cX5_shareWithIce 3 = .ok (.iconst 0, 1) := by decide +kernel
theorem dX5_shareWithIce_4 : decode cX5_shareWithIce 4 = .ok (.istore 6, 2) := by decide +kernel
theorem dX5_shareWithIce_6 : decode cX5_shareWithIce 6 = .ok (.iload 6, 2) := by decide +kernel
theorem dX5_shareWithIce_8 : decode cX5_shareWithIce 8 = .ok (.iconst 4, 1) := by decide +kernel
theorem dX5_shareWithIce_9 : decode cX5_shareWithIce 9 = .ok (.if_icmp .ge 35, 3) := by decide +kernel
theorem dX5_shareWithIce_12 : decode cX5_shareWithIce 12 = .ok (.aload_n 1, 1) := by decide +kernel
theorem dX5_shareWithIce_13 : decode cX5_shareWithIce 13 = .ok (.iload 6, 2) := by decide +kernel
theorem dX5_shareWithIce_15 : decode cX5_shareWithIce 15 = .ok (.iload_n 3, 1) := by decide +kernel
theorem dX5_shareWithIce_16 : decode cX5_shareWithIce 16 = .ok (.invokevirtual 89, 3) := by decide +kernel
theorem dX5_shareWithIce_19 : decode cX5_shareWithIce 19 = .ok (.iload_n 2, 1) := by decide +kernel
theorem dX5_shareWithIce_20 : decode cX5_shareWithIce 20 = .ok (.invokestatic 35, 3) := by decide +kernel
theorem dX5_shareWithIce_23 : decode cX5_shareWithIce 23 = .ok (.ifCond .eq 15, 3) := by decide +kernel
theorem dX5_shareWithIce_26 : decode cX5_shareWithIce 26 = .ok (.lload 4, 2) := by decide +kernel
theorem dX5_shareWithIce_28 : decode cX5_shareWithIce 28 = .ok (.aload_n 0, 1) := by decide +kernel
theorem dX5_shareWithIce_29 : decode cX5_shareWithIce 29 = .ok (.getfield 9, 3) := by decide +kernel
theorem dX5_shareWithIce_32 : decode cX5_shareWithIce 32 = .ok (.iload 6, 2) := by decide +kernel
theorem dX5_shareWithIce_34 : decode cX5_shareWithIce 34 = .ok (.laload, 1) := by decide +kernel
theorem dX5_shareWithIce_35 : decode cX5_shareWithIce 35 = .ok (.ladd, 1) := by decide +kernel
theorem dX5_shareWithIce_36 : decode cX5_shareWithIce 36 = .ok (.lstore 4, 2) := by decide +kernel
theorem dX5_shareWithIce_38 : decode cX5_shareWithIce 38 = .ok (.iinc 6 1, 3) := by decide +kernel
theorem dX5_shareWithIce_41 : decode cX5_shareWithIce 41 = .ok (.goto (-35), 3) := by decide +kernel
theorem dX5_shareWithIce_44 : decode cX5_shareWithIce 44 = .ok (.lload 4, 2) := by decide +kernel
theorem dX5_shareWithIce_46 : decode cX5_shareWithIce 46 = .ok (.lreturn, 1) := by decide +kernel
theorem dX6_init_0 : decode cX6_init 0 = .ok (.aload_n 0, 1) := by decide +kernel
theorem dX6_init_1 : decode cX6_init 1 = .ok (.invokespecial 3, 3) := by decide +kernel
theorem dX6_init_4 : decode cX6_init 4 = .ok (.aload_n 0, 1) := by decide +kernel
theorem dX6_init_5 : decode cX6_init 5 = .ok (.bipush 12, 2) := by decide +kernel
theorem dX6_init_7 : decode cX6_init 7 = .ok (.newarray .int, 2) := by decide +kernel
theorem dX6_init_9 : decode cX6_init 9 = .ok (.putfield 11, 3) := by decide +kernel
theorem dX6_init_12 : decode cX6_init 12 = .ok (.return_, 1) := by decide +kernel
theorem dX6_faultOf_0 : decode cX6_faultOf 0 = .ok (.aload_n 0, 1) := by decide +kernel
theorem dX6_faultOf_1 : decode cX6_faultOf 1 = .ok (.invokevirtual 17, 3) := by decide +kernel
theorem dX6_faultOf_4 : decode cX6_faultOf 4 = .ok (.iconst 0, 1) := by decide +kernel
theorem dX6_faultOf_5 : decode cX6_faultOf 5 = .ok (.istore_n 2, 1) := by decide +kernel
theorem dX6_faultOf_6 : decode cX6_faultOf 6 = .ok (.iload_n 2, 1) := by decide +kernel
theorem dX6_faultOf_7 : decode cX6_faultOf 7 = .ok (.aload_n 1, 1) := by decide +kernel
theorem dX6_faultOf_8 : decode cX6_faultOf 8 = .ok (.getfield 20, 3) := by decide +kernel
theorem dX6_faultOf_11 : decode cX6_faultOf 11 = .ok (.if_icmp .ge 30, 3) := by decide +kernel
theorem dX6_faultOf_14 : decode cX6_faultOf 14 = .ok (.iload_n 2, 1) := by decide +kernel
theorem dX6_faultOf_15 : decode cX6_faultOf 15 = .ok (.bipush 48, 2) := by decide +kernel
theorem dX6_faultOf_17 : decode cX6_faultOf 17 = .ok (.if_icmp .ge 24, 3) := by decide +kernel
theorem dX6_faultOf_20 : decode cX6_faultOf 20 = .ok (.aload_n 0, 1) := by decide +kernel
theorem dX6_faultOf_21 : decode cX6_faultOf 21 = .ok (.aload_n 1, 1) := by decide +kernel
theorem dX6_faultOf_22 : decode cX6_faultOf 22 = .ok (.getfield 26, 3) := by decide +kernel
theorem dX6_faultOf_25 : decode cX6_faultOf 25 = .ok (.iload_n 2, 1) := by decide +kernel
theorem dX6_faultOf_26 : decode cX6_faultOf 26 = .ok (.iaload, 1) := by decide +kernel
theorem dX6_faultOf_27 : decode cX6_faultOf 27 = .ok (.invokevirtual 29, 3) := by decide +kernel
theorem dX6_faultOf_30 : decode cX6_faultOf 30 = .ok (.ifCond .ne 5, 3) := by decide +kernel
theorem dX6_faultOf_33 : decode cX6_faultOf 33 = .ok (.iload_n 2, 1) := by decide +kernel
theorem dX6_faultOf_34 : decode cX6_faultOf 34 = .ok (.ireturn, 1) := by decide +kernel
theorem dX6_faultOf_35 : decode cX6_faultOf 35 = .ok (.iinc 2 1, 3) := by decide +kernel
theorem dX6_faultOf_38 : decode cX6_faultOf 38 = .ok (.goto (-32), 3) := by decide +kernel
theorem dX6_faultOf_41 : decode cX6_faultOf 41 = .ok (.aload_n 0, 1) := by decide +kernel
theorem dX6_faultOf_42 : decode cX6_faultOf 42 = .ok (.getfield 33, 3) := by decide +kernel
theorem dX6_faultOf_45 : decode cX6_faultOf 45 = .ok (.ifCond .gt 10, 3) := by decide +kernel
theorem dX6_faultOf_48 : decode cX6_faultOf 48 = .ok (.aload_n 0, 1) := by decide +kernel
theorem dX6_faultOf_49 : decode cX6_faultOf 49 = .ok (.getfield 36, 3) := by decide +kernel
theorem dX6_faultOf_52 : decode cX6_faultOf 52 = .ok (.ifCond .eq 10, 3) := by decide +kernel
theorem dX6_faultOf_55 : decode cX6_faultOf 55 = .ok (.aload_n 1, 1) := by decide +kernel
theorem dX6_faultOf_56 : decode cX6_faultOf 56 = .ok (.getfield 20, 3) := by decide +kernel
theorem dX6_faultOf_59 : decode cX6_faultOf 59 = .ok (.goto 5, 3) := by decide +kernel
theorem dX6_faultOf_62 : decode cX6_faultOf 62 = .ok (.bipush (-9), 2) := by decide +kernel
theorem dX6_faultOf_64 : decode cX6_faultOf 64 = .ok (.ireturn, 1) := by decide +kernel
theorem dX6_giveTo_0 : decode cX6_giveTo 0 = .ok (.iconst 0, 1) := by decide +kernel
theorem dX6_giveTo_1 : decode cX6_giveTo 1 = .ok (.istore_n 2, 1) := by decide +kernel
theorem dX6_giveTo_2 : decode cX6_giveTo 2 = .ok (.iload_n 2, 1) := by decide +kernel
theorem dX6_giveTo_3 : decode cX6_giveTo 3 = .ok (.bipush 12, 2) := by decide +kernel
theorem dX6_giveTo_5 : decode cX6_giveTo 5 = .ok (.if_icmp .ge 25, 3) := by decide +kernel
theorem dX6_giveTo_8 : decode cX6_giveTo 8 = .ok (.aload_n 1, 1) := by decide +kernel
theorem dX6_giveTo_9 : decode cX6_giveTo 9 = .ok (.getfield 40, 3) := by decide +kernel
theorem dX6_giveTo_12 : decode cX6_giveTo 12 = .ok (.iload_n 2, 1) := by decide +kernel
theorem dX6_giveTo_13 : decode cX6_giveTo 13 = .ok (.aload_n 0, 1) := by decide +kernel
theorem dX6_giveTo_14 : decode cX6_giveTo 14 = .ok (.getfield 11, 3) := by decide +kernel
theorem dX6_giveTo_17 : decode cX6_giveTo 17 = .ok (.iload_n 2, 1) := by decide +kernel
theorem dX6_giveTo_18 : decode cX6_giveTo 18 = .ok (.iaload, 1) := by decide +kernel
theorem dX6_giveTo_19 : decode cX6_giveTo 19 = .ok (.iconst 0, 1) := by decide +kernel
theorem dX6_giveTo_20 : decode cX6_giveTo 20 = .ok (.invokestatic 43, 3) := by decide +kernel
theorem dX6_giveTo_23 : decode cX6_giveTo 23 = .ok (.iastore, 1) := by decide +kernel
theorem dX6_giveTo_24 : decode cX6_giveTo 24 = .ok (.iinc 2 1, 3) := by decide +kernel
theorem dX6_giveTo_27 : decode cX6_giveTo 27 = .ok (.goto (-25), 3) := by decide +kernel
theorem dX6_giveTo_30 : decode cX6_giveTo 30 = .ok (.return_, 1) := by decide +kernel
theorem dX6_begin_0 : decode cX6_begin 0 = .ok (.iconst 0, 1) := by decide +kernel
theorem dX6_begin_1 : decode cX6_begin 1 = .ok (.istore_n 1, 1) := by decide +kernel
theorem dX6_begin_2 : decode cX6_begin 2 = .ok (.iload_n 1, 1) := by decide +kernel
theorem dX6_begin_3 : decode cX6_begin 3 = .ok (.bipush 12, 2) := by decide +kernel
theorem dX6_begin_5 : decode cX6_begin 5 = .ok (.if_icmp .ge 16, 3) := by decide +kernel
theorem dX6_begin_8 : decode cX6_begin 8 = .ok (.aload_n 0, 1) := by decide +kernel
theorem dX6_begin_9 : decode cX6_begin 9 = .ok (.getfield 11, 3) := by decide +kernel
theorem dX6_begin_12 : decode cX6_begin 12 = .ok (.iload_n 1, 1) := by decide +kernel
theorem dX6_begin_13 : decode cX6_begin 13 = .ok (.iconst (-1), 1) := by decide +kernel
theorem dX6_begin_14 : decode cX6_begin 14 = .ok (.iastore, 1) := by decide +kernel
theorem dX6_begin_15 : decode cX6_begin 15 = .ok (.iinc 1 1, 3) := by decide +kernel
theorem dX6_begin_18 : decode cX6_begin 18 = .ok (.goto (-16), 3) := by decide +kernel
theorem dX6_begin_21 : decode cX6_begin 21 = .ok (.aload_n 0, 1) := by decide +kernel
theorem dX6_begin_22 : decode cX6_begin 22 = .ok (.iconst 0, 1) := by decide +kernel
theorem dX6_begin_23 : decode cX6_begin 23 = .ok (.putfield 49, 3) := by decide +kernel
theorem dX6_begin_26 : decode cX6_begin 26 = .ok (.aload_n 0, 1) := by decide +kernel
theorem dX6_begin_27 : decode cX6_begin 27 = .ok (.iconst 0, 1) := by decide +kernel
theorem dX6_begin_28 : decode cX6_begin 28 = .ok (.putfield 33, 3) := by decide +kernel
theorem dX6_begin_31 : decode cX6_begin 31 = .ok (.aload_n 0, 1) := by decide +kernel
theorem dX6_begin_32 : decode cX6_begin 32 = .ok (.iconst 0, 1) := by decide +kernel
theorem dX6_begin_33 : decode cX6_begin 33 = .ok (.putfield 52, 3) := by decide +kernel
theorem dX6_begin_36 : decode cX6_begin 36 = .ok (.aload_n 0, 1) := by decide +kernel
theorem dX6_begin_37 : decode cX6_begin 37 = .ok (.iconst 0, 1) := by decide +kernel
theorem dX6_begin_38 : decode cX6_begin 38 = .ok (.putfield 36, 3) := by decide +kernel
theorem dX6_begin_41 : decode cX6_begin 41 = .ok (.return_, 1) := by decide +kernel
theorem dX6_takes_0 : decode cX6_takes 0 = .ok (.aload_n 0, 1) := by decide +kernel
theorem dX6_takes_1 : decode cX6_takes 1 = .ok (.getfield 33, 3) := by decide +kernel
theorem dX6_takes_4 : decode cX6_takes 4 = .ok (.ifCond .le 9, 3) := by decide +kernel
theorem dX6_takes_7 : decode cX6_takes 7 = .ok (.aload_n 0, 1) := by decide +kernel
theorem dX6_takes_8 : decode cX6_takes 8 = .ok (.iload_n 1, 1) := by decide +kernel
theorem dX6_takes_9 : decode cX6_takes 9 = .ok (.invokevirtual 55, 3) := by decide +kernel
theorem dX6_takes_12 : decode cX6_takes 12 = .ok (.ireturn, 1) := by decide +kernel
theorem dX6_takes_13 : decode cX6_takes 13 = .ok (.aload_n 0, 1) := by decide +kernel
theorem dX6_takes_14 : decode cX6_takes 14 = .ok (.getfield 36, 3) := by decide +kernel
theorem dX6_takes_17 : decode cX6_takes 17 = .ok (.ifCond .eq 9, 3) := by decide +kernel
theorem dX6_takes_20 : decode cX6_takes 20 = .ok (.aload_n 0, 1) := by decide +kernel
theorem dX6_takes_21 : decode cX6_takes 21 = .ok (.iload_n 1, 1) := by decide +kernel
theorem dX6_takes_22 : decode cX6_takes 22 = .ok (.invokevirtual 58, 3) := by decide +kernel
theorem dX6_takes_25 : decode cX6_takes 25 = .ok (.ireturn, 1) := by decide +kernel
theorem dX6_takes_26 : decode cX6_takes 26 = .ok (.aload_n 0, 1) := by decide +kernel
theorem dX6_takes_27 : decode cX6_takes 27 = .ok (.iload_n 1, 1) := by decide +kernel
theorem dX6_takes_28 : decode cX6_takes 28 = .ok (.invokevirtual 61, 3) := by decide +kernel
theorem dX6_takes_31 : decode cX6_takes 31 = .ok (.ireturn, 1) := by decide +kernel
theorem dX6_takesKind_0 : decode cX6_takesKind 0 = .ok (.iload_n 1, 1) := by decide +kernel
theorem dX6_takesKind_1 : decode cX6_takesKind 1 = .ok (.bipush 76, 2) := by decide +kernel
theorem dX6_takesKind_3 : decode cX6_takesKind 3 = .ok (.if_icmp .ne 16, 3) := by decide +kernel
theorem dX6_takesKind_6 : decode cX6_takesKind 6 = .ok (.aload_n 0, 1) := by decide +kernel
theorem dX6_takesKind_7 : decode cX6_takesKind 7 = .ok (.aload_n 0, 1) := by decide +kernel
theorem dX6_takesKind_8 : decode cX6_takesKind 8 = .ok (.invokevirtual 64, 3) := by decide +kernel
theorem dX6_takesKind_11 : decode cX6_takesKind 11 = .ok (.putfield 36, 3) := by decide +kernel
theorem dX6_takesKind_14 : decode cX6_takesKind 14 = .ok (.aload_n 0, 1) := by decide +kernel
theorem dX6_takesKind_15 : decode cX6_takesKind 15 = .ok (.getfield 36, 3) := by decide +kernel
theorem dX6_takesKind_18 : decode cX6_takesKind 18 = .ok (.ireturn, 1) := by decide +kernel
theorem dX6_takesKind_19 : decode cX6_takesKind 19 = .ok (.ldc 68, 2) := by decide +kernel
theorem dX6_takesKind_21 : decode cX6_takesKind 21 = .ok (.iload_n 1, 1) := by decide +kernel
theorem dX6_takesKind_22 : decode cX6_takesKind 22 = .ok (.i2c, 1) := by decide +kernel
theorem dX6_takesKind_23 : decode cX6_takesKind 23 = .ok (.invokevirtual 70, 3) := by decide +kernel
theorem dX6_takesKind_26 : decode cX6_takesKind 26 = .ok (.istore_n 2, 1) := by decide +kernel
theorem dX6_takesKind_27 : decode cX6_takesKind 27 = .ok (.iload_n 2, 1) := by decide +kernel
theorem dX6_takesKind_28 : decode cX6_takesKind 28 = .ok (.ifCond .lt 18, 3) := by decide +kernel
theorem dX6_takesKind_31 : decode cX6_takesKind 31 = .ok (.aload_n 0, 1) := by decide +kernel
theorem dX6_takesKind_32 : decode cX6_takesKind 32 = .ok (.bipush 6, 2) := by decide +kernel
theorem dX6_takesKind_34 : decode cX6_takesKind 34 = .ok (.iload_n 2, 1) := by decide +kernel
theorem dX6_takesKind_35 : decode cX6_takesKind 35 = .ok (.iadd, 1) := by decide +kernel
theorem dX6_takesKind_36 : decode cX6_takesKind 36 = .ok (.invokevirtual 76, 3) := by decide +kernel
theorem dX6_takesKind_39 : decode cX6_takesKind 39 = .ok (.ifCond .eq 7, 3) := by decide +kernel
theorem dX6_takesKind_42 : decode cX6_takesKind 42 = .ok (.iconst 1, 1) := by decide +kernel
theorem dX6_takesKind_43 : decode cX6_takesKind 43 = .ok (.goto 4, 3) := by decide +kernel
theorem dX6_takesKind_46 : decode cX6_takesKind 46 = .ok (.iconst 0, 1) := by decide +kernel
theorem dX6_takesKind_47 : decode cX6_takesKind 47 = .ok (.ireturn, 1) := by decide +kernel
theorem dX6_takesBand_0 : decode cX6_takesBand 0 = .ok (.aload_n 0, 1) := by decide +kernel
theorem dX6_takesBand_1 : decode cX6_takesBand 1 = .ok (.iconst 0, 1) := by decide +kernel
theorem dX6_takesBand_2 : decode cX6_takesBand 2 = .ok (.putfield 36, 3) := by decide +kernel
theorem dX6_takesBand_5 : decode cX6_takesBand 5 = .ok (.iload_n 1, 1) := by decide +kernel
theorem dX6_takesBand_6 : decode cX6_takesBand 6 = .ok (.invokestatic 79, 3) := by decide +kernel
theorem dX6_takesBand_9 : decode cX6_takesBand 9 = .ok (.istore_n 2, 1) := by decide +kernel
theorem dX6_takesBand_10 : decode cX6_takesBand 10 = .ok (.iload_n 2, 1) := by decide +kernel
theorem dX6_takesBand_11 : decode cX6_takesBand 11 = .ok (.invokestatic 82, 3) := by decide +kernel
theorem dX6_takesBand_14 : decode cX6_takesBand 14 = .ok (.ifCond .eq 15, 3) := by decide +kernel
theorem dX6_takesBand_17 : decode cX6_takesBand 17 = .ok (.aload_n 0, 1) := by decide +kernel
theorem dX6_takesBand_18 : decode cX6_takesBand 18 = .ok (.iload_n 2, 1) := by decide +kernel
theorem dX6_takesBand_19 : decode cX6_takesBand 19 = .ok (.invokevirtual 76, 3) := by decide +kernel
theorem dX6_takesBand_22 : decode cX6_takesBand 22 = .ok (.ifCond .eq 7, 3) := by decide +kernel
theorem dX6_takesBand_25 : decode cX6_takesBand 25 = .ok (.iconst 1, 1) := by decide +kernel
theorem dX6_takesBand_26 : decode cX6_takesBand 26 = .ok (.goto 4, 3) := by decide +kernel
theorem dX6_takesBand_29 : decode cX6_takesBand 29 = .ok (.iconst 0, 1) := by decide +kernel
theorem dX6_takesBand_30 : decode cX6_takesBand 30 = .ok (.ireturn, 1) := by decide +kernel
theorem dX6_takesFigure_0 : decode cX6_takesFigure 0 = .ok (.iload_n 1, 1) := by decide +kernel
theorem dX6_takesFigure_1 : decode cX6_takesFigure 1 = .ok (.invokestatic 79, 3) := by decide +kernel
theorem dX6_takesFigure_4 : decode cX6_takesFigure 4 = .ok (.istore_n 2, 1) := by decide +kernel
theorem dX6_takesFigure_5 : decode cX6_takesFigure 5 = .ok (.iload_n 2, 1) := by decide +kernel
theorem dX6_takesFigure_6 : decode cX6_takesFigure 6 = .ok (.bipush (-9), 2) := by decide +kernel
theorem dX6_takesFigure_8 : decode cX6_takesFigure 8 = .ok (.if_icmp .eq 16, 3) := by decide +kernel
theorem dX6_takesFigure_11 : decode cX6_takesFigure 11 = .ok (.aload_n 0, 1) := by decide +kernel
theorem dX6_takesFigure_12 : decode cX6_takesFigure 12 = .ok (.getfield 52, 3) := by decide +kernel
theorem dX6_takesFigure_15 : decode cX6_takesFigure 15 = .ok (.iconst 0, 1) := by decide +kernel
theorem dX6_takesFigure_16 : decode cX6_takesFigure 16 = .ok (.bipush 11, 2) := by decide +kernel
theorem dX6_takesFigure_18 : decode cX6_takesFigure 18 = .ok (.invokestatic 85, 3) := by decide +kernel
theorem dX6_takesFigure_21 : decode cX6_takesFigure 21 = .ok (.ifCond .ne 5, 3) := by decide +kernel
theorem dX6_takesFigure_24 : decode cX6_takesFigure 24 = .ok (.iconst 0, 1) := by decide +kernel
theorem dX6_takesFigure_25 : decode cX6_takesFigure 25 = .ok (.ireturn, 1) := by decide +kernel
theorem dX6_takesFigure_26 : decode cX6_takesFigure 26 = .ok (.aload_n 0, 1) := by decide +kernel
theorem dX6_takesFigure_27 : decode cX6_takesFigure 27 = .ok (.getfield 11, 3) := by decide +kernel
theorem dX6_takesFigure_30 : decode cX6_takesFigure 30 = .ok (.aload_n 0, 1) := by decide +kernel
theorem dX6_takesFigure_31 : decode cX6_takesFigure 31 = .ok (.getfield 52, 3) := by decide +kernel
theorem dX6_takesFigure_34 : decode cX6_takesFigure 34 = .ok (.bipush 10, 2) := by decide +kernel
theorem dX6_takesFigure_36 : decode cX6_takesFigure 36 = .ok (.aload_n 0, 1) := by decide +kernel
theorem dX6_takesFigure_37 : decode cX6_takesFigure 37 = .ok (.getfield 11, 3) := by decide +kernel
theorem dX6_takesFigure_40 : decode cX6_takesFigure 40 = .ok (.aload_n 0, 1) := by decide +kernel
theorem dX6_takesFigure_41 : decode cX6_takesFigure 41 = .ok (.getfield 52, 3) := by decide +kernel
theorem dX6_takesFigure_44 : decode cX6_takesFigure 44 = .ok (.iaload, 1) := by decide +kernel
theorem dX6_takesFigure_45 : decode cX6_takesFigure 45 = .ok (.imul, 1) := by decide +kernel
theorem dX6_takesFigure_46 : decode cX6_takesFigure 46 = .ok (.iload_n 2, 1) := by decide +kernel
theorem dX6_takesFigure_47 : decode cX6_takesFigure 47 = .ok (.iadd, 1) := by decide +kernel
theorem dX6_takesFigure_48 : decode cX6_takesFigure 48 = .ok (.iastore, 1) := by decide +kernel
theorem dX6_takesFigure_49 : decode cX6_takesFigure 49 = .ok (.aload_n 0, 1) := by decide +kernel
theorem dX6_takesFigure_50 : decode cX6_takesFigure 50 = .ok (.dup, 1) := by decide +kernel
theorem dX6_takesFigure_51 : decode cX6_takesFigure 51 = .ok (.getfield 33, 3) := by decide +kernel
theorem dX6_takesFigure_54 : decode cX6_takesFigure 54 = .ok (.iconst 1, 1) := by decide +kernel
theorem dX6_takesFigure_55 : decode cX6_takesFigure 55 = .ok (.isub, 1) := by decide +kernel
theorem dX6_takesFigure_56 : decode cX6_takesFigure 56 = .ok (.putfield 33, 3) := by decide +kernel
theorem dX6_takesFigure_59 : decode cX6_takesFigure 59 = .ok (.aload_n 0, 1) := by decide +kernel
theorem dX6_takesFigure_60 : decode cX6_takesFigure 60 = .ok (.getfield 33, 3) := by decide +kernel
theorem dX6_takesFigure_63 : decode cX6_takesFigure 63 = .ok (.ifCond .ne 13, 3) := by decide +kernel
theorem dX6_takesFigure_66 : decode cX6_takesFigure 66 = .ok (.aload_n 0, 1) := by decide +kernel
theorem dX6_takesFigure_67 : decode cX6_takesFigure 67 = .ok (.dup, 1) := by decide +kernel
theorem dX6_takesFigure_68 : decode cX6_takesFigure 68 = .ok (.getfield 49, 3) := by decide +kernel
theorem dX6_takesFigure_71 : decode cX6_takesFigure 71 = .ok (.iconst 1, 1) := by decide +kernel
theorem dX6_takesFigure_72 : decode cX6_takesFigure 72 = .ok (.iadd, 1) := by decide +kernel
theorem dX6_takesFigure_73 : decode cX6_takesFigure 73 = .ok (.putfield 49, 3) := by decide +kernel
theorem dX6_takesFigure_76 : decode cX6_takesFigure 76 = .ok (.iconst 1, 1) := by decide +kernel
theorem dX6_takesFigure_77 : decode cX6_takesFigure 77 = .ok (.ireturn, 1) := by decide +kernel
theorem dX6_opens_0 : decode cX6_opens 0 = .ok (.iload_n 1, 1) := by decide +kernel
theorem dX6_opens_1 : decode cX6_opens 1 = .ok (.iconst 0, 1) := by decide +kernel
theorem dX6_opens_2 : decode cX6_opens 2 = .ok (.bipush 11, 2) := by decide +kernel
theorem dX6_opens_4 : decode cX6_opens 4 = .ok (.invokestatic 85, 3) := by decide +kernel
theorem dX6_opens_7 : decode cX6_opens 7 = .ok (.ifCond .eq 13, 3) := by decide +kernel
theorem dX6_opens_10 : decode cX6_opens 10 = .ok (.aload_n 0, 1) := by decide +kernel
theorem dX6_opens_11 : decode cX6_opens 11 = .ok (.getfield 11, 3) := by decide +kernel
theorem dX6_opens_14 : decode cX6_opens 14 = .ok (.iload_n 1, 1) := by decide +kernel
theorem dX6_opens_15 : decode cX6_opens 15 = .ok (.iaload, 1) := by decide +kernel
theorem dX6_opens_16 : decode cX6_opens 16 = .ok (.iconst (-1), 1) := by decide +kernel
theorem dX6_opens_17 : decode cX6_opens 17 = .ok (.if_icmp .eq 5, 3) := by decide +kernel
theorem dX6_opens_20 : decode cX6_opens 20 = .ok (.iconst 0, 1) := by decide +kernel
theorem dX6_opens_21 : decode cX6_opens 21 = .ok (.ireturn, 1) := by decide +kernel
theorem dX6_opens_22 : decode cX6_opens 22 = .ok (.aload_n 0, 1) := by decide +kernel
theorem dX6_opens_23 : decode cX6_opens 23 = .ok (.iload_n 1, 1) := by decide +kernel
theorem dX6_opens_24 : decode cX6_opens 24 = .ok (.putfield 52, 3) := by decide +kernel
theorem dX6_opens_27 : decode cX6_opens 27 = .ok (.aload_n 0, 1) := by decide +kernel
theorem dX6_opens_28 : decode cX6_opens 28 = .ok (.getfield 11, 3) := by decide +kernel
theorem dX6_opens_31 : decode cX6_opens 31 = .ok (.iload_n 1, 1) := by decide +kernel
theorem dX6_opens_32 : decode cX6_opens 32 = .ok (.iconst 0, 1) := by decide +kernel
theorem dX6_opens_33 : decode cX6_opens 33 = .ok (.iastore, 1) := by decide +kernel
theorem dX6_opens_34 : decode cX6_opens 34 = .ok (.aload_n 0, 1) := by decide +kernel
theorem dX6_opens_35 : decode cX6_opens 35 = .ok (.iload_n 1, 1) := by decide +kernel
theorem dX6_opens_36 : decode cX6_opens 36 = .ok (.bipush 6, 2) := by decide +kernel
theorem dX6_opens_38 : decode cX6_opens 38 = .ok (.if_icmp .lt 9, 3) := by decide +kernel
theorem dX6_opens_41 : decode cX6_opens 41 = .ok (.iload_n 1, 1) := by decide +kernel
theorem dX6_opens_42 : decode cX6_opens 42 = .ok (.bipush 8, 2) := by decide +kernel
theorem dX6_opens_44 : decode cX6_opens 44 = .ok (.if_icmp .ne 7, 3) := by decide +kernel
theorem dX6_opens_47 : decode cX6_opens 47 = .ok (.iconst 2, 1) := by decide +kernel
theorem dX6_opens_48 : decode cX6_opens 48 = .ok (.goto 4, 3) := by decide +kernel
theorem dX6_opens_51 : decode cX6_opens 51 = .ok (.iconst 1, 1) := by decide +kernel
theorem dX6_opens_52 : decode cX6_opens 52 = .ok (.putfield 33, 3) := by decide +kernel
theorem dX6_opens_55 : decode cX6_opens 55 = .ok (.iconst 1, 1) := by decide +kernel
theorem dX6_opens_56 : decode cX6_opens 56 = .ok (.ireturn, 1) := by decide +kernel
theorem dX6_someBandIsUntold_0 : decode cX6_someBandIsUntold 0 = .ok (.iconst 0, 1) := by decide +kernel
theorem dX6_someBandIsUntold_1 : decode cX6_someBandIsUntold 1 = .ok (.istore_n 1, 1) := by decide +kernel
theorem dX6_someBandIsUntold_2 : decode cX6_someBandIsUntold 2 = .ok (.iload_n 1, 1) := by decide +kernel
theorem dX6_someBandIsUntold_3 : decode cX6_someBandIsUntold 3 = .ok (.bipush 6, 2) := by decide +kernel
theorem dX6_someBandIsUntold_5 : decode cX6_someBandIsUntold 5 = .ok (.if_icmp .ge 21, 3) := by decide +kernel
theorem dX6_someBandIsUntold_8 : decode cX6_someBandIsUntold 8 = .ok (.aload_n 0, 1) := by decide +kernel
theorem dX6_someBandIsUntold_9 : decode cX6_someBandIsUntold 9 = .ok (.getfield 11, 3) := by decide +kernel
theorem dX6_someBandIsUntold_12 : decode cX6_someBandIsUntold 12 = .ok (.iload_n 1, 1) := by decide +kernel
theorem dX6_someBandIsUntold_13 : decode cX6_someBandIsUntold 13 = .ok (.iaload, 1) := by decide +kernel
theorem dX6_someBandIsUntold_14 : decode cX6_someBandIsUntold 14 = .ok (.iconst (-1), 1) := by decide +kernel
theorem dX6_someBandIsUntold_15 : decode cX6_someBandIsUntold 15 = .ok (.if_icmp .ne 5, 3) := by decide +kernel
theorem dX6_someBandIsUntold_18 : decode cX6_someBandIsUntold 18 = .ok (.iconst 1, 1) := by decide +kernel
theorem dX6_someBandIsUntold_19 : decode cX6_someBandIsUntold 19 = .ok (.ireturn, 1) := by decide +kernel
theorem dX6_someBandIsUntold_20 : decode cX6_someBandIsUntold 20 = .ok (.iinc 1 1, 3) := by decide +kernel
theorem dX6_someBandIsUntold_23 : decode cX6_someBandIsUntold 23 = .ok (.goto (-21), 3) := by decide +kernel
theorem dX6_someBandIsUntold_26 : decode cX6_someBandIsUntold 26 = .ok (.iconst 0, 1) := by decide +kernel
theorem dX6_someBandIsUntold_27 : decode cX6_someBandIsUntold 27 = .ok (.ireturn, 1) := by decide +kernel
theorem dX7_init_0 : decode cX7_init 0 = .ok (.aload_n 0, 1) := by decide +kernel
theorem dX7_init_1 : decode cX7_init 1 = .ok (.invokespecial 3, 3) := by decide +kernel
theorem dX7_init_4 : decode cX7_init 4 = .ok (.aload_n 0, 1) := by decide +kernel
theorem dX7_init_5 : decode cX7_init 5 = .ok (.sipush 6400, 3) := by decide +kernel
theorem dX7_init_8 : decode cX7_init 8 = .ok (.newarray .int, 2) := by decide +kernel
theorem dX7_init_10 : decode cX7_init 10 = .ok (.putfield 11, 3) := by decide +kernel
theorem dX7_init_13 : decode cX7_init 13 = .ok (.aload_n 0, 1) := by decide +kernel
theorem dX7_init_14 : decode cX7_init 14 = .ok (.sipush 6400, 3) := by decide +kernel
theorem dX7_init_17 : decode cX7_init 17 = .ok (.newarray .int, 2) := by decide +kernel
theorem dX7_init_19 : decode cX7_init 19 = .ok (.putfield 17, 3) := by decide +kernel
theorem dX7_init_22 : decode cX7_init 22 = .ok (.return_, 1) := by decide +kernel
theorem dX7_follow_0 : decode cX7_follow 0 = .ok (.iload_n 2, 1) := by decide +kernel
theorem dX7_follow_1 : decode cX7_follow 1 = .ok (.iload_n 3, 1) := by decide +kernel
theorem dX7_follow_2 : decode cX7_follow 2 = .ok (.invokestatic 20, 3) := by decide +kernel
theorem dX7_follow_5 : decode cX7_follow 5 = .ok (.istore 4, 2) := by decide +kernel
theorem dX7_follow_7 : decode cX7_follow 7 = .ok (.aload_n 0, 1) := by decide +kernel
theorem dX7_follow_8 : decode cX7_follow 8 = .ok (.iconst 0, 1) := by decide +kernel
theorem dX7_follow_9 : decode cX7_follow 9 = .ok (.putfield 24, 3) := by decide +kernel
theorem dX7_follow_12 : decode cX7_follow 12 = .ok (.aload_n 0, 1) := by decide +kernel
theorem dX7_follow_13 : decode cX7_follow 13 = .ok (.getfield 24, 3) := by decide +kernel
theorem dX7_follow_16 : decode cX7_follow 16 = .ok (.sipush 6400, 3) := by decide +kernel
theorem dX7_follow_19 : decode cX7_follow 19 = .ok (.if_icmp .ge 55, 3) := by decide +kernel
theorem dX7_follow_22 : decode cX7_follow 22 = .ok (.aload_n 0, 1) := by decide +kernel
theorem dX7_follow_23 : decode cX7_follow 23 = .ok (.iload 4, 2) := by decide +kernel
theorem dX7_follow_25 : decode cX7_follow 25 = .ok (.invokevirtual 28, 3) := by decide +kernel
theorem dX7_follow_28 : decode cX7_follow 28 = .ok (.ifCond .eq 46, 3) := by decide +kernel
theorem dX7_follow_31 : decode cX7_follow 31 = .ok (.aload_n 0, 1) := by decide +kernel
theorem dX7_follow_32 : decode cX7_follow 32 = .ok (.getfield 11, 3) := by decide +kernel
theorem dX7_follow_35 : decode cX7_follow 35 = .ok (.aload_n 0, 1) := by decide +kernel
theorem dX7_follow_36 : decode cX7_follow 36 = .ok (.getfield 24, 3) := by decide +kernel
theorem dX7_follow_39 : decode cX7_follow 39 = .ok (.iload 4, 2) := by decide +kernel
theorem dX7_follow_41 : decode cX7_follow 41 = .ok (.iastore, 1) := by decide +kernel
theorem dX7_follow_42 : decode cX7_follow 42 = .ok (.aload_n 0, 1) := by decide +kernel
theorem dX7_follow_43 : decode cX7_follow 43 = .ok (.dup, 1) := by decide +kernel
theorem dX7_follow_44 : decode cX7_follow 44 = .ok (.getfield 24, 3) := by decide +kernel
theorem dX7_follow_47 : decode cX7_follow 47 = .ok (.iconst 1, 1) := by decide +kernel
theorem dX7_follow_48 : decode cX7_follow 48 = .ok (.iadd, 1) := by decide +kernel
theorem dX7_follow_49 : decode cX7_follow 49 = .ok (.putfield 24, 3) := by decide +kernel
theorem dX7_follow_52 : decode cX7_follow 52 = .ok (.aload_n 0, 1) := by decide +kernel
theorem dX7_follow_53 : decode cX7_follow 53 = .ok (.getfield 17, 3) := by decide +kernel
theorem dX7_follow_56 : decode cX7_follow 56 = .ok (.iload 4, 2) := by decide +kernel
theorem dX7_follow_58 : decode cX7_follow 58 = .ok (.aload_n 0, 1) := by decide +kernel
theorem dX7_follow_59 : decode cX7_follow 59 = .ok (.getfield 24, 3) := by decide +kernel
theorem dX7_follow_62 : decode cX7_follow 62 = .ok (.iastore, 1) := by decide +kernel
theorem dX7_follow_63 : decode cX7_follow 63 = .ok (.aload_n 1, 1) := by decide +kernel
theorem dX7_follow_64 : decode cX7_follow 64 = .ok (.iload 4, 2) := by decide +kernel
theorem dX7_follow_66 : decode cX7_follow 66 = .ok (.invokevirtual 32, 3) := by decide +kernel
theorem dX7_follow_69 : decode cX7_follow 69 = .ok (.istore 4, 2) := by decide +kernel
theorem dX7_follow_71 : decode cX7_follow 71 = .ok (.goto (-59), 3) := by decide +kernel
theorem dX7_follow_74 : decode cX7_follow 74 = .ok (.aload_n 0, 1) := by decide +kernel
theorem dX7_follow_75 : decode cX7_follow 75 = .ok (.iload 4, 2) := by decide +kernel
theorem dX7_follow_77 : decode cX7_follow 77 = .ok (.iconst 0, 1) := by decide +kernel
theorem dX7_follow_78 : decode cX7_follow 78 = .ok (.sipush 6399, 3) := by decide +kernel
theorem dX7_follow_81 : decode cX7_follow 81 = .ok (.invokestatic 36, 3) := by decide +kernel
theorem dX7_follow_84 : decode cX7_follow 84 = .ok (.ifCond .eq 19, 3) := by decide +kernel
theorem dX7_follow_87 : decode cX7_follow 87 = .ok (.aload_n 0, 1) := by decide +kernel
theorem dX7_follow_88 : decode cX7_follow 88 = .ok (.getfield 17, 3) := by decide +kernel
theorem dX7_follow_91 : decode cX7_follow 91 = .ok (.iload 4, 2) := by decide +kernel
theorem dX7_follow_93 : decode cX7_follow 93 = .ok (.iaload, 1) := by decide +kernel
theorem dX7_follow_94 : decode cX7_follow 94 = .ok (.iconst 1, 1) := by decide +kernel
theorem dX7_follow_95 : decode cX7_follow 95 = .ok (.isub, 1) := by decide +kernel
theorem dX7_follow_96 : decode cX7_follow 96 = .ok (.iconst 0, 1) := by decide +kernel
theorem dX7_follow_97 : decode cX7_follow 97 = .ok (.invokestatic 40, 3) := by decide +kernel
theorem dX7_follow_100 : decode cX7_follow 100 = .ok (.goto 4, 3) := by decide +kernel
theorem dX7_follow_103 : decode cX7_follow 103 = .ok (.iconst 0, 1) := by decide +kernel
theorem dX7_follow_104 : decode cX7_follow 104 = .ok (.putfield 45, 3) := by decide +kernel
theorem dX7_follow_107 : decode cX7_follow 107 = .ok (.iconst 0, 1) := by decide +kernel
theorem dX7_follow_108 : decode cX7_follow 108 = .ok (.istore 5, 2) := by decide +kernel
theorem dX7_follow_110 : decode cX7_follow 110 = .ok (.iload 5, 2) := by decide +kernel
theorem dX7_follow_112 : decode cX7_follow 112 = .ok (.aload_n 0, 1) := by decide +kernel
theorem dX7_follow_113 : decode cX7_follow 113 = .ok (.getfield 24, 3) := by decide +kernel
theorem dX7_follow_116 : decode cX7_follow 116 = .ok (.if_icmp .ge 22, 3) := by decide +kernel
theorem dX7_follow_119 : decode cX7_follow 119 = .ok (.aload_n 0, 1) := by decide +kernel
theorem dX7_follow_120 : decode cX7_follow 120 = .ok (.getfield 17, 3) := by decide +kernel
theorem dX7_follow_123 : decode cX7_follow 123 = .ok (.aload_n 0, 1) := by decide +kernel
theorem dX7_follow_124 : decode cX7_follow 124 = .ok (.getfield 11, 3) := by decide +kernel
theorem dX7_follow_127 : decode cX7_follow 127 = .ok (.iload 5, 2) := by decide +kernel
theorem dX7_follow_129 : decode cX7_follow 129 = .ok (.iaload, 1) := by decide +kernel
theorem dX7_follow_130 : decode cX7_follow 130 = .ok (.iconst 0, 1) := by decide +kernel
theorem dX7_follow_131 : decode cX7_follow 131 = .ok (.iastore, 1) := by decide +kernel
theorem dX7_follow_132 : decode cX7_follow 132 = .ok (.iinc 5 1, 3) := by decide +kernel
theorem dX7_follow_135 : decode cX7_follow 135 = .ok (.goto (-25), 3) := by decide +kernel
theorem dX7_follow_138 : decode cX7_follow 138 = .ok (.return_, 1) := by decide +kernel
theorem dX7_isNew_0 : decode cX7_isNew 0 = .ok (.iload_n 1, 1) := by decide +kernel
theorem dX7_isNew_1 : decode cX7_isNew 1 = .ok (.iconst 0, 1) := by decide +kernel
theorem dX7_isNew_2 : decode cX7_isNew 2 = .ok (.sipush 6399, 3) := by decide +kernel
theorem dX7_isNew_5 : decode cX7_isNew 5 = .ok (.invokestatic 36, 3) := by decide +kernel
theorem dX7_isNew_8 : decode cX7_isNew 8 = .ok (.ifCond .eq 16, 3) := by decide +kernel
theorem dX7_isNew_11 : decode cX7_isNew 11 = .ok (.aload_n 0, 1) := by decide +kernel
theorem dX7_isNew_12 : decode cX7_isNew 12 = .ok (.getfield 17, 3) := by decide +kernel
theorem dX7_isNew_15 : decode cX7_isNew 15 = .ok (.iload_n 1, 1) := by decide +kernel
theorem dX7_isNew_16 : decode cX7_isNew 16 = .ok (.iaload, 1) := by decide +kernel
theorem dX7_isNew_17 : decode cX7_isNew 17 = .ok (.ifCond .ne 7, 3) := by decide +kernel
theorem dX7_isNew_20 : decode cX7_isNew 20 = .ok (.iconst 1, 1) := by decide +kernel
theorem dX7_isNew_21 : decode cX7_isNew 21 = .ok (.goto 4, 3) := by decide +kernel
theorem dX7_isNew_24 : decode cX7_isNew 24 = .ok (.iconst 0, 1) := by decide +kernel
theorem dX7_isNew_25 : decode cX7_isNew 25 = .ok (.ireturn, 1) := by decide +kernel
theorem dX7_ring_0 : decode cX7_ring 0 = .ok (.aload_n 0, 1) := by decide +kernel
theorem dX7_ring_1 : decode cX7_ring 1 = .ok (.getfield 24, 3) := by decide +kernel
theorem dX7_ring_4 : decode cX7_ring 4 = .ok (.aload_n 0, 1) := by decide +kernel
theorem dX7_ring_5 : decode cX7_ring 5 = .ok (.getfield 45, 3) := by decide +kernel
theorem dX7_ring_8 : decode cX7_ring 8 = .ok (.isub, 1) := by decide +kernel
theorem dX7_ring_9 : decode cX7_ring 9 = .ok (.ireturn, 1) := by decide +kernel
theorem dX7_stateAt_0 : decode cX7_stateAt 0 = .ok (.iload_n 1, 1) := by decide +kernel
theorem dX7_stateAt_1 : decode cX7_stateAt 1 = .ok (.istore_n 2, 1) := by decide +kernel
theorem dX7_stateAt_2 : decode cX7_stateAt 2 = .ok (.iload_n 1, 1) := by decide +kernel
theorem dX7_stateAt_3 : decode cX7_stateAt 3 = .ok (.aload_n 0, 1) := by decide +kernel
theorem dX7_stateAt_4 : decode cX7_stateAt 4 = .ok (.getfield 24, 3) := by decide +kernel
theorem dX7_stateAt_7 : decode cX7_stateAt 7 = .ok (.if_icmp .lt 27, 3) := by decide +kernel
theorem dX7_stateAt_10 : decode cX7_stateAt 10 = .ok (.aload_n 0, 1) := by decide +kernel
theorem dX7_stateAt_11 : decode cX7_stateAt 11 = .ok (.invokevirtual 48, 3) := by decide +kernel
theorem dX7_stateAt_14 : decode cX7_stateAt 14 = .ok (.ifCond .le 20, 3) := by decide +kernel
theorem dX7_stateAt_17 : decode cX7_stateAt 17 = .ok (.aload_n 0, 1) := by decide +kernel
theorem dX7_stateAt_18 : decode cX7_stateAt 18 = .ok (.getfield 45, 3) := by decide +kernel
theorem dX7_stateAt_21 : decode cX7_stateAt 21 = .ok (.iload_n 1, 1) := by decide +kernel
theorem dX7_stateAt_22 : decode cX7_stateAt 22 = .ok (.aload_n 0, 1) := by decide +kernel
theorem dX7_stateAt_23 : decode cX7_stateAt 23 = .ok (.getfield 45, 3) := by decide +kernel
theorem dX7_stateAt_26 : decode cX7_stateAt 26 = .ok (.isub, 1) := by decide +kernel
theorem dX7_stateAt_27 : decode cX7_stateAt 27 = .ok (.aload_n 0, 1) := by decide +kernel
theorem dX7_stateAt_28 : decode cX7_stateAt 28 = .ok (.invokevirtual 48, 3) := by decide +kernel
theorem dX7_stateAt_31 : decode cX7_stateAt 31 = .ok (.irem, 1) := by decide +kernel
theorem dX7_stateAt_32 : decode cX7_stateAt 32 = .ok (.iadd, 1) := by decide +kernel
theorem dX7_stateAt_33 : decode cX7_stateAt 33 = .ok (.istore_n 2, 1) := by decide +kernel
theorem dX7_stateAt_34 : decode cX7_stateAt 34 = .ok (.iload_n 2, 1) := by decide +kernel
theorem dX7_stateAt_35 : decode cX7_stateAt 35 = .ok (.iconst 0, 1) := by decide +kernel
theorem dX7_stateAt_36 : decode cX7_stateAt 36 = .ok (.aload_n 0, 1) := by decide +kernel
theorem dX7_stateAt_37 : decode cX7_stateAt 37 = .ok (.getfield 24, 3) := by decide +kernel
theorem dX7_stateAt_40 : decode cX7_stateAt 40 = .ok (.iconst 1, 1) := by decide +kernel
theorem dX7_stateAt_41 : decode cX7_stateAt 41 = .ok (.isub, 1) := by decide +kernel
theorem dX7_stateAt_42 : decode cX7_stateAt 42 = .ok (.invokestatic 36, 3) := by decide +kernel
theorem dX7_stateAt_45 : decode cX7_stateAt 45 = .ok (.ifCond .eq 12, 3) := by decide +kernel
theorem dX7_stateAt_48 : decode cX7_stateAt 48 = .ok (.aload_n 0, 1) := by decide +kernel
theorem dX7_stateAt_49 : decode cX7_stateAt 49 = .ok (.getfield 11, 3) := by decide +kernel
theorem dX7_stateAt_52 : decode cX7_stateAt 52 = .ok (.iload_n 2, 1) := by decide +kernel
theorem dX7_stateAt_53 : decode cX7_stateAt 53 = .ok (.iaload, 1) := by decide +kernel
theorem dX7_stateAt_54 : decode cX7_stateAt 54 = .ok (.goto 5, 3) := by decide +kernel
theorem dX7_stateAt_57 : decode cX7_stateAt 57 = .ok (.bipush (-9), 2) := by decide +kernel
theorem dX7_stateAt_59 : decode cX7_stateAt 59 = .ok (.ireturn, 1) := by decide +kernel
theorem dX7_whiteInRing_0 : decode cX7_whiteInRing 0 = .ok (.iconst 0, 1) := by decide +kernel
theorem dX7_whiteInRing_1 : decode cX7_whiteInRing 1 = .ok (.istore_n 1, 1) := by decide +kernel
theorem dX7_whiteInRing_2 : decode cX7_whiteInRing 2 = .ok (.aload_n 0, 1) := by decide +kernel
theorem dX7_whiteInRing_3 : decode cX7_whiteInRing 3 = .ok (.getfield 45, 3) := by decide +kernel
theorem dX7_whiteInRing_6 : decode cX7_whiteInRing 6 = .ok (.istore_n 2, 1) := by decide +kernel
theorem dX7_whiteInRing_7 : decode cX7_whiteInRing 7 = .ok (.iload_n 2, 1) := by decide +kernel
theorem dX7_whiteInRing_8 : decode cX7_whiteInRing 8 = .ok (.aload_n 0, 1) := by decide +kernel
theorem dX7_whiteInRing_9 : decode cX7_whiteInRing 9 = .ok (.getfield 24, 3) := by decide +kernel
theorem dX7_whiteInRing_12 : decode cX7_whiteInRing 12 = .ok (.if_icmp .ge 26, 3) := by decide +kernel
theorem dX7_whiteInRing_15 : decode cX7_whiteInRing 15 = .ok (.aload_n 0, 1) := by decide +kernel
theorem dX7_whiteInRing_16 : decode cX7_whiteInRing 16 = .ok (.getfield 11, 3) := by decide +kernel
theorem dX7_whiteInRing_19 : decode cX7_whiteInRing 19 = .ok (.iload_n 2, 1) := by decide +kernel
theorem dX7_whiteInRing_20 : decode cX7_whiteInRing 20 = .ok (.iaload, 1) := by decide +kernel
theorem dX7_whiteInRing_21 : decode cX7_whiteInRing 21 = .ok (.invokestatic 52, 3) := by decide +kernel
theorem dX7_whiteInRing_24 : decode cX7_whiteInRing 24 = .ok (.bipush 63, 2) := by decide +kernel
theorem dX7_whiteInRing_26 : decode cX7_whiteInRing 26 = .ok (.if_icmp .ne 6, 3) := by decide +kernel
theorem dX7_whiteInRing_29 : decode cX7_whiteInRing 29 = .ok (.iinc 1 1, 3) := by decide +kernel
theorem dX7_whiteInRing_32 : decode cX7_whiteInRing 32 = .ok (.iinc 2 1, 3) := by decide +kernel
theorem dX7_whiteInRing_35 : decode cX7_whiteInRing 35 = .ok (.goto (-28), 3) := by decide +kernel
theorem dX7_whiteInRing_38 : decode cX7_whiteInRing 38 = .ok (.iload_n 1, 1) := by decide +kernel
theorem dX7_whiteInRing_39 : decode cX7_whiteInRing 39 = .ok (.ireturn, 1) := by decide +kernel
theorem dX7_leastAirInRing_0 : decode cX7_leastAirInRing 0 = .ok (.bipush 100, 2) := by decide +kernel
theorem dX7_leastAirInRing_2 : decode cX7_leastAirInRing 2 = .ok (.istore_n 1, 1) := by decide +kernel
theorem dX7_leastAirInRing_3 : decode cX7_leastAirInRing 3 = .ok (.aload_n 0, 1) := by decide +kernel
theorem dX7_leastAirInRing_4 : decode cX7_leastAirInRing 4 = .ok (.getfield 45, 3) := by decide +kernel
theorem dX7_leastAirInRing_7 : decode cX7_leastAirInRing 7 = .ok (.istore_n 2, 1) := by decide +kernel
theorem dX7_leastAirInRing_8 : decode cX7_leastAirInRing 8 = .ok (.iload_n 2, 1) := by decide +kernel
theorem dX7_leastAirInRing_9 : decode cX7_leastAirInRing 9 = .ok (.aload_n 0, 1) := by decide +kernel
theorem dX7_leastAirInRing_10 : decode cX7_leastAirInRing 10 = .ok (.getfield 24, 3) := by decide +kernel
theorem dX7_leastAirInRing_13 : decode cX7_leastAirInRing 13 = .ok (.if_icmp .ge 23, 3) := by decide +kernel
theorem dX7_leastAirInRing_16 : decode cX7_leastAirInRing 16 = .ok (.iload_n 1, 1) := by decide +kernel
theorem dX7_leastAirInRing_17 : decode cX7_leastAirInRing 17 = .ok (.aload_n 0, 1) := by decide +kernel
theorem dX7_leastAirInRing_18 : decode cX7_leastAirInRing 18 = .ok (.getfield 11, 3) := by decide +kernel
theorem dX7_leastAirInRing_21 : decode cX7_leastAirInRing 21 = .ok (.iload_n 2, 1) := by decide +kernel
theorem dX7_leastAirInRing_22 : decode cX7_leastAirInRing 22 = .ok (.iaload, 1) := by decide +kernel
theorem dX7_leastAirInRing_23 : decode cX7_leastAirInRing 23 = .ok (.invokestatic 55, 3) := by decide +kernel
theorem dX7_leastAirInRing_26 : decode cX7_leastAirInRing 26 = .ok (.invokestatic 58, 3) := by decide +kernel
theorem dX7_leastAirInRing_29 : decode cX7_leastAirInRing 29 = .ok (.istore_n 1, 1) := by decide +kernel
theorem dX7_leastAirInRing_30 : decode cX7_leastAirInRing 30 = .ok (.iinc 2 1, 3) := by decide +kernel
theorem dX7_leastAirInRing_33 : decode cX7_leastAirInRing 33 = .ok (.goto (-25), 3) := by decide +kernel
theorem dX7_leastAirInRing_36 : decode cX7_leastAirInRing 36 = .ok (.iload_n 1, 1) := by decide +kernel
theorem dX7_leastAirInRing_37 : decode cX7_leastAirInRing 37 = .ok (.ireturn, 1) := by decide +kernel
theorem dX7_greatestAirInRing_0 : decode cX7_greatestAirInRing 0 = .ok (.iconst 0, 1) := by decide +kernel
theorem dX7_greatestAirInRing_1 : decode cX7_greatestAirInRing 1 = .ok (.istore_n 1, 1) := by decide +kernel
theorem dX7_greatestAirInRing_2 : decode cX7_greatestAirInRing 2 = .ok (.aload_n 0, 1) := by decide +kernel
theorem dX7_greatestAirInRing_3 : decode cX7_greatestAirInRing 3 = .ok (.getfield 45, 3) := by decide +kernel
theorem dX7_greatestAirInRing_6 : decode cX7_greatestAirInRing 6 = .ok (.istore_n 2, 1) := by decide +kernel
theorem dX7_greatestAirInRing_7 : decode cX7_greatestAirInRing 7 = .ok (.iload_n 2, 1) := by decide +kernel
theorem dX7_greatestAirInRing_8 : decode cX7_greatestAirInRing 8 = .ok (.aload_n 0, 1) := by decide +kernel
theorem dX7_greatestAirInRing_9 : decode cX7_greatestAirInRing 9 = .ok (.getfield 24, 3) := by decide +kernel
theorem dX7_greatestAirInRing_12 : decode cX7_greatestAirInRing 12 = .ok (.if_icmp .ge 23, 3) := by decide +kernel
theorem dX7_greatestAirInRing_15 : decode cX7_greatestAirInRing 15 = .ok (.iload_n 1, 1) := by decide +kernel
theorem dX7_greatestAirInRing_16 : decode cX7_greatestAirInRing 16 = .ok (.aload_n 0, 1) := by decide +kernel
theorem dX7_greatestAirInRing_17 : decode cX7_greatestAirInRing 17 = .ok (.getfield 11, 3) := by decide +kernel
theorem dX7_greatestAirInRing_20 : decode cX7_greatestAirInRing 20 = .ok (.iload_n 2, 1) := by decide +kernel
theorem dX7_greatestAirInRing_21 : decode cX7_greatestAirInRing 21 = .ok (.iaload, 1) := by decide +kernel
theorem dX7_greatestAirInRing_22 : decode cX7_greatestAirInRing 22 = .ok (.invokestatic 55, 3) := by decide +kernel
theorem dX7_greatestAirInRing_25 : decode cX7_greatestAirInRing 25 = .ok (.invokestatic 40, 3) := by decide +kernel
theorem dX7_greatestAirInRing_28 : decode cX7_greatestAirInRing 28 = .ok (.istore_n 1, 1) := by decide +kernel
theorem dX7_greatestAirInRing_29 : decode cX7_greatestAirInRing 29 = .ok (.iinc 2 1, 3) := by decide +kernel
theorem dX7_greatestAirInRing_32 : decode cX7_greatestAirInRing 32 = .ok (.goto (-25), 3) := by decide +kernel
theorem dX7_greatestAirInRing_35 : decode cX7_greatestAirInRing 35 = .ok (.iload_n 1, 1) := by decide +kernel
theorem dX7_greatestAirInRing_36 : decode cX7_greatestAirInRing 36 = .ok (.ireturn, 1) := by decide +kernel
theorem dX7_firstWhite_0 : decode cX7_firstWhite 0 = .ok (.iconst 0, 1) := by decide +kernel
theorem dX7_firstWhite_1 : decode cX7_firstWhite 1 = .ok (.istore_n 2, 1) := by decide +kernel
theorem dX7_firstWhite_2 : decode cX7_firstWhite 2 = .ok (.iload_n 2, 1) := by decide +kernel
theorem dX7_firstWhite_3 : decode cX7_firstWhite 3 = .ok (.aload_n 0, 1) := by decide +kernel
theorem dX7_firstWhite_4 : decode cX7_firstWhite 4 = .ok (.getfield 24, 3) := by decide +kernel
theorem dX7_firstWhite_7 : decode cX7_firstWhite 7 = .ok (.if_icmp .ge 34, 3) := by decide +kernel
theorem dX7_firstWhite_10 : decode cX7_firstWhite 10 = .ok (.aload_n 0, 1) := by decide +kernel
theorem dX7_firstWhite_11 : decode cX7_firstWhite 11 = .ok (.getfield 11, 3) := by decide +kernel
theorem dX7_firstWhite_14 : decode cX7_firstWhite 14 = .ok (.iload_n 2, 1) := by decide +kernel
theorem dX7_firstWhite_15 : decode cX7_firstWhite 15 = .ok (.iaload, 1) := by decide +kernel
theorem dX7_firstWhite_16 : decode cX7_firstWhite 16 = .ok (.invokestatic 52, 3) := by decide +kernel
theorem dX7_firstWhite_19 : decode cX7_firstWhite 19 = .ok (.bipush 63, 2) := by decide +kernel
theorem dX7_firstWhite_21 : decode cX7_firstWhite 21 = .ok (.if_icmp .ne 7, 3) := by decide +kernel
theorem dX7_firstWhite_24 : decode cX7_firstWhite 24 = .ok (.iconst 1, 1) := by decide +kernel
theorem dX7_firstWhite_25 : decode cX7_firstWhite 25 = .ok (.goto 4, 3) := by decide +kernel
theorem dX7_firstWhite_28 : decode cX7_firstWhite 28 = .ok (.iconst 0, 1) := by decide +kernel
theorem dX7_firstWhite_29 : decode cX7_firstWhite 29 = .ok (.iload_n 1, 1) := by decide +kernel
theorem dX7_firstWhite_30 : decode cX7_firstWhite 30 = .ok (.if_icmp .ne 5, 3) := by decide +kernel
theorem dX7_firstWhite_33 : decode cX7_firstWhite 33 = .ok (.iload_n 2, 1) := by decide +kernel
theorem dX7_firstWhite_34 : decode cX7_firstWhite 34 = .ok (.ireturn, 1) := by decide +kernel
theorem dX7_firstWhite_35 : decode cX7_firstWhite 35 = .ok (.iinc 2 1, 3) := by decide +kernel
theorem dX7_firstWhite_38 : decode cX7_firstWhite 38 = .ok (.goto (-36), 3) := by decide +kernel
theorem dX7_firstWhite_41 : decode cX7_firstWhite 41 = .ok (.bipush (-9), 2) := by decide +kernel
theorem dX7_firstWhite_43 : decode cX7_firstWhite 43 = .ok (.ireturn, 1) := by decide +kernel
theorem dX8_init_0 : decode cX8_init 0 = .ok (.aload_n 0, 1) := by decide +kernel
theorem dX8_init_1 : decode cX8_init 1 = .ok (.invokespecial 3, 3) := by decide +kernel
theorem dX8_init_4 : decode cX8_init 4 = .ok (.aload_n 0, 1) := by decide +kernel
theorem dX8_init_5 : decode cX8_init 5 = .ok (.bipush 100, 2) := by decide +kernel
theorem dX8_init_7 : decode cX8_init 7 = .ok (.newarray .int, 2) := by decide +kernel
theorem dX8_init_9 : decode cX8_init 9 = .ok (.putfield 9, 3) := by decide +kernel
theorem dX8_init_12 : decode cX8_init 12 = .ok (.return_, 1) := by decide +kernel
theorem dX8_faultOf_0 : decode cX8_faultOf 0 = .ok (.aload_n 0, 1) := by decide +kernel
theorem dX8_faultOf_1 : decode cX8_faultOf 1 = .ok (.invokevirtual 15, 3) := by decide +kernel
theorem dX8_faultOf_4 : decode cX8_faultOf 4 = .ok (.iconst 0, 1) := by decide +kernel
theorem dX8_faultOf_5 : decode cX8_faultOf 5 = .ok (.istore_n 2, 1) := by decide +kernel
theorem dX8_faultOf_6 : decode cX8_faultOf 6 = .ok (.iload_n 2, 1) := by decide +kernel
theorem dX8_faultOf_7 : decode cX8_faultOf 7 = .ok (.aload_n 1, 1) := by decide +kernel
theorem dX8_faultOf_8 : decode cX8_faultOf 8 = .ok (.getfield 18, 3) := by decide +kernel
theorem dX8_faultOf_11 : decode cX8_faultOf 11 = .ok (.if_icmp .ge 30, 3) := by decide +kernel
theorem dX8_faultOf_14 : decode cX8_faultOf 14 = .ok (.iload_n 2, 1) := by decide +kernel
theorem dX8_faultOf_15 : decode cX8_faultOf 15 = .ok (.bipush 48, 2) := by decide +kernel
theorem dX8_faultOf_17 : decode cX8_faultOf 17 = .ok (.if_icmp .ge 24, 3) := by decide +kernel
theorem dX8_faultOf_20 : decode cX8_faultOf 20 = .ok (.aload_n 0, 1) := by decide +kernel
theorem dX8_faultOf_21 : decode cX8_faultOf 21 = .ok (.aload_n 1, 1) := by decide +kernel
theorem dX8_faultOf_22 : decode cX8_faultOf 22 = .ok (.getfield 24, 3) := by decide +kernel
theorem dX8_faultOf_25 : decode cX8_faultOf 25 = .ok (.iload_n 2, 1) := by decide +kernel
theorem dX8_faultOf_26 : decode cX8_faultOf 26 = .ok (.iaload, 1) := by decide +kernel
theorem dX8_faultOf_27 : decode cX8_faultOf 27 = .ok (.invokevirtual 27, 3) := by decide +kernel
theorem dX8_faultOf_30 : decode cX8_faultOf 30 = .ok (.ifCond .ne 5, 3) := by decide +kernel
theorem dX8_faultOf_33 : decode cX8_faultOf 33 = .ok (.iload_n 2, 1) := by decide +kernel
theorem dX8_faultOf_34 : decode cX8_faultOf 34 = .ok (.ireturn, 1) := by decide +kernel
theorem dX8_faultOf_35 : decode cX8_faultOf 35 = .ok (.iinc 2 1, 3) := by decide +kernel
theorem dX8_faultOf_38 : decode cX8_faultOf 38 = .ok (.goto (-32), 3) := by decide +kernel
theorem dX8_faultOf_41 : decode cX8_faultOf 41 = .ok (.aload_n 0, 1) := by decide +kernel
theorem dX8_faultOf_42 : decode cX8_faultOf 42 = .ok (.getfield 31, 3) := by decide +kernel
theorem dX8_faultOf_45 : decode cX8_faultOf 45 = .ok (.iconst 3, 1) := by decide +kernel
theorem dX8_faultOf_46 : decode cX8_faultOf 46 = .ok (.if_icmp .ne 8, 3) := by decide +kernel
theorem dX8_faultOf_49 : decode cX8_faultOf 49 = .ok (.bipush (-9), 2) := by decide +kernel
theorem dX8_faultOf_51 : decode cX8_faultOf 51 = .ok (.goto 7, 3) := by decide +kernel
theorem dX8_faultOf_54 : decode cX8_faultOf 54 = .ok (.aload_n 1, 1) := by decide +kernel
theorem dX8_faultOf_55 : decode cX8_faultOf 55 = .ok (.getfield 18, 3) := by decide +kernel
theorem dX8_faultOf_58 : decode cX8_faultOf 58 = .ok (.ireturn, 1) := by decide +kernel
theorem dX8_giveTo_0 : decode cX8_giveTo 0 = .ok (.iconst 0, 1) := by decide +kernel
theorem dX8_giveTo_1 : decode cX8_giveTo 1 = .ok (.istore_n 3, 1) := by decide +kernel
theorem dX8_giveTo_2 : decode cX8_giveTo 2 = .ok (.iconst 0, 1) := by decide +kernel
theorem dX8_giveTo_3 : decode cX8_giveTo 3 = .ok (.istore 4, 2) := by decide +kernel
theorem dX8_giveTo_5 : decode cX8_giveTo 5 = .ok (.iload 4, 2) := by decide +kernel
theorem dX8_giveTo_7 : decode cX8_giveTo 7 = .ok (.bipush 100, 2) := by decide +kernel
theorem dX8_giveTo_9 : decode cX8_giveTo 9 = .ok (.if_icmp .ge 36, 3) := by decide +kernel
theorem dX8_giveTo_12 : decode cX8_giveTo 12 = .ok (.aload_n 0, 1) := by decide +kernel
theorem dX8_giveTo_13 : decode cX8_giveTo 13 = .ok (.getfield 9, 3) := by decide +kernel
theorem dX8_giveTo_16 : decode cX8_giveTo 16 = .ok (.iload 4, 2) := by decide +kernel
theorem dX8_giveTo_18 : decode cX8_giveTo 18 = .ok (.iaload, 1) := by decide +kernel
theorem dX8_giveTo_19 : decode cX8_giveTo 19 = .ok (.iconst (-1), 1) := by decide +kernel
theorem dX8_giveTo_20 : decode cX8_giveTo 20 = .ok (.if_icmp .eq 11, 3) := by decide +kernel
theorem dX8_giveTo_23 : decode cX8_giveTo 23 = .ok (.aload_n 0, 1) := by decide +kernel
theorem dX8_giveTo_24 : decode cX8_giveTo 24 = .ok (.getfield 9, 3) := by decide +kernel
theorem dX8_giveTo_27 : decode cX8_giveTo 27 = .ok (.iload 4, 2) := by decide +kernel
theorem dX8_giveTo_29 : decode cX8_giveTo 29 = .ok (.iaload, 1) := by decide +kernel
theorem dX8_giveTo_30 : decode cX8_giveTo 30 = .ok (.istore_n 3, 1) := by decide +kernel
theorem dX8_giveTo_31 : decode cX8_giveTo 31 = .ok (.aload_n 1, 1) := by decide +kernel
theorem dX8_giveTo_32 : decode cX8_giveTo 32 = .ok (.iload_n 2, 1) := by decide +kernel
theorem dX8_giveTo_33 : decode cX8_giveTo 33 = .ok (.iload 4, 2) := by decide +kernel
theorem dX8_giveTo_35 : decode cX8_giveTo 35 = .ok (.iload_n 3, 1) := by decide +kernel
theorem dX8_giveTo_36 : decode cX8_giveTo 36 = .ok (.invokevirtual 34, 3) := by decide +kernel
theorem dX8_giveTo_39 : decode cX8_giveTo 39 = .ok (.iinc 4 1, 3) := by decide +kernel
theorem dX8_giveTo_42 : decode cX8_giveTo 42 = .ok (.goto (-37), 3) := by decide +kernel
theorem dX8_giveTo_45 : decode cX8_giveTo 45 = .ok (.return_, 1) := by decide +kernel
theorem dX8_begin_0 : decode cX8_begin 0 = .ok (.iconst 0, 1) := by decide +kernel
theorem dX8_begin_1 : decode cX8_begin 1 = .ok (.istore_n 1, 1) := by decide +kernel
theorem dX8_begin_2 : decode cX8_begin 2 = .ok (.iload_n 1, 1) := by decide +kernel
theorem dX8_begin_3 : decode cX8_begin 3 = .ok (.bipush 100, 2) := by decide +kernel
theorem dX8_begin_5 : decode cX8_begin 5 = .ok (.if_icmp .ge 16, 3) := by decide +kernel
theorem dX8_begin_8 : decode cX8_begin 8 = .ok (.aload_n 0, 1) := by decide +kernel
theorem dX8_begin_9 : decode cX8_begin 9 = .ok (.getfield 9, 3) := by decide +kernel
theorem dX8_begin_12 : decode cX8_begin 12 = .ok (.iload_n 1, 1) := by decide +kernel
theorem dX8_begin_13 : decode cX8_begin 13 = .ok (.iconst (-1), 1) := by decide +kernel
theorem dX8_begin_14 : decode cX8_begin 14 = .ok (.iastore, 1) := by decide +kernel
theorem dX8_begin_15 : decode cX8_begin 15 = .ok (.iinc 1 1, 3) := by decide +kernel
theorem dX8_begin_18 : decode cX8_begin 18 = .ok (.goto (-16), 3) := by decide +kernel
theorem dX8_begin_21 : decode cX8_begin 21 = .ok (.aload_n 0, 1) := by decide +kernel
theorem dX8_begin_22 : decode cX8_begin 22 = .ok (.iconst 0, 1) := by decide +kernel
theorem dX8_begin_23 : decode cX8_begin 23 = .ok (.putfield 40, 3) := by decide +kernel
theorem dX8_begin_26 : decode cX8_begin 26 = .ok (.aload_n 0, 1) := by decide +kernel
theorem dX8_begin_27 : decode cX8_begin 27 = .ok (.iconst 0, 1) := by decide +kernel
theorem dX8_begin_28 : decode cX8_begin 28 = .ok (.putfield 31, 3) := by decide +kernel
theorem dX8_begin_31 : decode cX8_begin 31 = .ok (.aload_n 0, 1) := by decide +kernel
theorem dX8_begin_32 : decode cX8_begin 32 = .ok (.iconst (-1), 1) := by decide +kernel
theorem dX8_begin_33 : decode cX8_begin 33 = .ok (.putfield 43, 3) := by decide +kernel
theorem dX8_begin_36 : decode cX8_begin 36 = .ok (.aload_n 0, 1) := by decide +kernel
theorem dX8_begin_37 : decode cX8_begin 37 = .ok (.iconst 0, 1) := by decide +kernel
theorem dX8_begin_38 : decode cX8_begin 38 = .ok (.putfield 46, 3) := by decide +kernel
theorem dX8_begin_41 : decode cX8_begin 41 = .ok (.aload_n 0, 1) := by decide +kernel
theorem dX8_begin_42 : decode cX8_begin 42 = .ok (.iconst 0, 1) := by decide +kernel
theorem dX8_begin_43 : decode cX8_begin 43 = .ok (.putfield 49, 3) := by decide +kernel
theorem dX8_begin_46 : decode cX8_begin 46 = .ok (.aload_n 0, 1) := by decide +kernel
theorem dX8_begin_47 : decode cX8_begin 47 = .ok (.iconst (-1), 1) := by decide +kernel
theorem dX8_begin_48 : decode cX8_begin 48 = .ok (.putfield 52, 3) := by decide +kernel
theorem dX8_begin_51 : decode cX8_begin 51 = .ok (.return_, 1) := by decide +kernel
theorem dX8_takes_0 : decode cX8_takes 0 = .ok (.aload_n 0, 1) := by decide +kernel
theorem dX8_takes_1 : decode cX8_takes 1 = .ok (.getfield 31, 3) := by decide +kernel
theorem dX8_takes_4 : decode cX8_takes 4 = .ok (.tableswitch 46 0 2 #[28, 34, 40], 28) := by decide +kernel
theorem dX8_takes_32 : decode cX8_takes 32 = .ok (.aload_n 0, 1) := by decide +kernel
theorem dX8_takes_33 : decode cX8_takes 33 = .ok (.iload_n 1, 1) := by decide +kernel
theorem dX8_takes_34 : decode cX8_takes 34 = .ok (.invokevirtual 55, 3) := by decide +kernel
theorem dX8_takes_37 : decode cX8_takes 37 = .ok (.ireturn, 1) := by decide +kernel
theorem dX8_takes_38 : decode cX8_takes 38 = .ok (.aload_n 0, 1) := by decide +kernel
theorem dX8_takes_39 : decode cX8_takes 39 = .ok (.iload_n 1, 1) := by decide +kernel
theorem dX8_takes_40 : decode cX8_takes 40 = .ok (.invokevirtual 58, 3) := by decide +kernel
theorem dX8_takes_43 : decode cX8_takes 43 = .ok (.ireturn, 1) := by decide +kernel
theorem dX8_takes_44 : decode cX8_takes 44 = .ok (.aload_n 0, 1) := by decide +kernel
theorem dX8_takes_45 : decode cX8_takes 45 = .ok (.iload_n 1, 1) := by decide +kernel
theorem dX8_takes_46 : decode cX8_takes 46 = .ok (.invokevirtual 61, 3) := by decide +kernel
theorem dX8_takes_49 : decode cX8_takes 49 = .ok (.ireturn, 1) := by decide +kernel
theorem dX8_takes_50 : decode cX8_takes 50 = .ok (.iload_n 1, 1) := by decide +kernel
theorem dX8_takes_51 : decode cX8_takes 51 = .ok (.bipush 59, 2) := by decide +kernel
theorem dX8_takes_53 : decode cX8_takes 53 = .ok (.if_icmp .ne 10, 3) := by decide +kernel
theorem dX8_takes_56 : decode cX8_takes 56 = .ok (.aload_n 0, 1) := by decide +kernel
theorem dX8_takes_57 : decode cX8_takes 57 = .ok (.invokevirtual 64, 3) := by decide +kernel
theorem dX8_takes_60 : decode cX8_takes 60 = .ok (.goto 8, 3) := by decide +kernel
theorem dX8_takes_63 : decode cX8_takes 63 = .ok (.aload_n 0, 1) := by decide +kernel
theorem dX8_takes_64 : decode cX8_takes 64 = .ok (.iload_n 1, 1) := by decide +kernel
theorem dX8_takes_65 : decode cX8_takes 65 = .ok (.invokevirtual 68, 3) := by decide +kernel
theorem dX8_takes_68 : decode cX8_takes 68 = .ok (.ireturn, 1) := by decide +kernel
theorem dX8_takesTens_0 : decode cX8_takesTens 0 = .ok (.aload_n 0, 1) := by decide +kernel
theorem dX8_takesTens_1 : decode cX8_takesTens 1 = .ok (.iload_n 1, 1) := by decide +kernel
theorem dX8_takesTens_2 : decode cX8_takesTens 2 = .ok (.invokestatic 71, 3) := by decide +kernel
theorem dX8_takesTens_5 : decode cX8_takesTens 5 = .ok (.putfield 46, 3) := by decide +kernel
theorem dX8_takesTens_8 : decode cX8_takesTens 8 = .ok (.aload_n 0, 1) := by decide +kernel
theorem dX8_takesTens_9 : decode cX8_takesTens 9 = .ok (.iconst 1, 1) := by decide +kernel
theorem dX8_takesTens_10 : decode cX8_takesTens 10 = .ok (.putfield 31, 3) := by decide +kernel
theorem dX8_takesTens_13 : decode cX8_takesTens 13 = .ok (.aload_n 0, 1) := by decide +kernel
theorem dX8_takesTens_14 : decode cX8_takesTens 14 = .ok (.getfield 46, 3) := by decide +kernel
theorem dX8_takesTens_17 : decode cX8_takesTens 17 = .ok (.bipush (-9), 2) := by decide +kernel
theorem dX8_takesTens_19 : decode cX8_takesTens 19 = .ok (.if_icmp .eq 24, 3) := by decide +kernel
theorem dX8_takesTens_22 : decode cX8_takesTens 22 = .ok (.bipush 10, 2) := by decide +kernel
theorem dX8_takesTens_24 : decode cX8_takesTens 24 = .ok (.aload_n 0, 1) := by decide +kernel
theorem dX8_takesTens_25 : decode cX8_takesTens 25 = .ok (.getfield 46, 3) := by decide +kernel
theorem dX8_takesTens_28 : decode cX8_takesTens 28 = .ok (.imul, 1) := by decide +kernel
theorem dX8_takesTens_29 : decode cX8_takesTens 29 = .ok (.bipush 9, 2) := by decide +kernel
theorem dX8_takesTens_31 : decode cX8_takesTens 31 = .ok (.iadd, 1) := by decide +kernel
theorem dX8_takesTens_32 : decode cX8_takesTens 32 = .ok (.aload_n 0, 1) := by decide +kernel
theorem dX8_takesTens_33 : decode cX8_takesTens 33 = .ok (.getfield 43, 3) := by decide +kernel
theorem dX8_takesTens_36 : decode cX8_takesTens 36 = .ok (.if_icmp .le 7, 3) := by decide +kernel
theorem dX8_takesTens_39 : decode cX8_takesTens 39 = .ok (.iconst 1, 1) := by decide +kernel
theorem dX8_takesTens_40 : decode cX8_takesTens 40 = .ok (.goto 4, 3) := by decide +kernel
theorem dX8_takesTens_43 : decode cX8_takesTens 43 = .ok (.iconst 0, 1) := by decide +kernel
theorem dX8_takesTens_44 : decode cX8_takesTens 44 = .ok (.ireturn, 1) := by decide +kernel
theorem dX8_takesOnes_0 : decode cX8_takesOnes 0 = .ok (.iload_n 1, 1) := by decide +kernel
theorem dX8_takesOnes_1 : decode cX8_takesOnes 1 = .ok (.invokestatic 71, 3) := by decide +kernel
theorem dX8_takesOnes_4 : decode cX8_takesOnes 4 = .ok (.istore_n 2, 1) := by decide +kernel
theorem dX8_takesOnes_5 : decode cX8_takesOnes 5 = .ok (.aload_n 0, 1) := by decide +kernel
theorem dX8_takesOnes_6 : decode cX8_takesOnes 6 = .ok (.bipush 10, 2) := by decide +kernel
theorem dX8_takesOnes_8 : decode cX8_takesOnes 8 = .ok (.aload_n 0, 1) := by decide +kernel
theorem dX8_takesOnes_9 : decode cX8_takesOnes 9 = .ok (.getfield 46, 3) := by decide +kernel
theorem dX8_takesOnes_12 : decode cX8_takesOnes 12 = .ok (.imul, 1) := by decide +kernel
theorem dX8_takesOnes_13 : decode cX8_takesOnes 13 = .ok (.iload_n 2, 1) := by decide +kernel
theorem dX8_takesOnes_14 : decode cX8_takesOnes 14 = .ok (.iadd, 1) := by decide +kernel
theorem dX8_takesOnes_15 : decode cX8_takesOnes 15 = .ok (.putfield 49, 3) := by decide +kernel
theorem dX8_takesOnes_18 : decode cX8_takesOnes 18 = .ok (.aload_n 0, 1) := by decide +kernel
theorem dX8_takesOnes_19 : decode cX8_takesOnes 19 = .ok (.iconst 2, 1) := by decide +kernel
theorem dX8_takesOnes_20 : decode cX8_takesOnes 20 = .ok (.putfield 31, 3) := by decide +kernel
theorem dX8_takesOnes_23 : decode cX8_takesOnes 23 = .ok (.iload_n 2, 1) := by decide +kernel
theorem dX8_takesOnes_24 : decode cX8_takesOnes 24 = .ok (.bipush (-9), 2) := by decide +kernel
theorem dX8_takesOnes_26 : decode cX8_takesOnes 26 = .ok (.if_icmp .eq 18, 3) := by decide +kernel
theorem dX8_takesOnes_29 : decode cX8_takesOnes 29 = .ok (.aload_n 0, 1) := by decide +kernel
theorem dX8_takesOnes_30 : decode cX8_takesOnes 30 = .ok (.getfield 49, 3) := by decide +kernel
theorem dX8_takesOnes_33 : decode cX8_takesOnes 33 = .ok (.aload_n 0, 1) := by decide +kernel
theorem dX8_takesOnes_34 : decode cX8_takesOnes 34 = .ok (.getfield 43, 3) := by decide +kernel
theorem dX8_takesOnes_37 : decode cX8_takesOnes 37 = .ok (.if_icmp .le 7, 3) := by decide +kernel
theorem dX8_takesOnes_40 : decode cX8_takesOnes 40 = .ok (.iconst 1, 1) := by decide +kernel
theorem dX8_takesOnes_41 : decode cX8_takesOnes 41 = .ok (.goto 4, 3) := by decide +kernel
theorem dX8_takesOnes_44 : decode cX8_takesOnes 44 = .ok (.iconst 0, 1) := by decide +kernel
theorem dX8_takesOnes_45 : decode cX8_takesOnes 45 = .ok (.ireturn, 1) := by decide +kernel
theorem dX8_takesColon_0 : decode cX8_takesColon 0 = .ok (.iload_n 1, 1) := by decide +kernel
theorem dX8_takesColon_1 : decode cX8_takesColon 1 = .ok (.bipush 58, 2) := by decide +kernel
theorem dX8_takesColon_3 : decode cX8_takesColon 3 = .ok (.if_icmp .ne 13, 3) := by decide +kernel
theorem dX8_takesColon_6 : decode cX8_takesColon 6 = .ok (.aload_n 0, 1) := by decide +kernel
theorem dX8_takesColon_7 : decode cX8_takesColon 7 = .ok (.getfield 49, 3) := by decide +kernel
theorem dX8_takesColon_10 : decode cX8_takesColon 10 = .ok (.invokestatic 75, 3) := by decide +kernel
theorem dX8_takesColon_13 : decode cX8_takesColon 13 = .ok (.ifCond .ne 5, 3) := by decide +kernel
theorem dX8_takesColon_16 : decode cX8_takesColon 16 = .ok (.iconst 0, 1) := by decide +kernel
theorem dX8_takesColon_17 : decode cX8_takesColon 17 = .ok (.ireturn, 1) := by decide +kernel
theorem dX8_takesColon_18 : decode cX8_takesColon 18 = .ok (.aload_n 0, 1) := by decide +kernel
theorem dX8_takesColon_19 : decode cX8_takesColon 19 = .ok (.getfield 9, 3) := by decide +kernel
theorem dX8_takesColon_22 : decode cX8_takesColon 22 = .ok (.aload_n 0, 1) := by decide +kernel
theorem dX8_takesColon_23 : decode cX8_takesColon 23 = .ok (.getfield 49, 3) := by decide +kernel
theorem dX8_takesColon_26 : decode cX8_takesColon 26 = .ok (.iconst 0, 1) := by decide +kernel
theorem dX8_takesColon_27 : decode cX8_takesColon 27 = .ok (.iastore, 1) := by decide +kernel
theorem dX8_takesColon_28 : decode cX8_takesColon 28 = .ok (.aload_n 0, 1) := by decide +kernel
theorem dX8_takesColon_29 : decode cX8_takesColon 29 = .ok (.dup, 1) := by decide +kernel
theorem dX8_takesColon_30 : decode cX8_takesColon 30 = .ok (.getfield 40, 3) := by decide +kernel
theorem dX8_takesColon_33 : decode cX8_takesColon 33 = .ok (.iconst 1, 1) := by decide +kernel
theorem dX8_takesColon_34 : decode cX8_takesColon 34 = .ok (.iadd, 1) := by decide +kernel
theorem dX8_takesColon_35 : decode cX8_takesColon 35 = .ok (.putfield 40, 3) := by decide +kernel
theorem dX8_takesColon_38 : decode cX8_takesColon 38 = .ok (.aload_n 0, 1) := by decide +kernel
theorem dX8_takesColon_39 : decode cX8_takesColon 39 = .ok (.iconst (-1), 1) := by decide +kernel
theorem dX8_takesColon_40 : decode cX8_takesColon 40 = .ok (.putfield 52, 3) := by decide +kernel
theorem dX8_takesColon_43 : decode cX8_takesColon 43 = .ok (.aload_n 0, 1) := by decide +kernel
theorem dX8_takesColon_44 : decode cX8_takesColon 44 = .ok (.iconst 3, 1) := by decide +kernel
theorem dX8_takesColon_45 : decode cX8_takesColon 45 = .ok (.putfield 31, 3) := by decide +kernel
theorem dX8_takesColon_48 : decode cX8_takesColon 48 = .ok (.iconst 1, 1) := by decide +kernel
theorem dX8_takesColon_49 : decode cX8_takesColon 49 = .ok (.ireturn, 1) := by decide +kernel
theorem dX8_takesNextEntry_0 : decode cX8_takesNextEntry 0 = .ok (.aload_n 0, 1) := by decide +kernel
theorem dX8_takesNextEntry_1 : decode cX8_takesNextEntry 1 = .ok (.aload_n 0, 1) := by decide +kernel
theorem dX8_takesNextEntry_2 : decode cX8_takesNextEntry 2 = .ok (.getfield 49, 3) := by decide +kernel
theorem dX8_takesNextEntry_5 : decode cX8_takesNextEntry 5 = .ok (.putfield 43, 3) := by decide +kernel
theorem dX8_takesNextEntry_8 : decode cX8_takesNextEntry 8 = .ok (.aload_n 0, 1) := by decide +kernel
theorem dX8_takesNextEntry_9 : decode cX8_takesNextEntry 9 = .ok (.iconst 0, 1) := by decide +kernel
theorem dX8_takesNextEntry_10 : decode cX8_takesNextEntry 10 = .ok (.putfield 31, 3) := by decide +kernel
theorem dX8_takesNextEntry_13 : decode cX8_takesNextEntry 13 = .ok (.aload_n 0, 1) := by decide +kernel
theorem dX8_takesNextEntry_14 : decode cX8_takesNextEntry 14 = .ok (.getfield 49, 3) := by decide +kernel
theorem dX8_takesNextEntry_17 : decode cX8_takesNextEntry 17 = .ok (.bipush 99, 2) := by decide +kernel
theorem dX8_takesNextEntry_19 : decode cX8_takesNextEntry 19 = .ok (.if_icmp .ge 7, 3) := by decide +kernel
theorem dX8_takesNextEntry_22 : decode cX8_takesNextEntry 22 = .ok (.iconst 1, 1) := by decide +kernel
theorem dX8_takesNextEntry_23 : decode cX8_takesNextEntry 23 = .ok (.goto 4, 3) := by decide +kernel
theorem dX8_takesNextEntry_26 : decode cX8_takesNextEntry 26 = .ok (.iconst 0, 1) := by decide +kernel
theorem dX8_takesNextEntry_27 : decode cX8_takesNextEntry 27 = .ok (.ireturn, 1) := by decide +kernel
theorem dX8_takesBand_0 : decode cX8_takesBand 0 = .ok (.iload_n 1, 1) := by decide +kernel
theorem dX8_takesBand_1 : decode cX8_takesBand 1 = .ok (.invokestatic 71, 3) := by decide +kernel
theorem dX8_takesBand_4 : decode cX8_takesBand 4 = .ok (.istore_n 2, 1) := by decide +kernel
theorem dX8_takesBand_5 : decode cX8_takesBand 5 = .ok (.iload_n 2, 1) := by decide +kernel
theorem dX8_takesBand_6 : decode cX8_takesBand 6 = .ok (.invokestatic 78, 3) := by decide +kernel
theorem dX8_takesBand_9 : decode cX8_takesBand 9 = .ok (.ifCond .eq 21, 3) := by decide +kernel
theorem dX8_takesBand_12 : decode cX8_takesBand 12 = .ok (.iload_n 2, 1) := by decide +kernel
theorem dX8_takesBand_13 : decode cX8_takesBand 13 = .ok (.aload_n 0, 1) := by decide +kernel
theorem dX8_takesBand_14 : decode cX8_takesBand 14 = .ok (.getfield 52, 3) := by decide +kernel
theorem dX8_takesBand_17 : decode cX8_takesBand 17 = .ok (.if_icmp .le 13, 3) := by decide +kernel
theorem dX8_takesBand_20 : decode cX8_takesBand 20 = .ok (.aload_n 0, 1) := by decide +kernel
theorem dX8_takesBand_21 : decode cX8_takesBand 21 = .ok (.getfield 49, 3) := by decide +kernel
theorem dX8_takesBand_24 : decode cX8_takesBand 24 = .ok (.invokestatic 75, 3) := by decide +kernel
theorem dX8_takesBand_27 : decode cX8_takesBand 27 = .ok (.ifCond .ne 5, 3) := by decide +kernel
theorem dX8_takesBand_30 : decode cX8_takesBand 30 = .ok (.iconst 0, 1) := by decide +kernel
theorem dX8_takesBand_31 : decode cX8_takesBand 31 = .ok (.ireturn, 1) := by decide +kernel
theorem dX8_takesBand_32 : decode cX8_takesBand 32 = .ok (.aload_n 0, 1) := by decide +kernel
theorem dX8_takesBand_33 : decode cX8_takesBand 33 = .ok (.getfield 9, 3) := by decide +kernel
theorem dX8_takesBand_36 : decode cX8_takesBand 36 = .ok (.aload_n 0, 1) := by decide +kernel
theorem dX8_takesBand_37 : decode cX8_takesBand 37 = .ok (.getfield 49, 3) := by decide +kernel
theorem dX8_takesBand_40 : decode cX8_takesBand 40 = .ok (.dup2, 1) := by decide +kernel
theorem dX8_takesBand_41 : decode cX8_takesBand 41 = .ok (.iaload, 1) := by decide +kernel
theorem dX8_takesBand_42 : decode cX8_takesBand 42 = .ok (.iconst 1, 1) := by decide +kernel
theorem dX8_takesBand_43 : decode cX8_takesBand 43 = .ok (.iload_n 2, 1) := by decide +kernel
theorem dX8_takesBand_44 : decode cX8_takesBand 44 = .ok (.ishl, 1) := by decide +kernel
theorem dX8_takesBand_45 : decode cX8_takesBand 45 = .ok (.ior, 1) := by decide +kernel
theorem dX8_takesBand_46 : decode cX8_takesBand 46 = .ok (.iastore, 1) := by decide +kernel
theorem dX8_takesBand_47 : decode cX8_takesBand 47 = .ok (.aload_n 0, 1) := by decide +kernel
theorem dX8_takesBand_48 : decode cX8_takesBand 48 = .ok (.iload_n 2, 1) := by decide +kernel
theorem dX8_takesBand_49 : decode cX8_takesBand 49 = .ok (.putfield 52, 3) := by decide +kernel
theorem dX8_takesBand_52 : decode cX8_takesBand 52 = .ok (.iconst 1, 1) := by decide +kernel
theorem dX8_takesBand_53 : decode cX8_takesBand 53 = .ok (.ireturn, 1) := by decide +kernel
theorem dX9_init_0 : decode cX9_init 0 = .ok (.aload_n 0, 1) := by decide +kernel
theorem dX9_init_1 : decode cX9_init 1 = .ok (.invokespecial 1, 3) := by decide +kernel
theorem dX9_init_4 : decode cX9_init 4 = .ok (.aload_n 0, 1) := by decide +kernel
theorem dX9_init_5 : decode cX9_init 5 = .ok (.bipush 48, 2) := by decide +kernel
theorem dX9_init_7 : decode cX9_init 7 = .ok (.newarray .int, 2) := by decide +kernel
theorem dX9_init_9 : decode cX9_init 9 = .ok (.putfield 9, 3) := by decide +kernel
theorem dX9_init_12 : decode cX9_init 12 = .ok (.return_, 1) := by decide +kernel
theorem dX9_hasRoomFor_0 : decode cX9_hasRoomFor 0 = .ok (.iload_n 1, 1) := by decide +kernel
theorem dX9_hasRoomFor_1 : decode cX9_hasRoomFor 1 = .ok (.bipush 48, 2) := by decide +kernel
theorem dX9_hasRoomFor_3 : decode cX9_hasRoomFor 3 = .ok (.aload_n 0, 1) := by decide +kernel
theorem dX9_hasRoomFor_4 : decode cX9_hasRoomFor 4 = .ok (.getfield 13, 3) := by decide +kernel
theorem dX9_hasRoomFor_7 : decode cX9_hasRoomFor 7 = .ok (.isub, 1) := by decide +kernel
theorem dX9_hasRoomFor_8 : decode cX9_hasRoomFor 8 = .ok (.if_icmp .gt 7, 3) := by decide +kernel
theorem dX9_hasRoomFor_11 : decode cX9_hasRoomFor 11 = .ok (.iconst 1, 1) := by decide +kernel
theorem dX9_hasRoomFor_12 : decode cX9_hasRoomFor 12 = .ok (.goto 4, 3) := by decide +kernel
theorem dX9_hasRoomFor_15 : decode cX9_hasRoomFor 15 = .ok (.iconst 0, 1) := by decide +kernel
theorem dX9_hasRoomFor_16 : decode cX9_hasRoomFor 16 = .ok (.ireturn, 1) := by decide +kernel
theorem dX9_put_0 : decode cX9_put 0 = .ok (.iload_n 1, 1) := by decide +kernel
theorem dX9_put_1 : decode cX9_put 1 = .ok (.iconst 1, 1) := by decide +kernel
theorem dX9_put_2 : decode cX9_put 2 = .ok (.isub, 1) := by decide +kernel
theorem dX9_put_3 : decode cX9_put 3 = .ok (.istore 4, 2) := by decide +kernel
theorem dX9_put_5 : decode cX9_put 5 = .ok (.iload 4, 2) := by decide +kernel
theorem dX9_put_7 : decode cX9_put 7 = .ok (.ifCond .lt 49, 3) := by decide +kernel
theorem dX9_put_10 : decode cX9_put 10 = .ok (.aload_n 0, 1) := by decide +kernel
theorem dX9_put_11 : decode cX9_put 11 = .ok (.getfield 13, 3) := by decide +kernel
theorem dX9_put_14 : decode cX9_put 14 = .ok (.bipush 48, 2) := by decide +kernel
theorem dX9_put_16 : decode cX9_put 16 = .ok (.if_icmp .ge 40, 3) := by decide +kernel
theorem dX9_put_19 : decode cX9_put 19 = .ok (.aload_n 0, 1) := by decide +kernel
theorem dX9_put_20 : decode cX9_put 20 = .ok (.getfield 9, 3) := by decide +kernel
theorem dX9_put_23 : decode cX9_put 23 = .ok (.aload_n 0, 1) := by decide +kernel
theorem dX9_put_24 : decode cX9_put 24 = .ok (.getfield 13, 3) := by decide +kernel
theorem dX9_put_27 : decode cX9_put 27 = .ok (.lload_n 2, 1) := by decide +kernel
theorem dX9_put_28 : decode cX9_put 28 = .ok (.bipush 8, 2) := by decide +kernel
theorem dX9_put_30 : decode cX9_put 30 = .ok (.iload 4, 2) := by decide +kernel
theorem dX9_put_32 : decode cX9_put 32 = .ok (.imul, 1) := by decide +kernel
theorem dX9_put_33 : decode cX9_put 33 = .ok (.lushr, 1) := by decide +kernel
theorem dX9_put_34 : decode cX9_put 34 = .ok (.l2i, 1) := by decide +kernel
theorem dX9_put_35 : decode cX9_put 35 = .ok (.sipush 255, 3) := by decide +kernel
theorem dX9_put_38 : decode cX9_put 38 = .ok (.iand, 1) := by decide +kernel
theorem dX9_put_39 : decode cX9_put 39 = .ok (.iastore, 1) := by decide +kernel
theorem dX9_put_40 : decode cX9_put 40 = .ok (.aload_n 0, 1) := by decide +kernel
theorem dX9_put_41 : decode cX9_put 41 = .ok (.dup, 1) := by decide +kernel
theorem dX9_put_42 : decode cX9_put 42 = .ok (.getfield 13, 3) := by decide +kernel
theorem dX9_put_45 : decode cX9_put 45 = .ok (.iconst 1, 1) := by decide +kernel
theorem dX9_put_46 : decode cX9_put 46 = .ok (.iadd, 1) := by decide +kernel
theorem dX9_put_47 : decode cX9_put 47 = .ok (.putfield 13, 3) := by decide +kernel
theorem dX9_put_50 : decode cX9_put 50 = .ok (.iinc 4 (-1), 3) := by decide +kernel
theorem dX9_put_53 : decode cX9_put 53 = .ok (.goto (-48), 3) := by decide +kernel
theorem dX9_put_56 : decode cX9_put 56 = .ok (.return_, 1) := by decide +kernel
theorem dJ11_isValidCodePoint_9a6ad_0 : decode cJ11_isValidCodePoint_9a6ad 0 = .ok (.iload_n 0, 1) := by decide +kernel
theorem dJ11_isValidCodePoint_9a6ad_1 : decode cJ11_isValidCodePoint_9a6ad 1 = .ok (.bipush 16, 2) := by decide +kernel
theorem dJ11_isValidCodePoint_9a6ad_3 : decode cJ11_isValidCodePoint_9a6ad 3 = .ok (.iushr, 1) := by decide +kernel
theorem dJ11_isValidCodePoint_9a6ad_4 : decode cJ11_isValidCodePoint_9a6ad 4 = .ok (.istore_n 1, 1) := by decide +kernel
theorem dJ11_isValidCodePoint_9a6ad_5 : decode cJ11_isValidCodePoint_9a6ad 5 = .ok (.iload_n 1, 1) := by decide +kernel
theorem dJ11_isValidCodePoint_9a6ad_6 : decode cJ11_isValidCodePoint_9a6ad 6 = .ok (.bipush 17, 2) := by decide +kernel
theorem dJ11_isValidCodePoint_9a6ad_8 : decode cJ11_isValidCodePoint_9a6ad 8 = .ok (.if_icmp .ge 7, 3) := by decide +kernel
theorem dJ11_isValidCodePoint_9a6ad_11 : decode cJ11_isValidCodePoint_9a6ad 11 = .ok (.iconst 1, 1) := by decide +kernel
theorem dJ11_isValidCodePoint_9a6ad_12 : decode cJ11_isValidCodePoint_9a6ad 12 = .ok (.goto 4, 3) := by decide +kernel
theorem dJ11_isValidCodePoint_9a6ad_15 : decode cJ11_isValidCodePoint_9a6ad 15 = .ok (.iconst 0, 1) := by decide +kernel
theorem dJ11_isValidCodePoint_9a6ad_16 : decode cJ11_isValidCodePoint_9a6ad 16 = .ok (.ireturn, 1) := by decide +kernel
theorem dJ11_highSurrogate_5068e_0 : decode cJ11_highSurrogate_5068e 0 = .ok (.iload_n 0, 1) := by decide +kernel
theorem dJ11_highSurrogate_5068e_1 : decode cJ11_highSurrogate_5068e 1 = .ok (.bipush 10, 2) := by decide +kernel
theorem dJ11_highSurrogate_5068e_3 : decode cJ11_highSurrogate_5068e 3 = .ok (.iushr, 1) := by decide +kernel
theorem dJ11_highSurrogate_5068e_4 : decode cJ11_highSurrogate_5068e 4 = .ok (.ldc 110, 2) := by decide +kernel
theorem dJ11_highSurrogate_5068e_6 : decode cJ11_highSurrogate_5068e 6 = .ok (.iadd, 1) := by decide +kernel
theorem dJ11_highSurrogate_5068e_7 : decode cJ11_highSurrogate_5068e 7 = .ok (.i2c, 1) := by decide +kernel
theorem dJ11_highSurrogate_5068e_8 : decode cJ11_highSurrogate_5068e 8 = .ok (.ireturn, 1) := by decide +kernel
theorem dJ11_lowSurrogate_5068e_0 : decode cJ11_lowSurrogate_5068e 0 = .ok (.iload_n 0, 1) := by decide +kernel
theorem dJ11_lowSurrogate_5068e_1 : decode cJ11_lowSurrogate_5068e 1 = .ok (.sipush 1023, 3) := by decide +kernel
theorem dJ11_lowSurrogate_5068e_4 : decode cJ11_lowSurrogate_5068e 4 = .ok (.iand, 1) := by decide +kernel
theorem dJ11_lowSurrogate_5068e_5 : decode cJ11_lowSurrogate_5068e 5 = .ok (.ldc 76, 2) := by decide +kernel
theorem dJ11_lowSurrogate_5068e_7 : decode cJ11_lowSurrogate_5068e 7 = .ok (.iadd, 1) := by decide +kernel
theorem dJ11_lowSurrogate_5068e_8 : decode cJ11_lowSurrogate_5068e 8 = .ok (.i2c, 1) := by decide +kernel
theorem dJ11_lowSurrogate_5068e_9 : decode cJ11_lowSurrogate_5068e 9 = .ok (.ireturn, 1) := by decide +kernel
theorem dJ6_bitCount_0f7a4_0 : decode cJ6_bitCount_0f7a4 0 = .ok (.iload_n 0, 1) := by decide +kernel
theorem dJ6_bitCount_0f7a4_1 : decode cJ6_bitCount_0f7a4 1 = .ok (.iload_n 0, 1) := by decide +kernel
theorem dJ6_bitCount_0f7a4_2 : decode cJ6_bitCount_0f7a4 2 = .ok (.iconst 1, 1) := by decide +kernel
theorem dJ6_bitCount_0f7a4_3 : decode cJ6_bitCount_0f7a4 3 = .ok (.iushr, 1) := by decide +kernel
theorem dJ6_bitCount_0f7a4_4 : decode cJ6_bitCount_0f7a4 4 = .ok (.ldc_w 265, 3) := by decide +kernel
theorem dJ6_bitCount_0f7a4_7 : decode cJ6_bitCount_0f7a4 7 = .ok (.iand, 1) := by decide +kernel
theorem dJ6_bitCount_0f7a4_8 : decode cJ6_bitCount_0f7a4 8 = .ok (.isub, 1) := by decide +kernel
theorem dJ6_bitCount_0f7a4_9 : decode cJ6_bitCount_0f7a4 9 = .ok (.istore_n 0, 1) := by decide +kernel
theorem dJ6_bitCount_0f7a4_10 : decode cJ6_bitCount_0f7a4 10 = .ok (.iload_n 0, 1) := by decide +kernel
theorem dJ6_bitCount_0f7a4_11 : decode cJ6_bitCount_0f7a4 11 = .ok (.ldc_w 266, 3) := by decide +kernel
theorem dJ6_bitCount_0f7a4_14 : decode cJ6_bitCount_0f7a4 14 = .ok (.iand, 1) := by decide +kernel
theorem dJ6_bitCount_0f7a4_15 : decode cJ6_bitCount_0f7a4 15 = .ok (.iload_n 0, 1) := by decide +kernel
theorem dJ6_bitCount_0f7a4_16 : decode cJ6_bitCount_0f7a4 16 = .ok (.iconst 2, 1) := by decide +kernel
theorem dJ6_bitCount_0f7a4_17 : decode cJ6_bitCount_0f7a4 17 = .ok (.iushr, 1) := by decide +kernel
theorem dJ6_bitCount_0f7a4_18 : decode cJ6_bitCount_0f7a4 18 = .ok (.ldc_w 266, 3) := by decide +kernel
theorem dJ6_bitCount_0f7a4_21 : decode cJ6_bitCount_0f7a4 21 = .ok (.iand, 1) := by decide +kernel
theorem dJ6_bitCount_0f7a4_22 : decode cJ6_bitCount_0f7a4 22 = .ok (.iadd, 1) := by decide +kernel
theorem dJ6_bitCount_0f7a4_23 : decode cJ6_bitCount_0f7a4 23 = .ok (.istore_n 0, 1) := by decide +kernel
theorem dJ6_bitCount_0f7a4_24 : decode cJ6_bitCount_0f7a4 24 = .ok (.iload_n 0, 1) := by decide +kernel
theorem dJ6_bitCount_0f7a4_25 : decode cJ6_bitCount_0f7a4 25 = .ok (.iload_n 0, 1) := by decide +kernel
theorem dJ6_bitCount_0f7a4_26 : decode cJ6_bitCount_0f7a4 26 = .ok (.iconst 4, 1) := by decide +kernel
theorem dJ6_bitCount_0f7a4_27 : decode cJ6_bitCount_0f7a4 27 = .ok (.iushr, 1) := by decide +kernel
theorem dJ6_bitCount_0f7a4_28 : decode cJ6_bitCount_0f7a4 28 = .ok (.iadd, 1) := by decide +kernel
theorem dJ6_bitCount_0f7a4_29 : decode cJ6_bitCount_0f7a4 29 = .ok (.ldc_w 267, 3) := by decide +kernel
theorem dJ6_bitCount_0f7a4_32 : decode cJ6_bitCount_0f7a4 32 = .ok (.iand, 1) := by decide +kernel
theorem dJ6_bitCount_0f7a4_33 : decode cJ6_bitCount_0f7a4 33 = .ok (.istore_n 0, 1) := by decide +kernel
theorem dJ6_bitCount_0f7a4_34 : decode cJ6_bitCount_0f7a4 34 = .ok (.iload_n 0, 1) := by decide +kernel
theorem dJ6_bitCount_0f7a4_35 : decode cJ6_bitCount_0f7a4 35 = .ok (.iload_n 0, 1) := by decide +kernel
theorem dJ6_bitCount_0f7a4_36 : decode cJ6_bitCount_0f7a4 36 = .ok (.bipush 8, 2) := by decide +kernel
theorem dJ6_bitCount_0f7a4_38 : decode cJ6_bitCount_0f7a4 38 = .ok (.iushr, 1) := by decide +kernel
theorem dJ6_bitCount_0f7a4_39 : decode cJ6_bitCount_0f7a4 39 = .ok (.iadd, 1) := by decide +kernel
theorem dJ6_bitCount_0f7a4_40 : decode cJ6_bitCount_0f7a4 40 = .ok (.istore_n 0, 1) := by decide +kernel
theorem dJ6_bitCount_0f7a4_41 : decode cJ6_bitCount_0f7a4 41 = .ok (.iload_n 0, 1) := by decide +kernel
theorem dJ6_bitCount_0f7a4_42 : decode cJ6_bitCount_0f7a4 42 = .ok (.iload_n 0, 1) := by decide +kernel
theorem dJ6_bitCount_0f7a4_43 : decode cJ6_bitCount_0f7a4 43 = .ok (.bipush 16, 2) := by decide +kernel
theorem dJ6_bitCount_0f7a4_45 : decode cJ6_bitCount_0f7a4 45 = .ok (.iushr, 1) := by decide +kernel
theorem dJ6_bitCount_0f7a4_46 : decode cJ6_bitCount_0f7a4 46 = .ok (.iadd, 1) := by decide +kernel
theorem dJ6_bitCount_0f7a4_47 : decode cJ6_bitCount_0f7a4 47 = .ok (.istore_n 0, 1) := by decide +kernel
theorem dJ6_bitCount_0f7a4_48 : decode cJ6_bitCount_0f7a4 48 = .ok (.iload_n 0, 1) := by decide +kernel
theorem dJ6_bitCount_0f7a4_49 : decode cJ6_bitCount_0f7a4 49 = .ok (.bipush 63, 2) := by decide +kernel
theorem dJ6_bitCount_0f7a4_51 : decode cJ6_bitCount_0f7a4 51 = .ok (.iand, 1) := by decide +kernel
theorem dJ6_bitCount_0f7a4_52 : decode cJ6_bitCount_0f7a4 52 = .ok (.ireturn, 1) := by decide +kernel
theorem dJ9_abs_0f7a4_0 : decode cJ9_abs_0f7a4 0 = .ok (.iload_n 0, 1) := by decide +kernel
theorem dJ9_abs_0f7a4_1 : decode cJ9_abs_0f7a4 1 = .ok (.ifCond .ge 8, 3) := by decide +kernel
theorem dJ9_abs_0f7a4_4 : decode cJ9_abs_0f7a4 4 = .ok (.iload_n 0, 1) := by decide +kernel
theorem dJ9_abs_0f7a4_5 : decode cJ9_abs_0f7a4 5 = .ok (.ineg, 1) := by decide +kernel
theorem dJ9_abs_0f7a4_6 : decode cJ9_abs_0f7a4 6 = .ok (.goto 4, 3) := by decide +kernel
theorem dJ9_abs_0f7a4_9 : decode cJ9_abs_0f7a4 9 = .ok (.iload_n 0, 1) := by decide +kernel
theorem dJ9_abs_0f7a4_10 : decode cJ9_abs_0f7a4 10 = .ok (.ireturn, 1) := by decide +kernel
theorem dJ9_abs_067f4_0 : decode cJ9_abs_067f4 0 = .ok (.lload_n 0, 1) := by decide +kernel
theorem dJ9_abs_067f4_1 : decode cJ9_abs_067f4 1 = .ok (.lconst 0, 1) := by decide +kernel
theorem dJ9_abs_067f4_2 : decode cJ9_abs_067f4 2 = .ok (.lcmp, 1) := by decide +kernel
theorem dJ9_abs_067f4_3 : decode cJ9_abs_067f4 3 = .ok (.ifCond .ge 8, 3) := by decide +kernel
theorem dJ9_abs_067f4_6 : decode cJ9_abs_067f4 6 = .ok (.lload_n 0, 1) := by decide +kernel
theorem dJ9_abs_067f4_7 : decode cJ9_abs_067f4 7 = .ok (.lneg, 1) := by decide +kernel
theorem dJ9_abs_067f4_8 : decode cJ9_abs_067f4 8 = .ok (.goto 4, 3) := by decide +kernel
theorem dJ9_abs_067f4_11 : decode cJ9_abs_067f4 11 = .ok (.lload_n 0, 1) := by decide +kernel
theorem dJ9_abs_067f4_12 : decode cJ9_abs_067f4 12 = .ok (.lreturn, 1) := by decide +kernel
theorem dJ9_max_7cf53_0 : decode cJ9_max_7cf53 0 = .ok (.iload_n 0, 1) := by decide +kernel
theorem dJ9_max_7cf53_1 : decode cJ9_max_7cf53 1 = .ok (.iload_n 1, 1) := by decide +kernel
theorem dJ9_max_7cf53_2 : decode cJ9_max_7cf53 2 = .ok (.if_icmp .lt 7, 3) := by decide +kernel
theorem dJ9_max_7cf53_5 : decode cJ9_max_7cf53 5 = .ok (.iload_n 0, 1) := by decide +kernel
theorem dJ9_max_7cf53_6 : decode cJ9_max_7cf53 6 = .ok (.goto 4, 3) := by decide +kernel
theorem dJ9_max_7cf53_9 : decode cJ9_max_7cf53 9 = .ok (.iload_n 1, 1) := by decide +kernel
theorem dJ9_max_7cf53_10 : decode cJ9_max_7cf53 10 = .ok (.ireturn, 1) := by decide +kernel
theorem dJ9_min_7cf53_0 : decode cJ9_min_7cf53 0 = .ok (.iload_n 0, 1) := by decide +kernel
theorem dJ9_min_7cf53_1 : decode cJ9_min_7cf53 1 = .ok (.iload_n 1, 1) := by decide +kernel
theorem dJ9_min_7cf53_2 : decode cJ9_min_7cf53 2 = .ok (.if_icmp .gt 7, 3) := by decide +kernel
theorem dJ9_min_7cf53_5 : decode cJ9_min_7cf53 5 = .ok (.iload_n 0, 1) := by decide +kernel
theorem dJ9_min_7cf53_6 : decode cJ9_min_7cf53 6 = .ok (.goto 4, 3) := by decide +kernel
theorem dJ9_min_7cf53_9 : decode cJ9_min_7cf53 9 = .ok (.iload_n 1, 1) := by decide +kernel
theorem dJ9_min_7cf53_10 : decode cJ9_min_7cf53 10 = .ok (.ireturn, 1) := by decide +kernel
theorem dJ0_length_8abf5_0 : decode cJ0_length_8abf5 0 = .ok (.aload_n 0, 1) := by decide +kernel
theorem dJ0_length_8abf5_1 : decode cJ0_length_8abf5 1 = .ok (.getfield 9, 3) := by decide +kernel
theorem dJ0_length_8abf5_4 : decode cJ0_length_8abf5 4 = .ok (.arraylength, 1) := by decide +kernel
theorem dJ0_length_8abf5_5 : decode cJ0_length_8abf5 5 = .ok (.aload_n 0, 1) := by decide +kernel
theorem dJ0_length_8abf5_6 : decode cJ0_length_8abf5 6 = .ok (.invokevirtual 335, 3) := by decide +kernel
theorem dJ0_length_8abf5_9 : decode cJ0_length_8abf5 9 = .ok (.ishr, 1) := by decide +kernel
theorem dJ0_length_8abf5_10 : decode cJ0_length_8abf5 10 = .ok (.ireturn, 1) := by decide +kernel
theorem dJ0_indexOf_0f7a4_0 : decode cJ0_indexOf_0f7a4 0 = .ok (.aload_n 0, 1) := by decide +kernel
theorem dJ0_indexOf_0f7a4_1 : decode cJ0_indexOf_0f7a4 1 = .ok (.iload_n 1, 1) := by decide +kernel
theorem dJ0_indexOf_0f7a4_2 : decode cJ0_indexOf_0f7a4 2 = .ok (.iconst 0, 1) := by decide +kernel
theorem dJ0_indexOf_0f7a4_3 : decode cJ0_indexOf_0f7a4 3 = .ok (.invokevirtual 633, 3) := by decide +kernel
theorem dJ0_indexOf_0f7a4_6 : decode cJ0_indexOf_0f7a4 6 = .ok (.ireturn, 1) := by decide +kernel
theorem dJ0_indexOf_7cf53_0 : decode cJ0_indexOf_7cf53 0 = .ok (.aload_n 0, 1) := by decide +kernel
theorem dJ0_indexOf_7cf53_1 : decode cJ0_indexOf_7cf53 1 = .ok (.invokevirtual 492, 3) := by decide +kernel
theorem dJ0_indexOf_7cf53_4 : decode cJ0_indexOf_7cf53 4 = .ok (.ifCond .eq 19, 3) := by decide +kernel
theorem dJ0_indexOf_7cf53_7 : decode cJ0_indexOf_7cf53 7 = .ok (.aload_n 0, 1) := by decide +kernel
theorem dJ0_indexOf_7cf53_8 : decode cJ0_indexOf_7cf53 8 = .ok (.getfield 9, 3) := by decide +kernel
theorem dJ0_indexOf_7cf53_11 : decode cJ0_indexOf_7cf53 11 = .ok (.iload_n 1, 1) := by decide +kernel
theorem dJ0_indexOf_7cf53_12 : decode cJ0_indexOf_7cf53 12 = .ok (.iload_n 2, 1) := by decide +kernel
theorem dJ0_indexOf_7cf53_13 : decode cJ0_indexOf_7cf53 13 = .ok (.aload_n 0, 1) := by decide +kernel
theorem dJ0_indexOf_7cf53_14 : decode cJ0_indexOf_7cf53 14 = .ok (.invokevirtual 505, 3) := by decide +kernel
theorem dJ0_indexOf_7cf53_17 : decode cJ0_indexOf_7cf53 17 = .ok (.invokestatic 637, 3) := by decide +kernel
theorem dJ0_indexOf_7cf53_20 : decode cJ0_indexOf_7cf53 20 = .ok (.goto 16, 3) := by decide +kernel
theorem dJ0_indexOf_7cf53_23 : decode cJ0_indexOf_7cf53 23 = .ok (.aload_n 0, 1) := by decide +kernel
theorem dJ0_indexOf_7cf53_24 : decode cJ0_indexOf_7cf53 24 = .ok (.getfield 9, 3) := by decide +kernel
theorem dJ0_indexOf_7cf53_27 : decode cJ0_indexOf_7cf53 27 = .ok (.iload_n 1, 1) := by decide +kernel
theorem dJ0_indexOf_7cf53_28 : decode cJ0_indexOf_7cf53 28 = .ok (.iload_n 2, 1) := by decide +kernel
theorem dJ0_indexOf_7cf53_29 : decode cJ0_indexOf_7cf53 29 = .ok (.aload_n 0, 1) := by decide +kernel
theorem dJ0_indexOf_7cf53_30 : decode cJ0_indexOf_7cf53 30 = .ok (.invokevirtual 505, 3) := by decide +kernel
theorem dJ0_indexOf_7cf53_33 : decode cJ0_indexOf_7cf53 33 = .ok (.invokestatic 640, 3) := by decide +kernel
theorem dJ0_indexOf_7cf53_36 : decode cJ0_indexOf_7cf53 36 = .ok (.ireturn, 1) := by decide +kernel
theorem dJ0_coder_7d493_0 : decode cJ0_coder_7d493 0 = .ok (.getstatic 38, 3) := by decide +kernel
theorem dJ0_coder_7d493_3 : decode cJ0_coder_7d493 3 = .ok (.ifCond .eq 10, 3) := by decide +kernel
theorem dJ0_coder_7d493_6 : decode cJ0_coder_7d493 6 = .ok (.aload_n 0, 1) := by decide +kernel
theorem dJ0_coder_7d493_7 : decode cJ0_coder_7d493 7 = .ok (.getfield 15, 3) := by decide +kernel
theorem dJ0_coder_7d493_10 : decode cJ0_coder_7d493 10 = .ok (.goto 4, 3) := by decide +kernel
theorem dJ0_coder_7d493_13 : decode cJ0_coder_7d493 13 = .ok (.iconst 1, 1) := by decide +kernel
theorem dJ0_coder_7d493_14 : decode cJ0_coder_7d493 14 = .ok (.ireturn, 1) := by decide +kernel
theorem dJ0_isLatin1_aae02_0 : decode cJ0_isLatin1_aae02 0 = .ok (.getstatic 38, 3) := by decide +kernel
theorem dJ0_isLatin1_aae02_3 : decode cJ0_isLatin1_aae02 3 = .ok (.ifCond .eq 14, 3) := by decide +kernel
theorem dJ0_isLatin1_aae02_6 : decode cJ0_isLatin1_aae02 6 = .ok (.aload_n 0, 1) := by decide +kernel
theorem dJ0_isLatin1_aae02_7 : decode cJ0_isLatin1_aae02 7 = .ok (.getfield 15, 3) := by decide +kernel
theorem dJ0_isLatin1_aae02_10 : decode cJ0_isLatin1_aae02 10 = .ok (.ifCond .ne 7, 3) := by decide +kernel
theorem dJ0_isLatin1_aae02_13 : decode cJ0_isLatin1_aae02 13 = .ok (.iconst 1, 1) := by decide +kernel
theorem dJ0_isLatin1_aae02_14 : decode cJ0_isLatin1_aae02 14 = .ok (.goto 4, 3) := by decide +kernel
theorem dJ0_isLatin1_aae02_17 : decode cJ0_isLatin1_aae02 17 = .ok (.iconst 0, 1) := by decide +kernel
theorem dJ0_isLatin1_aae02_18 : decode cJ0_isLatin1_aae02 18 = .ok (.ireturn, 1) := by decide +kernel
theorem dJ0_checkBoundsBeginEnd_23922_0 : decode cJ0_checkBoundsBeginEnd_23922 0 = .ok (.iload_n 0, 1) := by decide +kernel
theorem dJ0_checkBoundsBeginEnd_23922_1 : decode cJ0_checkBoundsBeginEnd_23922 1 = .ok (.iload_n 1, 1) := by decide +kernel
theorem dJ0_checkBoundsBeginEnd_23922_2 : decode cJ0_checkBoundsBeginEnd_23922 2 = .ok (.iload_n 2, 1) := by decide +kernel
theorem dJ0_checkBoundsBeginEnd_23922_3 : decode cJ0_checkBoundsBeginEnd_23922 3 = .ok (.getstatic 1053, 3) := by decide +kernel
theorem dJ0_checkBoundsBeginEnd_23922_6 : decode cJ0_checkBoundsBeginEnd_23922 6 = .ok (.invokestatic 1062, 3) := by decide +kernel
theorem dJ0_checkBoundsBeginEnd_23922_9 : decode cJ0_checkBoundsBeginEnd_23922 9 = .ok (.pop, 1) := by decide +kernel
theorem dJ0_checkBoundsBeginEnd_23922_10 : decode cJ0_checkBoundsBeginEnd_23922 10 = .ok (.return_, 1) := by decide +kernel
theorem dJ1_canEncode_9a6ad_0 : decode cJ1_canEncode_9a6ad 0 = .ok (.iload_n 0, 1) := by decide +kernel
theorem dJ1_canEncode_9a6ad_1 : decode cJ1_canEncode_9a6ad 1 = .ok (.ifCond .lt 14, 3) := by decide +kernel
theorem dJ1_canEncode_9a6ad_4 : decode cJ1_canEncode_9a6ad 4 = .ok (.iload_n 0, 1) := by decide +kernel
theorem dJ1_canEncode_9a6ad_5 : decode cJ1_canEncode_9a6ad 5 = .ok (.sipush 255, 3) := by decide +kernel
theorem dJ1_canEncode_9a6ad_8 : decode cJ1_canEncode_9a6ad 8 = .ok (.if_icmp .gt 7, 3) := by decide +kernel
theorem dJ1_canEncode_9a6ad_11 : decode cJ1_canEncode_9a6ad 11 = .ok (.iconst 1, 1) := by decide +kernel
theorem dJ1_canEncode_9a6ad_12 : decode cJ1_canEncode_9a6ad 12 = .ok (.goto 4, 3) := by decide +kernel
theorem dJ1_canEncode_9a6ad_15 : decode cJ1_canEncode_9a6ad 15 = .ok (.iconst 0, 1) := by decide +kernel
theorem dJ1_canEncode_9a6ad_16 : decode cJ1_canEncode_9a6ad 16 = .ok (.ireturn, 1) := by decide +kernel
theorem dJ1_indexOf_4cfef_0 : decode cJ1_indexOf_4cfef 0 = .ok (.iload_n 1, 1) := by decide +kernel
theorem dJ1_indexOf_4cfef_1 : decode cJ1_indexOf_4cfef 1 = .ok (.invokestatic 88, 3) := by decide +kernel
theorem dJ1_indexOf_4cfef_4 : decode cJ1_indexOf_4cfef 4 = .ok (.ifCond .ne 5, 3) := by decide +kernel
theorem dJ1_indexOf_4cfef_7 : decode cJ1_indexOf_4cfef 7 = .ok (.iconst (-1), 1) := by decide +kernel
theorem dJ1_indexOf_4cfef_8 : decode cJ1_indexOf_4cfef 8 = .ok (.ireturn, 1) := by decide +kernel
theorem dJ1_indexOf_4cfef_9 : decode cJ1_indexOf_4cfef 9 = .ok (.iload_n 2, 1) := by decide +kernel
theorem dJ1_indexOf_4cfef_10 : decode cJ1_indexOf_4cfef 10 = .ok (.iconst 0, 1) := by decide +kernel
theorem dJ1_indexOf_4cfef_11 : decode cJ1_indexOf_4cfef 11 = .ok (.invokestatic 92, 3) := by decide +kernel
theorem dJ1_indexOf_4cfef_14 : decode cJ1_indexOf_4cfef 14 = .ok (.istore_n 2, 1) := by decide +kernel
theorem dJ1_indexOf_4cfef_15 : decode cJ1_indexOf_4cfef 15 = .ok (.iload_n 3, 1) := by decide +kernel
theorem dJ1_indexOf_4cfef_16 : decode cJ1_indexOf_4cfef 16 = .ok (.aload_n 0, 1) := by decide +kernel
theorem dJ1_indexOf_4cfef_17 : decode cJ1_indexOf_4cfef 17 = .ok (.arraylength, 1) := by decide +kernel
theorem dJ1_indexOf_4cfef_18 : decode cJ1_indexOf_4cfef 18 = .ok (.invokestatic 38, 3) := by decide +kernel
theorem dJ1_indexOf_4cfef_21 : decode cJ1_indexOf_4cfef 21 = .ok (.istore_n 3, 1) := by decide +kernel
theorem dJ1_indexOf_4cfef_22 : decode cJ1_indexOf_4cfef 22 = .ok (.iload_n 2, 1) := by decide +kernel
theorem dJ1_indexOf_4cfef_23 : decode cJ1_indexOf_4cfef 23 = .ok (.iload_n 3, 1) := by decide +kernel
theorem dJ1_indexOf_4cfef_24 : decode cJ1_indexOf_4cfef 24 = .ok (.if_icmp .lt 5, 3) := by decide +kernel
theorem dJ1_indexOf_4cfef_27 : decode cJ1_indexOf_4cfef 27 = .ok (.iconst (-1), 1) := by decide +kernel
theorem dJ1_indexOf_4cfef_28 : decode cJ1_indexOf_4cfef 28 = .ok (.ireturn, 1) := by decide +kernel
theorem dJ1_indexOf_4cfef_29 : decode cJ1_indexOf_4cfef 29 = .ok (.aload_n 0, 1) := by decide +kernel
theorem dJ1_indexOf_4cfef_30 : decode cJ1_indexOf_4cfef 30 = .ok (.iload_n 1, 1) := by decide +kernel
theorem dJ1_indexOf_4cfef_31 : decode cJ1_indexOf_4cfef 31 = .ok (.iload_n 2, 1) := by decide +kernel
theorem dJ1_indexOf_4cfef_32 : decode cJ1_indexOf_4cfef 32 = .ok (.iload_n 3, 1) := by decide +kernel
theorem dJ1_indexOf_4cfef_33 : decode cJ1_indexOf_4cfef 33 = .ok (.invokestatic 95, 3) := by decide +kernel
theorem dJ1_indexOf_4cfef_36 : decode cJ1_indexOf_4cfef 36 = .ok (.ireturn, 1) := by decide +kernel
theorem dJ1_indexOfChar_4cfef_0 : decode cJ1_indexOfChar_4cfef 0 = .ok (.iload_n 1, 1) := by decide +kernel
theorem dJ1_indexOfChar_4cfef_1 : decode cJ1_indexOfChar_4cfef 1 = .ok (.i2b, 1) := by decide +kernel
theorem dJ1_indexOfChar_4cfef_2 : decode cJ1_indexOfChar_4cfef 2 = .ok (.istore 4, 2) := by decide +kernel
theorem dJ1_indexOfChar_4cfef_4 : decode cJ1_indexOfChar_4cfef 4 = .ok (.iload_n 2, 1) := by decide +kernel
theorem dJ1_indexOfChar_4cfef_5 : decode cJ1_indexOfChar_4cfef 5 = .ok (.istore 5, 2) := by decide +kernel
theorem dJ1_indexOfChar_4cfef_7 : decode cJ1_indexOfChar_4cfef 7 = .ok (.iload 5, 2) := by decide +kernel
theorem dJ1_indexOfChar_4cfef_9 : decode cJ1_indexOfChar_4cfef 9 = .ok (.iload_n 3, 1) := by decide +kernel
theorem dJ1_indexOfChar_4cfef_10 : decode cJ1_indexOfChar_4cfef 10 = .ok (.if_icmp .ge 21, 3) := by decide +kernel
theorem dJ1_indexOfChar_4cfef_13 : decode cJ1_indexOfChar_4cfef 13 = .ok (.aload_n 0, 1) := by decide +kernel
theorem dJ1_indexOfChar_4cfef_14 : decode cJ1_indexOfChar_4cfef 14 = .ok (.iload 5, 2) := by decide +kernel
theorem dJ1_indexOfChar_4cfef_16 : decode cJ1_indexOfChar_4cfef 16 = .ok (.baload, 1) := by decide +kernel
theorem dJ1_indexOfChar_4cfef_17 : decode cJ1_indexOfChar_4cfef 17 = .ok (.iload 4, 2) := by decide +kernel
theorem dJ1_indexOfChar_4cfef_19 : decode cJ1_indexOfChar_4cfef 19 = .ok (.if_icmp .ne 6, 3) := by decide +kernel
theorem dJ1_indexOfChar_4cfef_22 : decode cJ1_indexOfChar_4cfef 22 = .ok (.iload 5, 2) := by decide +kernel
theorem dJ1_indexOfChar_4cfef_24 : decode cJ1_indexOfChar_4cfef 24 = .ok (.ireturn, 1) := by decide +kernel
theorem dJ1_indexOfChar_4cfef_25 : decode cJ1_indexOfChar_4cfef 25 = .ok (.iinc 5 1, 3) := by decide +kernel
theorem dJ1_indexOfChar_4cfef_28 : decode cJ1_indexOfChar_4cfef 28 = .ok (.goto (-21), 3) := by decide +kernel
theorem dJ1_indexOfChar_4cfef_31 : decode cJ1_indexOfChar_4cfef 31 = .ok (.iconst (-1), 1) := by decide +kernel
theorem dJ1_indexOfChar_4cfef_32 : decode cJ1_indexOfChar_4cfef 32 = .ok (.ireturn, 1) := by decide +kernel
theorem dJ2_getChar_3b067_0 : decode cJ2_getChar_3b067 0 = .ok (.getstatic 44, 3) := by decide +kernel
theorem dJ2_getChar_3b067_3 : decode cJ2_getChar_3b067 3 = .ok (.ifCond .ne 25, 3) := by decide +kernel
theorem dJ2_getChar_3b067_6 : decode cJ2_getChar_3b067 6 = .ok (.iload_n 1, 1) := by decide +kernel
theorem dJ2_getChar_3b067_7 : decode cJ2_getChar_3b067 7 = .ok (.ifCond .lt 11, 3) := by decide +kernel
theorem dJ2_getChar_3b067_10 : decode cJ2_getChar_3b067 10 = .ok (.iload_n 1, 1) := by decide +kernel
theorem dJ2_getChar_3b067_11 : decode cJ2_getChar_3b067 11 = .ok (.aload_n 0, 1) := by decide +kernel
theorem dJ2_getChar_3b067_12 : decode cJ2_getChar_3b067 12 = .ok (.invokestatic 48, 3) := by decide +kernel
theorem dJ2_getChar_3b067_15 : decode cJ2_getChar_3b067 15 = .ok (.if_icmp .lt 13, 3) := by decide +kernel
theorem dJ2_getChar_3b067_18 : decode cJ2_getChar_3b067 18 = .ok (.new 52, 3) := by decide +kernel
theorem dJ2_getChar_3b067_21 : decode cJ2_getChar_3b067 21 = .ok (.dup, 1) := by decide +kernel
theorem dJ2_getChar_3b067_22 : decode cJ2_getChar_3b067 22 = .ok (.ldc 54, 2) := by decide +kernel
theorem dJ2_getChar_3b067_24 : decode cJ2_getChar_3b067 24 = .ok (.invokespecial 56, 3) := by decide +kernel
theorem dJ2_getChar_3b067_27 : decode cJ2_getChar_3b067 27 = .ok (.athrow, 1) := by decide +kernel
theorem dJ2_getChar_3b067_28 : decode cJ2_getChar_3b067 28 = .ok (.iload_n 1, 1) := by decide +kernel
theorem dJ2_getChar_3b067_29 : decode cJ2_getChar_3b067 29 = .ok (.iconst 1, 1) := by decide +kernel
theorem dJ2_getChar_3b067_30 : decode cJ2_getChar_3b067 30 = .ok (.ishl, 1) := by decide +kernel
theorem dJ2_getChar_3b067_31 : decode cJ2_getChar_3b067 31 = .ok (.istore_n 1, 1) := by decide +kernel
theorem dJ2_getChar_3b067_32 : decode cJ2_getChar_3b067 32 = .ok (.aload_n 0, 1) := by decide +kernel
theorem dJ2_getChar_3b067_33 : decode cJ2_getChar_3b067 33 = .ok (.iload_n 1, 1) := by decide +kernel
theorem dJ2_getChar_3b067_34 : decode cJ2_getChar_3b067 34 = .ok (.iinc 1 1, 3) := by decide +kernel
theorem dJ2_getChar_3b067_37 : decode cJ2_getChar_3b067 37 = .ok (.baload, 1) := by decide +kernel
theorem dJ2_getChar_3b067_38 : decode cJ2_getChar_3b067 38 = .ok (.sipush 255, 3) := by decide +kernel
theorem dJ2_getChar_3b067_41 : decode cJ2_getChar_3b067 41 = .ok (.iand, 1) := by decide +kernel
theorem dJ2_getChar_3b067_42 : decode cJ2_getChar_3b067 42 = .ok (.getstatic 59, 3) := by decide +kernel
theorem dJ2_getChar_3b067_45 : decode cJ2_getChar_3b067 45 = .ok (.ishl, 1) := by decide +kernel
theorem dJ2_getChar_3b067_46 : decode cJ2_getChar_3b067 46 = .ok (.aload_n 0, 1) := by decide +kernel
theorem dJ2_getChar_3b067_47 : decode cJ2_getChar_3b067 47 = .ok (.iload_n 1, 1) := by decide +kernel
theorem dJ2_getChar_3b067_48 : decode cJ2_getChar_3b067 48 = .ok (.baload, 1) := by decide +kernel
theorem dJ2_getChar_3b067_49 : decode cJ2_getChar_3b067 49 = .ok (.sipush 255, 3) := by decide +kernel
theorem dJ2_getChar_3b067_52 : decode cJ2_getChar_3b067 52 = .ok (.iand, 1) := by decide +kernel
theorem dJ2_getChar_3b067_53 : decode cJ2_getChar_3b067 53 = .ok (.getstatic 63, 3) := by decide +kernel
theorem dJ2_getChar_3b067_56 : decode cJ2_getChar_3b067 56 = .ok (.ishl, 1) := by decide +kernel
theorem dJ2_getChar_3b067_57 : decode cJ2_getChar_3b067 57 = .ok (.ior, 1) := by decide +kernel
theorem dJ2_getChar_3b067_58 : decode cJ2_getChar_3b067 58 = .ok (.i2c, 1) := by decide +kernel
theorem dJ2_getChar_3b067_59 : decode cJ2_getChar_3b067 59 = .ok (.ireturn, 1) := by decide +kernel
theorem dJ2_length_9d52b_0 : decode cJ2_length_9d52b 0 = .ok (.aload_n 0, 1) := by decide +kernel
theorem dJ2_length_9d52b_1 : decode cJ2_length_9d52b 1 = .ok (.arraylength, 1) := by decide +kernel
theorem dJ2_length_9d52b_2 : decode cJ2_length_9d52b 2 = .ok (.iconst 1, 1) := by decide +kernel
theorem dJ2_length_9d52b_3 : decode cJ2_length_9d52b 3 = .ok (.ishr, 1) := by decide +kernel
theorem dJ2_length_9d52b_4 : decode cJ2_length_9d52b 4 = .ok (.ireturn, 1) := by decide +kernel
theorem dJ2_indexOf_4cfef_0 : decode cJ2_indexOf_4cfef 0 = .ok (.iload_n 2, 1) := by decide +kernel
theorem dJ2_indexOf_4cfef_1 : decode cJ2_indexOf_4cfef 1 = .ok (.iconst 0, 1) := by decide +kernel
theorem dJ2_indexOf_4cfef_2 : decode cJ2_indexOf_4cfef 2 = .ok (.invokestatic 224, 3) := by decide +kernel
theorem dJ2_indexOf_4cfef_5 : decode cJ2_indexOf_4cfef 5 = .ok (.istore_n 2, 1) := by decide +kernel
theorem dJ2_indexOf_4cfef_6 : decode cJ2_indexOf_4cfef 6 = .ok (.iload_n 3, 1) := by decide +kernel
theorem dJ2_indexOf_4cfef_7 : decode cJ2_indexOf_4cfef 7 = .ok (.aload_n 0, 1) := by decide +kernel
theorem dJ2_indexOf_4cfef_8 : decode cJ2_indexOf_4cfef 8 = .ok (.arraylength, 1) := by decide +kernel
theorem dJ2_indexOf_4cfef_9 : decode cJ2_indexOf_4cfef 9 = .ok (.iconst 1, 1) := by decide +kernel
theorem dJ2_indexOf_4cfef_10 : decode cJ2_indexOf_4cfef 10 = .ok (.ishr, 1) := by decide +kernel
theorem dJ2_indexOf_4cfef_11 : decode cJ2_indexOf_4cfef 11 = .ok (.invokestatic 183, 3) := by decide +kernel
theorem dJ2_indexOf_4cfef_14 : decode cJ2_indexOf_4cfef 14 = .ok (.istore_n 3, 1) := by decide +kernel
theorem dJ2_indexOf_4cfef_15 : decode cJ2_indexOf_4cfef 15 = .ok (.iload_n 2, 1) := by decide +kernel
theorem dJ2_indexOf_4cfef_16 : decode cJ2_indexOf_4cfef 16 = .ok (.iload_n 3, 1) := by decide +kernel
theorem dJ2_indexOf_4cfef_17 : decode cJ2_indexOf_4cfef 17 = .ok (.if_icmp .lt 5, 3) := by decide +kernel
theorem dJ2_indexOf_4cfef_20 : decode cJ2_indexOf_4cfef 20 = .ok (.iconst (-1), 1) := by decide +kernel
theorem dJ2_indexOf_4cfef_21 : decode cJ2_indexOf_4cfef 21 = .ok (.ireturn, 1) := by decide +kernel
theorem dJ2_indexOf_4cfef_22 : decode cJ2_indexOf_4cfef 22 = .ok (.iload_n 1, 1) := by decide +kernel
theorem dJ2_indexOf_4cfef_23 : decode cJ2_indexOf_4cfef 23 = .ok (.ldc 227, 2) := by decide +kernel
theorem dJ2_indexOf_4cfef_25 : decode cJ2_indexOf_4cfef 25 = .ok (.if_icmp .ge 11, 3) := by decide +kernel
theorem dJ2_indexOf_4cfef_28 : decode cJ2_indexOf_4cfef 28 = .ok (.aload_n 0, 1) := by decide +kernel
theorem dJ2_indexOf_4cfef_29 : decode cJ2_indexOf_4cfef 29 = .ok (.iload_n 1, 1) := by decide +kernel
theorem dJ2_indexOf_4cfef_30 : decode cJ2_indexOf_4cfef 30 = .ok (.iload_n 2, 1) := by decide +kernel
theorem dJ2_indexOf_4cfef_31 : decode cJ2_indexOf_4cfef 31 = .ok (.iload_n 3, 1) := by decide +kernel
theorem dJ2_indexOf_4cfef_32 : decode cJ2_indexOf_4cfef 32 = .ok (.invokestatic 228, 3) := by decide +kernel
theorem dJ2_indexOf_4cfef_35 : decode cJ2_indexOf_4cfef 35 = .ok (.ireturn, 1) := by decide +kernel
theorem dJ2_indexOf_4cfef_36 : decode cJ2_indexOf_4cfef 36 = .ok (.aload_n 0, 1) := by decide +kernel
theorem dJ2_indexOf_4cfef_37 : decode cJ2_indexOf_4cfef 37 = .ok (.iload_n 1, 1) := by decide +kernel
theorem dJ2_indexOf_4cfef_38 : decode cJ2_indexOf_4cfef 38 = .ok (.iload_n 2, 1) := by decide +kernel
theorem dJ2_indexOf_4cfef_39 : decode cJ2_indexOf_4cfef 39 = .ok (.iload_n 3, 1) := by decide +kernel
theorem dJ2_indexOf_4cfef_40 : decode cJ2_indexOf_4cfef 40 = .ok (.invokestatic 232, 3) := by decide +kernel
theorem dJ2_indexOf_4cfef_43 : decode cJ2_indexOf_4cfef 43 = .ok (.ireturn, 1) := by decide +kernel
theorem dJ2_indexOfChar_4cfef_0 : decode cJ2_indexOfChar_4cfef 0 = .ok (.iload_n 2, 1) := by decide +kernel
theorem dJ2_indexOfChar_4cfef_1 : decode cJ2_indexOfChar_4cfef 1 = .ok (.iload_n 3, 1) := by decide +kernel
theorem dJ2_indexOfChar_4cfef_2 : decode cJ2_indexOfChar_4cfef 2 = .ok (.aload_n 0, 1) := by decide +kernel
theorem dJ2_indexOfChar_4cfef_3 : decode cJ2_indexOfChar_4cfef 3 = .ok (.invokestatic 96, 3) := by decide +kernel
theorem dJ2_indexOfChar_4cfef_6 : decode cJ2_indexOfChar_4cfef 6 = .ok (.aload_n 0, 1) := by decide +kernel
theorem dJ2_indexOfChar_4cfef_7 : decode cJ2_indexOfChar_4cfef 7 = .ok (.iload_n 1, 1) := by decide +kernel
theorem dJ2_indexOfChar_4cfef_8 : decode cJ2_indexOfChar_4cfef 8 = .ok (.iload_n 2, 1) := by decide +kernel
theorem dJ2_indexOfChar_4cfef_9 : decode cJ2_indexOfChar_4cfef 9 = .ok (.iload_n 3, 1) := by decide +kernel
theorem dJ2_indexOfChar_4cfef_10 : decode cJ2_indexOfChar_4cfef 10 = .ok (.invokestatic 244, 3) := by decide +kernel
theorem dJ2_indexOfChar_4cfef_13 : decode cJ2_indexOfChar_4cfef 13 = .ok (.ireturn, 1) := by decide +kernel
theorem dJ2_indexOfCharUnsafe_4cfef_0 : decode cJ2_indexOfCharUnsafe_4cfef 0 = .ok (.iload_n 2, 1) := by decide +kernel
theorem dJ2_indexOfCharUnsafe_4cfef_1 : decode cJ2_indexOfCharUnsafe_4cfef 1 = .ok (.istore 4, 2) := by decide +kernel
theorem dJ2_indexOfCharUnsafe_4cfef_3 : decode cJ2_indexOfCharUnsafe_4cfef 3 = .ok (.iload 4, 2) := by decide +kernel
theorem dJ2_indexOfCharUnsafe_4cfef_5 : decode cJ2_indexOfCharUnsafe_4cfef 5 = .ok (.iload_n 3, 1) := by decide +kernel
theorem dJ2_indexOfCharUnsafe_4cfef_6 : decode cJ2_indexOfCharUnsafe_4cfef 6 = .ok (.if_icmp .ge 22, 3) := by decide +kernel
theorem dJ2_indexOfCharUnsafe_4cfef_9 : decode cJ2_indexOfCharUnsafe_4cfef 9 = .ok (.aload_n 0, 1) := by decide +kernel
theorem dJ2_indexOfCharUnsafe_4cfef_10 : decode cJ2_indexOfCharUnsafe_4cfef 10 = .ok (.iload 4, 2) := by decide +kernel
theorem dJ2_indexOfCharUnsafe_4cfef_12 : decode cJ2_indexOfCharUnsafe_4cfef 12 = .ok (.invokestatic 71, 3) := by decide +kernel
theorem dJ2_indexOfCharUnsafe_4cfef_15 : decode cJ2_indexOfCharUnsafe_4cfef 15 = .ok (.iload_n 1, 1) := by decide +kernel
theorem dJ2_indexOfCharUnsafe_4cfef_16 : decode cJ2_indexOfCharUnsafe_4cfef 16 = .ok (.if_icmp .ne 6, 3) := by decide +kernel
theorem dJ2_indexOfCharUnsafe_4cfef_19 : decode cJ2_indexOfCharUnsafe_4cfef 19 = .ok (.iload 4, 2) := by decide +kernel
theorem dJ2_indexOfCharUnsafe_4cfef_21 : decode cJ2_indexOfCharUnsafe_4cfef 21 = .ok (.ireturn, 1) := by decide +kernel
theorem dJ2_indexOfCharUnsafe_4cfef_22 : decode cJ2_indexOfCharUnsafe_4cfef 22 = .ok (.iinc 4 1, 3) := by decide +kernel
theorem dJ2_indexOfCharUnsafe_4cfef_25 : decode cJ2_indexOfCharUnsafe_4cfef 25 = .ok (.goto (-22), 3) := by decide +kernel
theorem dJ2_indexOfCharUnsafe_4cfef_28 : decode cJ2_indexOfCharUnsafe_4cfef 28 = .ok (.iconst (-1), 1) := by decide +kernel
theorem dJ2_indexOfCharUnsafe_4cfef_29 : decode cJ2_indexOfCharUnsafe_4cfef 29 = .ok (.ireturn, 1) := by decide +kernel
theorem dJ2_indexOfSupplementary_4cfef_0 : decode cJ2_indexOfSupplementary_4cfef 0 = .ok (.iload_n 1, 1) := by decide +kernel
theorem dJ2_indexOfSupplementary_4cfef_1 : decode cJ2_indexOfSupplementary_4cfef 1 = .ok (.invokestatic 164, 3) := by decide +kernel
theorem dJ2_indexOfSupplementary_4cfef_4 : decode cJ2_indexOfSupplementary_4cfef 4 = .ok (.ifCond .eq 65, 3) := by decide +kernel
theorem dJ2_indexOfSupplementary_4cfef_7 : decode cJ2_indexOfSupplementary_4cfef 7 = .ok (.iload_n 1, 1) := by decide +kernel
theorem dJ2_indexOfSupplementary_4cfef_8 : decode cJ2_indexOfSupplementary_4cfef 8 = .ok (.invokestatic 157, 3) := by decide +kernel
theorem dJ2_indexOfSupplementary_4cfef_11 : decode cJ2_indexOfSupplementary_4cfef 11 = .ok (.istore 4, 2) := by decide +kernel
theorem dJ2_indexOfSupplementary_4cfef_13 : decode cJ2_indexOfSupplementary_4cfef 13 = .ok (.iload_n 1, 1) := by decide +kernel
theorem dJ2_indexOfSupplementary_4cfef_14 : decode cJ2_indexOfSupplementary_4cfef 14 = .ok (.invokestatic 161, 3) := by decide +kernel
theorem dJ2_indexOfSupplementary_4cfef_17 : decode cJ2_indexOfSupplementary_4cfef 17 = .ok (.istore 5, 2) := by decide +kernel
theorem dJ2_indexOfSupplementary_4cfef_19 : decode cJ2_indexOfSupplementary_4cfef 19 = .ok (.iload_n 2, 1) := by decide +kernel
theorem dJ2_indexOfSupplementary_4cfef_20 : decode cJ2_indexOfSupplementary_4cfef 20 = .ok (.iload_n 3, 1) := by decide +kernel
theorem dJ2_indexOfSupplementary_4cfef_21 : decode cJ2_indexOfSupplementary_4cfef 21 = .ok (.aload_n 0, 1) := by decide +kernel
theorem dJ2_indexOfSupplementary_4cfef_22 : decode cJ2_indexOfSupplementary_4cfef 22 = .ok (.invokestatic 96, 3) := by decide +kernel
theorem dJ2_indexOfSupplementary_4cfef_25 : decode cJ2_indexOfSupplementary_4cfef 25 = .ok (.iload_n 2, 1) := by decide +kernel
theorem dJ2_indexOfSupplementary_4cfef_26 : decode cJ2_indexOfSupplementary_4cfef 26 = .ok (.istore 6, 2) := by decide +kernel
theorem dJ2_indexOfSupplementary_4cfef_28 : decode cJ2_indexOfSupplementary_4cfef 28 = .ok (.iload 6, 2) := by decide +kernel
theorem dJ2_indexOfSupplementary_4cfef_30 : decode cJ2_indexOfSupplementary_4cfef 30 = .ok (.iload_n 3, 1) := by decide +kernel
theorem dJ2_indexOfSupplementary_4cfef_31 : decode cJ2_indexOfSupplementary_4cfef 31 = .ok (.iconst 1, 1) := by decide +kernel
theorem dJ2_indexOfSupplementary_4cfef_32 : decode cJ2_indexOfSupplementary_4cfef 32 = .ok (.isub, 1) := by decide +kernel
theorem dJ2_indexOfSupplementary_4cfef_33 : decode cJ2_indexOfSupplementary_4cfef 33 = .ok (.if_icmp .ge 36, 3) := by decide +kernel
theorem dJ2_indexOfSupplementary_4cfef_36 : decode cJ2_indexOfSupplementary_4cfef 36 = .ok (.aload_n 0, 1) := by decide +kernel
theorem dJ2_indexOfSupplementary_4cfef_37 : decode cJ2_indexOfSupplementary_4cfef 37 = .ok (.iload 6, 2) := by decide +kernel
theorem dJ2_indexOfSupplementary_4cfef_39 : decode cJ2_indexOfSupplementary_4cfef 39 = .ok (.invokestatic 71, 3) := by decide +kernel
theorem dJ2_indexOfSupplementary_4cfef_42 : decode cJ2_indexOfSupplementary_4cfef 42 = .ok (.iload 4, 2) := by decide +kernel
theorem dJ2_indexOfSupplementary_4cfef_44 : decode cJ2_indexOfSupplementary_4cfef 44 = .ok (.if_icmp .ne 19, 3) := by decide +kernel
theorem dJ2_indexOfSupplementary_4cfef_47 : decode cJ2_indexOfSupplementary_4cfef 47 = .ok (.aload_n 0, 1) := by decide +kernel
theorem dJ2_indexOfSupplementary_4cfef_48 : decode cJ2_indexOfSupplementary_4cfef 48 = .ok (.iload 6, 2) := by decide +kernel
theorem dJ2_indexOfSupplementary_4cfef_50 : decode cJ2_indexOfSupplementary_4cfef 50 = .ok (.iconst 1, 1) := by decide +kernel
theorem dJ2_indexOfSupplementary_4cfef_51 : decode cJ2_indexOfSupplementary_4cfef 51 = .ok (.iadd, 1) := by decide +kernel
theorem dJ2_indexOfSupplementary_4cfef_52 : decode cJ2_indexOfSupplementary_4cfef 52 = .ok (.invokestatic 71, 3) := by decide +kernel
theorem dJ2_indexOfSupplementary_4cfef_55 : decode cJ2_indexOfSupplementary_4cfef 55 = .ok (.iload 5, 2) := by decide +kernel
theorem dJ2_indexOfSupplementary_4cfef_57 : decode cJ2_indexOfSupplementary_4cfef 57 = .ok (.if_icmp .ne 6, 3) := by decide +kernel
theorem dJ2_indexOfSupplementary_4cfef_60 : decode cJ2_indexOfSupplementary_4cfef 60 = .ok (.iload 6, 2) := by decide +kernel
theorem dJ2_indexOfSupplementary_4cfef_62 : decode cJ2_indexOfSupplementary_4cfef 62 = .ok (.ireturn, 1) := by decide +kernel
theorem dJ2_indexOfSupplementary_4cfef_63 : decode cJ2_indexOfSupplementary_4cfef 63 = .ok (.iinc 6 1, 3) := by decide +kernel
theorem dJ2_indexOfSupplementary_4cfef_66 : decode cJ2_indexOfSupplementary_4cfef 66 = .ok (.goto (-38), 3) := by decide +kernel
theorem dJ2_indexOfSupplementary_4cfef_69 : decode cJ2_indexOfSupplementary_4cfef 69 = .ok (.iconst (-1), 1) := by decide +kernel
theorem dJ2_indexOfSupplementary_4cfef_70 : decode cJ2_indexOfSupplementary_4cfef 70 = .ok (.ireturn, 1) := by decide +kernel
theorem dJ2_checkBoundsBeginEnd_d044e_0 : decode cJ2_checkBoundsBeginEnd_d044e 0 = .ok (.iload_n 0, 1) := by decide +kernel
theorem dJ2_checkBoundsBeginEnd_d044e_1 : decode cJ2_checkBoundsBeginEnd_d044e 1 = .ok (.iload_n 1, 1) := by decide +kernel
theorem dJ2_checkBoundsBeginEnd_d044e_2 : decode cJ2_checkBoundsBeginEnd_d044e 2 = .ok (.aload_n 2, 1) := by decide +kernel
theorem dJ2_checkBoundsBeginEnd_d044e_3 : decode cJ2_checkBoundsBeginEnd_d044e 3 = .ok (.invokestatic 48, 3) := by decide +kernel
theorem dJ2_checkBoundsBeginEnd_d044e_6 : decode cJ2_checkBoundsBeginEnd_d044e 6 = .ok (.invokestatic 241, 3) := by decide +kernel
theorem dJ2_checkBoundsBeginEnd_d044e_9 : decode cJ2_checkBoundsBeginEnd_d044e 9 = .ok (.return_, 1) := by decide +kernel
theorem dJ3_checkFromToIndex_8c36e_0 : decode cJ3_checkFromToIndex_8c36e 0 = .ok (.iload_n 0, 1) := by decide +kernel
theorem dJ3_checkFromToIndex_8c36e_1 : decode cJ3_checkFromToIndex_8c36e 1 = .ok (.ifCond .lt 13, 3) := by decide +kernel
theorem dJ3_checkFromToIndex_8c36e_4 : decode cJ3_checkFromToIndex_8c36e 4 = .ok (.iload_n 0, 1) := by decide +kernel
theorem dJ3_checkFromToIndex_8c36e_5 : decode cJ3_checkFromToIndex_8c36e 5 = .ok (.iload_n 1, 1) := by decide +kernel
theorem dJ3_checkFromToIndex_8c36e_6 : decode cJ3_checkFromToIndex_8c36e 6 = .ok (.if_icmp .gt 8, 3) := by decide +kernel
theorem dJ3_checkFromToIndex_8c36e_9 : decode cJ3_checkFromToIndex_8c36e 9 = .ok (.iload_n 1, 1) := by decide +kernel
theorem dJ3_checkFromToIndex_8c36e_10 : decode cJ3_checkFromToIndex_8c36e 10 = .ok (.iload_n 2, 1) := by decide +kernel
theorem dJ3_checkFromToIndex_8c36e_11 : decode cJ3_checkFromToIndex_8c36e 11 = .ok (.if_icmp .le 11, 3) := by decide +kernel
theorem dJ3_checkFromToIndex_8c36e_14 : decode cJ3_checkFromToIndex_8c36e 14 = .ok (.aload_n 3, 1) := by decide +kernel
theorem dJ3_checkFromToIndex_8c36e_15 : decode cJ3_checkFromToIndex_8c36e 15 = .ok (.iload_n 0, 1) := by decide +kernel
theorem dJ3_checkFromToIndex_8c36e_16 : decode cJ3_checkFromToIndex_8c36e 16 = .ok (.iload_n 1, 1) := by decide +kernel
theorem dJ3_checkFromToIndex_8c36e_17 : decode cJ3_checkFromToIndex_8c36e 17 = .ok (.iload_n 2, 1) := by decide +kernel
theorem dJ3_checkFromToIndex_8c36e_18 : decode cJ3_checkFromToIndex_8c36e 18 = .ok (.invokestatic 99, 3) := by decide +kernel
theorem dJ3_checkFromToIndex_8c36e_21 : decode cJ3_checkFromToIndex_8c36e 21 = .ok (.athrow, 1) := by decide +kernel
theorem dJ3_checkFromToIndex_8c36e_22 : decode cJ3_checkFromToIndex_8c36e 22 = .ok (.iload_n 0, 1) := by decide +kernel
theorem dJ3_checkFromToIndex_8c36e_23 : decode cJ3_checkFromToIndex_8c36e 23 = .ok (.ireturn, 1) := by decide +kernel
end
section
theorem dX10_init_0 : decode cX10_init 0 = .ok (.aload_n 0, 1) := by decide +kernel
theorem dX10_init_1 : decode cX10_init 1 = .ok (.invokespecial 1, 3) := by decide +kernel
theorem dX10_init_4 : decode cX10_init 4 = .ok (.aload_n 0, 1) := by decide +kernel
theorem dX10_init_5 : decode cX10_init 5 = .ok (.new 7, 3) := by decide +kernel
theorem dX10_init_8 : decode cX10_init 8 = .ok (.dup, 1) := by decide +kernel
theorem dX10_init_9 : decode cX10_init 9 = .ok (.invokespecial 9, 3) := by decide +kernel
theorem dX10_init_12 : decode cX10_init 12 = .ok (.putfield 10, 3) := by decide +kernel
theorem dX10_init_15 : decode cX10_init 15 = .ok (.aload_n 0, 1) := by decide +kernel
theorem dX10_init_16 : decode cX10_init 16 = .ok (.new 16, 3) := by decide +kernel
theorem dX10_init_19 : decode cX10_init 19 = .ok (.dup, 1) := by decide +kernel
theorem dX10_init_20 : decode cX10_init 20 = .ok (.invokespecial 18, 3) := by decide +kernel
theorem dX10_init_23 : decode cX10_init 23 = .ok (.putfield 19, 3) := by decide +kernel
theorem dX10_init_26 : decode cX10_init 26 = .ok (.aload_n 0, 1) := by decide +kernel
theorem dX10_init_27 : decode cX10_init 27 = .ok (.new 23, 3) := by decide +kernel
theorem dX10_init_30 : decode cX10_init 30 = .ok (.dup, 1) := by decide +kernel
theorem dX10_init_31 : decode cX10_init 31 = .ok (.invokespecial 25, 3) := by decide +kernel
theorem dX10_init_34 : decode cX10_init 34 = .ok (.putfield 26, 3) := by decide +kernel
theorem dX10_init_37 : decode cX10_init 37 = .ok (.aload_n 0, 1) := by decide +kernel
theorem dX10_init_38 : decode cX10_init 38 = .ok (.new 30, 3) := by decide +kernel
theorem dX10_init_41 : decode cX10_init 41 = .ok (.dup, 1) := by decide +kernel
theorem dX10_init_42 : decode cX10_init 42 = .ok (.invokespecial 32, 3) := by decide +kernel
theorem dX10_init_45 : decode cX10_init 45 = .ok (.putfield 33, 3) := by decide +kernel
theorem dX10_init_48 : decode cX10_init 48 = .ok (.aload_n 0, 1) := by decide +kernel
theorem dX10_init_49 : decode cX10_init 49 = .ok (.new 37, 3) := by decide +kernel
theorem dX10_init_52 : decode cX10_init 52 = .ok (.dup, 1) := by decide +kernel
theorem dX10_init_53 : decode cX10_init 53 = .ok (.invokespecial 39, 3) := by decide +kernel
theorem dX10_init_56 : decode cX10_init 56 = .ok (.putfield 40, 3) := by decide +kernel
theorem dX10_init_59 : decode cX10_init 59 = .ok (.aload_n 0, 1) := by decide +kernel
theorem dX10_init_60 : decode cX10_init 60 = .ok (.new 44, 3) := by decide +kernel
theorem dX10_init_63 : decode cX10_init 63 = .ok (.dup, 1) := by decide +kernel
theorem dX10_init_64 : decode cX10_init 64 = .ok (.invokespecial 46, 3) := by decide +kernel
theorem dX10_init_67 : decode cX10_init 67 = .ok (.putfield 47, 3) := by decide +kernel
theorem dX10_init_70 : decode cX10_init 70 = .ok (.aload_n 0, 1) := by decide +kernel
theorem dX10_init_71 : decode cX10_init 71 = .ok (.new 51, 3) := by decide +kernel
theorem dX10_init_74 : decode cX10_init 74 = .ok (.dup, 1) := by decide +kernel
theorem dX10_init_75 : decode cX10_init 75 = .ok (.invokespecial 53, 3) := by decide +kernel
theorem dX10_init_78 : decode cX10_init 78 = .ok (.putfield 54, 3) := by decide +kernel
theorem dX10_init_81 : decode cX10_init 81 = .ok (.aload_n 0, 1) := by decide +kernel
theorem dX10_init_82 : decode cX10_init 82 = .ok (.new 58, 3) := by decide +kernel
theorem dX10_init_85 : decode cX10_init 85 = .ok (.dup, 1) := by decide +kernel
theorem dX10_init_86 : decode cX10_init 86 = .ok (.invokespecial 60, 3) := by decide +kernel
theorem dX10_init_89 : decode cX10_init 89 = .ok (.putfield 61, 3) := by decide +kernel
theorem dX10_init_92 : decode cX10_init 92 = .ok (.aload_n 0, 1) := by decide +kernel
theorem dX10_init_93 : decode cX10_init 93 = .ok (.new 65, 3) := by decide +kernel
theorem dX10_init_96 : decode cX10_init 96 = .ok (.dup, 1) := by decide +kernel
theorem dX10_init_97 : decode cX10_init 97 = .ok (.invokespecial 67, 3) := by decide +kernel
theorem dX10_init_100 : decode cX10_init 100 = .ok (.putfield 68, 3) := by decide +kernel
theorem dX10_init_103 : decode cX10_init 103 = .ok (.aload_n 0, 1) := by decide +kernel
theorem dX10_init_104 : decode cX10_init 104 = .ok (.new 72, 3) := by decide +kernel
theorem dX10_init_107 : decode cX10_init 107 = .ok (.dup, 1) := by decide +kernel
theorem dX10_init_108 : decode cX10_init 108 = .ok (.invokespecial 74, 3) := by decide +kernel
theorem dX10_init_111 : decode cX10_init 111 = .ok (.putfield 75, 3) := by decide +kernel
theorem dX10_init_114 : decode cX10_init 114 = .ok (.aload_n 0, 1) := by decide +kernel
theorem dX10_init_115 : decode cX10_init 115 = .ok (.iconst 2, 1) := by decide +kernel
theorem dX10_init_116 : decode cX10_init 116 = .ok (.anewarray 58, 3) := by decide +kernel
theorem dX10_init_119 : decode cX10_init 119 = .ok (.dup, 1) := by decide +kernel
theorem dX10_init_120 : decode cX10_init 120 = .ok (.iconst 0, 1) := by decide +kernel
theorem dX10_init_121 : decode cX10_init 121 = .ok (.new 58, 3) := by decide +kernel
theorem dX10_init_124 : decode cX10_init 124 = .ok (.dup, 1) := by decide +kernel
theorem dX10_init_125 : decode cX10_init 125 = .ok (.invokespecial 60, 3) := by decide +kernel
theorem dX10_init_128 : decode cX10_init 128 = .ok (.aastore, 1) := by decide +kernel
theorem dX10_init_129 : decode cX10_init 129 = .ok (.dup, 1) := by decide +kernel
theorem dX10_init_130 : decode cX10_init 130 = .ok (.iconst 1, 1) := by decide +kernel
theorem dX10_init_131 : decode cX10_init 131 = .ok (.new 58, 3) := by decide +kernel
theorem dX10_init_134 : decode cX10_init 134 = .ok (.dup, 1) := by decide +kernel
theorem dX10_init_135 : decode cX10_init 135 = .ok (.invokespecial 60, 3) := by decide +kernel
theorem dX10_init_138 : decode cX10_init 138 = .ok (.aastore, 1) := by decide +kernel
theorem dX10_init_139 : decode cX10_init 139 = .ok (.putfield 79, 3) := by decide +kernel
theorem dX10_init_142 : decode cX10_init 142 = .ok (.return_, 1) := by decide +kernel
theorem dX10_write_0 : decode cX10_write 0 = .ok (.iload_n 1, 1) := by decide +kernel
theorem dX10_write_1 : decode cX10_write 1 = .ok (.iconst 1, 1) := by decide +kernel
theorem dX10_write_2 : decode cX10_write 2 = .ok (.bipush 8, 2) := by decide +kernel
theorem dX10_write_4 : decode cX10_write 4 = .ok (.invokestatic 83, 3) := by decide +kernel
theorem dX10_write_7 : decode cX10_write 7 = .ok (.ifCond .ne 6, 3) := by decide +kernel
theorem dX10_write_10 : decode cX10_write 10 = .ok (.bipush (-2), 2) := by decide +kernel
theorem dX10_write_12 : decode cX10_write 12 = .ok (.ireturn, 1) := by decide +kernel
theorem dX10_write_13 : decode cX10_write 13 = .ok (.aload_n 0, 1) := by decide +kernel
theorem dX10_write_14 : decode cX10_write 14 = .ok (.getfield 10, 3) := by decide +kernel
theorem dX10_write_17 : decode cX10_write 17 = .ok (.iload_n 1, 1) := by decide +kernel
theorem dX10_write_18 : decode cX10_write 18 = .ok (.invokevirtual 87, 3) := by decide +kernel
theorem dX10_write_21 : decode cX10_write 21 = .ok (.ifCond .ne 6, 3) := by decide +kernel
theorem dX10_write_24 : decode cX10_write 24 = .ok (.bipush (-4), 2) := by decide +kernel
theorem dX10_write_26 : decode cX10_write 26 = .ok (.ireturn, 1) := by decide +kernel
theorem dX10_write_27 : decode cX10_write 27 = .ok (.aload_n 0, 1) := by decide +kernel
theorem dX10_write_28 : decode cX10_write 28 = .ok (.getfield 10, 3) := by decide +kernel
theorem dX10_write_31 : decode cX10_write 31 = .ok (.iload_n 1, 1) := by decide +kernel
theorem dX10_write_32 : decode cX10_write 32 = .ok (.lload_n 2, 1) := by decide +kernel
theorem dX10_write_33 : decode cX10_write 33 = .ok (.invokevirtual 91, 3) := by decide +kernel
theorem dX10_write_36 : decode cX10_write 36 = .ok (.aload_n 0, 1) := by decide +kernel
theorem dX10_write_37 : decode cX10_write 37 = .ok (.getfield 10, 3) := by decide +kernel
theorem dX10_write_40 : decode cX10_write 40 = .ok (.getfield 95, 3) := by decide +kernel
theorem dX10_write_43 : decode cX10_write 43 = .ok (.ireturn, 1) := by decide +kernel
theorem dX10_wipe_0 : decode cX10_wipe 0 = .ok (.aload_n 0, 1) := by decide +kernel
theorem dX10_wipe_1 : decode cX10_wipe 1 = .ok (.getfield 10, 3) := by decide +kernel
theorem dX10_wipe_4 : decode cX10_wipe 4 = .ok (.getfield 95, 3) := by decide +kernel
theorem dX10_wipe_7 : decode cX10_wipe 7 = .ok (.istore_n 1, 1) := by decide +kernel
theorem dX10_wipe_8 : decode cX10_wipe 8 = .ok (.aload_n 0, 1) := by decide +kernel
theorem dX10_wipe_9 : decode cX10_wipe 9 = .ok (.getfield 10, 3) := by decide +kernel
theorem dX10_wipe_12 : decode cX10_wipe 12 = .ok (.iconst 0, 1) := by decide +kernel
theorem dX10_wipe_13 : decode cX10_wipe 13 = .ok (.putfield 95, 3) := by decide +kernel
theorem dX10_wipe_16 : decode cX10_wipe 16 = .ok (.iload_n 1, 1) := by decide +kernel
theorem dX10_wipe_17 : decode cX10_wipe 17 = .ok (.ireturn, 1) := by decide +kernel
theorem dX10_fault_0 : decode cX10_fault 0 = .ok (.iload_n 1, 1) := by decide +kernel
theorem dX10_fault_1 : decode cX10_fault 1 = .ok (.ifCond .eq 17, 3) := by decide +kernel
theorem dX10_fault_4 : decode cX10_fault 4 = .ok (.aload_n 0, 1) := by decide +kernel
theorem dX10_fault_5 : decode cX10_fault 5 = .ok (.getfield 26, 3) := by decide +kernel
theorem dX10_fault_8 : decode cX10_fault 8 = .ok (.aload_n 0, 1) := by decide +kernel
theorem dX10_fault_9 : decode cX10_fault 9 = .ok (.getfield 10, 3) := by decide +kernel
theorem dX10_fault_12 : decode cX10_fault 12 = .ok (.invokevirtual 99, 3) := by decide +kernel
theorem dX10_fault_15 : decode cX10_fault 15 = .ok (.goto 14, 3) := by decide +kernel
theorem dX10_fault_18 : decode cX10_fault 18 = .ok (.aload_n 0, 1) := by decide +kernel
theorem dX10_fault_19 : decode cX10_fault 19 = .ok (.getfield 19, 3) := by decide +kernel
theorem dX10_fault_22 : decode cX10_fault 22 = .ok (.aload_n 0, 1) := by decide +kernel
theorem dX10_fault_23 : decode cX10_fault 23 = .ok (.getfield 10, 3) := by decide +kernel
theorem dX10_fault_26 : decode cX10_fault 26 = .ok (.invokevirtual 103, 3) := by decide +kernel
theorem dX10_fault_29 : decode cX10_fault 29 = .ok (.ireturn, 1) := by decide +kernel
theorem dX10_law_0 : decode cX10_law 0 = .ok (.aload_n 0, 1) := by decide +kernel
theorem dX10_law_1 : decode cX10_law 1 = .ok (.getfield 19, 3) := by decide +kernel
theorem dX10_law_4 : decode cX10_law 4 = .ok (.aload_n 0, 1) := by decide +kernel
theorem dX10_law_5 : decode cX10_law 5 = .ok (.getfield 10, 3) := by decide +kernel
theorem dX10_law_8 : decode cX10_law 8 = .ok (.invokevirtual 103, 3) := by decide +kernel
theorem dX10_law_11 : decode cX10_law 11 = .ok (.bipush (-9), 2) := by decide +kernel
theorem dX10_law_13 : decode cX10_law 13 = .ok (.if_icmp .eq 6, 3) := by decide +kernel
theorem dX10_law_16 : decode cX10_law 16 = .ok (.bipush (-3), 2) := by decide +kernel
theorem dX10_law_18 : decode cX10_law 18 = .ok (.ireturn, 1) := by decide +kernel
theorem dX10_law_19 : decode cX10_law 19 = .ok (.aload_n 0, 1) := by decide +kernel
theorem dX10_law_20 : decode cX10_law 20 = .ok (.getfield 19, 3) := by decide +kernel
theorem dX10_law_23 : decode cX10_law 23 = .ok (.aload_n 0, 1) := by decide +kernel
theorem dX10_law_24 : decode cX10_law 24 = .ok (.getfield 33, 3) := by decide +kernel
theorem dX10_law_27 : decode cX10_law 27 = .ok (.invokevirtual 104, 3) := by decide +kernel
theorem dX10_law_30 : decode cX10_law 30 = .ok (.aload_n 0, 1) := by decide +kernel
theorem dX10_law_31 : decode cX10_law 31 = .ok (.getfield 19, 3) := by decide +kernel
theorem dX10_law_34 : decode cX10_law 34 = .ok (.getfield 108, 3) := by decide +kernel
theorem dX10_law_37 : decode cX10_law 37 = .ok (.ireturn, 1) := by decide +kernel
theorem dX10_lawful_0 : decode cX10_lawful 0 = .ok (.iload_n 1, 1) := by decide +kernel
theorem dX10_lawful_1 : decode cX10_lawful 1 = .ok (.iconst 0, 1) := by decide +kernel
theorem dX10_lawful_2 : decode cX10_lawful 2 = .ok (.bipush 11, 2) := by decide +kernel
theorem dX10_lawful_4 : decode cX10_lawful 4 = .ok (.invokestatic 83, 3) := by decide +kernel
theorem dX10_lawful_7 : decode cX10_lawful 7 = .ok (.ifCond .ne 6, 3) := by decide +kernel
theorem dX10_lawful_10 : decode cX10_lawful 10 = .ok (.bipush (-2), 2) := by decide +kernel
theorem dX10_lawful_12 : decode cX10_lawful 12 = .ok (.ireturn, 1) := by decide +kernel
theorem dX10_lawful_13 : decode cX10_lawful 13 = .ok (.aload_n 0, 1) := by decide +kernel
theorem dX10_lawful_14 : decode cX10_lawful 14 = .ok (.getfield 33, 3) := by decide +kernel
theorem dX10_lawful_17 : decode cX10_lawful 17 = .ok (.getfield 111, 3) := by decide +kernel
theorem dX10_lawful_20 : decode cX10_lawful 20 = .ok (.iload_n 1, 1) := by decide +kernel
theorem dX10_lawful_21 : decode cX10_lawful 21 = .ok (.iaload, 1) := by decide +kernel
theorem dX10_lawful_22 : decode cX10_lawful 22 = .ok (.ireturn, 1) := by decide +kernel
theorem dX10_story_0 : decode cX10_story 0 = .ok (.iload_n 1, 1) := by decide +kernel
theorem dX10_story_1 : decode cX10_story 1 = .ok (.invokestatic 115, 3) := by decide +kernel
theorem dX10_story_4 : decode cX10_story 4 = .ok (.ifCond .ne 5, 3) := by decide +kernel
theorem dX10_story_7 : decode cX10_story 7 = .ok (.iconst (-1), 1) := by decide +kernel
theorem dX10_story_8 : decode cX10_story 8 = .ok (.ireturn, 1) := by decide +kernel
theorem dX10_story_9 : decode cX10_story 9 = .ok (.aload_n 0, 1) := by decide +kernel
theorem dX10_story_10 : decode cX10_story 10 = .ok (.getfield 26, 3) := by decide +kernel
theorem dX10_story_13 : decode cX10_story 13 = .ok (.aload_n 0, 1) := by decide +kernel
theorem dX10_story_14 : decode cX10_story 14 = .ok (.getfield 10, 3) := by decide +kernel
theorem dX10_story_17 : decode cX10_story 17 = .ok (.invokevirtual 99, 3) := by decide +kernel
theorem dX10_story_20 : decode cX10_story 20 = .ok (.bipush (-9), 2) := by decide +kernel
theorem dX10_story_22 : decode cX10_story 22 = .ok (.if_icmp .eq 6, 3) := by decide +kernel
theorem dX10_story_25 : decode cX10_story 25 = .ok (.bipush (-3), 2) := by decide +kernel
theorem dX10_story_27 : decode cX10_story 27 = .ok (.ireturn, 1) := by decide +kernel
theorem dX10_story_28 : decode cX10_story 28 = .ok (.aload_n 0, 1) := by decide +kernel
theorem dX10_story_29 : decode cX10_story 29 = .ok (.getfield 26, 3) := by decide +kernel
theorem dX10_story_32 : decode cX10_story 32 = .ok (.aload_n 0, 1) := by decide +kernel
theorem dX10_story_33 : decode cX10_story 33 = .ok (.getfield 54, 3) := by decide +kernel
theorem dX10_story_36 : decode cX10_story 36 = .ok (.iload_n 1, 1) := by decide +kernel
theorem dX10_story_37 : decode cX10_story 37 = .ok (.invokevirtual 118, 3) := by decide +kernel
theorem dX10_story_40 : decode cX10_story 40 = .ok (.aload_n 0, 1) := by decide +kernel
theorem dX10_story_41 : decode cX10_story 41 = .ok (.getfield 26, 3) := by decide +kernel
theorem dX10_story_44 : decode cX10_story 44 = .ok (.getfield 121, 3) := by decide +kernel
theorem dX10_story_47 : decode cX10_story 47 = .ok (.ireturn, 1) := by decide +kernel
theorem dX10_lived_0 : decode cX10_lived 0 = .ok (.iload_n 1, 1) := by decide +kernel
theorem dX10_lived_1 : decode cX10_lived 1 = .ok (.invokestatic 115, 3) := by decide +kernel
theorem dX10_lived_4 : decode cX10_lived 4 = .ok (.ifCond .ne 5, 3) := by decide +kernel
theorem dX10_lived_7 : decode cX10_lived 7 = .ok (.iconst (-1), 1) := by decide +kernel
theorem dX10_lived_8 : decode cX10_lived 8 = .ok (.ireturn, 1) := by decide +kernel
theorem dX10_lived_9 : decode cX10_lived 9 = .ok (.iload_n 2, 1) := by decide +kernel
theorem dX10_lived_10 : decode cX10_lived 10 = .ok (.invokestatic 124, 3) := by decide +kernel
theorem dX10_lived_13 : decode cX10_lived 13 = .ok (.ifCond .eq 10, 3) := by decide +kernel
theorem dX10_lived_16 : decode cX10_lived 16 = .ok (.iload_n 3, 1) := by decide +kernel
theorem dX10_lived_17 : decode cX10_lived 17 = .ok (.invokestatic 127, 3) := by decide +kernel
theorem dX10_lived_20 : decode cX10_lived 20 = .ok (.ifCond .ne 6, 3) := by decide +kernel
theorem dX10_lived_23 : decode cX10_lived 23 = .ok (.bipush (-2), 2) := by decide +kernel
theorem dX10_lived_25 : decode cX10_lived 25 = .ok (.ireturn, 1) := by decide +kernel
theorem dX10_lived_26 : decode cX10_lived 26 = .ok (.iconst 0, 1) := by decide +kernel
theorem dX10_lived_27 : decode cX10_lived 27 = .ok (.istore 4, 2) := by decide +kernel
theorem dX10_lived_29 : decode cX10_lived 29 = .ok (.iload_n 2, 1) := by decide +kernel
theorem dX10_lived_30 : decode cX10_lived 30 = .ok (.iload_n 3, 1) := by decide +kernel
theorem dX10_lived_31 : decode cX10_lived 31 = .ok (.invokestatic 130, 3) := by decide +kernel
theorem dX10_lived_34 : decode cX10_lived 34 = .ok (.istore 5, 2) := by decide +kernel
theorem dX10_lived_36 : decode cX10_lived 36 = .ok (.iconst 0, 1) := by decide +kernel
theorem dX10_lived_37 : decode cX10_lived 37 = .ok (.istore 6, 2) := by decide +kernel
theorem dX10_lived_39 : decode cX10_lived 39 = .ok (.iload 6, 2) := by decide +kernel
theorem dX10_lived_41 : decode cX10_lived 41 = .ok (.bipush 100, 2) := by decide +kernel
theorem dX10_lived_43 : decode cX10_lived 43 = .ok (.if_icmp .ge 49, 3) := by decide +kernel
theorem dX10_lived_46 : decode cX10_lived 46 = .ok (.iload 5, 2) := by decide +kernel
theorem dX10_lived_48 : decode cX10_lived 48 = .ok (.invokestatic 134, 3) := by decide +kernel
theorem dX10_lived_51 : decode cX10_lived 51 = .ok (.istore 7, 2) := by decide +kernel
theorem dX10_lived_53 : decode cX10_lived 53 = .ok (.aload_n 0, 1) := by decide +kernel
theorem dX10_lived_54 : decode cX10_lived 54 = .ok (.getfield 54, 3) := by decide +kernel
theorem dX10_lived_57 : decode cX10_lived 57 = .ok (.iload_n 1, 1) := by decide +kernel
theorem dX10_lived_58 : decode cX10_lived 58 = .ok (.iload 6, 2) := by decide +kernel
theorem dX10_lived_60 : decode cX10_lived 60 = .ok (.iload 7, 2) := by decide +kernel
theorem dX10_lived_62 : decode cX10_lived 62 = .ok (.invokevirtual 138, 3) := by decide +kernel
theorem dX10_lived_65 : decode cX10_lived 65 = .ok (.iload 7, 2) := by decide +kernel
theorem dX10_lived_67 : decode cX10_lived 67 = .ok (.bipush 63, 2) := by decide +kernel
theorem dX10_lived_69 : decode cX10_lived 69 = .ok (.if_icmp .ne 6, 3) := by decide +kernel
theorem dX10_lived_72 : decode cX10_lived 72 = .ok (.iinc 4 1, 3) := by decide +kernel
theorem dX10_lived_75 : decode cX10_lived 75 = .ok (.aload_n 0, 1) := by decide +kernel
theorem dX10_lived_76 : decode cX10_lived 76 = .ok (.getfield 33, 3) := by decide +kernel
theorem dX10_lived_79 : decode cX10_lived 79 = .ok (.iload 5, 2) := by decide +kernel
theorem dX10_lived_81 : decode cX10_lived 81 = .ok (.invokevirtual 142, 3) := by decide +kernel
theorem dX10_lived_84 : decode cX10_lived 84 = .ok (.istore 5, 2) := by decide +kernel
theorem dX10_lived_86 : decode cX10_lived 86 = .ok (.iinc 6 1, 3) := by decide +kernel
theorem dX10_lived_89 : decode cX10_lived 89 = .ok (.goto (-50), 3) := by decide +kernel
theorem dX10_lived_92 : decode cX10_lived 92 = .ok (.iload 4, 2) := by decide +kernel
theorem dX10_lived_94 : decode cX10_lived 94 = .ok (.ireturn, 1) := by decide +kernel
theorem dX10_at_0 : decode cX10_at 0 = .ok (.iload_n 1, 1) := by decide +kernel
theorem dX10_at_1 : decode cX10_at 1 = .ok (.invokestatic 115, 3) := by decide +kernel
theorem dX10_at_4 : decode cX10_at 4 = .ok (.ifCond .ne 5, 3) := by decide +kernel
theorem dX10_at_7 : decode cX10_at 7 = .ok (.iconst (-1), 1) := by decide +kernel
theorem dX10_at_8 : decode cX10_at 8 = .ok (.ireturn, 1) := by decide +kernel
theorem dX10_at_9 : decode cX10_at 9 = .ok (.iload_n 2, 1) := by decide +kernel
theorem dX10_at_10 : decode cX10_at 10 = .ok (.invokestatic 145, 3) := by decide +kernel
theorem dX10_at_13 : decode cX10_at 13 = .ok (.ifCond .ne 6, 3) := by decide +kernel
theorem dX10_at_16 : decode cX10_at 16 = .ok (.bipush (-2), 2) := by decide +kernel
theorem dX10_at_18 : decode cX10_at 18 = .ok (.ireturn, 1) := by decide +kernel
theorem dX10_at_19 : decode cX10_at 19 = .ok (.aload_n 0, 1) := by decide +kernel
theorem dX10_at_20 : decode cX10_at 20 = .ok (.getfield 54, 3) := by decide +kernel
theorem dX10_at_23 : decode cX10_at 23 = .ok (.iload_n 1, 1) := by decide +kernel
theorem dX10_at_24 : decode cX10_at 24 = .ok (.iload_n 2, 1) := by decide +kernel
theorem dX10_at_25 : decode cX10_at 25 = .ok (.invokevirtual 148, 3) := by decide +kernel
theorem dX10_at_28 : decode cX10_at 28 = .ok (.ireturn, 1) := by decide +kernel
theorem dX10_warmth_0 : decode cX10_warmth 0 = .ok (.iload_n 1, 1) := by decide +kernel
theorem dX10_warmth_1 : decode cX10_warmth 1 = .ok (.invokestatic 151, 3) := by decide +kernel
theorem dX10_warmth_4 : decode cX10_warmth 4 = .ok (.ifCond .ne 5, 3) := by decide +kernel
theorem dX10_warmth_7 : decode cX10_warmth 7 = .ok (.iconst (-1), 1) := by decide +kernel
theorem dX10_warmth_8 : decode cX10_warmth 8 = .ok (.ireturn, 1) := by decide +kernel
theorem dX10_warmth_9 : decode cX10_warmth 9 = .ok (.iload_n 2, 1) := by decide +kernel
theorem dX10_warmth_10 : decode cX10_warmth 10 = .ok (.invokestatic 124, 3) := by decide +kernel
theorem dX10_warmth_13 : decode cX10_warmth 13 = .ok (.ifCond .eq 10, 3) := by decide +kernel
theorem dX10_warmth_16 : decode cX10_warmth 16 = .ok (.iload_n 3, 1) := by decide +kernel
theorem dX10_warmth_17 : decode cX10_warmth 17 = .ok (.invokestatic 127, 3) := by decide +kernel
theorem dX10_warmth_20 : decode cX10_warmth 20 = .ok (.ifCond .ne 6, 3) := by decide +kernel
theorem dX10_warmth_23 : decode cX10_warmth 23 = .ok (.bipush (-2), 2) := by decide +kernel
theorem dX10_warmth_25 : decode cX10_warmth 25 = .ok (.ireturn, 1) := by decide +kernel
theorem dX10_warmth_26 : decode cX10_warmth 26 = .ok (.aload_n 0, 1) := by decide +kernel
theorem dX10_warmth_27 : decode cX10_warmth 27 = .ok (.getfield 33, 3) := by decide +kernel
theorem dX10_warmth_30 : decode cX10_warmth 30 = .ok (.iload_n 1, 1) := by decide +kernel
theorem dX10_warmth_31 : decode cX10_warmth 31 = .ok (.iload_n 2, 1) := by decide +kernel
theorem dX10_warmth_32 : decode cX10_warmth 32 = .ok (.iload_n 3, 1) := by decide +kernel
theorem dX10_warmth_33 : decode cX10_warmth 33 = .ok (.invokevirtual 154, 3) := by decide +kernel
theorem dX10_warmth_36 : decode cX10_warmth 36 = .ok (.ireturn, 1) := by decide +kernel
theorem dX10_round_0 : decode cX10_round 0 = .ok (.iload_n 1, 1) := by decide +kernel
theorem dX10_round_1 : decode cX10_round 1 = .ok (.invokestatic 124, 3) := by decide +kernel
theorem dX10_round_4 : decode cX10_round 4 = .ok (.ifCond .eq 10, 3) := by decide +kernel
theorem dX10_round_7 : decode cX10_round 7 = .ok (.iload_n 2, 1) := by decide +kernel
theorem dX10_round_8 : decode cX10_round 8 = .ok (.invokestatic 127, 3) := by decide +kernel
theorem dX10_round_11 : decode cX10_round 11 = .ok (.ifCond .ne 6, 3) := by decide +kernel
theorem dX10_round_14 : decode cX10_round 14 = .ok (.bipush (-2), 2) := by decide +kernel
theorem dX10_round_16 : decode cX10_round 16 = .ok (.ireturn, 1) := by decide +kernel
theorem dX10_round_17 : decode cX10_round 17 = .ok (.aload_n 0, 1) := by decide +kernel
theorem dX10_round_18 : decode cX10_round 18 = .ok (.getfield 33, 3) := by decide +kernel
theorem dX10_round_21 : decode cX10_round 21 = .ok (.iload_n 1, 1) := by decide +kernel
theorem dX10_round_22 : decode cX10_round 22 = .ok (.iload_n 2, 1) := by decide +kernel
theorem dX10_round_23 : decode cX10_round 23 = .ok (.invokestatic 130, 3) := by decide +kernel
theorem dX10_round_26 : decode cX10_round 26 = .ok (.invokevirtual 142, 3) := by decide +kernel
theorem dX10_round_29 : decode cX10_round 29 = .ok (.ireturn, 1) := by decide +kernel
theorem dX10_after_0 : decode cX10_after 0 = .ok (.iload_n 1, 1) := by decide +kernel
theorem dX10_after_1 : decode cX10_after 1 = .ok (.invokestatic 124, 3) := by decide +kernel
theorem dX10_after_4 : decode cX10_after 4 = .ok (.ifCond .eq 20, 3) := by decide +kernel
theorem dX10_after_7 : decode cX10_after 7 = .ok (.iload_n 2, 1) := by decide +kernel
theorem dX10_after_8 : decode cX10_after 8 = .ok (.invokestatic 127, 3) := by decide +kernel
theorem dX10_after_11 : decode cX10_after 11 = .ok (.ifCond .eq 13, 3) := by decide +kernel
theorem dX10_after_14 : decode cX10_after 14 = .ok (.iload_n 3, 1) := by decide +kernel
theorem dX10_after_15 : decode cX10_after 15 = .ok (.iconst 0, 1) := by decide +kernel
theorem dX10_after_16 : decode cX10_after 16 = .ok (.ldc 158, 2) := by decide +kernel
theorem dX10_after_18 : decode cX10_after 18 = .ok (.invokestatic 83, 3) := by decide +kernel
theorem dX10_after_21 : decode cX10_after 21 = .ok (.ifCond .ne 6, 3) := by decide +kernel
theorem dX10_after_24 : decode cX10_after 24 = .ok (.bipush (-2), 2) := by decide +kernel
theorem dX10_after_26 : decode cX10_after 26 = .ok (.ireturn, 1) := by decide +kernel
theorem dX10_after_27 : decode cX10_after 27 = .ok (.aload_n 0, 1) := by decide +kernel
theorem dX10_after_28 : decode cX10_after 28 = .ok (.getfield 40, 3) := by decide +kernel
theorem dX10_after_31 : decode cX10_after 31 = .ok (.aload_n 0, 1) := by decide +kernel
theorem dX10_after_32 : decode cX10_after 32 = .ok (.getfield 33, 3) := by decide +kernel
theorem dX10_after_35 : decode cX10_after 35 = .ok (.iload_n 1, 1) := by decide +kernel
theorem dX10_after_36 : decode cX10_after 36 = .ok (.iload_n 2, 1) := by decide +kernel
theorem dX10_after_37 : decode cX10_after 37 = .ok (.invokevirtual 159, 3) := by decide +kernel
theorem dX10_after_40 : decode cX10_after 40 = .ok (.aload_n 0, 1) := by decide +kernel
theorem dX10_after_41 : decode cX10_after 41 = .ok (.getfield 40, 3) := by decide +kernel
theorem dX10_after_44 : decode cX10_after 44 = .ok (.iload_n 3, 1) := by decide +kernel
theorem dX10_after_45 : decode cX10_after 45 = .ok (.invokevirtual 163, 3) := by decide +kernel
theorem dX10_after_48 : decode cX10_after 48 = .ok (.ireturn, 1) := by decide +kernel
theorem dX10_run_0 : decode cX10_run 0 = .ok (.iload_n 1, 1) := by decide +kernel
theorem dX10_run_1 : decode cX10_run 1 = .ok (.invokestatic 124, 3) := by decide +kernel
theorem dX10_run_4 : decode cX10_run 4 = .ok (.ifCond .eq 19, 3) := by decide +kernel
theorem dX10_run_7 : decode cX10_run 7 = .ok (.iload_n 2, 1) := by decide +kernel
theorem dX10_run_8 : decode cX10_run 8 = .ok (.invokestatic 127, 3) := by decide +kernel
theorem dX10_run_11 : decode cX10_run 11 = .ok (.ifCond .eq 12, 3) := by decide +kernel
theorem dX10_run_14 : decode cX10_run 14 = .ok (.iload_n 3, 1) := by decide +kernel
theorem dX10_run_15 : decode cX10_run 15 = .ok (.iconst 0, 1) := by decide +kernel
theorem dX10_run_16 : decode cX10_run 16 = .ok (.iconst 4, 1) := by decide +kernel
theorem dX10_run_17 : decode cX10_run 17 = .ok (.invokestatic 83, 3) := by decide +kernel
theorem dX10_run_20 : decode cX10_run 20 = .ok (.ifCond .ne 6, 3) := by decide +kernel
theorem dX10_run_23 : decode cX10_run 23 = .ok (.bipush (-2), 2) := by decide +kernel
theorem dX10_run_25 : decode cX10_run 25 = .ok (.ireturn, 1) := by decide +kernel
theorem dX10_run_26 : decode cX10_run 26 = .ok (.aload_n 0, 1) := by decide +kernel
theorem dX10_run_27 : decode cX10_run 27 = .ok (.getfield 40, 3) := by decide +kernel
theorem dX10_run_30 : decode cX10_run 30 = .ok (.aload_n 0, 1) := by decide +kernel
theorem dX10_run_31 : decode cX10_run 31 = .ok (.getfield 33, 3) := by decide +kernel
theorem dX10_run_34 : decode cX10_run 34 = .ok (.iload_n 1, 1) := by decide +kernel
theorem dX10_run_35 : decode cX10_run 35 = .ok (.iload_n 2, 1) := by decide +kernel
theorem dX10_run_36 : decode cX10_run 36 = .ok (.invokevirtual 159, 3) := by decide +kernel
theorem dX10_run_39 : decode cX10_run 39 = .ok (.iload_n 3, 1) := by decide +kernel
theorem dX10_run_40 : decode cX10_run 40 = .ok (.tableswitch 64 0 3 #[32, 40, 48, 56], 32) := by decide +kernel
theorem dX10_run_72 : decode cX10_run 72 = .ok (.aload_n 0, 1) := by decide +kernel
theorem dX10_run_73 : decode cX10_run 73 = .ok (.getfield 40, 3) := by decide +kernel
theorem dX10_run_76 : decode cX10_run 76 = .ok (.getfield 166, 3) := by decide +kernel
theorem dX10_run_79 : decode cX10_run 79 = .ok (.ireturn, 1) := by decide +kernel
theorem dX10_run_80 : decode cX10_run 80 = .ok (.aload_n 0, 1) := by decide +kernel
theorem dX10_run_81 : decode cX10_run 81 = .ok (.getfield 40, 3) := by decide +kernel
theorem dX10_run_84 : decode cX10_run 84 = .ok (.invokevirtual 169, 3) := by decide +kernel
theorem dX10_run_87 : decode cX10_run 87 = .ok (.ireturn, 1) := by decide +kernel
theorem dX10_run_88 : decode cX10_run 88 = .ok (.aload_n 0, 1) := by decide +kernel
theorem dX10_run_89 : decode cX10_run 89 = .ok (.getfield 40, 3) := by decide +kernel
theorem dX10_run_92 : decode cX10_run 92 = .ok (.invokevirtual 173, 3) := by decide +kernel
theorem dX10_run_95 : decode cX10_run 95 = .ok (.ireturn, 1) := by decide +kernel
theorem dX10_run_96 : decode cX10_run 96 = .ok (.aload_n 0, 1) := by decide +kernel
theorem dX10_run_97 : decode cX10_run 97 = .ok (.getfield 40, 3) := by decide +kernel
theorem dX10_run_100 : decode cX10_run 100 = .ok (.invokevirtual 176, 3) := by decide +kernel
theorem dX10_run_103 : decode cX10_run 103 = .ok (.ireturn, 1) := by decide +kernel
theorem dX10_run_104 : decode cX10_run 104 = .ok (.aload_n 0, 1) := by decide +kernel
theorem dX10_run_105 : decode cX10_run 105 = .ok (.getfield 40, 3) := by decide +kernel
theorem dX10_run_108 : decode cX10_run 108 = .ok (.invokevirtual 179, 3) := by decide +kernel
theorem dX10_run_111 : decode cX10_run 111 = .ok (.ireturn, 1) := by decide +kernel
theorem dX10_till_0 : decode cX10_till 0 = .ok (.iload_n 1, 1) := by decide +kernel
theorem dX10_till_1 : decode cX10_till 1 = .ok (.invokestatic 124, 3) := by decide +kernel
theorem dX10_till_4 : decode cX10_till 4 = .ok (.ifCond .eq 10, 3) := by decide +kernel
theorem dX10_till_7 : decode cX10_till 7 = .ok (.iload_n 2, 1) := by decide +kernel
theorem dX10_till_8 : decode cX10_till 8 = .ok (.invokestatic 127, 3) := by decide +kernel
theorem dX10_till_11 : decode cX10_till 11 = .ok (.ifCond .ne 6, 3) := by decide +kernel
theorem dX10_till_14 : decode cX10_till 14 = .ok (.bipush (-2), 2) := by decide +kernel
theorem dX10_till_16 : decode cX10_till 16 = .ok (.ireturn, 1) := by decide +kernel
theorem dX10_till_17 : decode cX10_till 17 = .ok (.aload_n 0, 1) := by decide +kernel
theorem dX10_till_18 : decode cX10_till 18 = .ok (.getfield 40, 3) := by decide +kernel
theorem dX10_till_21 : decode cX10_till 21 = .ok (.aload_n 0, 1) := by decide +kernel
theorem dX10_till_22 : decode cX10_till 22 = .ok (.getfield 33, 3) := by decide +kernel
theorem dX10_till_25 : decode cX10_till 25 = .ok (.iload_n 1, 1) := by decide +kernel
theorem dX10_till_26 : decode cX10_till 26 = .ok (.iload_n 2, 1) := by decide +kernel
theorem dX10_till_27 : decode cX10_till 27 = .ok (.invokevirtual 159, 3) := by decide +kernel
theorem dX10_till_30 : decode cX10_till 30 = .ok (.aload_n 0, 1) := by decide +kernel
theorem dX10_till_31 : decode cX10_till 31 = .ok (.getfield 40, 3) := by decide +kernel
theorem dX10_till_34 : decode cX10_till 34 = .ok (.iload_n 3, 1) := by decide +kernel
theorem dX10_till_35 : decode cX10_till 35 = .ok (.invokevirtual 182, 3) := by decide +kernel
theorem dX10_till_38 : decode cX10_till 38 = .ok (.ireturn, 1) := by decide +kernel
theorem dX10_rests_0 : decode cX10_rests 0 = .ok (.iload_n 1, 1) := by decide +kernel
theorem dX10_rests_1 : decode cX10_rests 1 = .ok (.invokestatic 127, 3) := by decide +kernel
theorem dX10_rests_4 : decode cX10_rests 4 = .ok (.ifCond .ne 6, 3) := by decide +kernel
theorem dX10_rests_7 : decode cX10_rests 7 = .ok (.bipush (-2), 2) := by decide +kernel
theorem dX10_rests_9 : decode cX10_rests 9 = .ok (.ireturn, 1) := by decide +kernel
theorem dX10_rests_10 : decode cX10_rests 10 = .ok (.iconst 0, 1) := by decide +kernel
theorem dX10_rests_11 : decode cX10_rests 11 = .ok (.istore_n 2, 1) := by decide +kernel
theorem dX10_rests_12 : decode cX10_rests 12 = .ok (.iconst 0, 1) := by decide +kernel
theorem dX10_rests_13 : decode cX10_rests 13 = .ok (.istore_n 3, 1) := by decide +kernel
theorem dX10_rests_14 : decode cX10_rests 14 = .ok (.iload_n 3, 1) := by decide +kernel
theorem dX10_rests_15 : decode cX10_rests 15 = .ok (.bipush 63, 2) := by decide +kernel
theorem dX10_rests_17 : decode cX10_rests 17 = .ok (.if_icmp .gt 24, 3) := by decide +kernel
theorem dX10_rests_20 : decode cX10_rests 20 = .ok (.aload_n 0, 1) := by decide +kernel
theorem dX10_rests_21 : decode cX10_rests 21 = .ok (.getfield 33, 3) := by decide +kernel
theorem dX10_rests_24 : decode cX10_rests 24 = .ok (.iload_n 3, 1) := by decide +kernel
theorem dX10_rests_25 : decode cX10_rests 25 = .ok (.iload_n 1, 1) := by decide +kernel
theorem dX10_rests_26 : decode cX10_rests 26 = .ok (.invokevirtual 186, 3) := by decide +kernel
theorem dX10_rests_29 : decode cX10_rests 29 = .ok (.ifCond .eq 6, 3) := by decide +kernel
theorem dX10_rests_32 : decode cX10_rests 32 = .ok (.iinc 2 1, 3) := by decide +kernel
theorem dX10_rests_35 : decode cX10_rests 35 = .ok (.iinc 3 1, 3) := by decide +kernel
theorem dX10_rests_38 : decode cX10_rests 38 = .ok (.goto (-24), 3) := by decide +kernel
theorem dX10_rests_41 : decode cX10_rests 41 = .ok (.iload_n 2, 1) := by decide +kernel
theorem dX10_rests_42 : decode cX10_rests 42 = .ok (.ireturn, 1) := by decide +kernel
theorem dX10_rest_0 : decode cX10_rest 0 = .ok (.iload_n 1, 1) := by decide +kernel
theorem dX10_rest_1 : decode cX10_rest 1 = .ok (.invokestatic 127, 3) := by decide +kernel
theorem dX10_rest_4 : decode cX10_rest 4 = .ok (.ifCond .ne 6, 3) := by decide +kernel
theorem dX10_rest_7 : decode cX10_rest 7 = .ok (.bipush (-2), 2) := by decide +kernel
theorem dX10_rest_9 : decode cX10_rest 9 = .ok (.ireturn, 1) := by decide +kernel
theorem dX10_rest_10 : decode cX10_rest 10 = .ok (.iconst 0, 1) := by decide +kernel
theorem dX10_rest_11 : decode cX10_rest 11 = .ok (.istore_n 3, 1) := by decide +kernel
theorem dX10_rest_12 : decode cX10_rest 12 = .ok (.iconst 0, 1) := by decide +kernel
theorem dX10_rest_13 : decode cX10_rest 13 = .ok (.istore 4, 2) := by decide +kernel
theorem dX10_rest_15 : decode cX10_rest 15 = .ok (.iload 4, 2) := by decide +kernel
theorem dX10_rest_17 : decode cX10_rest 17 = .ok (.bipush 63, 2) := by decide +kernel
theorem dX10_rest_19 : decode cX10_rest 19 = .ok (.if_icmp .gt 33, 3) := by decide +kernel
theorem dX10_rest_22 : decode cX10_rest 22 = .ok (.aload_n 0, 1) := by decide +kernel
theorem dX10_rest_23 : decode cX10_rest 23 = .ok (.getfield 33, 3) := by decide +kernel
theorem dX10_rest_26 : decode cX10_rest 26 = .ok (.iload 4, 2) := by decide +kernel
theorem dX10_rest_28 : decode cX10_rest 28 = .ok (.iload_n 1, 1) := by decide +kernel
theorem dX10_rest_29 : decode cX10_rest 29 = .ok (.invokevirtual 186, 3) := by decide +kernel
theorem dX10_rest_32 : decode cX10_rest 32 = .ok (.ifCond .eq 14, 3) := by decide +kernel
theorem dX10_rest_35 : decode cX10_rest 35 = .ok (.iload_n 3, 1) := by decide +kernel
theorem dX10_rest_36 : decode cX10_rest 36 = .ok (.iload_n 2, 1) := by decide +kernel
theorem dX10_rest_37 : decode cX10_rest 37 = .ok (.if_icmp .ne 6, 3) := by decide +kernel
theorem dX10_rest_40 : decode cX10_rest 40 = .ok (.iload 4, 2) := by decide +kernel
theorem dX10_rest_42 : decode cX10_rest 42 = .ok (.ireturn, 1) := by decide +kernel
theorem dX10_rest_43 : decode cX10_rest 43 = .ok (.iinc 3 1, 3) := by decide +kernel
theorem dX10_rest_46 : decode cX10_rest 46 = .ok (.iinc 4 1, 3) := by decide +kernel
theorem dX10_rest_49 : decode cX10_rest 49 = .ok (.goto (-34), 3) := by decide +kernel
theorem dX10_rest_52 : decode cX10_rest 52 = .ok (.bipush (-9), 2) := by decide +kernel
theorem dX10_rest_54 : decode cX10_rest 54 = .ok (.ireturn, 1) := by decide +kernel
theorem dX10_settle_0 : decode cX10_settle 0 = .ok (.iload_n 1, 1) := by decide +kernel
theorem dX10_settle_1 : decode cX10_settle 1 = .ok (.invokestatic 124, 3) := by decide +kernel
theorem dX10_settle_4 : decode cX10_settle 4 = .ok (.ifCond .eq 10, 3) := by decide +kernel
theorem dX10_settle_7 : decode cX10_settle 7 = .ok (.iload_n 2, 1) := by decide +kernel
theorem dX10_settle_8 : decode cX10_settle 8 = .ok (.invokestatic 127, 3) := by decide +kernel
theorem dX10_settle_11 : decode cX10_settle 11 = .ok (.ifCond .ne 6, 3) := by decide +kernel
theorem dX10_settle_14 : decode cX10_settle 14 = .ok (.bipush (-2), 2) := by decide +kernel
theorem dX10_settle_16 : decode cX10_settle 16 = .ok (.ireturn, 1) := by decide +kernel
theorem dX10_settle_17 : decode cX10_settle 17 = .ok (.aload_n 0, 1) := by decide +kernel
theorem dX10_settle_18 : decode cX10_settle 18 = .ok (.getfield 33, 3) := by decide +kernel
theorem dX10_settle_21 : decode cX10_settle 21 = .ok (.iload_n 1, 1) := by decide +kernel
theorem dX10_settle_22 : decode cX10_settle 22 = .ok (.iload_n 2, 1) := by decide +kernel
theorem dX10_settle_23 : decode cX10_settle 23 = .ok (.invokevirtual 190, 3) := by decide +kernel
theorem dX10_settle_26 : decode cX10_settle 26 = .ok (.ireturn, 1) := by decide +kernel
theorem dX10_jumps_0 : decode cX10_jumps 0 = .ok (.iload_n 1, 1) := by decide +kernel
theorem dX10_jumps_1 : decode cX10_jumps 1 = .ok (.invokestatic 124, 3) := by decide +kernel
theorem dX10_jumps_4 : decode cX10_jumps 4 = .ok (.ifCond .eq 17, 3) := by decide +kernel
theorem dX10_jumps_7 : decode cX10_jumps 7 = .ok (.iload_n 2, 1) := by decide +kernel
theorem dX10_jumps_8 : decode cX10_jumps 8 = .ok (.invokestatic 127, 3) := by decide +kernel
theorem dX10_jumps_11 : decode cX10_jumps 11 = .ok (.ifCond .eq 10, 3) := by decide +kernel
theorem dX10_jumps_14 : decode cX10_jumps 14 = .ok (.iload_n 3, 1) := by decide +kernel
theorem dX10_jumps_15 : decode cX10_jumps 15 = .ok (.invokestatic 127, 3) := by decide +kernel
theorem dX10_jumps_18 : decode cX10_jumps 18 = .ok (.ifCond .ne 6, 3) := by decide +kernel
theorem dX10_jumps_21 : decode cX10_jumps 21 = .ok (.bipush (-2), 2) := by decide +kernel
theorem dX10_jumps_23 : decode cX10_jumps 23 = .ok (.ireturn, 1) := by decide +kernel
theorem dX10_jumps_24 : decode cX10_jumps 24 = .ok (.aload_n 0, 1) := by decide +kernel
theorem dX10_jumps_25 : decode cX10_jumps 25 = .ok (.getfield 47, 3) := by decide +kernel
theorem dX10_jumps_28 : decode cX10_jumps 28 = .ok (.aload_n 0, 1) := by decide +kernel
theorem dX10_jumps_29 : decode cX10_jumps 29 = .ok (.getfield 33, 3) := by decide +kernel
theorem dX10_jumps_32 : decode cX10_jumps 32 = .ok (.iload_n 1, 1) := by decide +kernel
theorem dX10_jumps_33 : decode cX10_jumps 33 = .ok (.iload_n 2, 1) := by decide +kernel
theorem dX10_jumps_34 : decode cX10_jumps 34 = .ok (.iload_n 3, 1) := by decide +kernel
theorem dX10_jumps_35 : decode cX10_jumps 35 = .ok (.invokevirtual 193, 3) := by decide +kernel
theorem dX10_jumps_38 : decode cX10_jumps 38 = .ok (.aload_n 0, 1) := by decide +kernel
theorem dX10_jumps_39 : decode cX10_jumps 39 = .ok (.getfield 47, 3) := by decide +kernel
theorem dX10_jumps_42 : decode cX10_jumps 42 = .ok (.getfield 196, 3) := by decide +kernel
theorem dX10_jumps_45 : decode cX10_jumps 45 = .ok (.ireturn, 1) := by decide +kernel
theorem dX10_jump_0 : decode cX10_jump 0 = .ok (.iload_n 1, 1) := by decide +kernel
theorem dX10_jump_1 : decode cX10_jump 1 = .ok (.invokestatic 124, 3) := by decide +kernel
theorem dX10_jump_4 : decode cX10_jump 4 = .ok (.ifCond .eq 17, 3) := by decide +kernel
theorem dX10_jump_7 : decode cX10_jump 7 = .ok (.iload_n 2, 1) := by decide +kernel
theorem dX10_jump_8 : decode cX10_jump 8 = .ok (.invokestatic 127, 3) := by decide +kernel
theorem dX10_jump_11 : decode cX10_jump 11 = .ok (.ifCond .eq 10, 3) := by decide +kernel
theorem dX10_jump_14 : decode cX10_jump 14 = .ok (.iload_n 3, 1) := by decide +kernel
theorem dX10_jump_15 : decode cX10_jump 15 = .ok (.invokestatic 127, 3) := by decide +kernel
theorem dX10_jump_18 : decode cX10_jump 18 = .ok (.ifCond .ne 6, 3) := by decide +kernel
theorem dX10_jump_21 : decode cX10_jump 21 = .ok (.bipush (-2), 2) := by decide +kernel
theorem dX10_jump_23 : decode cX10_jump 23 = .ok (.ireturn, 1) := by decide +kernel
theorem dX10_jump_24 : decode cX10_jump 24 = .ok (.aload_n 0, 1) := by decide +kernel
theorem dX10_jump_25 : decode cX10_jump 25 = .ok (.getfield 47, 3) := by decide +kernel
theorem dX10_jump_28 : decode cX10_jump 28 = .ok (.aload_n 0, 1) := by decide +kernel
theorem dX10_jump_29 : decode cX10_jump 29 = .ok (.getfield 33, 3) := by decide +kernel
theorem dX10_jump_32 : decode cX10_jump 32 = .ok (.iload_n 1, 1) := by decide +kernel
theorem dX10_jump_33 : decode cX10_jump 33 = .ok (.iload_n 2, 1) := by decide +kernel
theorem dX10_jump_34 : decode cX10_jump 34 = .ok (.iload_n 3, 1) := by decide +kernel
theorem dX10_jump_35 : decode cX10_jump 35 = .ok (.invokevirtual 193, 3) := by decide +kernel
theorem dX10_jump_38 : decode cX10_jump 38 = .ok (.aload_n 0, 1) := by decide +kernel
theorem dX10_jump_39 : decode cX10_jump 39 = .ok (.getfield 47, 3) := by decide +kernel
theorem dX10_jump_42 : decode cX10_jump 42 = .ok (.iload 4, 2) := by decide +kernel
theorem dX10_jump_44 : decode cX10_jump 44 = .ok (.invokevirtual 199, 3) := by decide +kernel
theorem dX10_jump_47 : decode cX10_jump 47 = .ok (.ireturn, 1) := by decide +kernel
theorem dX10_curve_0 : decode cX10_curve 0 = .ok (.iload_n 1, 1) := by decide +kernel
theorem dX10_curve_1 : decode cX10_curve 1 = .ok (.invokestatic 124, 3) := by decide +kernel
theorem dX10_curve_4 : decode cX10_curve 4 = .ok (.ifCond .eq 17, 3) := by decide +kernel
theorem dX10_curve_7 : decode cX10_curve 7 = .ok (.iload_n 2, 1) := by decide +kernel
theorem dX10_curve_8 : decode cX10_curve 8 = .ok (.invokestatic 127, 3) := by decide +kernel
theorem dX10_curve_11 : decode cX10_curve 11 = .ok (.ifCond .eq 10, 3) := by decide +kernel
theorem dX10_curve_14 : decode cX10_curve 14 = .ok (.iload_n 3, 1) := by decide +kernel
theorem dX10_curve_15 : decode cX10_curve 15 = .ok (.invokestatic 127, 3) := by decide +kernel
theorem dX10_curve_18 : decode cX10_curve 18 = .ok (.ifCond .ne 6, 3) := by decide +kernel
theorem dX10_curve_21 : decode cX10_curve 21 = .ok (.bipush (-2), 2) := by decide +kernel
theorem dX10_curve_23 : decode cX10_curve 23 = .ok (.ireturn, 1) := by decide +kernel
theorem dX10_curve_24 : decode cX10_curve 24 = .ok (.aload_n 0, 1) := by decide +kernel
theorem dX10_curve_25 : decode cX10_curve 25 = .ok (.getfield 47, 3) := by decide +kernel
theorem dX10_curve_28 : decode cX10_curve 28 = .ok (.aload_n 0, 1) := by decide +kernel
theorem dX10_curve_29 : decode cX10_curve 29 = .ok (.getfield 33, 3) := by decide +kernel
theorem dX10_curve_32 : decode cX10_curve 32 = .ok (.iload_n 1, 1) := by decide +kernel
theorem dX10_curve_33 : decode cX10_curve 33 = .ok (.iload_n 2, 1) := by decide +kernel
theorem dX10_curve_34 : decode cX10_curve 34 = .ok (.iload_n 3, 1) := by decide +kernel
theorem dX10_curve_35 : decode cX10_curve 35 = .ok (.invokevirtual 193, 3) := by decide +kernel
theorem dX10_curve_38 : decode cX10_curve 38 = .ok (.aload_n 0, 1) := by decide +kernel
theorem dX10_curve_39 : decode cX10_curve 39 = .ok (.getfield 47, 3) := by decide +kernel
theorem dX10_curve_42 : decode cX10_curve 42 = .ok (.getfield 202, 3) := by decide +kernel
theorem dX10_curve_45 : decode cX10_curve 45 = .ok (.ireturn, 1) := by decide +kernel
theorem dX10_least_0 : decode cX10_least 0 = .ok (.iload_n 1, 1) := by decide +kernel
theorem dX10_least_1 : decode cX10_least 1 = .ok (.ifCond .eq 8, 3) := by decide +kernel
theorem dX10_least_4 : decode cX10_least 4 = .ok (.bipush 62, 2) := by decide +kernel
theorem dX10_least_6 : decode cX10_least 6 = .ok (.goto 5, 3) := by decide +kernel
theorem dX10_least_9 : decode cX10_least 9 = .ok (.bipush 63, 2) := by decide +kernel
theorem dX10_least_11 : decode cX10_least 11 = .ok (.istore_n 2, 1) := by decide +kernel
theorem dX10_least_12 : decode cX10_least 12 = .ok (.iconst 0, 1) := by decide +kernel
theorem dX10_least_13 : decode cX10_least 13 = .ok (.istore_n 3, 1) := by decide +kernel
theorem dX10_least_14 : decode cX10_least 14 = .ok (.iload_n 3, 1) := by decide +kernel
theorem dX10_least_15 : decode cX10_least 15 = .ok (.bipush 100, 2) := by decide +kernel
theorem dX10_least_17 : decode cX10_least 17 = .ok (.if_icmp .ge 24, 3) := by decide +kernel
theorem dX10_least_20 : decode cX10_least 20 = .ok (.aload_n 0, 1) := by decide +kernel
theorem dX10_least_21 : decode cX10_least 21 = .ok (.getfield 33, 3) := by decide +kernel
theorem dX10_least_24 : decode cX10_least 24 = .ok (.iload_n 2, 1) := by decide +kernel
theorem dX10_least_25 : decode cX10_least 25 = .ok (.iload_n 3, 1) := by decide +kernel
theorem dX10_least_26 : decode cX10_least 26 = .ok (.invokevirtual 186, 3) := by decide +kernel
theorem dX10_least_29 : decode cX10_least 29 = .ok (.iload_n 1, 1) := by decide +kernel
theorem dX10_least_30 : decode cX10_least 30 = .ok (.if_icmp .ne 5, 3) := by decide +kernel
theorem dX10_least_33 : decode cX10_least 33 = .ok (.iload_n 3, 1) := by decide +kernel
theorem dX10_least_34 : decode cX10_least 34 = .ok (.ireturn, 1) := by decide +kernel
theorem dX10_least_35 : decode cX10_least 35 = .ok (.iinc 3 1, 3) := by decide +kernel
theorem dX10_least_38 : decode cX10_least 38 = .ok (.goto (-24), 3) := by decide +kernel
theorem dX10_least_41 : decode cX10_least 41 = .ok (.bipush (-9), 2) := by decide +kernel
theorem dX10_least_43 : decode cX10_least 43 = .ok (.ireturn, 1) := by decide +kernel
theorem dX10_bed_0 : decode cX10_bed 0 = .ok (.iload_n 1, 1) := by decide +kernel
theorem dX10_bed_1 : decode cX10_bed 1 = .ok (.invokestatic 205, 3) := by decide +kernel
theorem dX10_bed_4 : decode cX10_bed 4 = .ok (.ifCond .eq 11, 3) := by decide +kernel
theorem dX10_bed_7 : decode cX10_bed 7 = .ok (.iload 5, 2) := by decide +kernel
theorem dX10_bed_9 : decode cX10_bed 9 = .ok (.invokestatic 151, 3) := by decide +kernel
theorem dX10_bed_12 : decode cX10_bed 12 = .ok (.ifCond .ne 5, 3) := by decide +kernel
theorem dX10_bed_15 : decode cX10_bed 15 = .ok (.iconst (-1), 1) := by decide +kernel
theorem dX10_bed_16 : decode cX10_bed 16 = .ok (.ireturn, 1) := by decide +kernel
theorem dX10_bed_17 : decode cX10_bed 17 = .ok (.iload_n 2, 1) := by decide +kernel
theorem dX10_bed_18 : decode cX10_bed 18 = .ok (.iconst 0, 1) := by decide +kernel
theorem dX10_bed_19 : decode cX10_bed 19 = .ok (.bipush 15, 2) := by decide +kernel
theorem dX10_bed_21 : decode cX10_bed 21 = .ok (.invokestatic 83, 3) := by decide +kernel
theorem dX10_bed_24 : decode cX10_bed 24 = .ok (.ifCond .eq 35, 3) := by decide +kernel
theorem dX10_bed_27 : decode cX10_bed 27 = .ok (.iload_n 3, 1) := by decide +kernel
theorem dX10_bed_28 : decode cX10_bed 28 = .ok (.invokestatic 145, 3) := by decide +kernel
theorem dX10_bed_31 : decode cX10_bed 31 = .ok (.ifCond .eq 28, 3) := by decide +kernel
theorem dX10_bed_34 : decode cX10_bed 34 = .ok (.iload 4, 2) := by decide +kernel
theorem dX10_bed_36 : decode cX10_bed 36 = .ok (.invokestatic 145, 3) := by decide +kernel
theorem dX10_bed_39 : decode cX10_bed 39 = .ok (.ifCond .eq 20, 3) := by decide +kernel
theorem dX10_bed_42 : decode cX10_bed 42 = .ok (.iload 4, 2) := by decide +kernel
theorem dX10_bed_44 : decode cX10_bed 44 = .ok (.iload_n 3, 1) := by decide +kernel
theorem dX10_bed_45 : decode cX10_bed 45 = .ok (.if_icmp .lt 14, 3) := by decide +kernel
theorem dX10_bed_48 : decode cX10_bed 48 = .ok (.iload 6, 2) := by decide +kernel
theorem dX10_bed_50 : decode cX10_bed 50 = .ok (.iconst 0, 1) := by decide +kernel
theorem dX10_bed_51 : decode cX10_bed 51 = .ok (.bipush 10, 2) := by decide +kernel
theorem dX10_bed_53 : decode cX10_bed 53 = .ok (.invokestatic 83, 3) := by decide +kernel
theorem dX10_bed_56 : decode cX10_bed 56 = .ok (.ifCond .ne 6, 3) := by decide +kernel
theorem dX10_bed_59 : decode cX10_bed 59 = .ok (.bipush (-2), 2) := by decide +kernel
theorem dX10_bed_61 : decode cX10_bed 61 = .ok (.ireturn, 1) := by decide +kernel
theorem dX10_bed_62 : decode cX10_bed 62 = .ok (.aload_n 0, 1) := by decide +kernel
theorem dX10_bed_63 : decode cX10_bed 63 = .ok (.getfield 61, 3) := by decide +kernel
theorem dX10_bed_66 : decode cX10_bed 66 = .ok (.getfield 208, 3) := by decide +kernel
theorem dX10_bed_69 : decode cX10_bed 69 = .ok (.bipush 8, 2) := by decide +kernel
theorem dX10_bed_71 : decode cX10_bed 71 = .ok (.if_icmp .lt 6, 3) := by decide +kernel
theorem dX10_bed_74 : decode cX10_bed 74 = .ok (.bipush (-4), 2) := by decide +kernel
theorem dX10_bed_76 : decode cX10_bed 76 = .ok (.ireturn, 1) := by decide +kernel
theorem dX10_bed_77 : decode cX10_bed 77 = .ok (.aload_n 0, 1) := by decide +kernel
theorem dX10_bed_78 : decode cX10_bed 78 = .ok (.getfield 61, 3) := by decide +kernel
theorem dX10_bed_81 : decode cX10_bed 81 = .ok (.getfield 208, 3) := by decide +kernel
theorem dX10_bed_84 : decode cX10_bed 84 = .ok (.istore 7, 2) := by decide +kernel
theorem dX10_bed_86 : decode cX10_bed 86 = .ok (.aload_n 0, 1) := by decide +kernel
theorem dX10_bed_87 : decode cX10_bed 87 = .ok (.getfield 61, 3) := by decide +kernel
theorem dX10_bed_90 : decode cX10_bed 90 = .ok (.iload 7, 2) := by decide +kernel
theorem dX10_bed_92 : decode cX10_bed 92 = .ok (.iconst 1, 1) := by decide +kernel
theorem dX10_bed_93 : decode cX10_bed 93 = .ok (.iadd, 1) := by decide +kernel
theorem dX10_bed_94 : decode cX10_bed 94 = .ok (.putfield 208, 3) := by decide +kernel
theorem dX10_bed_97 : decode cX10_bed 97 = .ok (.aload_n 0, 1) := by decide +kernel
theorem dX10_bed_98 : decode cX10_bed 98 = .ok (.getfield 61, 3) := by decide +kernel
theorem dX10_bed_101 : decode cX10_bed 101 = .ok (.iload 7, 2) := by decide +kernel
theorem dX10_bed_103 : decode cX10_bed 103 = .ok (.iconst 0, 1) := by decide +kernel
theorem dX10_bed_104 : decode cX10_bed 104 = .ok (.iload_n 1, 1) := by decide +kernel
theorem dX10_bed_105 : decode cX10_bed 105 = .ok (.invokevirtual 211, 3) := by decide +kernel
theorem dX10_bed_108 : decode cX10_bed 108 = .ok (.aload_n 0, 1) := by decide +kernel
theorem dX10_bed_109 : decode cX10_bed 109 = .ok (.getfield 61, 3) := by decide +kernel
theorem dX10_bed_112 : decode cX10_bed 112 = .ok (.iload 7, 2) := by decide +kernel
theorem dX10_bed_114 : decode cX10_bed 114 = .ok (.iconst 1, 1) := by decide +kernel
theorem dX10_bed_115 : decode cX10_bed 115 = .ok (.iload_n 2, 1) := by decide +kernel
theorem dX10_bed_116 : decode cX10_bed 116 = .ok (.invokevirtual 211, 3) := by decide +kernel
theorem dX10_bed_119 : decode cX10_bed 119 = .ok (.aload_n 0, 1) := by decide +kernel
theorem dX10_bed_120 : decode cX10_bed 120 = .ok (.getfield 61, 3) := by decide +kernel
theorem dX10_bed_123 : decode cX10_bed 123 = .ok (.iload 7, 2) := by decide +kernel
theorem dX10_bed_125 : decode cX10_bed 125 = .ok (.iconst 2, 1) := by decide +kernel
theorem dX10_bed_126 : decode cX10_bed 126 = .ok (.iload_n 3, 1) := by decide +kernel
theorem dX10_bed_127 : decode cX10_bed 127 = .ok (.invokevirtual 211, 3) := by decide +kernel
theorem dX10_bed_130 : decode cX10_bed 130 = .ok (.aload_n 0, 1) := by decide +kernel
theorem dX10_bed_131 : decode cX10_bed 131 = .ok (.getfield 61, 3) := by decide +kernel
theorem dX10_bed_134 : decode cX10_bed 134 = .ok (.iload 7, 2) := by decide +kernel
theorem dX10_bed_136 : decode cX10_bed 136 = .ok (.iconst 3, 1) := by decide +kernel
theorem dX10_bed_137 : decode cX10_bed 137 = .ok (.iload 4, 2) := by decide +kernel
theorem dX10_bed_139 : decode cX10_bed 139 = .ok (.invokevirtual 211, 3) := by decide +kernel
theorem dX10_bed_142 : decode cX10_bed 142 = .ok (.aload_n 0, 1) := by decide +kernel
theorem dX10_bed_143 : decode cX10_bed 143 = .ok (.getfield 61, 3) := by decide +kernel
theorem dX10_bed_146 : decode cX10_bed 146 = .ok (.iload 7, 2) := by decide +kernel
theorem dX10_bed_148 : decode cX10_bed 148 = .ok (.iconst 4, 1) := by decide +kernel
theorem dX10_bed_149 : decode cX10_bed 149 = .ok (.iload 5, 2) := by decide +kernel
theorem dX10_bed_151 : decode cX10_bed 151 = .ok (.invokevirtual 211, 3) := by decide +kernel
theorem dX10_bed_154 : decode cX10_bed 154 = .ok (.aload_n 0, 1) := by decide +kernel
theorem dX10_bed_155 : decode cX10_bed 155 = .ok (.getfield 61, 3) := by decide +kernel
theorem dX10_bed_158 : decode cX10_bed 158 = .ok (.iload 7, 2) := by decide +kernel
theorem dX10_bed_160 : decode cX10_bed 160 = .ok (.iconst 5, 1) := by decide +kernel
theorem dX10_bed_161 : decode cX10_bed 161 = .ok (.iload 6, 2) := by decide +kernel
theorem dX10_bed_163 : decode cX10_bed 163 = .ok (.invokevirtual 211, 3) := by decide +kernel
theorem dX10_bed_166 : decode cX10_bed 166 = .ok (.iload 7, 2) := by decide +kernel
theorem dX10_bed_168 : decode cX10_bed 168 = .ok (.ireturn, 1) := by decide +kernel
theorem dX10_forget_0 : decode cX10_forget 0 = .ok (.aload_n 0, 1) := by decide +kernel
theorem dX10_forget_1 : decode cX10_forget 1 = .ok (.getfield 61, 3) := by decide +kernel
theorem dX10_forget_4 : decode cX10_forget 4 = .ok (.getfield 208, 3) := by decide +kernel
theorem dX10_forget_7 : decode cX10_forget 7 = .ok (.ifCond .gt 6, 3) := by decide +kernel
theorem dX10_forget_10 : decode cX10_forget 10 = .ok (.bipush (-3), 2) := by decide +kernel
theorem dX10_forget_12 : decode cX10_forget 12 = .ok (.ireturn, 1) := by decide +kernel
theorem dX10_forget_13 : decode cX10_forget 13 = .ok (.aload_n 0, 1) := by decide +kernel
theorem dX10_forget_14 : decode cX10_forget 14 = .ok (.getfield 61, 3) := by decide +kernel
theorem dX10_forget_17 : decode cX10_forget 17 = .ok (.dup, 1) := by decide +kernel
theorem dX10_forget_18 : decode cX10_forget 18 = .ok (.getfield 208, 3) := by decide +kernel
theorem dX10_forget_21 : decode cX10_forget 21 = .ok (.iconst 1, 1) := by decide +kernel
theorem dX10_forget_22 : decode cX10_forget 22 = .ok (.isub, 1) := by decide +kernel
theorem dX10_forget_23 : decode cX10_forget 23 = .ok (.putfield 208, 3) := by decide +kernel
theorem dX10_forget_26 : decode cX10_forget 26 = .ok (.aload_n 0, 1) := by decide +kernel
theorem dX10_forget_27 : decode cX10_forget 27 = .ok (.getfield 61, 3) := by decide +kernel
theorem dX10_forget_30 : decode cX10_forget 30 = .ok (.getfield 208, 3) := by decide +kernel
theorem dX10_forget_33 : decode cX10_forget 33 = .ok (.ireturn, 1) := by decide +kernel
theorem dX10_about_0 : decode cX10_about 0 = .ok (.aload_n 0, 1) := by decide +kernel
theorem dX10_about_1 : decode cX10_about 1 = .ok (.iload_n 1, 1) := by decide +kernel
theorem dX10_about_2 : decode cX10_about 2 = .ok (.invokevirtual 214, 3) := by decide +kernel
theorem dX10_about_5 : decode cX10_about 5 = .ok (.ifCond .ne 5, 3) := by decide +kernel
theorem dX10_about_8 : decode cX10_about 8 = .ok (.iconst (-1), 1) := by decide +kernel
theorem dX10_about_9 : decode cX10_about 9 = .ok (.ireturn, 1) := by decide +kernel
theorem dX10_about_10 : decode cX10_about 10 = .ok (.iload_n 2, 1) := by decide +kernel
theorem dX10_about_11 : decode cX10_about 11 = .ok (.iconst 0, 1) := by decide +kernel
theorem dX10_about_12 : decode cX10_about 12 = .ok (.bipush 7, 2) := by decide +kernel
theorem dX10_about_14 : decode cX10_about 14 = .ok (.invokestatic 83, 3) := by decide +kernel
theorem dX10_about_17 : decode cX10_about 17 = .ok (.ifCond .ne 6, 3) := by decide +kernel
theorem dX10_about_20 : decode cX10_about 20 = .ok (.bipush (-2), 2) := by decide +kernel
theorem dX10_about_22 : decode cX10_about 22 = .ok (.ireturn, 1) := by decide +kernel
theorem dX10_about_23 : decode cX10_about 23 = .ok (.iload_n 2, 1) := by decide +kernel
theorem dX10_about_24 : decode cX10_about 24 = .ok (.bipush 6, 2) := by decide +kernel
theorem dX10_about_26 : decode cX10_about 26 = .ok (.if_icmp .ne 12, 3) := by decide +kernel
theorem dX10_about_29 : decode cX10_about 29 = .ok (.aload_n 0, 1) := by decide +kernel
theorem dX10_about_30 : decode cX10_about 30 = .ok (.getfield 61, 3) := by decide +kernel
theorem dX10_about_33 : decode cX10_about 33 = .ok (.iload_n 1, 1) := by decide +kernel
theorem dX10_about_34 : decode cX10_about 34 = .ok (.invokevirtual 217, 3) := by decide +kernel
theorem dX10_about_37 : decode cX10_about 37 = .ok (.ireturn, 1) := by decide +kernel
theorem dX10_about_38 : decode cX10_about 38 = .ok (.iload_n 2, 1) := by decide +kernel
theorem dX10_about_39 : decode cX10_about 39 = .ok (.bipush 7, 2) := by decide +kernel
theorem dX10_about_41 : decode cX10_about 41 = .ok (.if_icmp .ne 20, 3) := by decide +kernel
theorem dX10_about_44 : decode cX10_about 44 = .ok (.aload_n 0, 1) := by decide +kernel
theorem dX10_about_45 : decode cX10_about 45 = .ok (.getfield 61, 3) := by decide +kernel
theorem dX10_about_48 : decode cX10_about 48 = .ok (.iload_n 1, 1) := by decide +kernel
theorem dX10_about_49 : decode cX10_about 49 = .ok (.invokevirtual 220, 3) := by decide +kernel
theorem dX10_about_52 : decode cX10_about 52 = .ok (.ifCond .eq 7, 3) := by decide +kernel
theorem dX10_about_55 : decode cX10_about 55 = .ok (.iconst 1, 1) := by decide +kernel
theorem dX10_about_56 : decode cX10_about 56 = .ok (.goto 4, 3) := by decide +kernel
theorem dX10_about_59 : decode cX10_about 59 = .ok (.iconst 0, 1) := by decide +kernel
theorem dX10_about_60 : decode cX10_about 60 = .ok (.ireturn, 1) := by decide +kernel
theorem dX10_about_61 : decode cX10_about 61 = .ok (.aload_n 0, 1) := by decide +kernel
theorem dX10_about_62 : decode cX10_about 62 = .ok (.getfield 61, 3) := by decide +kernel
theorem dX10_about_65 : decode cX10_about 65 = .ok (.iload_n 1, 1) := by decide +kernel
theorem dX10_about_66 : decode cX10_about 66 = .ok (.iload_n 2, 1) := by decide +kernel
theorem dX10_about_67 : decode cX10_about 67 = .ok (.invokevirtual 223, 3) := by decide +kernel
theorem dX10_about_70 : decode cX10_about 70 = .ok (.ireturn, 1) := by decide +kernel
theorem dX10_explains_0 : decode cX10_explains 0 = .ok (.iload_n 1, 1) := by decide +kernel
theorem dX10_explains_1 : decode cX10_explains 1 = .ok (.invokestatic 115, 3) := by decide +kernel
theorem dX10_explains_4 : decode cX10_explains 4 = .ok (.ifCond .eq 11, 3) := by decide +kernel
theorem dX10_explains_7 : decode cX10_explains 7 = .ok (.aload_n 0, 1) := by decide +kernel
theorem dX10_explains_8 : decode cX10_explains 8 = .ok (.iload_n 2, 1) := by decide +kernel
theorem dX10_explains_9 : decode cX10_explains 9 = .ok (.invokevirtual 214, 3) := by decide +kernel
theorem dX10_explains_12 : decode cX10_explains 12 = .ok (.ifCond .ne 5, 3) := by decide +kernel
theorem dX10_explains_15 : decode cX10_explains 15 = .ok (.iconst (-1), 1) := by decide +kernel
theorem dX10_explains_16 : decode cX10_explains 16 = .ok (.ireturn, 1) := by decide +kernel
theorem dX10_explains_17 : decode cX10_explains 17 = .ok (.aload_n 0, 1) := by decide +kernel
theorem dX10_explains_18 : decode cX10_explains 18 = .ok (.getfield 61, 3) := by decide +kernel
theorem dX10_explains_21 : decode cX10_explains 21 = .ok (.iload_n 2, 1) := by decide +kernel
theorem dX10_explains_22 : decode cX10_explains 22 = .ok (.invokevirtual 220, 3) := by decide +kernel
theorem dX10_explains_25 : decode cX10_explains 25 = .ok (.ifCond .ne 6, 3) := by decide +kernel
theorem dX10_explains_28 : decode cX10_explains 28 = .ok (.bipush (-3), 2) := by decide +kernel
theorem dX10_explains_30 : decode cX10_explains 30 = .ok (.ireturn, 1) := by decide +kernel
theorem dX10_explains_31 : decode cX10_explains 31 = .ok (.aload_n 0, 1) := by decide +kernel
theorem dX10_explains_32 : decode cX10_explains 32 = .ok (.getfield 54, 3) := by decide +kernel
theorem dX10_explains_35 : decode cX10_explains 35 = .ok (.iload_n 1, 1) := by decide +kernel
theorem dX10_explains_36 : decode cX10_explains 36 = .ok (.aload_n 0, 1) := by decide +kernel
theorem dX10_explains_37 : decode cX10_explains 37 = .ok (.getfield 61, 3) := by decide +kernel
theorem dX10_explains_40 : decode cX10_explains 40 = .ok (.iload_n 2, 1) := by decide +kernel
theorem dX10_explains_41 : decode cX10_explains 41 = .ok (.iconst 2, 1) := by decide +kernel
theorem dX10_explains_42 : decode cX10_explains 42 = .ok (.invokevirtual 223, 3) := by decide +kernel
theorem dX10_explains_45 : decode cX10_explains 45 = .ok (.aload_n 0, 1) := by decide +kernel
theorem dX10_explains_46 : decode cX10_explains 46 = .ok (.getfield 61, 3) := by decide +kernel
theorem dX10_explains_49 : decode cX10_explains 49 = .ok (.iload_n 2, 1) := by decide +kernel
theorem dX10_explains_50 : decode cX10_explains 50 = .ok (.iconst 3, 1) := by decide +kernel
theorem dX10_explains_51 : decode cX10_explains 51 = .ok (.invokevirtual 223, 3) := by decide +kernel
theorem dX10_explains_54 : decode cX10_explains 54 = .ok (.invokevirtual 226, 3) := by decide +kernel
theorem dX10_explains_57 : decode cX10_explains 57 = .ok (.istore_n 3, 1) := by decide +kernel
theorem dX10_explains_58 : decode cX10_explains 58 = .ok (.iload_n 3, 1) := by decide +kernel
theorem dX10_explains_59 : decode cX10_explains 59 = .ok (.aload_n 0, 1) := by decide +kernel
theorem dX10_explains_60 : decode cX10_explains 60 = .ok (.getfield 61, 3) := by decide +kernel
theorem dX10_explains_63 : decode cX10_explains 63 = .ok (.iload_n 2, 1) := by decide +kernel
theorem dX10_explains_64 : decode cX10_explains 64 = .ok (.iconst 4, 1) := by decide +kernel
theorem dX10_explains_65 : decode cX10_explains 65 = .ok (.invokevirtual 223, 3) := by decide +kernel
theorem dX10_explains_68 : decode cX10_explains 68 = .ok (.invokestatic 229, 3) := by decide +kernel
theorem dX10_explains_71 : decode cX10_explains 71 = .ok (.ifCond .eq 5, 3) := by decide +kernel
theorem dX10_explains_74 : decode cX10_explains 74 = .ok (.iconst 2, 1) := by decide +kernel
theorem dX10_explains_75 : decode cX10_explains 75 = .ok (.ireturn, 1) := by decide +kernel
theorem dX10_explains_76 : decode cX10_explains 76 = .ok (.iload_n 3, 1) := by decide +kernel
theorem dX10_explains_77 : decode cX10_explains 77 = .ok (.ifCond .eq 7, 3) := by decide +kernel
theorem dX10_explains_80 : decode cX10_explains 80 = .ok (.iconst 1, 1) := by decide +kernel
theorem dX10_explains_81 : decode cX10_explains 81 = .ok (.goto 4, 3) := by decide +kernel
theorem dX10_explains_84 : decode cX10_explains 84 = .ok (.iconst 0, 1) := by decide +kernel
theorem dX10_explains_85 : decode cX10_explains 85 = .ok (.ireturn, 1) := by decide +kernel
theorem dX10_chance_0 : decode cX10_chance 0 = .ok (.iload_n 1, 1) := by decide +kernel
theorem dX10_chance_1 : decode cX10_chance 1 = .ok (.invokestatic 115, 3) := by decide +kernel
theorem dX10_chance_4 : decode cX10_chance 4 = .ok (.ifCond .eq 11, 3) := by decide +kernel
theorem dX10_chance_7 : decode cX10_chance 7 = .ok (.aload_n 0, 1) := by decide +kernel
theorem dX10_chance_8 : decode cX10_chance 8 = .ok (.iload_n 2, 1) := by decide +kernel
theorem dX10_chance_9 : decode cX10_chance 9 = .ok (.invokevirtual 214, 3) := by decide +kernel
theorem dX10_chance_12 : decode cX10_chance 12 = .ok (.ifCond .ne 7, 3) := by decide +kernel
theorem dX10_chance_15 : decode cX10_chance 15 = .ok (.ldc2_w 232, 3) := by decide +kernel
theorem dX10_chance_18 : decode cX10_chance 18 = .ok (.lreturn, 1) := by decide +kernel
theorem dX10_chance_19 : decode cX10_chance 19 = .ok (.aload_n 0, 1) := by decide +kernel
theorem dX10_chance_20 : decode cX10_chance 20 = .ok (.getfield 54, 3) := by decide +kernel
theorem dX10_chance_23 : decode cX10_chance 23 = .ok (.aload_n 0, 1) := by decide +kernel
theorem dX10_chance_24 : decode cX10_chance 24 = .ok (.getfield 61, 3) := by decide +kernel
theorem dX10_chance_27 : decode cX10_chance 27 = .ok (.iload_n 1, 1) := by decide +kernel
theorem dX10_chance_28 : decode cX10_chance 28 = .ok (.iload_n 2, 1) := by decide +kernel
theorem dX10_chance_29 : decode cX10_chance 29 = .ok (.invokestatic 234, 3) := by decide +kernel
theorem dX10_chance_32 : decode cX10_chance 32 = .ok (.i2l, 1) := by decide +kernel
theorem dX10_chance_33 : decode cX10_chance 33 = .ok (.ldc2_w 238, 3) := by decide +kernel
theorem dX10_chance_36 : decode cX10_chance 36 = .ok (.iload_n 3, 1) := by decide +kernel
theorem dX10_chance_37 : decode cX10_chance 37 = .ok (.invokestatic 240, 3) := by decide +kernel
theorem dX10_chance_40 : decode cX10_chance 40 = .ok (.lreturn, 1) := by decide +kernel
theorem dX10_weight_0 : decode cX10_weight 0 = .ok (.iload_n 1, 1) := by decide +kernel
theorem dX10_weight_1 : decode cX10_weight 1 = .ok (.invokestatic 115, 3) := by decide +kernel
theorem dX10_weight_4 : decode cX10_weight 4 = .ok (.ifCond .ne 5, 3) := by decide +kernel
theorem dX10_weight_7 : decode cX10_weight 7 = .ok (.iconst (-1), 1) := by decide +kernel
theorem dX10_weight_8 : decode cX10_weight 8 = .ok (.ireturn, 1) := by decide +kernel
theorem dX10_weight_9 : decode cX10_weight 9 = .ok (.iload_n 2, 1) := by decide +kernel
theorem dX10_weight_10 : decode cX10_weight 10 = .ok (.iconst 0, 1) := by decide +kernel
theorem dX10_weight_11 : decode cX10_weight 11 = .ok (.bipush 9, 2) := by decide +kernel
theorem dX10_weight_13 : decode cX10_weight 13 = .ok (.invokestatic 83, 3) := by decide +kernel
theorem dX10_weight_16 : decode cX10_weight 16 = .ok (.ifCond .ne 6, 3) := by decide +kernel
theorem dX10_weight_19 : decode cX10_weight 19 = .ok (.bipush (-2), 2) := by decide +kernel
theorem dX10_weight_21 : decode cX10_weight 21 = .ok (.ireturn, 1) := by decide +kernel
theorem dX10_weight_22 : decode cX10_weight 22 = .ok (.aload_n 0, 1) := by decide +kernel
theorem dX10_weight_23 : decode cX10_weight 23 = .ok (.getfield 61, 3) := by decide +kernel
theorem dX10_weight_26 : decode cX10_weight 26 = .ok (.getfield 244, 3) := by decide +kernel
theorem dX10_weight_29 : decode cX10_weight 29 = .ok (.iload_n 1, 1) := by decide +kernel
theorem dX10_weight_30 : decode cX10_weight 30 = .ok (.iaload, 1) := by decide +kernel
theorem dX10_weight_31 : decode cX10_weight 31 = .ok (.istore_n 3, 1) := by decide +kernel
theorem dX10_weight_32 : decode cX10_weight 32 = .ok (.aload_n 0, 1) := by decide +kernel
theorem dX10_weight_33 : decode cX10_weight 33 = .ok (.getfield 61, 3) := by decide +kernel
theorem dX10_weight_36 : decode cX10_weight 36 = .ok (.getfield 244, 3) := by decide +kernel
theorem dX10_weight_39 : decode cX10_weight 39 = .ok (.iload_n 1, 1) := by decide +kernel
theorem dX10_weight_40 : decode cX10_weight 40 = .ok (.iload_n 2, 1) := by decide +kernel
theorem dX10_weight_41 : decode cX10_weight 41 = .ok (.iastore, 1) := by decide +kernel
theorem dX10_weight_42 : decode cX10_weight 42 = .ok (.iload_n 3, 1) := by decide +kernel
theorem dX10_weight_43 : decode cX10_weight 43 = .ok (.ireturn, 1) := by decide +kernel
theorem dX10_odds_0 : decode cX10_odds 0 = .ok (.iload_n 1, 1) := by decide +kernel
theorem dX10_odds_1 : decode cX10_odds 1 = .ok (.invokestatic 115, 3) := by decide +kernel
theorem dX10_odds_4 : decode cX10_odds 4 = .ok (.ifCond .ne 7, 3) := by decide +kernel
theorem dX10_odds_7 : decode cX10_odds 7 = .ok (.ldc2_w 232, 3) := by decide +kernel
theorem dX10_odds_10 : decode cX10_odds 10 = .ok (.lreturn, 1) := by decide +kernel
theorem dX10_odds_11 : decode cX10_odds 11 = .ok (.aload_n 0, 1) := by decide +kernel
theorem dX10_odds_12 : decode cX10_odds 12 = .ok (.getfield 68, 3) := by decide +kernel
theorem dX10_odds_15 : decode cX10_odds 15 = .ok (.aload_n 0, 1) := by decide +kernel
theorem dX10_odds_16 : decode cX10_odds 16 = .ok (.getfield 54, 3) := by decide +kernel
theorem dX10_odds_19 : decode cX10_odds 19 = .ok (.aload_n 0, 1) := by decide +kernel
theorem dX10_odds_20 : decode cX10_odds 20 = .ok (.getfield 61, 3) := by decide +kernel
theorem dX10_odds_23 : decode cX10_odds 23 = .ok (.invokevirtual 247, 3) := by decide +kernel
theorem dX10_odds_26 : decode cX10_odds 26 = .ok (.aload_n 0, 1) := by decide +kernel
theorem dX10_odds_27 : decode cX10_odds 27 = .ok (.getfield 68, 3) := by decide +kernel
theorem dX10_odds_30 : decode cX10_odds 30 = .ok (.getfield 251, 3) := by decide +kernel
theorem dX10_odds_33 : decode cX10_odds 33 = .ok (.lconst 0, 1) := by decide +kernel
theorem dX10_odds_34 : decode cX10_odds 34 = .ok (.lcmp, 1) := by decide +kernel
theorem dX10_odds_35 : decode cX10_odds 35 = .ok (.ifCond .ne 7, 3) := by decide +kernel
theorem dX10_odds_38 : decode cX10_odds 38 = .ok (.ldc2_w 255, 3) := by decide +kernel
theorem dX10_odds_41 : decode cX10_odds 41 = .ok (.lreturn, 1) := by decide +kernel
theorem dX10_odds_42 : decode cX10_odds 42 = .ok (.aload_n 0, 1) := by decide +kernel
theorem dX10_odds_43 : decode cX10_odds 43 = .ok (.getfield 68, 3) := by decide +kernel
theorem dX10_odds_46 : decode cX10_odds 46 = .ok (.getfield 257, 3) := by decide +kernel
theorem dX10_odds_49 : decode cX10_odds 49 = .ok (.iload_n 1, 1) := by decide +kernel
theorem dX10_odds_50 : decode cX10_odds 50 = .ok (.laload, 1) := by decide +kernel
theorem dX10_odds_51 : decode cX10_odds 51 = .ok (.aload_n 0, 1) := by decide +kernel
theorem dX10_odds_52 : decode cX10_odds 52 = .ok (.getfield 68, 3) := by decide +kernel
theorem dX10_odds_55 : decode cX10_odds 55 = .ok (.getfield 251, 3) := by decide +kernel
theorem dX10_odds_58 : decode cX10_odds 58 = .ok (.iload_n 2, 1) := by decide +kernel
theorem dX10_odds_59 : decode cX10_odds 59 = .ok (.invokestatic 240, 3) := by decide +kernel
theorem dX10_odds_62 : decode cX10_odds 62 = .ok (.lreturn, 1) := by decide +kernel
theorem dX10_best_0 : decode cX10_best 0 = .ok (.aload_n 0, 1) := by decide +kernel
theorem dX10_best_1 : decode cX10_best 1 = .ok (.getfield 68, 3) := by decide +kernel
theorem dX10_best_4 : decode cX10_best 4 = .ok (.aload_n 0, 1) := by decide +kernel
theorem dX10_best_5 : decode cX10_best 5 = .ok (.getfield 54, 3) := by decide +kernel
theorem dX10_best_8 : decode cX10_best 8 = .ok (.aload_n 0, 1) := by decide +kernel
theorem dX10_best_9 : decode cX10_best 9 = .ok (.getfield 61, 3) := by decide +kernel
theorem dX10_best_12 : decode cX10_best 12 = .ok (.invokevirtual 247, 3) := by decide +kernel
theorem dX10_best_15 : decode cX10_best 15 = .ok (.aload_n 0, 1) := by decide +kernel
theorem dX10_best_16 : decode cX10_best 16 = .ok (.getfield 68, 3) := by decide +kernel
theorem dX10_best_19 : decode cX10_best 19 = .ok (.getfield 251, 3) := by decide +kernel
theorem dX10_best_22 : decode cX10_best 22 = .ok (.lconst 0, 1) := by decide +kernel
theorem dX10_best_23 : decode cX10_best 23 = .ok (.lcmp, 1) := by decide +kernel
theorem dX10_best_24 : decode cX10_best 24 = .ok (.ifCond .ne 8, 3) := by decide +kernel
theorem dX10_best_27 : decode cX10_best 27 = .ok (.bipush (-3), 2) := by decide +kernel
theorem dX10_best_29 : decode cX10_best 29 = .ok (.goto 10, 3) := by decide +kernel
theorem dX10_best_32 : decode cX10_best 32 = .ok (.aload_n 0, 1) := by decide +kernel
theorem dX10_best_33 : decode cX10_best 33 = .ok (.getfield 68, 3) := by decide +kernel
theorem dX10_best_36 : decode cX10_best 36 = .ok (.invokevirtual 261, 3) := by decide +kernel
theorem dX10_best_39 : decode cX10_best 39 = .ok (.ireturn, 1) := by decide +kernel
theorem dX10_mover_0 : decode cX10_mover 0 = .ok (.aload_n 0, 1) := by decide +kernel
theorem dX10_mover_1 : decode cX10_mover 1 = .ok (.getfield 68, 3) := by decide +kernel
theorem dX10_mover_4 : decode cX10_mover 4 = .ok (.aload_n 0, 1) := by decide +kernel
theorem dX10_mover_5 : decode cX10_mover 5 = .ok (.getfield 54, 3) := by decide +kernel
theorem dX10_mover_8 : decode cX10_mover 8 = .ok (.aload_n 0, 1) := by decide +kernel
theorem dX10_mover_9 : decode cX10_mover 9 = .ok (.getfield 61, 3) := by decide +kernel
theorem dX10_mover_12 : decode cX10_mover 12 = .ok (.invokevirtual 247, 3) := by decide +kernel
theorem dX10_mover_15 : decode cX10_mover 15 = .ok (.aload_n 0, 1) := by decide +kernel
theorem dX10_mover_16 : decode cX10_mover 16 = .ok (.getfield 68, 3) := by decide +kernel
theorem dX10_mover_19 : decode cX10_mover 19 = .ok (.getfield 251, 3) := by decide +kernel
theorem dX10_mover_22 : decode cX10_mover 22 = .ok (.lconst 0, 1) := by decide +kernel
theorem dX10_mover_23 : decode cX10_mover 23 = .ok (.lcmp, 1) := by decide +kernel
theorem dX10_mover_24 : decode cX10_mover 24 = .ok (.ifCond .ne 8, 3) := by decide +kernel
theorem dX10_mover_27 : decode cX10_mover 27 = .ok (.bipush (-3), 2) := by decide +kernel
theorem dX10_mover_29 : decode cX10_mover 29 = .ok (.goto 14, 3) := by decide +kernel
theorem dX10_mover_32 : decode cX10_mover 32 = .ok (.aload_n 0, 1) := by decide +kernel
theorem dX10_mover_33 : decode cX10_mover 33 = .ok (.getfield 68, 3) := by decide +kernel
theorem dX10_mover_36 : decode cX10_mover 36 = .ok (.aload_n 0, 1) := by decide +kernel
theorem dX10_mover_37 : decode cX10_mover 37 = .ok (.getfield 61, 3) := by decide +kernel
theorem dX10_mover_40 : decode cX10_mover 40 = .ok (.invokevirtual 264, 3) := by decide +kernel
theorem dX10_mover_43 : decode cX10_mover 43 = .ok (.ireturn, 1) := by decide +kernel
theorem dX10_next_0 : decode cX10_next 0 = .ok (.aload_n 0, 1) := by decide +kernel
theorem dX10_next_1 : decode cX10_next 1 = .ok (.getfield 68, 3) := by decide +kernel
theorem dX10_next_4 : decode cX10_next 4 = .ok (.aload_n 0, 1) := by decide +kernel
theorem dX10_next_5 : decode cX10_next 5 = .ok (.getfield 54, 3) := by decide +kernel
theorem dX10_next_8 : decode cX10_next 8 = .ok (.aload_n 0, 1) := by decide +kernel
theorem dX10_next_9 : decode cX10_next 9 = .ok (.getfield 61, 3) := by decide +kernel
theorem dX10_next_12 : decode cX10_next 12 = .ok (.invokevirtual 247, 3) := by decide +kernel
theorem dX10_next_15 : decode cX10_next 15 = .ok (.aload_n 0, 1) := by decide +kernel
theorem dX10_next_16 : decode cX10_next 16 = .ok (.getfield 68, 3) := by decide +kernel
theorem dX10_next_19 : decode cX10_next 19 = .ok (.getfield 251, 3) := by decide +kernel
theorem dX10_next_22 : decode cX10_next 22 = .ok (.lconst 0, 1) := by decide +kernel
theorem dX10_next_23 : decode cX10_next 23 = .ok (.lcmp, 1) := by decide +kernel
theorem dX10_next_24 : decode cX10_next 24 = .ok (.ifCond .ne 8, 3) := by decide +kernel
theorem dX10_next_27 : decode cX10_next 27 = .ok (.bipush (-3), 2) := by decide +kernel
theorem dX10_next_29 : decode cX10_next 29 = .ok (.goto 14, 3) := by decide +kernel
theorem dX10_next_32 : decode cX10_next 32 = .ok (.aload_n 0, 1) := by decide +kernel
theorem dX10_next_33 : decode cX10_next 33 = .ok (.getfield 68, 3) := by decide +kernel
theorem dX10_next_36 : decode cX10_next 36 = .ok (.aload_n 0, 1) := by decide +kernel
theorem dX10_next_37 : decode cX10_next 37 = .ok (.getfield 54, 3) := by decide +kernel
theorem dX10_next_40 : decode cX10_next 40 = .ok (.invokevirtual 268, 3) := by decide +kernel
theorem dX10_next_43 : decode cX10_next 43 = .ok (.ireturn, 1) := by decide +kernel
theorem dX10_once_0 : decode cX10_once 0 = .ok (.aload_n 0, 1) := by decide +kernel
theorem dX10_once_1 : decode cX10_once 1 = .ok (.getfield 61, 3) := by decide +kernel
theorem dX10_once_4 : decode cX10_once 4 = .ok (.invokestatic 272, 3) := by decide +kernel
theorem dX10_once_7 : decode cX10_once 7 = .ok (.ireturn, 1) := by decide +kernel
theorem dX10_times_0 : decode cX10_times 0 = .ok (.aload_n 0, 1) := by decide +kernel
theorem dX10_times_1 : decode cX10_times 1 = .ok (.getfield 75, 3) := by decide +kernel
theorem dX10_times_4 : decode cX10_times 4 = .ok (.aload_n 0, 1) := by decide +kernel
theorem dX10_times_5 : decode cX10_times 5 = .ok (.getfield 61, 3) := by decide +kernel
theorem dX10_times_8 : decode cX10_times 8 = .ok (.invokevirtual 275, 3) := by decide +kernel
theorem dX10_times_11 : decode cX10_times 11 = .ok (.aload_n 0, 1) := by decide +kernel
theorem dX10_times_12 : decode cX10_times 12 = .ok (.getfield 75, 3) := by decide +kernel
theorem dX10_times_15 : decode cX10_times 15 = .ok (.getfield 279, 3) := by decide +kernel
theorem dX10_times_18 : decode cX10_times 18 = .ok (.ireturn, 1) := by decide +kernel
theorem dX10_time_0 : decode cX10_time 0 = .ok (.aload_n 0, 1) := by decide +kernel
theorem dX10_time_1 : decode cX10_time 1 = .ok (.getfield 75, 3) := by decide +kernel
theorem dX10_time_4 : decode cX10_time 4 = .ok (.aload_n 0, 1) := by decide +kernel
theorem dX10_time_5 : decode cX10_time 5 = .ok (.getfield 61, 3) := by decide +kernel
theorem dX10_time_8 : decode cX10_time 8 = .ok (.invokevirtual 275, 3) := by decide +kernel
theorem dX10_time_11 : decode cX10_time 11 = .ok (.aload_n 0, 1) := by decide +kernel
theorem dX10_time_12 : decode cX10_time 12 = .ok (.getfield 75, 3) := by decide +kernel
theorem dX10_time_15 : decode cX10_time 15 = .ok (.iload_n 1, 1) := by decide +kernel
theorem dX10_time_16 : decode cX10_time 16 = .ok (.invokevirtual 280, 3) := by decide +kernel
theorem dX10_time_19 : decode cX10_time 19 = .ok (.ireturn, 1) := by decide +kernel
theorem dX10_order_0 : decode cX10_order 0 = .ok (.iload_n 1, 1) := by decide +kernel
theorem dX10_order_1 : decode cX10_order 1 = .ok (.invokestatic 205, 3) := by decide +kernel
theorem dX10_order_4 : decode cX10_order 4 = .ok (.ifCond .ne 5, 3) := by decide +kernel
theorem dX10_order_7 : decode cX10_order 7 = .ok (.iconst (-1), 1) := by decide +kernel
theorem dX10_order_8 : decode cX10_order 8 = .ok (.ireturn, 1) := by decide +kernel
theorem dX10_order_9 : decode cX10_order 9 = .ok (.aload_n 0, 1) := by decide +kernel
theorem dX10_order_10 : decode cX10_order 10 = .ok (.getfield 61, 3) := by decide +kernel
theorem dX10_order_13 : decode cX10_order 13 = .ok (.iload_n 1, 1) := by decide +kernel
theorem dX10_order_14 : decode cX10_order 14 = .ok (.invokestatic 283, 3) := by decide +kernel
theorem dX10_order_17 : decode cX10_order 17 = .ok (.ifCond .eq 7, 3) := by decide +kernel
theorem dX10_order_20 : decode cX10_order 20 = .ok (.iconst 1, 1) := by decide +kernel
theorem dX10_order_21 : decode cX10_order 21 = .ok (.goto 4, 3) := by decide +kernel
theorem dX10_order_24 : decode cX10_order 24 = .ok (.iconst 0, 1) := by decide +kernel
theorem dX10_order_25 : decode cX10_order 25 = .ok (.ireturn, 1) := by decide +kernel
theorem dX10_gap_0 : decode cX10_gap 0 = .ok (.aload_n 0, 1) := by decide +kernel
theorem dX10_gap_1 : decode cX10_gap 1 = .ok (.iload_n 1, 1) := by decide +kernel
theorem dX10_gap_2 : decode cX10_gap 2 = .ok (.invokevirtual 214, 3) := by decide +kernel
theorem dX10_gap_5 : decode cX10_gap 5 = .ok (.ifCond .ne 5, 3) := by decide +kernel
theorem dX10_gap_8 : decode cX10_gap 8 = .ok (.iconst (-1), 1) := by decide +kernel
theorem dX10_gap_9 : decode cX10_gap 9 = .ok (.ireturn, 1) := by decide +kernel
theorem dX10_gap_10 : decode cX10_gap 10 = .ok (.aload_n 0, 1) := by decide +kernel
theorem dX10_gap_11 : decode cX10_gap 11 = .ok (.getfield 61, 3) := by decide +kernel
theorem dX10_gap_14 : decode cX10_gap 14 = .ok (.iload_n 1, 1) := by decide +kernel
theorem dX10_gap_15 : decode cX10_gap 15 = .ok (.iconst 0, 1) := by decide +kernel
theorem dX10_gap_16 : decode cX10_gap 16 = .ok (.invokevirtual 223, 3) := by decide +kernel
theorem dX10_gap_19 : decode cX10_gap 19 = .ok (.istore_n 2, 1) := by decide +kernel
theorem dX10_gap_20 : decode cX10_gap 20 = .ok (.aload_n 0, 1) := by decide +kernel
theorem dX10_gap_21 : decode cX10_gap 21 = .ok (.getfield 61, 3) := by decide +kernel
theorem dX10_gap_24 : decode cX10_gap 24 = .ok (.iload_n 2, 1) := by decide +kernel
theorem dX10_gap_25 : decode cX10_gap 25 = .ok (.iload_n 1, 1) := by decide +kernel
theorem dX10_gap_26 : decode cX10_gap 26 = .ok (.invokestatic 287, 3) := by decide +kernel
theorem dX10_gap_29 : decode cX10_gap 29 = .ok (.istore_n 3, 1) := by decide +kernel
theorem dX10_gap_30 : decode cX10_gap 30 = .ok (.iload_n 3, 1) := by decide +kernel
theorem dX10_gap_31 : decode cX10_gap 31 = .ok (.bipush (-9), 2) := by decide +kernel
theorem dX10_gap_33 : decode cX10_gap 33 = .ok (.if_icmp .eq 14, 3) := by decide +kernel
theorem dX10_gap_36 : decode cX10_gap 36 = .ok (.aload_n 0, 1) := by decide +kernel
theorem dX10_gap_37 : decode cX10_gap 37 = .ok (.getfield 61, 3) := by decide +kernel
theorem dX10_gap_40 : decode cX10_gap 40 = .ok (.iload_n 2, 1) := by decide +kernel
theorem dX10_gap_41 : decode cX10_gap 41 = .ok (.invokestatic 283, 3) := by decide +kernel
theorem dX10_gap_44 : decode cX10_gap 44 = .ok (.ifCond .ne 6, 3) := by decide +kernel
theorem dX10_gap_47 : decode cX10_gap 47 = .ok (.bipush (-3), 2) := by decide +kernel
theorem dX10_gap_49 : decode cX10_gap 49 = .ok (.ireturn, 1) := by decide +kernel
theorem dX10_gap_50 : decode cX10_gap 50 = .ok (.aload_n 0, 1) := by decide +kernel
theorem dX10_gap_51 : decode cX10_gap 51 = .ok (.getfield 61, 3) := by decide +kernel
theorem dX10_gap_54 : decode cX10_gap 54 = .ok (.iload_n 2, 1) := by decide +kernel
theorem dX10_gap_55 : decode cX10_gap 55 = .ok (.iload_n 1, 1) := by decide +kernel
theorem dX10_gap_56 : decode cX10_gap 56 = .ok (.invokestatic 291, 3) := by decide +kernel
theorem dX10_gap_59 : decode cX10_gap 59 = .ok (.iload_n 3, 1) := by decide +kernel
theorem dX10_gap_60 : decode cX10_gap 60 = .ok (.isub, 1) := by decide +kernel
theorem dX10_gap_61 : decode cX10_gap 61 = .ok (.ireturn, 1) := by decide +kernel
theorem dX10_pole_0 : decode cX10_pole 0 = .ok (.iload_n 1, 1) := by decide +kernel
theorem dX10_pole_1 : decode cX10_pole 1 = .ok (.invokestatic 115, 3) := by decide +kernel
theorem dX10_pole_4 : decode cX10_pole 4 = .ok (.ifCond .ne 5, 3) := by decide +kernel
theorem dX10_pole_7 : decode cX10_pole 7 = .ok (.iconst (-1), 1) := by decide +kernel
theorem dX10_pole_8 : decode cX10_pole 8 = .ok (.ireturn, 1) := by decide +kernel
theorem dX10_pole_9 : decode cX10_pole 9 = .ok (.iload_n 2, 1) := by decide +kernel
theorem dX10_pole_10 : decode cX10_pole 10 = .ok (.invokestatic 151, 3) := by decide +kernel
theorem dX10_pole_13 : decode cX10_pole 13 = .ok (.ifCond .ne 6, 3) := by decide +kernel
theorem dX10_pole_16 : decode cX10_pole 16 = .ok (.bipush (-2), 2) := by decide +kernel
theorem dX10_pole_18 : decode cX10_pole 18 = .ok (.ireturn, 1) := by decide +kernel
theorem dX10_pole_19 : decode cX10_pole 19 = .ok (.aload_n 0, 1) := by decide +kernel
theorem dX10_pole_20 : decode cX10_pole 20 = .ok (.getfield 54, 3) := by decide +kernel
theorem dX10_pole_23 : decode cX10_pole 23 = .ok (.aload_n 0, 1) := by decide +kernel
theorem dX10_pole_24 : decode cX10_pole 24 = .ok (.getfield 61, 3) := by decide +kernel
theorem dX10_pole_27 : decode cX10_pole 27 = .ok (.iload_n 1, 1) := by decide +kernel
theorem dX10_pole_28 : decode cX10_pole 28 = .ok (.iload_n 2, 1) := by decide +kernel
theorem dX10_pole_29 : decode cX10_pole 29 = .ok (.invokestatic 294, 3) := by decide +kernel
theorem dX10_pole_32 : decode cX10_pole 32 = .ok (.ireturn, 1) := by decide +kernel
theorem dX10_elsewhere_0 : decode cX10_elsewhere 0 = .ok (.iload_n 1, 1) := by decide +kernel
theorem dX10_elsewhere_1 : decode cX10_elsewhere 1 = .ok (.invokestatic 115, 3) := by decide +kernel
theorem dX10_elsewhere_4 : decode cX10_elsewhere 4 = .ok (.ifCond .ne 5, 3) := by decide +kernel
theorem dX10_elsewhere_7 : decode cX10_elsewhere 7 = .ok (.iconst (-1), 1) := by decide +kernel
theorem dX10_elsewhere_8 : decode cX10_elsewhere 8 = .ok (.ireturn, 1) := by decide +kernel
theorem dX10_elsewhere_9 : decode cX10_elsewhere 9 = .ok (.iconst 0, 1) := by decide +kernel
theorem dX10_elsewhere_10 : decode cX10_elsewhere 10 = .ok (.istore_n 2, 1) := by decide +kernel
theorem dX10_elsewhere_11 : decode cX10_elsewhere 11 = .ok (.iconst (-1), 1) := by decide +kernel
theorem dX10_elsewhere_12 : decode cX10_elsewhere 12 = .ok (.istore_n 3, 1) := by decide +kernel
theorem dX10_elsewhere_13 : decode cX10_elsewhere 13 = .ok (.iconst 0, 1) := by decide +kernel
theorem dX10_elsewhere_14 : decode cX10_elsewhere 14 = .ok (.istore 4, 2) := by decide +kernel
theorem dX10_elsewhere_16 : decode cX10_elsewhere 16 = .ok (.iload 4, 2) := by decide +kernel
theorem dX10_elsewhere_18 : decode cX10_elsewhere 18 = .ok (.bipush 6, 2) := by decide +kernel
theorem dX10_elsewhere_20 : decode cX10_elsewhere 20 = .ok (.if_icmp .ge 37, 3) := by decide +kernel
theorem dX10_elsewhere_23 : decode cX10_elsewhere 23 = .ok (.aload_n 0, 1) := by decide +kernel
theorem dX10_elsewhere_24 : decode cX10_elsewhere 24 = .ok (.getfield 54, 3) := by decide +kernel
theorem dX10_elsewhere_27 : decode cX10_elsewhere 27 = .ok (.aload_n 0, 1) := by decide +kernel
theorem dX10_elsewhere_28 : decode cX10_elsewhere 28 = .ok (.getfield 61, 3) := by decide +kernel
theorem dX10_elsewhere_31 : decode cX10_elsewhere 31 = .ok (.iload_n 1, 1) := by decide +kernel
theorem dX10_elsewhere_32 : decode cX10_elsewhere 32 = .ok (.iload 4, 2) := by decide +kernel
theorem dX10_elsewhere_34 : decode cX10_elsewhere 34 = .ok (.invokestatic 294, 3) := by decide +kernel
theorem dX10_elsewhere_37 : decode cX10_elsewhere 37 = .ok (.istore 5, 2) := by decide +kernel
theorem dX10_elsewhere_39 : decode cX10_elsewhere 39 = .ok (.iload 5, 2) := by decide +kernel
theorem dX10_elsewhere_41 : decode cX10_elsewhere 41 = .ok (.iload_n 3, 1) := by decide +kernel
theorem dX10_elsewhere_42 : decode cX10_elsewhere 42 = .ok (.if_icmp .le 9, 3) := by decide +kernel
theorem dX10_elsewhere_45 : decode cX10_elsewhere 45 = .ok (.iload 5, 2) := by decide +kernel
theorem dX10_elsewhere_47 : decode cX10_elsewhere 47 = .ok (.istore_n 3, 1) := by decide +kernel
theorem dX10_elsewhere_48 : decode cX10_elsewhere 48 = .ok (.iload 4, 2) := by decide +kernel
theorem dX10_elsewhere_50 : decode cX10_elsewhere 50 = .ok (.istore_n 2, 1) := by decide +kernel
theorem dX10_elsewhere_51 : decode cX10_elsewhere 51 = .ok (.iinc 4 1, 3) := by decide +kernel
theorem dX10_elsewhere_54 : decode cX10_elsewhere 54 = .ok (.goto (-38), 3) := by decide +kernel
theorem dX10_elsewhere_57 : decode cX10_elsewhere 57 = .ok (.iload_n 2, 1) := by decide +kernel
theorem dX10_elsewhere_58 : decode cX10_elsewhere 58 = .ok (.ireturn, 1) := by decide +kernel
theorem dX10_keep_0 : decode cX10_keep 0 = .ok (.iload_n 1, 1) := by decide +kernel
theorem dX10_keep_1 : decode cX10_keep 1 = .ok (.invokestatic 297, 3) := by decide +kernel
theorem dX10_keep_4 : decode cX10_keep 4 = .ok (.ifCond .ne 5, 3) := by decide +kernel
theorem dX10_keep_7 : decode cX10_keep 7 = .ok (.iconst (-1), 1) := by decide +kernel
theorem dX10_keep_8 : decode cX10_keep 8 = .ok (.ireturn, 1) := by decide +kernel
theorem dX10_keep_9 : decode cX10_keep 9 = .ok (.aload_n 0, 1) := by decide +kernel
theorem dX10_keep_10 : decode cX10_keep 10 = .ok (.getfield 79, 3) := by decide +kernel
theorem dX10_keep_13 : decode cX10_keep 13 = .ok (.iload_n 1, 1) := by decide +kernel
theorem dX10_keep_14 : decode cX10_keep 14 = .ok (.aaload, 1) := by decide +kernel
theorem dX10_keep_15 : decode cX10_keep 15 = .ok (.aload_n 0, 1) := by decide +kernel
theorem dX10_keep_16 : decode cX10_keep 16 = .ok (.getfield 61, 3) := by decide +kernel
theorem dX10_keep_19 : decode cX10_keep 19 = .ok (.invokevirtual 300, 3) := by decide +kernel
theorem dX10_keep_22 : decode cX10_keep 22 = .ok (.aload_n 0, 1) := by decide +kernel
theorem dX10_keep_23 : decode cX10_keep 23 = .ok (.getfield 79, 3) := by decide +kernel
theorem dX10_keep_26 : decode cX10_keep 26 = .ok (.iload_n 1, 1) := by decide +kernel
theorem dX10_keep_27 : decode cX10_keep 27 = .ok (.aaload, 1) := by decide +kernel
theorem dX10_keep_28 : decode cX10_keep 28 = .ok (.iconst 1, 1) := by decide +kernel
theorem dX10_keep_29 : decode cX10_keep 29 = .ok (.putfield 303, 3) := by decide +kernel
theorem dX10_keep_32 : decode cX10_keep 32 = .ok (.aload_n 0, 1) := by decide +kernel
theorem dX10_keep_33 : decode cX10_keep 33 = .ok (.getfield 61, 3) := by decide +kernel
theorem dX10_keep_36 : decode cX10_keep 36 = .ok (.getfield 208, 3) := by decide +kernel
theorem dX10_keep_39 : decode cX10_keep 39 = .ok (.ireturn, 1) := by decide +kernel
theorem dX10_again_0 : decode cX10_again 0 = .ok (.iload_n 1, 1) := by decide +kernel
theorem dX10_again_1 : decode cX10_again 1 = .ok (.invokestatic 297, 3) := by decide +kernel
theorem dX10_again_4 : decode cX10_again 4 = .ok (.ifCond .ne 5, 3) := by decide +kernel
theorem dX10_again_7 : decode cX10_again 7 = .ok (.iconst (-1), 1) := by decide +kernel
theorem dX10_again_8 : decode cX10_again 8 = .ok (.ireturn, 1) := by decide +kernel
theorem dX10_again_9 : decode cX10_again 9 = .ok (.aload_n 0, 1) := by decide +kernel
theorem dX10_again_10 : decode cX10_again 10 = .ok (.getfield 79, 3) := by decide +kernel
theorem dX10_again_13 : decode cX10_again 13 = .ok (.iload_n 1, 1) := by decide +kernel
theorem dX10_again_14 : decode cX10_again 14 = .ok (.aaload, 1) := by decide +kernel
theorem dX10_again_15 : decode cX10_again 15 = .ok (.getfield 303, 3) := by decide +kernel
theorem dX10_again_18 : decode cX10_again 18 = .ok (.ifCond .ne 6, 3) := by decide +kernel
theorem dX10_again_21 : decode cX10_again 21 = .ok (.bipush (-3), 2) := by decide +kernel
theorem dX10_again_23 : decode cX10_again 23 = .ok (.ireturn, 1) := by decide +kernel
theorem dX10_again_24 : decode cX10_again 24 = .ok (.aload_n 0, 1) := by decide +kernel
theorem dX10_again_25 : decode cX10_again 25 = .ok (.getfield 61, 3) := by decide +kernel
theorem dX10_again_28 : decode cX10_again 28 = .ok (.aload_n 0, 1) := by decide +kernel
theorem dX10_again_29 : decode cX10_again 29 = .ok (.getfield 79, 3) := by decide +kernel
theorem dX10_again_32 : decode cX10_again 32 = .ok (.iload_n 1, 1) := by decide +kernel
theorem dX10_again_33 : decode cX10_again 33 = .ok (.aaload, 1) := by decide +kernel
theorem dX10_again_34 : decode cX10_again 34 = .ok (.invokevirtual 300, 3) := by decide +kernel
theorem dX10_again_37 : decode cX10_again 37 = .ok (.aload_n 0, 1) := by decide +kernel
theorem dX10_again_38 : decode cX10_again 38 = .ok (.getfield 61, 3) := by decide +kernel
theorem dX10_again_41 : decode cX10_again 41 = .ok (.getfield 208, 3) := by decide +kernel
theorem dX10_again_44 : decode cX10_again 44 = .ok (.ireturn, 1) := by decide +kernel
theorem dX10_count_0 : decode cX10_count 0 = .ok (.iload_n 1, 1) := by decide +kernel
theorem dX10_count_1 : decode cX10_count 1 = .ok (.tableswitch 63 0 3 #[31, 39, 47, 55], 31) := by decide +kernel
theorem dX10_count_32 : decode cX10_count 32 = .ok (.aload_n 0, 1) := by decide +kernel
theorem dX10_count_33 : decode cX10_count 33 = .ok (.getfield 10, 3) := by decide +kernel
theorem dX10_count_36 : decode cX10_count 36 = .ok (.getfield 95, 3) := by decide +kernel
theorem dX10_count_39 : decode cX10_count 39 = .ok (.ireturn, 1) := by decide +kernel
theorem dX10_count_40 : decode cX10_count 40 = .ok (.aload_n 0, 1) := by decide +kernel
theorem dX10_count_41 : decode cX10_count 41 = .ok (.getfield 61, 3) := by decide +kernel
theorem dX10_count_44 : decode cX10_count 44 = .ok (.getfield 208, 3) := by decide +kernel
theorem dX10_count_47 : decode cX10_count 47 = .ok (.ireturn, 1) := by decide +kernel
theorem dX10_count_48 : decode cX10_count 48 = .ok (.aload_n 0, 1) := by decide +kernel
theorem dX10_count_49 : decode cX10_count 49 = .ok (.getfield 61, 3) := by decide +kernel
theorem dX10_count_52 : decode cX10_count 52 = .ok (.invokevirtual 307, 3) := by decide +kernel
theorem dX10_count_55 : decode cX10_count 55 = .ok (.ireturn, 1) := by decide +kernel
theorem dX10_count_56 : decode cX10_count 56 = .ok (.aload_n 0, 1) := by decide +kernel
theorem dX10_count_57 : decode cX10_count 57 = .ok (.getfield 61, 3) := by decide +kernel
theorem dX10_count_60 : decode cX10_count 60 = .ok (.invokevirtual 310, 3) := by decide +kernel
theorem dX10_count_63 : decode cX10_count 63 = .ok (.ireturn, 1) := by decide +kernel
theorem dX10_count_64 : decode cX10_count 64 = .ok (.bipush (-2), 2) := by decide +kernel
theorem dX10_count_66 : decode cX10_count 66 = .ok (.ireturn, 1) := by decide +kernel
theorem dX10_within_0 : decode cX10_within 0 = .ok (.iload_n 0, 1) := by decide +kernel
theorem dX10_within_1 : decode cX10_within 1 = .ok (.iload_n 1, 1) := by decide +kernel
theorem dX10_within_2 : decode cX10_within 2 = .ok (.if_icmp .lt 12, 3) := by decide +kernel
theorem dX10_within_5 : decode cX10_within 5 = .ok (.iload_n 0, 1) := by decide +kernel
theorem dX10_within_6 : decode cX10_within 6 = .ok (.iload_n 2, 1) := by decide +kernel
theorem dX10_within_7 : decode cX10_within 7 = .ok (.if_icmp .gt 7, 3) := by decide +kernel
theorem dX10_within_10 : decode cX10_within 10 = .ok (.iconst 1, 1) := by decide +kernel
theorem dX10_within_11 : decode cX10_within 11 = .ok (.goto 4, 3) := by decide +kernel
theorem dX10_within_14 : decode cX10_within 14 = .ok (.iconst 0, 1) := by decide +kernel
theorem dX10_within_15 : decode cX10_within 15 = .ok (.ireturn, 1) := by decide +kernel
theorem dX10_isBand_0 : decode cX10_isBand 0 = .ok (.iload_n 0, 1) := by decide +kernel
theorem dX10_isBand_1 : decode cX10_isBand 1 = .ok (.iconst 0, 1) := by decide +kernel
theorem dX10_isBand_2 : decode cX10_isBand 2 = .ok (.iconst 5, 1) := by decide +kernel
theorem dX10_isBand_3 : decode cX10_isBand 3 = .ok (.invokestatic 83, 3) := by decide +kernel
theorem dX10_isBand_6 : decode cX10_isBand 6 = .ok (.ireturn, 1) := by decide +kernel
theorem dX10_isIce_0 : decode cX10_isIce 0 = .ok (.iload_n 0, 1) := by decide +kernel
theorem dX10_isIce_1 : decode cX10_isIce 1 = .ok (.iconst 0, 1) := by decide +kernel
theorem dX10_isIce_2 : decode cX10_isIce 2 = .ok (.bipush 63, 2) := by decide +kernel
theorem dX10_isIce_4 : decode cX10_isIce 4 = .ok (.invokestatic 83, 3) := by decide +kernel
theorem dX10_isIce_7 : decode cX10_isIce 7 = .ok (.ireturn, 1) := by decide +kernel
theorem dX10_isAir_0 : decode cX10_isAir 0 = .ok (.iload_n 0, 1) := by decide +kernel
theorem dX10_isAir_1 : decode cX10_isAir 1 = .ok (.iconst 0, 1) := by decide +kernel
theorem dX10_isAir_2 : decode cX10_isAir 2 = .ok (.bipush 99, 2) := by decide +kernel
theorem dX10_isAir_4 : decode cX10_isAir 4 = .ok (.invokestatic 83, 3) := by decide +kernel
theorem dX10_isAir_7 : decode cX10_isAir 7 = .ok (.ireturn, 1) := by decide +kernel
theorem dX10_isRound_0 : decode cX10_isRound 0 = .ok (.iload_n 0, 1) := by decide +kernel
theorem dX10_isRound_1 : decode cX10_isRound 1 = .ok (.iconst 0, 1) := by decide +kernel
theorem dX10_isRound_2 : decode cX10_isRound 2 = .ok (.bipush 99, 2) := by decide +kernel
theorem dX10_isRound_4 : decode cX10_isRound 4 = .ok (.invokestatic 83, 3) := by decide +kernel
theorem dX10_isRound_7 : decode cX10_isRound 7 = .ok (.ireturn, 1) := by decide +kernel
theorem dX10_isStory_0 : decode cX10_isStory 0 = .ok (.iload_n 0, 1) := by decide +kernel
theorem dX10_isStory_1 : decode cX10_isStory 1 = .ok (.iconst 0, 1) := by decide +kernel
theorem dX10_isStory_2 : decode cX10_isStory 2 = .ok (.iconst 3, 1) := by decide +kernel
theorem dX10_isStory_3 : decode cX10_isStory 3 = .ok (.invokestatic 83, 3) := by decide +kernel
theorem dX10_isStory_6 : decode cX10_isStory 6 = .ok (.ireturn, 1) := by decide +kernel
theorem dX10_isLand_0 : decode cX10_isLand 0 = .ok (.iload_n 0, 1) := by decide +kernel
theorem dX10_isLand_1 : decode cX10_isLand 1 = .ok (.iconst 0, 1) := by decide +kernel
theorem dX10_isLand_2 : decode cX10_isLand 2 = .ok (.iconst 3, 1) := by decide +kernel
theorem dX10_isLand_3 : decode cX10_isLand 3 = .ok (.invokestatic 83, 3) := by decide +kernel
theorem dX10_isLand_6 : decode cX10_isLand 6 = .ok (.ireturn, 1) := by decide +kernel
theorem dX10_isSlot_0 : decode cX10_isSlot 0 = .ok (.iload_n 0, 1) := by decide +kernel
theorem dX10_isSlot_1 : decode cX10_isSlot 1 = .ok (.iconst 0, 1) := by decide +kernel
theorem dX10_isSlot_2 : decode cX10_isSlot 2 = .ok (.iconst 1, 1) := by decide +kernel
theorem dX10_isSlot_3 : decode cX10_isSlot 3 = .ok (.invokestatic 83, 3) := by decide +kernel
theorem dX10_isSlot_6 : decode cX10_isSlot 6 = .ok (.ireturn, 1) := by decide +kernel
theorem dX10_isBed_0 : decode cX10_isBed 0 = .ok (.iload_n 1, 1) := by decide +kernel
theorem dX10_isBed_1 : decode cX10_isBed 1 = .ok (.iconst 0, 1) := by decide +kernel
theorem dX10_isBed_2 : decode cX10_isBed 2 = .ok (.aload_n 0, 1) := by decide +kernel
theorem dX10_isBed_3 : decode cX10_isBed 3 = .ok (.getfield 61, 3) := by decide +kernel
theorem dX10_isBed_6 : decode cX10_isBed 6 = .ok (.getfield 208, 3) := by decide +kernel
theorem dX10_isBed_9 : decode cX10_isBed 9 = .ok (.iconst 1, 1) := by decide +kernel
theorem dX10_isBed_10 : decode cX10_isBed 10 = .ok (.isub, 1) := by decide +kernel
theorem dX10_isBed_11 : decode cX10_isBed 11 = .ok (.invokestatic 83, 3) := by decide +kernel
theorem dX10_isBed_14 : decode cX10_isBed 14 = .ok (.ireturn, 1) := by decide +kernel
theorem dX10_hasIce_0 : decode cX10_hasIce 0 = .ok (.iload_n 0, 1) := by decide +kernel
theorem dX10_hasIce_1 : decode cX10_hasIce 1 = .ok (.iload_n 1, 1) := by decide +kernel
theorem dX10_hasIce_2 : decode cX10_hasIce 2 = .ok (.ishr, 1) := by decide +kernel
theorem dX10_hasIce_3 : decode cX10_hasIce 3 = .ok (.iconst 1, 1) := by decide +kernel
theorem dX10_hasIce_4 : decode cX10_hasIce 4 = .ok (.iand, 1) := by decide +kernel
theorem dX10_hasIce_5 : decode cX10_hasIce 5 = .ok (.iconst 1, 1) := by decide +kernel
theorem dX10_hasIce_6 : decode cX10_hasIce 6 = .ok (.if_icmp .ne 7, 3) := by decide +kernel
theorem dX10_hasIce_9 : decode cX10_hasIce 9 = .ok (.iconst 1, 1) := by decide +kernel
theorem dX10_hasIce_10 : decode cX10_hasIce 10 = .ok (.goto 4, 3) := by decide +kernel
theorem dX10_hasIce_13 : decode cX10_hasIce 13 = .ok (.iconst 0, 1) := by decide +kernel
theorem dX10_hasIce_14 : decode cX10_hasIce 14 = .ok (.ireturn, 1) := by decide +kernel
theorem dX10_figure_0 : decode cX10_figure 0 = .ok (.iload_n 0, 1) := by decide +kernel
theorem dX10_figure_1 : decode cX10_figure 1 = .ok (.bipush 48, 2) := by decide +kernel
theorem dX10_figure_3 : decode cX10_figure 3 = .ok (.if_icmp .lt 16, 3) := by decide +kernel
theorem dX10_figure_6 : decode cX10_figure 6 = .ok (.iload_n 0, 1) := by decide +kernel
theorem dX10_figure_7 : decode cX10_figure 7 = .ok (.bipush 57, 2) := by decide +kernel
theorem dX10_figure_9 : decode cX10_figure 9 = .ok (.if_icmp .gt 10, 3) := by decide +kernel
theorem dX10_figure_12 : decode cX10_figure 12 = .ok (.iload_n 0, 1) := by decide +kernel
theorem dX10_figure_13 : decode cX10_figure 13 = .ok (.bipush 48, 2) := by decide +kernel
theorem dX10_figure_15 : decode cX10_figure 15 = .ok (.isub, 1) := by decide +kernel
theorem dX10_figure_16 : decode cX10_figure 16 = .ok (.goto 5, 3) := by decide +kernel
theorem dX10_figure_19 : decode cX10_figure 19 = .ok (.bipush (-9), 2) := by decide +kernel
theorem dX10_figure_21 : decode cX10_figure 21 = .ok (.ireturn, 1) := by decide +kernel
theorem dX10_told_0 : decode cX10_told 0 = .ok (.lload_n 0, 1) := by decide +kernel
theorem dX10_told_1 : decode cX10_told 1 = .ok (.lload_n 2, 1) := by decide +kernel
theorem dX10_told_2 : decode cX10_told 2 = .ok (.invokestatic 313, 3) := by decide +kernel
theorem dX10_told_5 : decode cX10_told 5 = .ok (.lstore 5, 2) := by decide +kernel
theorem dX10_told_7 : decode cX10_told 7 = .ok (.lload 5, 2) := by decide +kernel
theorem dX10_told_9 : decode cX10_told 9 = .ok (.lconst 0, 1) := by decide +kernel
theorem dX10_told_10 : decode cX10_told 10 = .ok (.lcmp, 1) := by decide +kernel
theorem dX10_told_11 : decode cX10_told 11 = .ok (.ifCond .gt 7, 3) := by decide +kernel
theorem dX10_told_14 : decode cX10_told 14 = .ok (.ldc2_w 317, 3) := by decide +kernel
theorem dX10_told_17 : decode cX10_told 17 = .ok (.lreturn, 1) := by decide +kernel
theorem dX10_told_18 : decode cX10_told 18 = .ok (.iload 4, 2) := by decide +kernel
theorem dX10_told_20 : decode cX10_told 20 = .ok (.ifCond .eq 10, 3) := by decide +kernel
theorem dX10_told_23 : decode cX10_told 23 = .ok (.lload_n 0, 1) := by decide +kernel
theorem dX10_told_24 : decode cX10_told 24 = .ok (.lload 5, 2) := by decide +kernel
theorem dX10_told_26 : decode cX10_told 26 = .ok (.ldiv, 1) := by decide +kernel
theorem dX10_told_27 : decode cX10_told 27 = .ok (.goto 7, 3) := by decide +kernel
theorem dX10_told_30 : decode cX10_told 30 = .ok (.lload_n 2, 1) := by decide +kernel
theorem dX10_told_31 : decode cX10_told 31 = .ok (.lload 5, 2) := by decide +kernel
theorem dX10_told_33 : decode cX10_told 33 = .ok (.ldiv, 1) := by decide +kernel
theorem dX10_told_34 : decode cX10_told 34 = .ok (.lreturn, 1) := by decide +kernel
theorem dX10_greatestCommon_0 : decode cX10_greatestCommon 0 = .ok (.lload_n 0, 1) := by decide +kernel
theorem dX10_greatestCommon_1 : decode cX10_greatestCommon 1 = .ok (.lstore 4, 2) := by decide +kernel
theorem dX10_greatestCommon_3 : decode cX10_greatestCommon 3 = .ok (.lload_n 2, 1) := by decide +kernel
theorem dX10_greatestCommon_4 : decode cX10_greatestCommon 4 = .ok (.lstore 6, 2) := by decide +kernel
theorem dX10_greatestCommon_6 : decode cX10_greatestCommon 6 = .ok (.iconst 0, 1) := by decide +kernel
theorem dX10_greatestCommon_7 : decode cX10_greatestCommon 7 = .ok (.istore 8, 2) := by decide +kernel
theorem dX10_greatestCommon_9 : decode cX10_greatestCommon 9 = .ok (.iload 8, 2) := by decide +kernel
theorem dX10_greatestCommon_11 : decode cX10_greatestCommon 11 = .ok (.bipush 100, 2) := by decide +kernel
theorem dX10_greatestCommon_13 : decode cX10_greatestCommon 13 = .ok (.if_icmp .ge 31, 3) := by decide +kernel
theorem dX10_greatestCommon_16 : decode cX10_greatestCommon 16 = .ok (.lload 6, 2) := by decide +kernel
theorem dX10_greatestCommon_18 : decode cX10_greatestCommon 18 = .ok (.lconst 0, 1) := by decide +kernel
theorem dX10_greatestCommon_19 : decode cX10_greatestCommon 19 = .ok (.lcmp, 1) := by decide +kernel
theorem dX10_greatestCommon_20 : decode cX10_greatestCommon 20 = .ok (.ifCond .eq 24, 3) := by decide +kernel
theorem dX10_greatestCommon_23 : decode cX10_greatestCommon 23 = .ok (.lload 4, 2) := by decide +kernel
theorem dX10_greatestCommon_25 : decode cX10_greatestCommon 25 = .ok (.lload 6, 2) := by decide +kernel
theorem dX10_greatestCommon_27 : decode cX10_greatestCommon 27 = .ok (.lrem, 1) := by decide +kernel
theorem dX10_greatestCommon_28 : decode cX10_greatestCommon 28 = .ok (.lstore 9, 2) := by decide +kernel
theorem dX10_greatestCommon_30 : decode cX10_greatestCommon 30 = .ok (.lload 6, 2) := by decide +kernel
theorem dX10_greatestCommon_32 : decode cX10_greatestCommon 32 = .ok (.lstore 4, 2) := by decide +kernel
theorem dX10_greatestCommon_34 : decode cX10_greatestCommon 34 = .ok (.lload 9, 2) := by decide +kernel
theorem dX10_greatestCommon_36 : decode cX10_greatestCommon 36 = .ok (.lstore 6, 2) := by decide +kernel
theorem dX10_greatestCommon_38 : decode cX10_greatestCommon 38 = .ok (.iinc 8 1, 3) := by decide +kernel
theorem dX10_greatestCommon_41 : decode cX10_greatestCommon 41 = .ok (.goto (-32), 3) := by decide +kernel
theorem dX10_greatestCommon_44 : decode cX10_greatestCommon 44 = .ok (.lload 4, 2) := by decide +kernel
theorem dX10_greatestCommon_46 : decode cX10_greatestCommon 46 = .ok (.lreturn, 1) := by decide +kernel
end
section
theorem dX11_init_0 : decode cX11_init 0 = .ok (.aload_n 0, 1) := by decide +kernel
theorem dX11_init_1 : decode cX11_init 1 = .ok (.invokespecial 1, 3) := by decide +kernel
theorem dX11_init_4 : decode cX11_init 4 = .ok (.aload_n 0, 1) := by decide +kernel
theorem dX11_init_5 : decode cX11_init 5 = .ok (.bipush 12, 2) := by decide +kernel
theorem dX11_init_7 : decode cX11_init 7 = .ok (.newarray .int, 2) := by decide +kernel
theorem dX11_init_9 : decode cX11_init 9 = .ok (.putfield 7, 3) := by decide +kernel
theorem dX11_init_12 : decode cX11_init 12 = .ok (.aload_n 0, 1) := by decide +kernel
theorem dX11_init_13 : decode cX11_init 13 = .ok (.bipush 12, 2) := by decide +kernel
theorem dX11_init_15 : decode cX11_init 15 = .ok (.newarray .int, 2) := by decide +kernel
theorem dX11_init_17 : decode cX11_init 17 = .ok (.putfield 13, 3) := by decide +kernel
theorem dX11_init_20 : decode cX11_init 20 = .ok (.aload_n 0, 1) := by decide +kernel
theorem dX11_init_21 : decode cX11_init 21 = .ok (.bipush 48, 2) := by decide +kernel
theorem dX11_init_23 : decode cX11_init 23 = .ok (.newarray .int, 2) := by decide +kernel
theorem dX11_init_25 : decode cX11_init 25 = .ok (.putfield 16, 3) := by decide +kernel
theorem dX11_init_28 : decode cX11_init 28 = .ok (.aload_n 0, 1) := by decide +kernel
theorem dX11_init_29 : decode cX11_init 29 = .ok (.bipush 48, 2) := by decide +kernel
theorem dX11_init_31 : decode cX11_init 31 = .ok (.newarray .int, 2) := by decide +kernel
theorem dX11_init_33 : decode cX11_init 33 = .ok (.putfield 19, 3) := by decide +kernel
theorem dX11_init_36 : decode cX11_init 36 = .ok (.aload_n 0, 1) := by decide +kernel
theorem dX11_init_37 : decode cX11_init 37 = .ok (.bipush 48, 2) := by decide +kernel
theorem dX11_init_39 : decode cX11_init 39 = .ok (.newarray .int, 2) := by decide +kernel
theorem dX11_init_41 : decode cX11_init 41 = .ok (.putfield 22, 3) := by decide +kernel
theorem dX11_init_44 : decode cX11_init 44 = .ok (.aload_n 0, 1) := by decide +kernel
theorem dX11_init_45 : decode cX11_init 45 = .ok (.sipush 400, 3) := by decide +kernel
theorem dX11_init_48 : decode cX11_init 48 = .ok (.newarray .int, 2) := by decide +kernel
theorem dX11_init_50 : decode cX11_init 50 = .ok (.putfield 25, 3) := by decide +kernel
theorem dX11_init_53 : decode cX11_init 53 = .ok (.aload_n 0, 1) := by decide +kernel
theorem dX11_init_54 : decode cX11_init 54 = .ok (.iconst 4, 1) := by decide +kernel
theorem dX11_init_55 : decode cX11_init 55 = .ok (.newarray .int, 2) := by decide +kernel
theorem dX11_init_57 : decode cX11_init 57 = .ok (.putfield 28, 3) := by decide +kernel
theorem dX11_init_60 : decode cX11_init 60 = .ok (.aload_n 0, 1) := by decide +kernel
theorem dX11_init_61 : decode cX11_init 61 = .ok (.sipush 6400, 3) := by decide +kernel
theorem dX11_init_64 : decode cX11_init 64 = .ok (.newarray .int, 2) := by decide +kernel
theorem dX11_init_66 : decode cX11_init 66 = .ok (.putfield 31, 3) := by decide +kernel
theorem dX11_init_69 : decode cX11_init 69 = .ok (.aload_n 0, 1) := by decide +kernel
theorem dX11_init_70 : decode cX11_init 70 = .ok (.bipush 100, 2) := by decide +kernel
theorem dX11_init_72 : decode cX11_init 72 = .ok (.newarray .int, 2) := by decide +kernel
theorem dX11_init_74 : decode cX11_init 74 = .ok (.putfield 34, 3) := by decide +kernel
theorem dX11_init_77 : decode cX11_init 77 = .ok (.aload_n 0, 1) := by decide +kernel
theorem dX11_init_78 : decode cX11_init 78 = .ok (.bipush 48, 2) := by decide +kernel
theorem dX11_init_80 : decode cX11_init 80 = .ok (.newarray .int, 2) := by decide +kernel
theorem dX11_init_82 : decode cX11_init 82 = .ok (.putfield 37, 3) := by decide +kernel
theorem dX11_init_85 : decode cX11_init 85 = .ok (.aload_n 0, 1) := by decide +kernel
theorem dX11_init_86 : decode cX11_init 86 = .ok (.iconst 4, 1) := by decide +kernel
theorem dX11_init_87 : decode cX11_init 87 = .ok (.newarray .long, 2) := by decide +kernel
theorem dX11_init_89 : decode cX11_init 89 = .ok (.putfield 40, 3) := by decide +kernel
theorem dX11_init_92 : decode cX11_init 92 = .ok (.aload_n 0, 1) := by decide +kernel
theorem dX11_init_93 : decode cX11_init 93 = .ok (.bipush 8, 2) := by decide +kernel
theorem dX11_init_95 : decode cX11_init 95 = .ok (.newarray .int, 2) := by decide +kernel
theorem dX11_init_97 : decode cX11_init 97 = .ok (.putfield 44, 3) := by decide +kernel
theorem dX11_init_100 : decode cX11_init 100 = .ok (.aload_n 0, 1) := by decide +kernel
theorem dX11_init_101 : decode cX11_init 101 = .ok (.bipush 8, 2) := by decide +kernel
theorem dX11_init_103 : decode cX11_init 103 = .ok (.newarray .int, 2) := by decide +kernel
theorem dX11_init_105 : decode cX11_init 105 = .ok (.putfield 47, 3) := by decide +kernel
theorem dX11_init_108 : decode cX11_init 108 = .ok (.aload_n 0, 1) := by decide +kernel
theorem dX11_init_109 : decode cX11_init 109 = .ok (.iconst 2, 1) := by decide +kernel
theorem dX11_init_110 : decode cX11_init 110 = .ok (.newarray .boolean, 2) := by decide +kernel
theorem dX11_init_112 : decode cX11_init 112 = .ok (.putfield 50, 3) := by decide +kernel
theorem dX11_init_115 : decode cX11_init 115 = .ok (.aload_n 0, 1) := by decide +kernel
theorem dX11_init_116 : decode cX11_init 116 = .ok (.iconst 2, 1) := by decide +kernel
theorem dX11_init_117 : decode cX11_init 117 = .ok (.newarray .int, 2) := by decide +kernel
theorem dX11_init_119 : decode cX11_init 119 = .ok (.putfield 54, 3) := by decide +kernel
theorem dX11_init_122 : decode cX11_init 122 = .ok (.aload_n 0, 1) := by decide +kernel
theorem dX11_init_123 : decode cX11_init 123 = .ok (.bipush 96, 2) := by decide +kernel
theorem dX11_init_125 : decode cX11_init 125 = .ok (.newarray .int, 2) := by decide +kernel
theorem dX11_init_127 : decode cX11_init 127 = .ok (.putfield 57, 3) := by decide +kernel
theorem dX11_init_130 : decode cX11_init 130 = .ok (.aload_n 0, 1) := by decide +kernel
theorem dX11_init_131 : decode cX11_init 131 = .ok (.bipush 8, 2) := by decide +kernel
theorem dX11_init_133 : decode cX11_init 133 = .ok (.newarray .int, 2) := by decide +kernel
theorem dX11_init_135 : decode cX11_init 135 = .ok (.putfield 60, 3) := by decide +kernel
theorem dX11_init_138 : decode cX11_init 138 = .ok (.iconst 0, 1) := by decide +kernel
theorem dX11_init_139 : decode cX11_init 139 = .ok (.istore_n 1, 1) := by decide +kernel
theorem dX11_init_140 : decode cX11_init 140 = .ok (.iload_n 1, 1) := by decide +kernel
theorem dX11_init_141 : decode cX11_init 141 = .ok (.iconst 4, 1) := by decide +kernel
theorem dX11_init_142 : decode cX11_init 142 = .ok (.if_icmp .ge 16, 3) := by decide +kernel
theorem dX11_init_145 : decode cX11_init 145 = .ok (.aload_n 0, 1) := by decide +kernel
theorem dX11_init_146 : decode cX11_init 146 = .ok (.getfield 28, 3) := by decide +kernel
theorem dX11_init_149 : decode cX11_init 149 = .ok (.iload_n 1, 1) := by decide +kernel
theorem dX11_init_150 : decode cX11_init 150 = .ok (.iconst 1, 1) := by decide +kernel
theorem dX11_init_151 : decode cX11_init 151 = .ok (.iastore, 1) := by decide +kernel
theorem dX11_init_152 : decode cX11_init 152 = .ok (.iinc 1 1, 3) := by decide +kernel
theorem dX11_init_155 : decode cX11_init 155 = .ok (.goto (-15), 3) := by decide +kernel
theorem dX11_init_158 : decode cX11_init 158 = .ok (.return_, 1) := by decide +kernel
theorem dX11_in_0 : decode cX11_in 0 = .ok (.lload_n 0, 1) := by decide +kernel
theorem dX11_in_1 : decode cX11_in 1 = .ok (.lload_n 2, 1) := by decide +kernel
theorem dX11_in_2 : decode cX11_in 2 = .ok (.lcmp, 1) := by decide +kernel
theorem dX11_in_3 : decode cX11_in 3 = .ok (.ifCond .lt 14, 3) := by decide +kernel
theorem dX11_in_6 : decode cX11_in 6 = .ok (.lload_n 0, 1) := by decide +kernel
theorem dX11_in_7 : decode cX11_in 7 = .ok (.lload 4, 2) := by decide +kernel
theorem dX11_in_9 : decode cX11_in 9 = .ok (.lcmp, 1) := by decide +kernel
theorem dX11_in_10 : decode cX11_in 10 = .ok (.ifCond .gt 7, 3) := by decide +kernel
theorem dX11_in_13 : decode cX11_in 13 = .ok (.iconst 1, 1) := by decide +kernel
theorem dX11_in_14 : decode cX11_in 14 = .ok (.goto 4, 3) := by decide +kernel
theorem dX11_in_17 : decode cX11_in 17 = .ok (.iconst 0, 1) := by decide +kernel
theorem dX11_in_18 : decode cX11_in 18 = .ok (.ireturn, 1) := by decide +kernel
theorem dX11_ones_0 : decode cX11_ones 0 = .ok (.iconst 0, 1) := by decide +kernel
theorem dX11_ones_1 : decode cX11_ones 1 = .ok (.istore_n 1, 1) := by decide +kernel
theorem dX11_ones_2 : decode cX11_ones 2 = .ok (.iconst 0, 1) := by decide +kernel
theorem dX11_ones_3 : decode cX11_ones 3 = .ok (.istore_n 2, 1) := by decide +kernel
theorem dX11_ones_4 : decode cX11_ones 4 = .ok (.iload_n 2, 1) := by decide +kernel
theorem dX11_ones_5 : decode cX11_ones 5 = .ok (.bipush 6, 2) := by decide +kernel
theorem dX11_ones_7 : decode cX11_ones 7 = .ok (.if_icmp .ge 17, 3) := by decide +kernel
theorem dX11_ones_10 : decode cX11_ones 10 = .ok (.iload_n 1, 1) := by decide +kernel
theorem dX11_ones_11 : decode cX11_ones 11 = .ok (.iload_n 0, 1) := by decide +kernel
theorem dX11_ones_12 : decode cX11_ones 12 = .ok (.iload_n 2, 1) := by decide +kernel
theorem dX11_ones_13 : decode cX11_ones 13 = .ok (.ishr, 1) := by decide +kernel
theorem dX11_ones_14 : decode cX11_ones 14 = .ok (.iconst 1, 1) := by decide +kernel
theorem dX11_ones_15 : decode cX11_ones 15 = .ok (.iand, 1) := by decide +kernel
theorem dX11_ones_16 : decode cX11_ones 16 = .ok (.iadd, 1) := by decide +kernel
theorem dX11_ones_17 : decode cX11_ones 17 = .ok (.istore_n 1, 1) := by decide +kernel
theorem dX11_ones_18 : decode cX11_ones 18 = .ok (.iinc 2 1, 3) := by decide +kernel
theorem dX11_ones_21 : decode cX11_ones 21 = .ok (.goto (-17), 3) := by decide +kernel
theorem dX11_ones_24 : decode cX11_ones 24 = .ok (.iload_n 1, 1) := by decide +kernel
theorem dX11_ones_25 : decode cX11_ones 25 = .ok (.ireturn, 1) := by decide +kernel
theorem dX11_write_0 : decode cX11_write 0 = .ok (.iload_n 1, 1) := by decide +kernel
theorem dX11_write_1 : decode cX11_write 1 = .ok (.i2l, 1) := by decide +kernel
theorem dX11_write_2 : decode cX11_write 2 = .ok (.lconst 1, 1) := by decide +kernel
theorem dX11_write_3 : decode cX11_write 3 = .ok (.ldc2_w 63, 3) := by decide +kernel
theorem dX11_write_6 : decode cX11_write 6 = .ok (.invokestatic 65, 3) := by decide +kernel
theorem dX11_write_9 : decode cX11_write 9 = .ok (.ifCond .ne 6, 3) := by decide +kernel
theorem dX11_write_12 : decode cX11_write 12 = .ok (.bipush (-2), 2) := by decide +kernel
theorem dX11_write_14 : decode cX11_write 14 = .ok (.ireturn, 1) := by decide +kernel
theorem dX11_write_15 : decode cX11_write 15 = .ok (.aload_n 0, 1) := by decide +kernel
theorem dX11_write_16 : decode cX11_write 16 = .ok (.getfield 69, 3) := by decide +kernel
theorem dX11_write_19 : decode cX11_write 19 = .ok (.iload_n 1, 1) := by decide +kernel
theorem dX11_write_20 : decode cX11_write 20 = .ok (.iadd, 1) := by decide +kernel
theorem dX11_write_21 : decode cX11_write 21 = .ok (.bipush 48, 2) := by decide +kernel
theorem dX11_write_23 : decode cX11_write 23 = .ok (.if_icmp .le 6, 3) := by decide +kernel
theorem dX11_write_26 : decode cX11_write 26 = .ok (.bipush (-4), 2) := by decide +kernel
theorem dX11_write_28 : decode cX11_write 28 = .ok (.ireturn, 1) := by decide +kernel
theorem dX11_write_29 : decode cX11_write 29 = .ok (.iload_n 1, 1) := by decide +kernel
theorem dX11_write_30 : decode cX11_write 30 = .ok (.iconst 1, 1) := by decide +kernel
theorem dX11_write_31 : decode cX11_write 31 = .ok (.isub, 1) := by decide +kernel
theorem dX11_write_32 : decode cX11_write 32 = .ok (.istore 4, 2) := by decide +kernel
theorem dX11_write_34 : decode cX11_write 34 = .ok (.iload 4, 2) := by decide +kernel
theorem dX11_write_36 : decode cX11_write 36 = .ok (.ifCond .lt 40, 3) := by decide +kernel
theorem dX11_write_39 : decode cX11_write 39 = .ok (.aload_n 0, 1) := by decide +kernel
theorem dX11_write_40 : decode cX11_write 40 = .ok (.getfield 16, 3) := by decide +kernel
theorem dX11_write_43 : decode cX11_write 43 = .ok (.aload_n 0, 1) := by decide +kernel
theorem dX11_write_44 : decode cX11_write 44 = .ok (.getfield 69, 3) := by decide +kernel
theorem dX11_write_47 : decode cX11_write 47 = .ok (.lload_n 2, 1) := by decide +kernel
theorem dX11_write_48 : decode cX11_write 48 = .ok (.bipush 8, 2) := by decide +kernel
theorem dX11_write_50 : decode cX11_write 50 = .ok (.iload 4, 2) := by decide +kernel
theorem dX11_write_52 : decode cX11_write 52 = .ok (.imul, 1) := by decide +kernel
theorem dX11_write_53 : decode cX11_write 53 = .ok (.lshr, 1) := by decide +kernel
theorem dX11_write_54 : decode cX11_write 54 = .ok (.ldc2_w 73, 3) := by decide +kernel
theorem dX11_write_57 : decode cX11_write 57 = .ok (.land, 1) := by decide +kernel
theorem dX11_write_58 : decode cX11_write 58 = .ok (.l2i, 1) := by decide +kernel
theorem dX11_write_59 : decode cX11_write 59 = .ok (.iastore, 1) := by decide +kernel
theorem dX11_write_60 : decode cX11_write 60 = .ok (.aload_n 0, 1) := by decide +kernel
theorem dX11_write_61 : decode cX11_write 61 = .ok (.dup, 1) := by decide +kernel
theorem dX11_write_62 : decode cX11_write 62 = .ok (.getfield 69, 3) := by decide +kernel
theorem dX11_write_65 : decode cX11_write 65 = .ok (.iconst 1, 1) := by decide +kernel
theorem dX11_write_66 : decode cX11_write 66 = .ok (.iadd, 1) := by decide +kernel
theorem dX11_write_67 : decode cX11_write 67 = .ok (.putfield 69, 3) := by decide +kernel
theorem dX11_write_70 : decode cX11_write 70 = .ok (.iinc 4 (-1), 3) := by decide +kernel
theorem dX11_write_73 : decode cX11_write 73 = .ok (.goto (-39), 3) := by decide +kernel
theorem dX11_write_76 : decode cX11_write 76 = .ok (.aload_n 0, 1) := by decide +kernel
theorem dX11_write_77 : decode cX11_write 77 = .ok (.getfield 69, 3) := by decide +kernel
theorem dX11_write_80 : decode cX11_write 80 = .ok (.ireturn, 1) := by decide +kernel
theorem dX11_wipe_0 : decode cX11_wipe 0 = .ok (.aload_n 0, 1) := by decide +kernel
theorem dX11_wipe_1 : decode cX11_wipe 1 = .ok (.getfield 69, 3) := by decide +kernel
theorem dX11_wipe_4 : decode cX11_wipe 4 = .ok (.istore_n 1, 1) := by decide +kernel
theorem dX11_wipe_5 : decode cX11_wipe 5 = .ok (.aload_n 0, 1) := by decide +kernel
theorem dX11_wipe_6 : decode cX11_wipe 6 = .ok (.iconst 0, 1) := by decide +kernel
theorem dX11_wipe_7 : decode cX11_wipe 7 = .ok (.putfield 69, 3) := by decide +kernel
theorem dX11_wipe_10 : decode cX11_wipe 10 = .ok (.iload_n 1, 1) := by decide +kernel
theorem dX11_wipe_11 : decode cX11_wipe 11 = .ok (.ireturn, 1) := by decide +kernel
theorem dX11_fail_0 : decode cX11_fail 0 = .ok (.aload_n 0, 1) := by decide +kernel
theorem dX11_fail_1 : decode cX11_fail 1 = .ok (.aload_n 0, 1) := by decide +kernel
theorem dX11_fail_2 : decode cX11_fail 2 = .ok (.getfield 75, 3) := by decide +kernel
theorem dX11_fail_5 : decode cX11_fail 5 = .ok (.bipush (-9), 2) := by decide +kernel
theorem dX11_fail_7 : decode cX11_fail 7 = .ok (.if_icmp .ne 10, 3) := by decide +kernel
theorem dX11_fail_10 : decode cX11_fail 10 = .ok (.aload_n 0, 1) := by decide +kernel
theorem dX11_fail_11 : decode cX11_fail 11 = .ok (.getfield 78, 3) := by decide +kernel
theorem dX11_fail_14 : decode cX11_fail 14 = .ok (.goto 7, 3) := by decide +kernel
theorem dX11_fail_17 : decode cX11_fail 17 = .ok (.aload_n 0, 1) := by decide +kernel
theorem dX11_fail_18 : decode cX11_fail 18 = .ok (.getfield 75, 3) := by decide +kernel
theorem dX11_fail_21 : decode cX11_fail 21 = .ok (.putfield 75, 3) := by decide +kernel
theorem dX11_fail_24 : decode cX11_fail 24 = .ok (.return_, 1) := by decide +kernel
theorem dX11_isNext_0 : decode cX11_isNext 0 = .ok (.aload_n 0, 1) := by decide +kernel
theorem dX11_isNext_1 : decode cX11_isNext 1 = .ok (.getfield 75, 3) := by decide +kernel
theorem dX11_isNext_4 : decode cX11_isNext 4 = .ok (.bipush (-9), 2) := by decide +kernel
theorem dX11_isNext_6 : decode cX11_isNext 6 = .ok (.if_icmp .ne 31, 3) := by decide +kernel
theorem dX11_isNext_9 : decode cX11_isNext 9 = .ok (.aload_n 0, 1) := by decide +kernel
theorem dX11_isNext_10 : decode cX11_isNext 10 = .ok (.getfield 78, 3) := by decide +kernel
theorem dX11_isNext_13 : decode cX11_isNext 13 = .ok (.aload_n 0, 1) := by decide +kernel
theorem dX11_isNext_14 : decode cX11_isNext 14 = .ok (.getfield 69, 3) := by decide +kernel
theorem dX11_isNext_17 : decode cX11_isNext 17 = .ok (.if_icmp .ge 20, 3) := by decide +kernel
theorem dX11_isNext_20 : decode cX11_isNext 20 = .ok (.aload_n 0, 1) := by decide +kernel
theorem dX11_isNext_21 : decode cX11_isNext 21 = .ok (.getfield 16, 3) := by decide +kernel
theorem dX11_isNext_24 : decode cX11_isNext 24 = .ok (.aload_n 0, 1) := by decide +kernel
theorem dX11_isNext_25 : decode cX11_isNext 25 = .ok (.getfield 78, 3) := by decide +kernel
theorem dX11_isNext_28 : decode cX11_isNext 28 = .ok (.iaload, 1) := by decide +kernel
theorem dX11_isNext_29 : decode cX11_isNext 29 = .ok (.iload_n 1, 1) := by decide +kernel
theorem dX11_isNext_30 : decode cX11_isNext 30 = .ok (.if_icmp .ne 7, 3) := by decide +kernel
theorem dX11_isNext_33 : decode cX11_isNext 33 = .ok (.iconst 1, 1) := by decide +kernel
theorem dX11_isNext_34 : decode cX11_isNext 34 = .ok (.goto 4, 3) := by decide +kernel
theorem dX11_isNext_37 : decode cX11_isNext 37 = .ok (.iconst 0, 1) := by decide +kernel
theorem dX11_isNext_38 : decode cX11_isNext 38 = .ok (.ireturn, 1) := by decide +kernel
theorem dX11_figure_0 : decode cX11_figure 0 = .ok (.aload_n 0, 1) := by decide +kernel
theorem dX11_figure_1 : decode cX11_figure 1 = .ok (.getfield 75, 3) := by decide +kernel
theorem dX11_figure_4 : decode cX11_figure 4 = .ok (.bipush (-9), 2) := by decide +kernel
theorem dX11_figure_6 : decode cX11_figure 6 = .ok (.if_icmp .ne 29, 3) := by decide +kernel
theorem dX11_figure_9 : decode cX11_figure 9 = .ok (.aload_n 0, 1) := by decide +kernel
theorem dX11_figure_10 : decode cX11_figure 10 = .ok (.getfield 78, 3) := by decide +kernel
theorem dX11_figure_13 : decode cX11_figure 13 = .ok (.aload_n 0, 1) := by decide +kernel
theorem dX11_figure_14 : decode cX11_figure 14 = .ok (.getfield 69, 3) := by decide +kernel
theorem dX11_figure_17 : decode cX11_figure 17 = .ok (.if_icmp .ge 18, 3) := by decide +kernel
theorem dX11_figure_20 : decode cX11_figure 20 = .ok (.aload_n 0, 1) := by decide +kernel
theorem dX11_figure_21 : decode cX11_figure 21 = .ok (.getfield 16, 3) := by decide +kernel
theorem dX11_figure_24 : decode cX11_figure 24 = .ok (.aload_n 0, 1) := by decide +kernel
theorem dX11_figure_25 : decode cX11_figure 25 = .ok (.getfield 78, 3) := by decide +kernel
theorem dX11_figure_28 : decode cX11_figure 28 = .ok (.iaload, 1) := by decide +kernel
theorem dX11_figure_29 : decode cX11_figure 29 = .ok (.bipush 48, 2) := by decide +kernel
theorem dX11_figure_31 : decode cX11_figure 31 = .ok (.isub, 1) := by decide +kernel
theorem dX11_figure_32 : decode cX11_figure 32 = .ok (.goto 4, 3) := by decide +kernel
theorem dX11_figure_35 : decode cX11_figure 35 = .ok (.iconst (-1), 1) := by decide +kernel
theorem dX11_figure_36 : decode cX11_figure 36 = .ok (.istore_n 2, 1) := by decide +kernel
theorem dX11_figure_37 : decode cX11_figure 37 = .ok (.iload_n 2, 1) := by decide +kernel
theorem dX11_figure_38 : decode cX11_figure 38 = .ok (.i2l, 1) := by decide +kernel
theorem dX11_figure_39 : decode cX11_figure 39 = .ok (.lconst 0, 1) := by decide +kernel
theorem dX11_figure_40 : decode cX11_figure 40 = .ok (.ldc2_w 81, 3) := by decide +kernel
theorem dX11_figure_43 : decode cX11_figure 43 = .ok (.invokestatic 65, 3) := by decide +kernel
theorem dX11_figure_46 : decode cX11_figure 46 = .ok (.ifCond .eq 11, 3) := by decide +kernel
theorem dX11_figure_49 : decode cX11_figure 49 = .ok (.iload_n 1, 1) := by decide +kernel
theorem dX11_figure_50 : decode cX11_figure 50 = .ok (.iload_n 2, 1) := by decide +kernel
theorem dX11_figure_51 : decode cX11_figure 51 = .ok (.ishr, 1) := by decide +kernel
theorem dX11_figure_52 : decode cX11_figure 52 = .ok (.iconst 1, 1) := by decide +kernel
theorem dX11_figure_53 : decode cX11_figure 53 = .ok (.iand, 1) := by decide +kernel
theorem dX11_figure_54 : decode cX11_figure 54 = .ok (.ifCond .ne 9, 3) := by decide +kernel
theorem dX11_figure_57 : decode cX11_figure 57 = .ok (.aload_n 0, 1) := by decide +kernel
theorem dX11_figure_58 : decode cX11_figure 58 = .ok (.invokevirtual 83, 3) := by decide +kernel
theorem dX11_figure_61 : decode cX11_figure 61 = .ok (.iconst 0, 1) := by decide +kernel
theorem dX11_figure_62 : decode cX11_figure 62 = .ok (.ireturn, 1) := by decide +kernel
theorem dX11_figure_63 : decode cX11_figure 63 = .ok (.aload_n 0, 1) := by decide +kernel
theorem dX11_figure_64 : decode cX11_figure 64 = .ok (.dup, 1) := by decide +kernel
theorem dX11_figure_65 : decode cX11_figure 65 = .ok (.getfield 78, 3) := by decide +kernel
theorem dX11_figure_68 : decode cX11_figure 68 = .ok (.iconst 1, 1) := by decide +kernel
theorem dX11_figure_69 : decode cX11_figure 69 = .ok (.iadd, 1) := by decide +kernel
theorem dX11_figure_70 : decode cX11_figure 70 = .ok (.putfield 78, 3) := by decide +kernel
theorem dX11_figure_73 : decode cX11_figure 73 = .ok (.iload_n 2, 1) := by decide +kernel
theorem dX11_figure_74 : decode cX11_figure 74 = .ok (.ireturn, 1) := by decide +kernel
theorem dX11_placeOf_0 : decode cX11_placeOf 0 = .ok (.iload_n 0, 1) := by decide +kernel
theorem dX11_placeOf_1 : decode cX11_placeOf 1 = .ok (.bipush 82, 2) := by decide +kernel
theorem dX11_placeOf_3 : decode cX11_placeOf 3 = .ok (.if_icmp .ne 8, 3) := by decide +kernel
theorem dX11_placeOf_6 : decode cX11_placeOf 6 = .ok (.bipush 6, 2) := by decide +kernel
theorem dX11_placeOf_8 : decode cX11_placeOf 8 = .ok (.goto 60, 3) := by decide +kernel
theorem dX11_placeOf_11 : decode cX11_placeOf 11 = .ok (.iload_n 0, 1) := by decide +kernel
theorem dX11_placeOf_12 : decode cX11_placeOf 12 = .ok (.bipush 71, 2) := by decide +kernel
theorem dX11_placeOf_14 : decode cX11_placeOf 14 = .ok (.if_icmp .ne 8, 3) := by decide +kernel
theorem dX11_placeOf_17 : decode cX11_placeOf 17 = .ok (.bipush 7, 2) := by decide +kernel
theorem dX11_placeOf_19 : decode cX11_placeOf 19 = .ok (.goto 49, 3) := by decide +kernel
theorem dX11_placeOf_22 : decode cX11_placeOf 22 = .ok (.iload_n 0, 1) := by decide +kernel
theorem dX11_placeOf_23 : decode cX11_placeOf 23 = .ok (.bipush 70, 2) := by decide +kernel
theorem dX11_placeOf_25 : decode cX11_placeOf 25 = .ok (.if_icmp .ne 8, 3) := by decide +kernel
theorem dX11_placeOf_28 : decode cX11_placeOf 28 = .ok (.bipush 8, 2) := by decide +kernel
theorem dX11_placeOf_30 : decode cX11_placeOf 30 = .ok (.goto 38, 3) := by decide +kernel
theorem dX11_placeOf_33 : decode cX11_placeOf 33 = .ok (.iload_n 0, 1) := by decide +kernel
theorem dX11_placeOf_34 : decode cX11_placeOf 34 = .ok (.bipush 77, 2) := by decide +kernel
theorem dX11_placeOf_36 : decode cX11_placeOf 36 = .ok (.if_icmp .ne 8, 3) := by decide +kernel
theorem dX11_placeOf_39 : decode cX11_placeOf 39 = .ok (.bipush 9, 2) := by decide +kernel
theorem dX11_placeOf_41 : decode cX11_placeOf 41 = .ok (.goto 27, 3) := by decide +kernel
theorem dX11_placeOf_44 : decode cX11_placeOf 44 = .ok (.iload_n 0, 1) := by decide +kernel
theorem dX11_placeOf_45 : decode cX11_placeOf 45 = .ok (.bipush 86, 2) := by decide +kernel
theorem dX11_placeOf_47 : decode cX11_placeOf 47 = .ok (.if_icmp .ne 8, 3) := by decide +kernel
theorem dX11_placeOf_50 : decode cX11_placeOf 50 = .ok (.bipush 10, 2) := by decide +kernel
theorem dX11_placeOf_52 : decode cX11_placeOf 52 = .ok (.goto 16, 3) := by decide +kernel
theorem dX11_placeOf_55 : decode cX11_placeOf 55 = .ok (.iload_n 0, 1) := by decide +kernel
theorem dX11_placeOf_56 : decode cX11_placeOf 56 = .ok (.bipush 87, 2) := by decide +kernel
theorem dX11_placeOf_58 : decode cX11_placeOf 58 = .ok (.if_icmp .ne 8, 3) := by decide +kernel
theorem dX11_placeOf_61 : decode cX11_placeOf 61 = .ok (.bipush 11, 2) := by decide +kernel
theorem dX11_placeOf_63 : decode cX11_placeOf 63 = .ok (.goto 5, 3) := by decide +kernel
theorem dX11_placeOf_66 : decode cX11_placeOf 66 = .ok (.bipush (-9), 2) := by decide +kernel
theorem dX11_placeOf_68 : decode cX11_placeOf 68 = .ok (.ireturn, 1) := by decide +kernel
theorem dX11_readLaw_0 : decode cX11_readLaw 0 = .ok (.aload_n 0, 1) := by decide +kernel
theorem dX11_readLaw_1 : decode cX11_readLaw 1 = .ok (.iconst 0, 1) := by decide +kernel
theorem dX11_readLaw_2 : decode cX11_readLaw 2 = .ok (.putfield 78, 3) := by decide +kernel
theorem dX11_readLaw_5 : decode cX11_readLaw 5 = .ok (.aload_n 0, 1) := by decide +kernel
theorem dX11_readLaw_6 : decode cX11_readLaw 6 = .ok (.bipush (-9), 2) := by decide +kernel
theorem dX11_readLaw_8 : decode cX11_readLaw 8 = .ok (.putfield 75, 3) := by decide +kernel
theorem dX11_readLaw_11 : decode cX11_readLaw 11 = .ok (.aload_n 0, 1) := by decide +kernel
theorem dX11_readLaw_12 : decode cX11_readLaw 12 = .ok (.iconst 0, 1) := by decide +kernel
theorem dX11_readLaw_13 : decode cX11_readLaw 13 = .ok (.putfield 86, 3) := by decide +kernel
theorem dX11_readLaw_16 : decode cX11_readLaw 16 = .ok (.iconst 0, 1) := by decide +kernel
theorem dX11_readLaw_17 : decode cX11_readLaw 17 = .ok (.istore_n 1, 1) := by decide +kernel
theorem dX11_readLaw_18 : decode cX11_readLaw 18 = .ok (.iconst 0, 1) := by decide +kernel
theorem dX11_readLaw_19 : decode cX11_readLaw 19 = .ok (.istore_n 2, 1) := by decide +kernel
theorem dX11_readLaw_20 : decode cX11_readLaw 20 = .ok (.iload_n 2, 1) := by decide +kernel
theorem dX11_readLaw_21 : decode cX11_readLaw 21 = .ok (.bipush 12, 2) := by decide +kernel
theorem dX11_readLaw_23 : decode cX11_readLaw 23 = .ok (.if_icmp .ge 16, 3) := by decide +kernel
theorem dX11_readLaw_26 : decode cX11_readLaw 26 = .ok (.aload_n 0, 1) := by decide +kernel
theorem dX11_readLaw_27 : decode cX11_readLaw 27 = .ok (.getfield 7, 3) := by decide +kernel
theorem dX11_readLaw_30 : decode cX11_readLaw 30 = .ok (.iload_n 2, 1) := by decide +kernel
theorem dX11_readLaw_31 : decode cX11_readLaw 31 = .ok (.iconst 0, 1) := by decide +kernel
theorem dX11_readLaw_32 : decode cX11_readLaw 32 = .ok (.iastore, 1) := by decide +kernel
theorem dX11_readLaw_33 : decode cX11_readLaw 33 = .ok (.iinc 2 1, 3) := by decide +kernel
theorem dX11_readLaw_36 : decode cX11_readLaw 36 = .ok (.goto (-16), 3) := by decide +kernel
theorem dX11_readLaw_39 : decode cX11_readLaw 39 = .ok (.aload_n 0, 1) := by decide +kernel
theorem dX11_readLaw_40 : decode cX11_readLaw 40 = .ok (.getfield 75, 3) := by decide +kernel
theorem dX11_readLaw_43 : decode cX11_readLaw 43 = .ok (.bipush (-9), 2) := by decide +kernel
theorem dX11_readLaw_45 : decode cX11_readLaw 45 = .ok (.if_icmp .ne 191, 3) := by decide +kernel
theorem dX11_readLaw_48 : decode cX11_readLaw 48 = .ok (.aload_n 0, 1) := by decide +kernel
theorem dX11_readLaw_49 : decode cX11_readLaw 49 = .ok (.getfield 78, 3) := by decide +kernel
theorem dX11_readLaw_52 : decode cX11_readLaw 52 = .ok (.aload_n 0, 1) := by decide +kernel
theorem dX11_readLaw_53 : decode cX11_readLaw 53 = .ok (.getfield 69, 3) := by decide +kernel
theorem dX11_readLaw_56 : decode cX11_readLaw 56 = .ok (.if_icmp .ge 180, 3) := by decide +kernel
theorem dX11_readLaw_59 : decode cX11_readLaw 59 = .ok (.aload_n 0, 1) := by decide +kernel
theorem dX11_readLaw_60 : decode cX11_readLaw 60 = .ok (.getfield 16, 3) := by decide +kernel
theorem dX11_readLaw_63 : decode cX11_readLaw 63 = .ok (.aload_n 0, 1) := by decide +kernel
theorem dX11_readLaw_64 : decode cX11_readLaw 64 = .ok (.getfield 78, 3) := by decide +kernel
theorem dX11_readLaw_67 : decode cX11_readLaw 67 = .ok (.iaload, 1) := by decide +kernel
theorem dX11_readLaw_68 : decode cX11_readLaw 68 = .ok (.invokestatic 89, 3) := by decide +kernel
theorem dX11_readLaw_71 : decode cX11_readLaw 71 = .ok (.istore_n 2, 1) := by decide +kernel
theorem dX11_readLaw_72 : decode cX11_readLaw 72 = .ok (.aload_n 0, 1) := by decide +kernel
theorem dX11_readLaw_73 : decode cX11_readLaw 73 = .ok (.bipush 76, 2) := by decide +kernel
theorem dX11_readLaw_75 : decode cX11_readLaw 75 = .ok (.invokevirtual 93, 3) := by decide +kernel
theorem dX11_readLaw_78 : decode cX11_readLaw 78 = .ok (.ifCond .eq 62, 3) := by decide +kernel
theorem dX11_readLaw_81 : decode cX11_readLaw 81 = .ok (.iload_n 1, 1) := by decide +kernel
theorem dX11_readLaw_82 : decode cX11_readLaw 82 = .ok (.bipush 63, 2) := by decide +kernel
theorem dX11_readLaw_84 : decode cX11_readLaw 84 = .ok (.iand, 1) := by decide +kernel
theorem dX11_readLaw_85 : decode cX11_readLaw 85 = .ok (.bipush 63, 2) := by decide +kernel
theorem dX11_readLaw_87 : decode cX11_readLaw 87 = .ok (.if_icmp .eq 53, 3) := by decide +kernel
theorem dX11_readLaw_90 : decode cX11_readLaw 90 = .ok (.aload_n 0, 1) := by decide +kernel
theorem dX11_readLaw_91 : decode cX11_readLaw 91 = .ok (.dup, 1) := by decide +kernel
theorem dX11_readLaw_92 : decode cX11_readLaw 92 = .ok (.getfield 78, 3) := by decide +kernel
theorem dX11_readLaw_95 : decode cX11_readLaw 95 = .ok (.iconst 1, 1) := by decide +kernel
theorem dX11_readLaw_96 : decode cX11_readLaw 96 = .ok (.iadd, 1) := by decide +kernel
theorem dX11_readLaw_97 : decode cX11_readLaw 97 = .ok (.putfield 78, 3) := by decide +kernel
theorem dX11_readLaw_100 : decode cX11_readLaw 100 = .ok (.aload_n 0, 1) := by decide +kernel
theorem dX11_readLaw_101 : decode cX11_readLaw 101 = .ok (.bipush 63, 2) := by decide +kernel
theorem dX11_readLaw_103 : decode cX11_readLaw 103 = .ok (.iload_n 1, 1) := by decide +kernel
theorem dX11_readLaw_104 : decode cX11_readLaw 104 = .ok (.iconst (-1), 1) := by decide +kernel
theorem dX11_readLaw_105 : decode cX11_readLaw 105 = .ok (.ixor, 1) := by decide +kernel
theorem dX11_readLaw_106 : decode cX11_readLaw 106 = .ok (.iand, 1) := by decide +kernel
theorem dX11_readLaw_107 : decode cX11_readLaw 107 = .ok (.invokevirtual 97, 3) := by decide +kernel
theorem dX11_readLaw_110 : decode cX11_readLaw 110 = .ok (.istore_n 2, 1) := by decide +kernel
theorem dX11_readLaw_111 : decode cX11_readLaw 111 = .ok (.aload_n 0, 1) := by decide +kernel
theorem dX11_readLaw_112 : decode cX11_readLaw 112 = .ok (.sipush 1023, 3) := by decide +kernel
theorem dX11_readLaw_115 : decode cX11_readLaw 115 = .ok (.invokevirtual 97, 3) := by decide +kernel
theorem dX11_readLaw_118 : decode cX11_readLaw 118 = .ok (.istore_n 3, 1) := by decide +kernel
theorem dX11_readLaw_119 : decode cX11_readLaw 119 = .ok (.aload_n 0, 1) := by decide +kernel
theorem dX11_readLaw_120 : decode cX11_readLaw 120 = .ok (.getfield 7, 3) := by decide +kernel
theorem dX11_readLaw_123 : decode cX11_readLaw 123 = .ok (.iload_n 2, 1) := by decide +kernel
theorem dX11_readLaw_124 : decode cX11_readLaw 124 = .ok (.bipush 10, 2) := by decide +kernel
theorem dX11_readLaw_126 : decode cX11_readLaw 126 = .ok (.iload_n 3, 1) := by decide +kernel
theorem dX11_readLaw_127 : decode cX11_readLaw 127 = .ok (.imul, 1) := by decide +kernel
theorem dX11_readLaw_128 : decode cX11_readLaw 128 = .ok (.aload_n 0, 1) := by decide +kernel
theorem dX11_readLaw_129 : decode cX11_readLaw 129 = .ok (.sipush 1023, 3) := by decide +kernel
theorem dX11_readLaw_132 : decode cX11_readLaw 132 = .ok (.invokevirtual 97, 3) := by decide +kernel
theorem dX11_readLaw_135 : decode cX11_readLaw 135 = .ok (.iadd, 1) := by decide +kernel
theorem dX11_readLaw_136 : decode cX11_readLaw 136 = .ok (.iastore, 1) := by decide +kernel
theorem dX11_readLaw_137 : decode cX11_readLaw 137 = .ok (.goto 70, 3) := by decide +kernel
theorem dX11_readLaw_140 : decode cX11_readLaw 140 = .ok (.iload_n 2, 1) := by decide +kernel
theorem dX11_readLaw_141 : decode cX11_readLaw 141 = .ok (.bipush (-9), 2) := by decide +kernel
theorem dX11_readLaw_143 : decode cX11_readLaw 143 = .ok (.if_icmp .eq 60, 3) := by decide +kernel
theorem dX11_readLaw_146 : decode cX11_readLaw 146 = .ok (.iload_n 1, 1) := by decide +kernel
theorem dX11_readLaw_147 : decode cX11_readLaw 147 = .ok (.iload_n 2, 1) := by decide +kernel
theorem dX11_readLaw_148 : decode cX11_readLaw 148 = .ok (.ishr, 1) := by decide +kernel
theorem dX11_readLaw_149 : decode cX11_readLaw 149 = .ok (.iconst 1, 1) := by decide +kernel
theorem dX11_readLaw_150 : decode cX11_readLaw 150 = .ok (.iand, 1) := by decide +kernel
theorem dX11_readLaw_151 : decode cX11_readLaw 151 = .ok (.ifCond .ne 52, 3) := by decide +kernel
theorem dX11_readLaw_154 : decode cX11_readLaw 154 = .ok (.aload_n 0, 1) := by decide +kernel
theorem dX11_readLaw_155 : decode cX11_readLaw 155 = .ok (.dup, 1) := by decide +kernel
theorem dX11_readLaw_156 : decode cX11_readLaw 156 = .ok (.getfield 78, 3) := by decide +kernel
theorem dX11_readLaw_159 : decode cX11_readLaw 159 = .ok (.iconst 1, 1) := by decide +kernel
theorem dX11_readLaw_160 : decode cX11_readLaw 160 = .ok (.iadd, 1) := by decide +kernel
theorem dX11_readLaw_161 : decode cX11_readLaw 161 = .ok (.putfield 78, 3) := by decide +kernel
theorem dX11_readLaw_164 : decode cX11_readLaw 164 = .ok (.aload_n 0, 1) := by decide +kernel
theorem dX11_readLaw_165 : decode cX11_readLaw 165 = .ok (.sipush 1023, 3) := by decide +kernel
theorem dX11_readLaw_168 : decode cX11_readLaw 168 = .ok (.invokevirtual 97, 3) := by decide +kernel
theorem dX11_readLaw_171 : decode cX11_readLaw 171 = .ok (.istore_n 3, 1) := by decide +kernel
theorem dX11_readLaw_172 : decode cX11_readLaw 172 = .ok (.aload_n 0, 1) := by decide +kernel
theorem dX11_readLaw_173 : decode cX11_readLaw 173 = .ok (.getfield 7, 3) := by decide +kernel
theorem dX11_readLaw_176 : decode cX11_readLaw 176 = .ok (.iload_n 2, 1) := by decide +kernel
theorem dX11_readLaw_177 : decode cX11_readLaw 177 = .ok (.iload_n 2, 1) := by decide +kernel
theorem dX11_readLaw_178 : decode cX11_readLaw 178 = .ok (.bipush 8, 2) := by decide +kernel
theorem dX11_readLaw_180 : decode cX11_readLaw 180 = .ok (.if_icmp .ne 18, 3) := by decide +kernel
theorem dX11_readLaw_183 : decode cX11_readLaw 183 = .ok (.bipush 10, 2) := by decide +kernel
theorem dX11_readLaw_185 : decode cX11_readLaw 185 = .ok (.iload_n 3, 1) := by decide +kernel
theorem dX11_readLaw_186 : decode cX11_readLaw 186 = .ok (.imul, 1) := by decide +kernel
theorem dX11_readLaw_187 : decode cX11_readLaw 187 = .ok (.aload_n 0, 1) := by decide +kernel
theorem dX11_readLaw_188 : decode cX11_readLaw 188 = .ok (.sipush 1023, 3) := by decide +kernel
theorem dX11_readLaw_191 : decode cX11_readLaw 191 = .ok (.invokevirtual 97, 3) := by decide +kernel
theorem dX11_readLaw_194 : decode cX11_readLaw 194 = .ok (.iadd, 1) := by decide +kernel
theorem dX11_readLaw_195 : decode cX11_readLaw 195 = .ok (.goto 4, 3) := by decide +kernel
theorem dX11_readLaw_198 : decode cX11_readLaw 198 = .ok (.iload_n 3, 1) := by decide +kernel
theorem dX11_readLaw_199 : decode cX11_readLaw 199 = .ok (.iastore, 1) := by decide +kernel
theorem dX11_readLaw_200 : decode cX11_readLaw 200 = .ok (.goto 7, 3) := by decide +kernel
theorem dX11_readLaw_203 : decode cX11_readLaw 203 = .ok (.aload_n 0, 1) := by decide +kernel
theorem dX11_readLaw_204 : decode cX11_readLaw 204 = .ok (.invokevirtual 83, 3) := by decide +kernel
theorem dX11_readLaw_207 : decode cX11_readLaw 207 = .ok (.iload_n 1, 1) := by decide +kernel
theorem dX11_readLaw_208 : decode cX11_readLaw 208 = .ok (.iload_n 2, 1) := by decide +kernel
theorem dX11_readLaw_209 : decode cX11_readLaw 209 = .ok (.bipush (-9), 2) := by decide +kernel
theorem dX11_readLaw_211 : decode cX11_readLaw 211 = .ok (.if_icmp .ne 7, 3) := by decide +kernel
theorem dX11_readLaw_214 : decode cX11_readLaw 214 = .ok (.iconst 0, 1) := by decide +kernel
theorem dX11_readLaw_215 : decode cX11_readLaw 215 = .ok (.goto 6, 3) := by decide +kernel
theorem dX11_readLaw_218 : decode cX11_readLaw 218 = .ok (.iconst 1, 1) := by decide +kernel
theorem dX11_readLaw_219 : decode cX11_readLaw 219 = .ok (.iload_n 2, 1) := by decide +kernel
theorem dX11_readLaw_220 : decode cX11_readLaw 220 = .ok (.ishl, 1) := by decide +kernel
theorem dX11_readLaw_221 : decode cX11_readLaw 221 = .ok (.ior, 1) := by decide +kernel
theorem dX11_readLaw_222 : decode cX11_readLaw 222 = .ok (.istore_n 1, 1) := by decide +kernel
theorem dX11_readLaw_223 : decode cX11_readLaw 223 = .ok (.aload_n 0, 1) := by decide +kernel
theorem dX11_readLaw_224 : decode cX11_readLaw 224 = .ok (.dup, 1) := by decide +kernel
theorem dX11_readLaw_225 : decode cX11_readLaw 225 = .ok (.getfield 86, 3) := by decide +kernel
theorem dX11_readLaw_228 : decode cX11_readLaw 228 = .ok (.iconst 1, 1) := by decide +kernel
theorem dX11_readLaw_229 : decode cX11_readLaw 229 = .ok (.iadd, 1) := by decide +kernel
theorem dX11_readLaw_230 : decode cX11_readLaw 230 = .ok (.putfield 86, 3) := by decide +kernel
theorem dX11_readLaw_233 : decode cX11_readLaw 233 = .ok (.goto (-194), 3) := by decide +kernel
theorem dX11_readLaw_236 : decode cX11_readLaw 236 = .ok (.aload_n 0, 1) := by decide +kernel
theorem dX11_readLaw_237 : decode cX11_readLaw 237 = .ok (.getfield 75, 3) := by decide +kernel
theorem dX11_readLaw_240 : decode cX11_readLaw 240 = .ok (.ireturn, 1) := by decide +kernel
theorem dX11_readStory_0 : decode cX11_readStory 0 = .ok (.aload_n 0, 1) := by decide +kernel
theorem dX11_readStory_1 : decode cX11_readStory 1 = .ok (.iconst 0, 1) := by decide +kernel
theorem dX11_readStory_2 : decode cX11_readStory 2 = .ok (.putfield 78, 3) := by decide +kernel
theorem dX11_readStory_5 : decode cX11_readStory 5 = .ok (.aload_n 0, 1) := by decide +kernel
theorem dX11_readStory_6 : decode cX11_readStory 6 = .ok (.bipush (-9), 2) := by decide +kernel
theorem dX11_readStory_8 : decode cX11_readStory 8 = .ok (.putfield 75, 3) := by decide +kernel
theorem dX11_readStory_11 : decode cX11_readStory 11 = .ok (.aload_n 0, 1) := by decide +kernel
theorem dX11_readStory_12 : decode cX11_readStory 12 = .ok (.iconst 0, 1) := by decide +kernel
theorem dX11_readStory_13 : decode cX11_readStory 13 = .ok (.putfield 100, 3) := by decide +kernel
theorem dX11_readStory_16 : decode cX11_readStory 16 = .ok (.iconst (-1), 1) := by decide +kernel
theorem dX11_readStory_17 : decode cX11_readStory 17 = .ok (.istore_n 1, 1) := by decide +kernel
theorem dX11_readStory_18 : decode cX11_readStory 18 = .ok (.iconst 1, 1) := by decide +kernel
theorem dX11_readStory_19 : decode cX11_readStory 19 = .ok (.istore_n 2, 1) := by decide +kernel
theorem dX11_readStory_20 : decode cX11_readStory 20 = .ok (.iload_n 2, 1) := by decide +kernel
theorem dX11_readStory_21 : decode cX11_readStory 21 = .ok (.ifCond .eq 51, 3) := by decide +kernel
theorem dX11_readStory_24 : decode cX11_readStory 24 = .ok (.aload_n 0, 1) := by decide +kernel
theorem dX11_readStory_25 : decode cX11_readStory 25 = .ok (.iload_n 1, 1) := by decide +kernel
theorem dX11_readStory_26 : decode cX11_readStory 26 = .ok (.invokevirtual 103, 3) := by decide +kernel
theorem dX11_readStory_29 : decode cX11_readStory 29 = .ok (.istore_n 1, 1) := by decide +kernel
theorem dX11_readStory_30 : decode cX11_readStory 30 = .ok (.aload_n 0, 1) := by decide +kernel
theorem dX11_readStory_31 : decode cX11_readStory 31 = .ok (.bipush 59, 2) := by decide +kernel
theorem dX11_readStory_33 : decode cX11_readStory 33 = .ok (.invokevirtual 93, 3) := by decide +kernel
theorem dX11_readStory_36 : decode cX11_readStory 36 = .ok (.ifCond .eq 13, 3) := by decide +kernel
theorem dX11_readStory_39 : decode cX11_readStory 39 = .ok (.iload_n 1, 1) := by decide +kernel
theorem dX11_readStory_40 : decode cX11_readStory 40 = .ok (.bipush 99, 2) := by decide +kernel
theorem dX11_readStory_42 : decode cX11_readStory 42 = .ok (.if_icmp .ge 7, 3) := by decide +kernel
theorem dX11_readStory_45 : decode cX11_readStory 45 = .ok (.iconst 1, 1) := by decide +kernel
theorem dX11_readStory_46 : decode cX11_readStory 46 = .ok (.goto 4, 3) := by decide +kernel
theorem dX11_readStory_49 : decode cX11_readStory 49 = .ok (.iconst 0, 1) := by decide +kernel
theorem dX11_readStory_50 : decode cX11_readStory 50 = .ok (.istore_n 2, 1) := by decide +kernel
theorem dX11_readStory_51 : decode cX11_readStory 51 = .ok (.aload_n 0, 1) := by decide +kernel
theorem dX11_readStory_52 : decode cX11_readStory 52 = .ok (.dup, 1) := by decide +kernel
theorem dX11_readStory_53 : decode cX11_readStory 53 = .ok (.getfield 78, 3) := by decide +kernel
theorem dX11_readStory_56 : decode cX11_readStory 56 = .ok (.iload_n 2, 1) := by decide +kernel
theorem dX11_readStory_57 : decode cX11_readStory 57 = .ok (.ifCond .eq 7, 3) := by decide +kernel
theorem dX11_readStory_60 : decode cX11_readStory 60 = .ok (.iconst 1, 1) := by decide +kernel
theorem dX11_readStory_61 : decode cX11_readStory 61 = .ok (.goto 4, 3) := by decide +kernel
theorem dX11_readStory_64 : decode cX11_readStory 64 = .ok (.iconst 0, 1) := by decide +kernel
theorem dX11_readStory_65 : decode cX11_readStory 65 = .ok (.iadd, 1) := by decide +kernel
theorem dX11_readStory_66 : decode cX11_readStory 66 = .ok (.putfield 78, 3) := by decide +kernel
theorem dX11_readStory_69 : decode cX11_readStory 69 = .ok (.goto (-49), 3) := by decide +kernel
theorem dX11_readStory_72 : decode cX11_readStory 72 = .ok (.aload_n 0, 1) := by decide +kernel
theorem dX11_readStory_73 : decode cX11_readStory 73 = .ok (.getfield 75, 3) := by decide +kernel
theorem dX11_readStory_76 : decode cX11_readStory 76 = .ok (.bipush (-9), 2) := by decide +kernel
theorem dX11_readStory_78 : decode cX11_readStory 78 = .ok (.if_icmp .ne 18, 3) := by decide +kernel
theorem dX11_readStory_81 : decode cX11_readStory 81 = .ok (.aload_n 0, 1) := by decide +kernel
theorem dX11_readStory_82 : decode cX11_readStory 82 = .ok (.getfield 78, 3) := by decide +kernel
theorem dX11_readStory_85 : decode cX11_readStory 85 = .ok (.aload_n 0, 1) := by decide +kernel
theorem dX11_readStory_86 : decode cX11_readStory 86 = .ok (.getfield 69, 3) := by decide +kernel
theorem dX11_readStory_89 : decode cX11_readStory 89 = .ok (.if_icmp .ge 7, 3) := by decide +kernel
theorem dX11_readStory_92 : decode cX11_readStory 92 = .ok (.aload_n 0, 1) := by decide +kernel
theorem dX11_readStory_93 : decode cX11_readStory 93 = .ok (.invokevirtual 83, 3) := by decide +kernel
theorem dX11_readStory_96 : decode cX11_readStory 96 = .ok (.aload_n 0, 1) := by decide +kernel
theorem dX11_readStory_97 : decode cX11_readStory 97 = .ok (.getfield 75, 3) := by decide +kernel
theorem dX11_readStory_100 : decode cX11_readStory 100 = .ok (.ireturn, 1) := by decide +kernel
theorem dX11_readEntry_0 : decode cX11_readEntry 0 = .ok (.iconst 0, 1) := by decide +kernel
theorem dX11_readEntry_1 : decode cX11_readEntry 1 = .ok (.istore_n 2, 1) := by decide +kernel
theorem dX11_readEntry_2 : decode cX11_readEntry 2 = .ok (.iconst 0, 1) := by decide +kernel
theorem dX11_readEntry_3 : decode cX11_readEntry 3 = .ok (.istore_n 3, 1) := by decide +kernel
theorem dX11_readEntry_4 : decode cX11_readEntry 4 = .ok (.iload_n 3, 1) := by decide +kernel
theorem dX11_readEntry_5 : decode cX11_readEntry 5 = .ok (.bipush 10, 2) := by decide +kernel
theorem dX11_readEntry_7 : decode cX11_readEntry 7 = .ok (.if_icmp .ge 30, 3) := by decide +kernel
theorem dX11_readEntry_10 : decode cX11_readEntry 10 = .ok (.iload_n 2, 1) := by decide +kernel
theorem dX11_readEntry_11 : decode cX11_readEntry 11 = .ok (.bipush 10, 2) := by decide +kernel
theorem dX11_readEntry_13 : decode cX11_readEntry 13 = .ok (.iload_n 3, 1) := by decide +kernel
theorem dX11_readEntry_14 : decode cX11_readEntry 14 = .ok (.imul, 1) := by decide +kernel
theorem dX11_readEntry_15 : decode cX11_readEntry 15 = .ok (.bipush 9, 2) := by decide +kernel
theorem dX11_readEntry_17 : decode cX11_readEntry 17 = .ok (.iadd, 1) := by decide +kernel
theorem dX11_readEntry_18 : decode cX11_readEntry 18 = .ok (.iload_n 1, 1) := by decide +kernel
theorem dX11_readEntry_19 : decode cX11_readEntry 19 = .ok (.if_icmp .le 9, 3) := by decide +kernel
theorem dX11_readEntry_22 : decode cX11_readEntry 22 = .ok (.iconst 1, 1) := by decide +kernel
theorem dX11_readEntry_23 : decode cX11_readEntry 23 = .ok (.iload_n 3, 1) := by decide +kernel
theorem dX11_readEntry_24 : decode cX11_readEntry 24 = .ok (.ishl, 1) := by decide +kernel
theorem dX11_readEntry_25 : decode cX11_readEntry 25 = .ok (.goto 4, 3) := by decide +kernel
theorem dX11_readEntry_28 : decode cX11_readEntry 28 = .ok (.iconst 0, 1) := by decide +kernel
theorem dX11_readEntry_29 : decode cX11_readEntry 29 = .ok (.ior, 1) := by decide +kernel
theorem dX11_readEntry_30 : decode cX11_readEntry 30 = .ok (.istore_n 2, 1) := by decide +kernel
theorem dX11_readEntry_31 : decode cX11_readEntry 31 = .ok (.iinc 3 1, 3) := by decide +kernel
theorem dX11_readEntry_34 : decode cX11_readEntry 34 = .ok (.goto (-30), 3) := by decide +kernel
theorem dX11_readEntry_37 : decode cX11_readEntry 37 = .ok (.aload_n 0, 1) := by decide +kernel
theorem dX11_readEntry_38 : decode cX11_readEntry 38 = .ok (.iload_n 2, 1) := by decide +kernel
theorem dX11_readEntry_39 : decode cX11_readEntry 39 = .ok (.invokevirtual 97, 3) := by decide +kernel
theorem dX11_readEntry_42 : decode cX11_readEntry 42 = .ok (.istore_n 3, 1) := by decide +kernel
theorem dX11_readEntry_43 : decode cX11_readEntry 43 = .ok (.iconst 0, 1) := by decide +kernel
theorem dX11_readEntry_44 : decode cX11_readEntry 44 = .ok (.istore 4, 2) := by decide +kernel
theorem dX11_readEntry_46 : decode cX11_readEntry 46 = .ok (.iconst 0, 1) := by decide +kernel
theorem dX11_readEntry_47 : decode cX11_readEntry 47 = .ok (.istore 5, 2) := by decide +kernel
theorem dX11_readEntry_49 : decode cX11_readEntry 49 = .ok (.iload 5, 2) := by decide +kernel
theorem dX11_readEntry_51 : decode cX11_readEntry 51 = .ok (.bipush 10, 2) := by decide +kernel
theorem dX11_readEntry_53 : decode cX11_readEntry 53 = .ok (.if_icmp .ge 33, 3) := by decide +kernel
theorem dX11_readEntry_56 : decode cX11_readEntry 56 = .ok (.iload 4, 2) := by decide +kernel
theorem dX11_readEntry_58 : decode cX11_readEntry 58 = .ok (.bipush 10, 2) := by decide +kernel
theorem dX11_readEntry_60 : decode cX11_readEntry 60 = .ok (.iload_n 3, 1) := by decide +kernel
theorem dX11_readEntry_61 : decode cX11_readEntry 61 = .ok (.imul, 1) := by decide +kernel
theorem dX11_readEntry_62 : decode cX11_readEntry 62 = .ok (.iload 5, 2) := by decide +kernel
theorem dX11_readEntry_64 : decode cX11_readEntry 64 = .ok (.iadd, 1) := by decide +kernel
theorem dX11_readEntry_65 : decode cX11_readEntry 65 = .ok (.iload_n 1, 1) := by decide +kernel
theorem dX11_readEntry_66 : decode cX11_readEntry 66 = .ok (.if_icmp .le 10, 3) := by decide +kernel
theorem dX11_readEntry_69 : decode cX11_readEntry 69 = .ok (.iconst 1, 1) := by decide +kernel
theorem dX11_readEntry_70 : decode cX11_readEntry 70 = .ok (.iload 5, 2) := by decide +kernel
theorem dX11_readEntry_72 : decode cX11_readEntry 72 = .ok (.ishl, 1) := by decide +kernel
theorem dX11_readEntry_73 : decode cX11_readEntry 73 = .ok (.goto 4, 3) := by decide +kernel
theorem dX11_readEntry_76 : decode cX11_readEntry 76 = .ok (.iconst 0, 1) := by decide +kernel
theorem dX11_readEntry_77 : decode cX11_readEntry 77 = .ok (.ior, 1) := by decide +kernel
theorem dX11_readEntry_78 : decode cX11_readEntry 78 = .ok (.istore 4, 2) := by decide +kernel
theorem dX11_readEntry_80 : decode cX11_readEntry 80 = .ok (.iinc 5 1, 3) := by decide +kernel
theorem dX11_readEntry_83 : decode cX11_readEntry 83 = .ok (.goto (-34), 3) := by decide +kernel
theorem dX11_readEntry_86 : decode cX11_readEntry 86 = .ok (.bipush 10, 2) := by decide +kernel
theorem dX11_readEntry_88 : decode cX11_readEntry 88 = .ok (.iload_n 3, 1) := by decide +kernel
theorem dX11_readEntry_89 : decode cX11_readEntry 89 = .ok (.imul, 1) := by decide +kernel
theorem dX11_readEntry_90 : decode cX11_readEntry 90 = .ok (.aload_n 0, 1) := by decide +kernel
theorem dX11_readEntry_91 : decode cX11_readEntry 91 = .ok (.iload 4, 2) := by decide +kernel
theorem dX11_readEntry_93 : decode cX11_readEntry 93 = .ok (.invokevirtual 97, 3) := by decide +kernel
theorem dX11_readEntry_96 : decode cX11_readEntry 96 = .ok (.iadd, 1) := by decide +kernel
theorem dX11_readEntry_97 : decode cX11_readEntry 97 = .ok (.istore 5, 2) := by decide +kernel
theorem dX11_readEntry_99 : decode cX11_readEntry 99 = .ok (.aload_n 0, 1) := by decide +kernel
theorem dX11_readEntry_100 : decode cX11_readEntry 100 = .ok (.bipush 58, 2) := by decide +kernel
theorem dX11_readEntry_102 : decode cX11_readEntry 102 = .ok (.invokevirtual 93, 3) := by decide +kernel
theorem dX11_readEntry_105 : decode cX11_readEntry 105 = .ok (.ifCond .eq 16, 3) := by decide +kernel
theorem dX11_readEntry_108 : decode cX11_readEntry 108 = .ok (.aload_n 0, 1) := by decide +kernel
theorem dX11_readEntry_109 : decode cX11_readEntry 109 = .ok (.dup, 1) := by decide +kernel
theorem dX11_readEntry_110 : decode cX11_readEntry 110 = .ok (.getfield 78, 3) := by decide +kernel
theorem dX11_readEntry_113 : decode cX11_readEntry 113 = .ok (.iconst 1, 1) := by decide +kernel
theorem dX11_readEntry_114 : decode cX11_readEntry 114 = .ok (.iadd, 1) := by decide +kernel
theorem dX11_readEntry_115 : decode cX11_readEntry 115 = .ok (.putfield 78, 3) := by decide +kernel
theorem dX11_readEntry_118 : decode cX11_readEntry 118 = .ok (.goto 7, 3) := by decide +kernel
theorem dX11_readEntry_121 : decode cX11_readEntry 121 = .ok (.aload_n 0, 1) := by decide +kernel
theorem dX11_readEntry_122 : decode cX11_readEntry 122 = .ok (.invokevirtual 83, 3) := by decide +kernel
theorem dX11_readEntry_125 : decode cX11_readEntry 125 = .ok (.iconst 0, 1) := by decide +kernel
theorem dX11_readEntry_126 : decode cX11_readEntry 126 = .ok (.istore 6, 2) := by decide +kernel
theorem dX11_readEntry_128 : decode cX11_readEntry 128 = .ok (.iconst 0, 1) := by decide +kernel
theorem dX11_readEntry_129 : decode cX11_readEntry 129 = .ok (.istore 7, 2) := by decide +kernel
theorem dX11_readEntry_131 : decode cX11_readEntry 131 = .ok (.aload_n 0, 1) := by decide +kernel
theorem dX11_readEntry_132 : decode cX11_readEntry 132 = .ok (.getfield 75, 3) := by decide +kernel
theorem dX11_readEntry_135 : decode cX11_readEntry 135 = .ok (.bipush (-9), 2) := by decide +kernel
theorem dX11_readEntry_137 : decode cX11_readEntry 137 = .ok (.if_icmp .ne 73, 3) := by decide +kernel
theorem dX11_readEntry_140 : decode cX11_readEntry 140 = .ok (.aload_n 0, 1) := by decide +kernel
theorem dX11_readEntry_141 : decode cX11_readEntry 141 = .ok (.getfield 78, 3) := by decide +kernel
theorem dX11_readEntry_144 : decode cX11_readEntry 144 = .ok (.aload_n 0, 1) := by decide +kernel
theorem dX11_readEntry_145 : decode cX11_readEntry 145 = .ok (.getfield 69, 3) := by decide +kernel
theorem dX11_readEntry_148 : decode cX11_readEntry 148 = .ok (.if_icmp .ge 62, 3) := by decide +kernel
theorem dX11_readEntry_151 : decode cX11_readEntry 151 = .ok (.aload_n 0, 1) := by decide +kernel
theorem dX11_readEntry_152 : decode cX11_readEntry 152 = .ok (.getfield 16, 3) := by decide +kernel
theorem dX11_readEntry_155 : decode cX11_readEntry 155 = .ok (.aload_n 0, 1) := by decide +kernel
theorem dX11_readEntry_156 : decode cX11_readEntry 156 = .ok (.getfield 78, 3) := by decide +kernel
theorem dX11_readEntry_159 : decode cX11_readEntry 159 = .ok (.iaload, 1) := by decide +kernel
theorem dX11_readEntry_160 : decode cX11_readEntry 160 = .ok (.bipush 59, 2) := by decide +kernel
theorem dX11_readEntry_162 : decode cX11_readEntry 162 = .ok (.if_icmp .eq 48, 3) := by decide +kernel
theorem dX11_readEntry_165 : decode cX11_readEntry 165 = .ok (.aload_n 0, 1) := by decide +kernel
theorem dX11_readEntry_166 : decode cX11_readEntry 166 = .ok (.bipush 63, 2) := by decide +kernel
theorem dX11_readEntry_168 : decode cX11_readEntry 168 = .ok (.iload 7, 2) := by decide +kernel
theorem dX11_readEntry_170 : decode cX11_readEntry 170 = .ok (.ishr, 1) := by decide +kernel
theorem dX11_readEntry_171 : decode cX11_readEntry 171 = .ok (.iload 7, 2) := by decide +kernel
theorem dX11_readEntry_173 : decode cX11_readEntry 173 = .ok (.ishl, 1) := by decide +kernel
theorem dX11_readEntry_174 : decode cX11_readEntry 174 = .ok (.invokevirtual 97, 3) := by decide +kernel
theorem dX11_readEntry_177 : decode cX11_readEntry 177 = .ok (.istore 8, 2) := by decide +kernel
theorem dX11_readEntry_179 : decode cX11_readEntry 179 = .ok (.iload 6, 2) := by decide +kernel
theorem dX11_readEntry_181 : decode cX11_readEntry 181 = .ok (.aload_n 0, 1) := by decide +kernel
theorem dX11_readEntry_182 : decode cX11_readEntry 182 = .ok (.getfield 75, 3) := by decide +kernel
theorem dX11_readEntry_185 : decode cX11_readEntry 185 = .ok (.bipush (-9), 2) := by decide +kernel
theorem dX11_readEntry_187 : decode cX11_readEntry 187 = .ok (.if_icmp .ne 10, 3) := by decide +kernel
theorem dX11_readEntry_190 : decode cX11_readEntry 190 = .ok (.iconst 1, 1) := by decide +kernel
theorem dX11_readEntry_191 : decode cX11_readEntry 191 = .ok (.iload 8, 2) := by decide +kernel
theorem dX11_readEntry_193 : decode cX11_readEntry 193 = .ok (.ishl, 1) := by decide +kernel
theorem dX11_readEntry_194 : decode cX11_readEntry 194 = .ok (.goto 4, 3) := by decide +kernel
theorem dX11_readEntry_197 : decode cX11_readEntry 197 = .ok (.iconst 0, 1) := by decide +kernel
theorem dX11_readEntry_198 : decode cX11_readEntry 198 = .ok (.ior, 1) := by decide +kernel
theorem dX11_readEntry_199 : decode cX11_readEntry 199 = .ok (.istore 6, 2) := by decide +kernel
theorem dX11_readEntry_201 : decode cX11_readEntry 201 = .ok (.iload 8, 2) := by decide +kernel
theorem dX11_readEntry_203 : decode cX11_readEntry 203 = .ok (.iconst 1, 1) := by decide +kernel
theorem dX11_readEntry_204 : decode cX11_readEntry 204 = .ok (.iadd, 1) := by decide +kernel
theorem dX11_readEntry_205 : decode cX11_readEntry 205 = .ok (.istore 7, 2) := by decide +kernel
theorem dX11_readEntry_207 : decode cX11_readEntry 207 = .ok (.goto (-76), 3) := by decide +kernel
theorem dX11_readEntry_210 : decode cX11_readEntry 210 = .ok (.aload_n 0, 1) := by decide +kernel
theorem dX11_readEntry_211 : decode cX11_readEntry 211 = .ok (.getfield 19, 3) := by decide +kernel
theorem dX11_readEntry_214 : decode cX11_readEntry 214 = .ok (.aload_n 0, 1) := by decide +kernel
theorem dX11_readEntry_215 : decode cX11_readEntry 215 = .ok (.getfield 100, 3) := by decide +kernel
theorem dX11_readEntry_218 : decode cX11_readEntry 218 = .ok (.iload 5, 2) := by decide +kernel
theorem dX11_readEntry_220 : decode cX11_readEntry 220 = .ok (.iastore, 1) := by decide +kernel
theorem dX11_readEntry_221 : decode cX11_readEntry 221 = .ok (.aload_n 0, 1) := by decide +kernel
theorem dX11_readEntry_222 : decode cX11_readEntry 222 = .ok (.getfield 22, 3) := by decide +kernel
theorem dX11_readEntry_225 : decode cX11_readEntry 225 = .ok (.aload_n 0, 1) := by decide +kernel
theorem dX11_readEntry_226 : decode cX11_readEntry 226 = .ok (.getfield 100, 3) := by decide +kernel
theorem dX11_readEntry_229 : decode cX11_readEntry 229 = .ok (.iload 6, 2) := by decide +kernel
theorem dX11_readEntry_231 : decode cX11_readEntry 231 = .ok (.iastore, 1) := by decide +kernel
theorem dX11_readEntry_232 : decode cX11_readEntry 232 = .ok (.aload_n 0, 1) := by decide +kernel
theorem dX11_readEntry_233 : decode cX11_readEntry 233 = .ok (.dup, 1) := by decide +kernel
theorem dX11_readEntry_234 : decode cX11_readEntry 234 = .ok (.getfield 100, 3) := by decide +kernel
theorem dX11_readEntry_237 : decode cX11_readEntry 237 = .ok (.iconst 1, 1) := by decide +kernel
theorem dX11_readEntry_238 : decode cX11_readEntry 238 = .ok (.iadd, 1) := by decide +kernel
theorem dX11_readEntry_239 : decode cX11_readEntry 239 = .ok (.putfield 100, 3) := by decide +kernel
theorem dX11_readEntry_242 : decode cX11_readEntry 242 = .ok (.aload_n 0, 1) := by decide +kernel
theorem dX11_readEntry_243 : decode cX11_readEntry 243 = .ok (.getfield 75, 3) := by decide +kernel
theorem dX11_readEntry_246 : decode cX11_readEntry 246 = .ok (.bipush (-9), 2) := by decide +kernel
theorem dX11_readEntry_248 : decode cX11_readEntry 248 = .ok (.if_icmp .ne 8, 3) := by decide +kernel
theorem dX11_readEntry_251 : decode cX11_readEntry 251 = .ok (.iload 5, 2) := by decide +kernel
theorem dX11_readEntry_253 : decode cX11_readEntry 253 = .ok (.goto 5, 3) := by decide +kernel
theorem dX11_readEntry_256 : decode cX11_readEntry 256 = .ok (.bipush 99, 2) := by decide +kernel
theorem dX11_readEntry_258 : decode cX11_readEntry 258 = .ok (.ireturn, 1) := by decide +kernel
theorem dX11_fault_0 : decode cX11_fault 0 = .ok (.iload_n 1, 1) := by decide +kernel
theorem dX11_fault_1 : decode cX11_fault 1 = .ok (.ifCond .eq 10, 3) := by decide +kernel
theorem dX11_fault_4 : decode cX11_fault 4 = .ok (.aload_n 0, 1) := by decide +kernel
theorem dX11_fault_5 : decode cX11_fault 5 = .ok (.invokevirtual 106, 3) := by decide +kernel
theorem dX11_fault_8 : decode cX11_fault 8 = .ok (.goto 7, 3) := by decide +kernel
theorem dX11_fault_11 : decode cX11_fault 11 = .ok (.aload_n 0, 1) := by decide +kernel
theorem dX11_fault_12 : decode cX11_fault 12 = .ok (.invokevirtual 110, 3) := by decide +kernel
theorem dX11_fault_15 : decode cX11_fault 15 = .ok (.ireturn, 1) := by decide +kernel
theorem dX11_law_0 : decode cX11_law 0 = .ok (.aload_n 0, 1) := by decide +kernel
theorem dX11_law_1 : decode cX11_law 1 = .ok (.invokevirtual 110, 3) := by decide +kernel
theorem dX11_law_4 : decode cX11_law 4 = .ok (.bipush (-9), 2) := by decide +kernel
theorem dX11_law_6 : decode cX11_law 6 = .ok (.if_icmp .eq 6, 3) := by decide +kernel
theorem dX11_law_9 : decode cX11_law 9 = .ok (.bipush (-3), 2) := by decide +kernel
theorem dX11_law_11 : decode cX11_law 11 = .ok (.ireturn, 1) := by decide +kernel
theorem dX11_law_12 : decode cX11_law 12 = .ok (.iconst 0, 1) := by decide +kernel
theorem dX11_law_13 : decode cX11_law 13 = .ok (.istore_n 1, 1) := by decide +kernel
theorem dX11_law_14 : decode cX11_law 14 = .ok (.iload_n 1, 1) := by decide +kernel
theorem dX11_law_15 : decode cX11_law 15 = .ok (.bipush 12, 2) := by decide +kernel
theorem dX11_law_17 : decode cX11_law 17 = .ok (.if_icmp .ge 21, 3) := by decide +kernel
theorem dX11_law_20 : decode cX11_law 20 = .ok (.aload_n 0, 1) := by decide +kernel
theorem dX11_law_21 : decode cX11_law 21 = .ok (.getfield 13, 3) := by decide +kernel
theorem dX11_law_24 : decode cX11_law 24 = .ok (.iload_n 1, 1) := by decide +kernel
theorem dX11_law_25 : decode cX11_law 25 = .ok (.aload_n 0, 1) := by decide +kernel
theorem dX11_law_26 : decode cX11_law 26 = .ok (.getfield 7, 3) := by decide +kernel
theorem dX11_law_29 : decode cX11_law 29 = .ok (.iload_n 1, 1) := by decide +kernel
theorem dX11_law_30 : decode cX11_law 30 = .ok (.iaload, 1) := by decide +kernel
theorem dX11_law_31 : decode cX11_law 31 = .ok (.iastore, 1) := by decide +kernel
theorem dX11_law_32 : decode cX11_law 32 = .ok (.iinc 1 1, 3) := by decide +kernel
theorem dX11_law_35 : decode cX11_law 35 = .ok (.goto (-21), 3) := by decide +kernel
theorem dX11_law_38 : decode cX11_law 38 = .ok (.aload_n 0, 1) := by decide +kernel
theorem dX11_law_39 : decode cX11_law 39 = .ok (.getfield 86, 3) := by decide +kernel
theorem dX11_law_42 : decode cX11_law 42 = .ok (.ireturn, 1) := by decide +kernel
theorem dX11_lawful_0 : decode cX11_lawful 0 = .ok (.iload_n 1, 1) := by decide +kernel
theorem dX11_lawful_1 : decode cX11_lawful 1 = .ok (.i2l, 1) := by decide +kernel
theorem dX11_lawful_2 : decode cX11_lawful 2 = .ok (.lconst 0, 1) := by decide +kernel
theorem dX11_lawful_3 : decode cX11_lawful 3 = .ok (.ldc2_w 113, 3) := by decide +kernel
theorem dX11_lawful_6 : decode cX11_lawful 6 = .ok (.invokestatic 65, 3) := by decide +kernel
theorem dX11_lawful_9 : decode cX11_lawful 9 = .ok (.ifCond .eq 12, 3) := by decide +kernel
theorem dX11_lawful_12 : decode cX11_lawful 12 = .ok (.aload_n 0, 1) := by decide +kernel
theorem dX11_lawful_13 : decode cX11_lawful 13 = .ok (.getfield 13, 3) := by decide +kernel
theorem dX11_lawful_16 : decode cX11_lawful 16 = .ok (.iload_n 1, 1) := by decide +kernel
theorem dX11_lawful_17 : decode cX11_lawful 17 = .ok (.iaload, 1) := by decide +kernel
theorem dX11_lawful_18 : decode cX11_lawful 18 = .ok (.goto 5, 3) := by decide +kernel
theorem dX11_lawful_21 : decode cX11_lawful 21 = .ok (.bipush (-2), 2) := by decide +kernel
theorem dX11_lawful_23 : decode cX11_lawful 23 = .ok (.ireturn, 1) := by decide +kernel
theorem dX11_isStory_0 : decode cX11_isStory 0 = .ok (.iload_n 0, 1) := by decide +kernel
theorem dX11_isStory_1 : decode cX11_isStory 1 = .ok (.i2l, 1) := by decide +kernel
theorem dX11_isStory_2 : decode cX11_isStory 2 = .ok (.lconst 0, 1) := by decide +kernel
theorem dX11_isStory_3 : decode cX11_isStory 3 = .ok (.ldc2_w 115, 3) := by decide +kernel
theorem dX11_isStory_6 : decode cX11_isStory 6 = .ok (.invokestatic 65, 3) := by decide +kernel
theorem dX11_isStory_9 : decode cX11_isStory 9 = .ok (.ireturn, 1) := by decide +kernel
theorem dX11_story_0 : decode cX11_story 0 = .ok (.iload_n 1, 1) := by decide +kernel
theorem dX11_story_1 : decode cX11_story 1 = .ok (.invokestatic 117, 3) := by decide +kernel
theorem dX11_story_4 : decode cX11_story 4 = .ok (.ifCond .ne 5, 3) := by decide +kernel
theorem dX11_story_7 : decode cX11_story 7 = .ok (.iconst (-1), 1) := by decide +kernel
theorem dX11_story_8 : decode cX11_story 8 = .ok (.ireturn, 1) := by decide +kernel
theorem dX11_story_9 : decode cX11_story 9 = .ok (.aload_n 0, 1) := by decide +kernel
theorem dX11_story_10 : decode cX11_story 10 = .ok (.invokevirtual 106, 3) := by decide +kernel
theorem dX11_story_13 : decode cX11_story 13 = .ok (.bipush (-9), 2) := by decide +kernel
theorem dX11_story_15 : decode cX11_story 15 = .ok (.if_icmp .eq 6, 3) := by decide +kernel
theorem dX11_story_18 : decode cX11_story 18 = .ok (.bipush (-3), 2) := by decide +kernel
theorem dX11_story_20 : decode cX11_story 20 = .ok (.ireturn, 1) := by decide +kernel
theorem dX11_story_21 : decode cX11_story 21 = .ok (.iconst 0, 1) := by decide +kernel
theorem dX11_story_22 : decode cX11_story 22 = .ok (.istore_n 2, 1) := by decide +kernel
theorem dX11_story_23 : decode cX11_story 23 = .ok (.iconst 0, 1) := by decide +kernel
theorem dX11_story_24 : decode cX11_story 24 = .ok (.istore_n 3, 1) := by decide +kernel
theorem dX11_story_25 : decode cX11_story 25 = .ok (.iconst 0, 1) := by decide +kernel
theorem dX11_story_26 : decode cX11_story 26 = .ok (.istore 4, 2) := by decide +kernel
theorem dX11_story_28 : decode cX11_story 28 = .ok (.iload 4, 2) := by decide +kernel
theorem dX11_story_30 : decode cX11_story 30 = .ok (.bipush 100, 2) := by decide +kernel
theorem dX11_story_32 : decode cX11_story 32 = .ok (.if_icmp .ge 51, 3) := by decide +kernel
theorem dX11_story_35 : decode cX11_story 35 = .ok (.iload_n 3, 1) := by decide +kernel
theorem dX11_story_36 : decode cX11_story 36 = .ok (.aload_n 0, 1) := by decide +kernel
theorem dX11_story_37 : decode cX11_story 37 = .ok (.getfield 100, 3) := by decide +kernel
theorem dX11_story_40 : decode cX11_story 40 = .ok (.if_icmp .ge 24, 3) := by decide +kernel
theorem dX11_story_43 : decode cX11_story 43 = .ok (.aload_n 0, 1) := by decide +kernel
theorem dX11_story_44 : decode cX11_story 44 = .ok (.getfield 19, 3) := by decide +kernel
theorem dX11_story_47 : decode cX11_story 47 = .ok (.iload_n 3, 1) := by decide +kernel
theorem dX11_story_48 : decode cX11_story 48 = .ok (.iaload, 1) := by decide +kernel
theorem dX11_story_49 : decode cX11_story 49 = .ok (.iload 4, 2) := by decide +kernel
theorem dX11_story_51 : decode cX11_story 51 = .ok (.if_icmp .ne 13, 3) := by decide +kernel
theorem dX11_story_54 : decode cX11_story 54 = .ok (.aload_n 0, 1) := by decide +kernel
theorem dX11_story_55 : decode cX11_story 55 = .ok (.getfield 22, 3) := by decide +kernel
theorem dX11_story_58 : decode cX11_story 58 = .ok (.iload_n 3, 1) := by decide +kernel
theorem dX11_story_59 : decode cX11_story 59 = .ok (.iaload, 1) := by decide +kernel
theorem dX11_story_60 : decode cX11_story 60 = .ok (.istore_n 2, 1) := by decide +kernel
theorem dX11_story_61 : decode cX11_story 61 = .ok (.iinc 3 1, 3) := by decide +kernel
theorem dX11_story_64 : decode cX11_story 64 = .ok (.aload_n 0, 1) := by decide +kernel
theorem dX11_story_65 : decode cX11_story 65 = .ok (.getfield 25, 3) := by decide +kernel
theorem dX11_story_68 : decode cX11_story 68 = .ok (.bipush 100, 2) := by decide +kernel
theorem dX11_story_70 : decode cX11_story 70 = .ok (.iload_n 1, 1) := by decide +kernel
theorem dX11_story_71 : decode cX11_story 71 = .ok (.imul, 1) := by decide +kernel
theorem dX11_story_72 : decode cX11_story 72 = .ok (.iload 4, 2) := by decide +kernel
theorem dX11_story_74 : decode cX11_story 74 = .ok (.iadd, 1) := by decide +kernel
theorem dX11_story_75 : decode cX11_story 75 = .ok (.iload_n 2, 1) := by decide +kernel
theorem dX11_story_76 : decode cX11_story 76 = .ok (.iastore, 1) := by decide +kernel
theorem dX11_story_77 : decode cX11_story 77 = .ok (.iinc 4 1, 3) := by decide +kernel
theorem dX11_story_80 : decode cX11_story 80 = .ok (.goto (-52), 3) := by decide +kernel
theorem dX11_story_83 : decode cX11_story 83 = .ok (.aload_n 0, 1) := by decide +kernel
theorem dX11_story_84 : decode cX11_story 84 = .ok (.getfield 100, 3) := by decide +kernel
theorem dX11_story_87 : decode cX11_story 87 = .ok (.ireturn, 1) := by decide +kernel
theorem dX11_isEarth_0 : decode cX11_isEarth 0 = .ok (.iload_n 0, 1) := by decide +kernel
theorem dX11_isEarth_1 : decode cX11_isEarth 1 = .ok (.i2l, 1) := by decide +kernel
theorem dX11_isEarth_2 : decode cX11_isEarth 2 = .ok (.lconst 0, 1) := by decide +kernel
theorem dX11_isEarth_3 : decode cX11_isEarth 3 = .ok (.ldc2_w 120, 3) := by decide +kernel
theorem dX11_isEarth_6 : decode cX11_isEarth 6 = .ok (.invokestatic 65, 3) := by decide +kernel
theorem dX11_isEarth_9 : decode cX11_isEarth 9 = .ok (.ifCond .eq 19, 3) := by decide +kernel
theorem dX11_isEarth_12 : decode cX11_isEarth 12 = .ok (.iload_n 1, 1) := by decide +kernel
theorem dX11_isEarth_13 : decode cX11_isEarth 13 = .ok (.i2l, 1) := by decide +kernel
theorem dX11_isEarth_14 : decode cX11_isEarth 14 = .ok (.lconst 0, 1) := by decide +kernel
theorem dX11_isEarth_15 : decode cX11_isEarth 15 = .ok (.ldc2_w 122, 3) := by decide +kernel
theorem dX11_isEarth_18 : decode cX11_isEarth 18 = .ok (.invokestatic 65, 3) := by decide +kernel
theorem dX11_isEarth_21 : decode cX11_isEarth 21 = .ok (.ifCond .eq 7, 3) := by decide +kernel
theorem dX11_isEarth_24 : decode cX11_isEarth 24 = .ok (.iconst 1, 1) := by decide +kernel
theorem dX11_isEarth_25 : decode cX11_isEarth 25 = .ok (.goto 4, 3) := by decide +kernel
theorem dX11_isEarth_28 : decode cX11_isEarth 28 = .ok (.iconst 0, 1) := by decide +kernel
theorem dX11_isEarth_29 : decode cX11_isEarth 29 = .ok (.ireturn, 1) := by decide +kernel
theorem dX11_lived_0 : decode cX11_lived 0 = .ok (.iload_n 1, 1) := by decide +kernel
theorem dX11_lived_1 : decode cX11_lived 1 = .ok (.invokestatic 117, 3) := by decide +kernel
theorem dX11_lived_4 : decode cX11_lived 4 = .ok (.ifCond .ne 5, 3) := by decide +kernel
theorem dX11_lived_7 : decode cX11_lived 7 = .ok (.iconst (-1), 1) := by decide +kernel
theorem dX11_lived_8 : decode cX11_lived 8 = .ok (.ireturn, 1) := by decide +kernel
theorem dX11_lived_9 : decode cX11_lived 9 = .ok (.iload_n 2, 1) := by decide +kernel
theorem dX11_lived_10 : decode cX11_lived 10 = .ok (.iload_n 3, 1) := by decide +kernel
theorem dX11_lived_11 : decode cX11_lived 11 = .ok (.invokestatic 124, 3) := by decide +kernel
theorem dX11_lived_14 : decode cX11_lived 14 = .ok (.ifCond .ne 6, 3) := by decide +kernel
theorem dX11_lived_17 : decode cX11_lived 17 = .ok (.bipush (-2), 2) := by decide +kernel
theorem dX11_lived_19 : decode cX11_lived 19 = .ok (.ireturn, 1) := by decide +kernel
theorem dX11_lived_20 : decode cX11_lived 20 = .ok (.bipush 100, 2) := by decide +kernel
theorem dX11_lived_22 : decode cX11_lived 22 = .ok (.iload_n 2, 1) := by decide +kernel
theorem dX11_lived_23 : decode cX11_lived 23 = .ok (.imul, 1) := by decide +kernel
theorem dX11_lived_24 : decode cX11_lived 24 = .ok (.iload_n 3, 1) := by decide +kernel
theorem dX11_lived_25 : decode cX11_lived 25 = .ok (.iadd, 1) := by decide +kernel
theorem dX11_lived_26 : decode cX11_lived 26 = .ok (.istore 4, 2) := by decide +kernel
theorem dX11_lived_28 : decode cX11_lived 28 = .ok (.iconst 0, 1) := by decide +kernel
theorem dX11_lived_29 : decode cX11_lived 29 = .ok (.istore 5, 2) := by decide +kernel
theorem dX11_lived_31 : decode cX11_lived 31 = .ok (.iconst 0, 1) := by decide +kernel
theorem dX11_lived_32 : decode cX11_lived 32 = .ok (.istore 6, 2) := by decide +kernel
theorem dX11_lived_34 : decode cX11_lived 34 = .ok (.iload 6, 2) := by decide +kernel
theorem dX11_lived_36 : decode cX11_lived 36 = .ok (.bipush 100, 2) := by decide +kernel
theorem dX11_lived_38 : decode cX11_lived 38 = .ok (.if_icmp .ge 54, 3) := by decide +kernel
theorem dX11_lived_41 : decode cX11_lived 41 = .ok (.aload_n 0, 1) := by decide +kernel
theorem dX11_lived_42 : decode cX11_lived 42 = .ok (.getfield 25, 3) := by decide +kernel
theorem dX11_lived_45 : decode cX11_lived 45 = .ok (.bipush 100, 2) := by decide +kernel
theorem dX11_lived_47 : decode cX11_lived 47 = .ok (.iload_n 1, 1) := by decide +kernel
theorem dX11_lived_48 : decode cX11_lived 48 = .ok (.imul, 1) := by decide +kernel
theorem dX11_lived_49 : decode cX11_lived 49 = .ok (.iload 6, 2) := by decide +kernel
theorem dX11_lived_51 : decode cX11_lived 51 = .ok (.iadd, 1) := by decide +kernel
theorem dX11_lived_52 : decode cX11_lived 52 = .ok (.iload 4, 2) := by decide +kernel
theorem dX11_lived_54 : decode cX11_lived 54 = .ok (.bipush 100, 2) := by decide +kernel
theorem dX11_lived_56 : decode cX11_lived 56 = .ok (.idiv, 1) := by decide +kernel
theorem dX11_lived_57 : decode cX11_lived 57 = .ok (.iastore, 1) := by decide +kernel
theorem dX11_lived_58 : decode cX11_lived 58 = .ok (.iload 5, 2) := by decide +kernel
theorem dX11_lived_60 : decode cX11_lived 60 = .ok (.iload 4, 2) := by decide +kernel
theorem dX11_lived_62 : decode cX11_lived 62 = .ok (.bipush 100, 2) := by decide +kernel
theorem dX11_lived_64 : decode cX11_lived 64 = .ok (.idiv, 1) := by decide +kernel
theorem dX11_lived_65 : decode cX11_lived 65 = .ok (.bipush 63, 2) := by decide +kernel
theorem dX11_lived_67 : decode cX11_lived 67 = .ok (.if_icmp .ne 7, 3) := by decide +kernel
theorem dX11_lived_70 : decode cX11_lived 70 = .ok (.iconst 1, 1) := by decide +kernel
theorem dX11_lived_71 : decode cX11_lived 71 = .ok (.goto 4, 3) := by decide +kernel
theorem dX11_lived_74 : decode cX11_lived 74 = .ok (.iconst 0, 1) := by decide +kernel
theorem dX11_lived_75 : decode cX11_lived 75 = .ok (.iadd, 1) := by decide +kernel
theorem dX11_lived_76 : decode cX11_lived 76 = .ok (.istore 5, 2) := by decide +kernel
theorem dX11_lived_78 : decode cX11_lived 78 = .ok (.aload_n 0, 1) := by decide +kernel
theorem dX11_lived_79 : decode cX11_lived 79 = .ok (.iload 4, 2) := by decide +kernel
theorem dX11_lived_81 : decode cX11_lived 81 = .ok (.invokevirtual 128, 3) := by decide +kernel
theorem dX11_lived_84 : decode cX11_lived 84 = .ok (.istore 4, 2) := by decide +kernel
theorem dX11_lived_86 : decode cX11_lived 86 = .ok (.iinc 6 1, 3) := by decide +kernel
theorem dX11_lived_89 : decode cX11_lived 89 = .ok (.goto (-55), 3) := by decide +kernel
theorem dX11_lived_92 : decode cX11_lived 92 = .ok (.iload 5, 2) := by decide +kernel
theorem dX11_lived_94 : decode cX11_lived 94 = .ok (.ireturn, 1) := by decide +kernel
theorem dX11_at_0 : decode cX11_at 0 = .ok (.iload_n 1, 1) := by decide +kernel
theorem dX11_at_1 : decode cX11_at 1 = .ok (.invokestatic 117, 3) := by decide +kernel
theorem dX11_at_4 : decode cX11_at 4 = .ok (.ifCond .ne 5, 3) := by decide +kernel
theorem dX11_at_7 : decode cX11_at 7 = .ok (.iconst (-1), 1) := by decide +kernel
theorem dX11_at_8 : decode cX11_at 8 = .ok (.ireturn, 1) := by decide +kernel
theorem dX11_at_9 : decode cX11_at 9 = .ok (.iload_n 2, 1) := by decide +kernel
theorem dX11_at_10 : decode cX11_at 10 = .ok (.i2l, 1) := by decide +kernel
theorem dX11_at_11 : decode cX11_at 11 = .ok (.lconst 0, 1) := by decide +kernel
theorem dX11_at_12 : decode cX11_at 12 = .ok (.ldc2_w 122, 3) := by decide +kernel
theorem dX11_at_15 : decode cX11_at 15 = .ok (.invokestatic 65, 3) := by decide +kernel
theorem dX11_at_18 : decode cX11_at 18 = .ok (.ifCond .eq 17, 3) := by decide +kernel
theorem dX11_at_21 : decode cX11_at 21 = .ok (.aload_n 0, 1) := by decide +kernel
theorem dX11_at_22 : decode cX11_at 22 = .ok (.getfield 25, 3) := by decide +kernel
theorem dX11_at_25 : decode cX11_at 25 = .ok (.bipush 100, 2) := by decide +kernel
theorem dX11_at_27 : decode cX11_at 27 = .ok (.iload_n 1, 1) := by decide +kernel
theorem dX11_at_28 : decode cX11_at 28 = .ok (.imul, 1) := by decide +kernel
theorem dX11_at_29 : decode cX11_at 29 = .ok (.iload_n 2, 1) := by decide +kernel
theorem dX11_at_30 : decode cX11_at 30 = .ok (.iadd, 1) := by decide +kernel
theorem dX11_at_31 : decode cX11_at 31 = .ok (.iaload, 1) := by decide +kernel
theorem dX11_at_32 : decode cX11_at 32 = .ok (.goto 5, 3) := by decide +kernel
theorem dX11_at_35 : decode cX11_at 35 = .ok (.bipush (-2), 2) := by decide +kernel
theorem dX11_at_37 : decode cX11_at 37 = .ok (.ireturn, 1) := by decide +kernel
theorem dX11_taken_0 : decode cX11_taken 0 = .ok (.iload_n 1, 1) := by decide +kernel
theorem dX11_taken_1 : decode cX11_taken 1 = .ok (.ifCond .ge 7, 3) := by decide +kernel
theorem dX11_taken_4 : decode cX11_taken 4 = .ok (.iconst 0, 1) := by decide +kernel
theorem dX11_taken_5 : decode cX11_taken 5 = .ok (.goto 13, 3) := by decide +kernel
theorem dX11_taken_8 : decode cX11_taken 8 = .ok (.iload_n 1, 1) := by decide +kernel
theorem dX11_taken_9 : decode cX11_taken 9 = .ok (.iconst 5, 1) := by decide +kernel
theorem dX11_taken_10 : decode cX11_taken 10 = .ok (.if_icmp .le 7, 3) := by decide +kernel
theorem dX11_taken_13 : decode cX11_taken 13 = .ok (.iconst 5, 1) := by decide +kernel
theorem dX11_taken_14 : decode cX11_taken 14 = .ok (.goto 4, 3) := by decide +kernel
theorem dX11_taken_17 : decode cX11_taken 17 = .ok (.iload_n 1, 1) := by decide +kernel
theorem dX11_taken_18 : decode cX11_taken 18 = .ok (.istore_n 3, 1) := by decide +kernel
theorem dX11_taken_19 : decode cX11_taken 19 = .ok (.aload_n 0, 1) := by decide +kernel
theorem dX11_taken_20 : decode cX11_taken 20 = .ok (.getfield 13, 3) := by decide +kernel
theorem dX11_taken_23 : decode cX11_taken 23 = .ok (.iload_n 3, 1) := by decide +kernel
theorem dX11_taken_24 : decode cX11_taken 24 = .ok (.iaload, 1) := by decide +kernel
theorem dX11_taken_25 : decode cX11_taken 25 = .ok (.iload_n 2, 1) := by decide +kernel
theorem dX11_taken_26 : decode cX11_taken 26 = .ok (.iload_n 3, 1) := by decide +kernel
theorem dX11_taken_27 : decode cX11_taken 27 = .ok (.ishr, 1) := by decide +kernel
theorem dX11_taken_28 : decode cX11_taken 28 = .ok (.iconst 1, 1) := by decide +kernel
theorem dX11_taken_29 : decode cX11_taken 29 = .ok (.iand, 1) := by decide +kernel
theorem dX11_taken_30 : decode cX11_taken 30 = .ok (.iconst 1, 1) := by decide +kernel
theorem dX11_taken_31 : decode cX11_taken 31 = .ok (.if_icmp .ne 16, 3) := by decide +kernel
theorem dX11_taken_34 : decode cX11_taken 34 = .ok (.bipush 10, 2) := by decide +kernel
theorem dX11_taken_36 : decode cX11_taken 36 = .ok (.aload_n 0, 1) := by decide +kernel
theorem dX11_taken_37 : decode cX11_taken 37 = .ok (.getfield 13, 3) := by decide +kernel
theorem dX11_taken_40 : decode cX11_taken 40 = .ok (.bipush 6, 2) := by decide +kernel
theorem dX11_taken_42 : decode cX11_taken 42 = .ok (.iaload, 1) := by decide +kernel
theorem dX11_taken_43 : decode cX11_taken 43 = .ok (.isub, 1) := by decide +kernel
theorem dX11_taken_44 : decode cX11_taken 44 = .ok (.goto 5, 3) := by decide +kernel
theorem dX11_taken_47 : decode cX11_taken 47 = .ok (.bipush 10, 2) := by decide +kernel
theorem dX11_taken_49 : decode cX11_taken 49 = .ok (.imul, 1) := by decide +kernel
theorem dX11_taken_50 : decode cX11_taken 50 = .ok (.ireturn, 1) := by decide +kernel
theorem dX11_warmthOf_0 : decode cX11_warmthOf 0 = .ok (.iconst 2, 1) := by decide +kernel
theorem dX11_warmthOf_1 : decode cX11_warmthOf 1 = .ok (.aload_n 0, 1) := by decide +kernel
theorem dX11_warmthOf_2 : decode cX11_warmthOf 2 = .ok (.iload_n 1, 1) := by decide +kernel
theorem dX11_warmthOf_3 : decode cX11_warmthOf 3 = .ok (.iload_n 2, 1) := by decide +kernel
theorem dX11_warmthOf_4 : decode cX11_warmthOf 4 = .ok (.invokevirtual 131, 3) := by decide +kernel
theorem dX11_warmthOf_7 : decode cX11_warmthOf 7 = .ok (.imul, 1) := by decide +kernel
theorem dX11_warmthOf_8 : decode cX11_warmthOf 8 = .ok (.aload_n 0, 1) := by decide +kernel
theorem dX11_warmthOf_9 : decode cX11_warmthOf 9 = .ok (.iload_n 1, 1) := by decide +kernel
theorem dX11_warmthOf_10 : decode cX11_warmthOf 10 = .ok (.iconst 1, 1) := by decide +kernel
theorem dX11_warmthOf_11 : decode cX11_warmthOf 11 = .ok (.isub, 1) := by decide +kernel
theorem dX11_warmthOf_12 : decode cX11_warmthOf 12 = .ok (.iload_n 2, 1) := by decide +kernel
theorem dX11_warmthOf_13 : decode cX11_warmthOf 13 = .ok (.invokevirtual 131, 3) := by decide +kernel
theorem dX11_warmthOf_16 : decode cX11_warmthOf 16 = .ok (.iadd, 1) := by decide +kernel
theorem dX11_warmthOf_17 : decode cX11_warmthOf 17 = .ok (.aload_n 0, 1) := by decide +kernel
theorem dX11_warmthOf_18 : decode cX11_warmthOf 18 = .ok (.iload_n 1, 1) := by decide +kernel
theorem dX11_warmthOf_19 : decode cX11_warmthOf 19 = .ok (.iconst 1, 1) := by decide +kernel
theorem dX11_warmthOf_20 : decode cX11_warmthOf 20 = .ok (.iadd, 1) := by decide +kernel
theorem dX11_warmthOf_21 : decode cX11_warmthOf 21 = .ok (.iload_n 2, 1) := by decide +kernel
theorem dX11_warmthOf_22 : decode cX11_warmthOf 22 = .ok (.invokevirtual 131, 3) := by decide +kernel
theorem dX11_warmthOf_25 : decode cX11_warmthOf 25 = .ok (.iadd, 1) := by decide +kernel
theorem dX11_warmthOf_26 : decode cX11_warmthOf 26 = .ok (.bipush 40, 2) := by decide +kernel
theorem dX11_warmthOf_28 : decode cX11_warmthOf 28 = .ok (.aload_n 0, 1) := by decide +kernel
theorem dX11_warmthOf_29 : decode cX11_warmthOf 29 = .ok (.getfield 13, 3) := by decide +kernel
theorem dX11_warmthOf_32 : decode cX11_warmthOf 32 = .ok (.bipush 7, 2) := by decide +kernel
theorem dX11_warmthOf_34 : decode cX11_warmthOf 34 = .ok (.iaload, 1) := by decide +kernel
theorem dX11_warmthOf_35 : decode cX11_warmthOf 35 = .ok (.imul, 1) := by decide +kernel
theorem dX11_warmthOf_36 : decode cX11_warmthOf 36 = .ok (.iload_n 3, 1) := by decide +kernel
theorem dX11_warmthOf_37 : decode cX11_warmthOf 37 = .ok (.imul, 1) := by decide +kernel
theorem dX11_warmthOf_38 : decode cX11_warmthOf 38 = .ok (.iadd, 1) := by decide +kernel
theorem dX11_warmthOf_39 : decode cX11_warmthOf 39 = .ok (.ireturn, 1) := by decide +kernel
theorem dX11_iceThen_0 : decode cX11_iceThen 0 = .ok (.iconst 0, 1) := by decide +kernel
theorem dX11_iceThen_1 : decode cX11_iceThen 1 = .ok (.istore_n 3, 1) := by decide +kernel
theorem dX11_iceThen_2 : decode cX11_iceThen 2 = .ok (.iconst 0, 1) := by decide +kernel
theorem dX11_iceThen_3 : decode cX11_iceThen 3 = .ok (.istore 4, 2) := by decide +kernel
theorem dX11_iceThen_5 : decode cX11_iceThen 5 = .ok (.iload 4, 2) := by decide +kernel
theorem dX11_iceThen_7 : decode cX11_iceThen 7 = .ok (.bipush 6, 2) := by decide +kernel
theorem dX11_iceThen_9 : decode cX11_iceThen 9 = .ok (.if_icmp .ge 90, 3) := by decide +kernel
theorem dX11_iceThen_12 : decode cX11_iceThen 12 = .ok (.aload_n 0, 1) := by decide +kernel
theorem dX11_iceThen_13 : decode cX11_iceThen 13 = .ok (.iload 4, 2) := by decide +kernel
theorem dX11_iceThen_15 : decode cX11_iceThen 15 = .ok (.iload_n 1, 1) := by decide +kernel
theorem dX11_iceThen_16 : decode cX11_iceThen 16 = .ok (.iload_n 2, 1) := by decide +kernel
theorem dX11_iceThen_17 : decode cX11_iceThen 17 = .ok (.invokevirtual 135, 3) := by decide +kernel
theorem dX11_iceThen_20 : decode cX11_iceThen 20 = .ok (.istore 5, 2) := by decide +kernel
theorem dX11_iceThen_22 : decode cX11_iceThen 22 = .ok (.iload 5, 2) := by decide +kernel
theorem dX11_iceThen_24 : decode cX11_iceThen 24 = .ok (.bipush 40, 2) := by decide +kernel
theorem dX11_iceThen_26 : decode cX11_iceThen 26 = .ok (.aload_n 0, 1) := by decide +kernel
theorem dX11_iceThen_27 : decode cX11_iceThen 27 = .ok (.getfield 13, 3) := by decide +kernel
theorem dX11_iceThen_30 : decode cX11_iceThen 30 = .ok (.bipush 8, 2) := by decide +kernel
theorem dX11_iceThen_32 : decode cX11_iceThen 32 = .ok (.iaload, 1) := by decide +kernel
theorem dX11_iceThen_33 : decode cX11_iceThen 33 = .ok (.imul, 1) := by decide +kernel
theorem dX11_iceThen_34 : decode cX11_iceThen 34 = .ok (.if_icmp .lt 36, 3) := by decide +kernel
theorem dX11_iceThen_37 : decode cX11_iceThen 37 = .ok (.iload 5, 2) := by decide +kernel
theorem dX11_iceThen_39 : decode cX11_iceThen 39 = .ok (.bipush 40, 2) := by decide +kernel
theorem dX11_iceThen_41 : decode cX11_iceThen 41 = .ok (.aload_n 0, 1) := by decide +kernel
theorem dX11_iceThen_42 : decode cX11_iceThen 42 = .ok (.getfield 13, 3) := by decide +kernel
theorem dX11_iceThen_45 : decode cX11_iceThen 45 = .ok (.bipush 8, 2) := by decide +kernel
theorem dX11_iceThen_47 : decode cX11_iceThen 47 = .ok (.iaload, 1) := by decide +kernel
theorem dX11_iceThen_48 : decode cX11_iceThen 48 = .ok (.aload_n 0, 1) := by decide +kernel
theorem dX11_iceThen_49 : decode cX11_iceThen 49 = .ok (.getfield 13, 3) := by decide +kernel
theorem dX11_iceThen_52 : decode cX11_iceThen 52 = .ok (.bipush 9, 2) := by decide +kernel
theorem dX11_iceThen_54 : decode cX11_iceThen 54 = .ok (.iaload, 1) := by decide +kernel
theorem dX11_iceThen_55 : decode cX11_iceThen 55 = .ok (.iadd, 1) := by decide +kernel
theorem dX11_iceThen_56 : decode cX11_iceThen 56 = .ok (.imul, 1) := by decide +kernel
theorem dX11_iceThen_57 : decode cX11_iceThen 57 = .ok (.if_icmp .ge 17, 3) := by decide +kernel
theorem dX11_iceThen_60 : decode cX11_iceThen 60 = .ok (.iload_n 1, 1) := by decide +kernel
theorem dX11_iceThen_61 : decode cX11_iceThen 61 = .ok (.iload 4, 2) := by decide +kernel
theorem dX11_iceThen_63 : decode cX11_iceThen 63 = .ok (.ishr, 1) := by decide +kernel
theorem dX11_iceThen_64 : decode cX11_iceThen 64 = .ok (.iconst 1, 1) := by decide +kernel
theorem dX11_iceThen_65 : decode cX11_iceThen 65 = .ok (.iand, 1) := by decide +kernel
theorem dX11_iceThen_66 : decode cX11_iceThen 66 = .ok (.iconst 1, 1) := by decide +kernel
theorem dX11_iceThen_67 : decode cX11_iceThen 67 = .ok (.if_icmp .ne 7, 3) := by decide +kernel
theorem dX11_iceThen_70 : decode cX11_iceThen 70 = .ok (.iconst 1, 1) := by decide +kernel
theorem dX11_iceThen_71 : decode cX11_iceThen 71 = .ok (.goto 4, 3) := by decide +kernel
theorem dX11_iceThen_74 : decode cX11_iceThen 74 = .ok (.iconst 0, 1) := by decide +kernel
theorem dX11_iceThen_75 : decode cX11_iceThen 75 = .ok (.istore 6, 2) := by decide +kernel
theorem dX11_iceThen_77 : decode cX11_iceThen 77 = .ok (.iload_n 3, 1) := by decide +kernel
theorem dX11_iceThen_78 : decode cX11_iceThen 78 = .ok (.iload 6, 2) := by decide +kernel
theorem dX11_iceThen_80 : decode cX11_iceThen 80 = .ok (.ifCond .eq 10, 3) := by decide +kernel
theorem dX11_iceThen_83 : decode cX11_iceThen 83 = .ok (.iconst 1, 1) := by decide +kernel
theorem dX11_iceThen_84 : decode cX11_iceThen 84 = .ok (.iload 4, 2) := by decide +kernel
theorem dX11_iceThen_86 : decode cX11_iceThen 86 = .ok (.ishl, 1) := by decide +kernel
theorem dX11_iceThen_87 : decode cX11_iceThen 87 = .ok (.goto 4, 3) := by decide +kernel
theorem dX11_iceThen_90 : decode cX11_iceThen 90 = .ok (.iconst 0, 1) := by decide +kernel
theorem dX11_iceThen_91 : decode cX11_iceThen 91 = .ok (.ior, 1) := by decide +kernel
theorem dX11_iceThen_92 : decode cX11_iceThen 92 = .ok (.istore_n 3, 1) := by decide +kernel
theorem dX11_iceThen_93 : decode cX11_iceThen 93 = .ok (.iinc 4 1, 3) := by decide +kernel
theorem dX11_iceThen_96 : decode cX11_iceThen 96 = .ok (.goto (-91), 3) := by decide +kernel
theorem dX11_iceThen_99 : decode cX11_iceThen 99 = .ok (.iload_n 3, 1) := by decide +kernel
theorem dX11_iceThen_100 : decode cX11_iceThen 100 = .ok (.ireturn, 1) := by decide +kernel
theorem dX11_roundOf_0 : decode cX11_roundOf 0 = .ok (.iload_n 1, 1) := by decide +kernel
theorem dX11_roundOf_1 : decode cX11_roundOf 1 = .ok (.bipush 100, 2) := by decide +kernel
theorem dX11_roundOf_3 : decode cX11_roundOf 3 = .ok (.idiv, 1) := by decide +kernel
theorem dX11_roundOf_4 : decode cX11_roundOf 4 = .ok (.istore_n 2, 1) := by decide +kernel
theorem dX11_roundOf_5 : decode cX11_roundOf 5 = .ok (.iload_n 1, 1) := by decide +kernel
theorem dX11_roundOf_6 : decode cX11_roundOf 6 = .ok (.bipush 100, 2) := by decide +kernel
theorem dX11_roundOf_8 : decode cX11_roundOf 8 = .ok (.irem, 1) := by decide +kernel
theorem dX11_roundOf_9 : decode cX11_roundOf 9 = .ok (.istore_n 3, 1) := by decide +kernel
theorem dX11_roundOf_10 : decode cX11_roundOf 10 = .ok (.iload_n 3, 1) := by decide +kernel
theorem dX11_roundOf_11 : decode cX11_roundOf 11 = .ok (.aload_n 0, 1) := by decide +kernel
theorem dX11_roundOf_12 : decode cX11_roundOf 12 = .ok (.getfield 13, 3) := by decide +kernel
theorem dX11_roundOf_15 : decode cX11_roundOf 15 = .ok (.bipush 10, 2) := by decide +kernel
theorem dX11_roundOf_17 : decode cX11_roundOf 17 = .ok (.iaload, 1) := by decide +kernel
theorem dX11_roundOf_18 : decode cX11_roundOf 18 = .ok (.iadd, 1) := by decide +kernel
theorem dX11_roundOf_19 : decode cX11_roundOf 19 = .ok (.aload_n 0, 1) := by decide +kernel
theorem dX11_roundOf_20 : decode cX11_roundOf 20 = .ok (.getfield 13, 3) := by decide +kernel
theorem dX11_roundOf_23 : decode cX11_roundOf 23 = .ok (.bipush 11, 2) := by decide +kernel
theorem dX11_roundOf_25 : decode cX11_roundOf 25 = .ok (.iaload, 1) := by decide +kernel
theorem dX11_roundOf_26 : decode cX11_roundOf 26 = .ok (.bipush 6, 2) := by decide +kernel
theorem dX11_roundOf_28 : decode cX11_roundOf 28 = .ok (.iload_n 2, 1) := by decide +kernel
theorem dX11_roundOf_29 : decode cX11_roundOf 29 = .ok (.invokestatic 139, 3) := by decide +kernel
theorem dX11_roundOf_32 : decode cX11_roundOf 32 = .ok (.isub, 1) := by decide +kernel
theorem dX11_roundOf_33 : decode cX11_roundOf 33 = .ok (.imul, 1) := by decide +kernel
theorem dX11_roundOf_34 : decode cX11_roundOf 34 = .ok (.isub, 1) := by decide +kernel
theorem dX11_roundOf_35 : decode cX11_roundOf 35 = .ok (.istore 4, 2) := by decide +kernel
theorem dX11_roundOf_37 : decode cX11_roundOf 37 = .ok (.iload 4, 2) := by decide +kernel
theorem dX11_roundOf_39 : decode cX11_roundOf 39 = .ok (.ifCond .ge 7, 3) := by decide +kernel
theorem dX11_roundOf_42 : decode cX11_roundOf 42 = .ok (.iconst 0, 1) := by decide +kernel
theorem dX11_roundOf_43 : decode cX11_roundOf 43 = .ok (.goto 17, 3) := by decide +kernel
theorem dX11_roundOf_46 : decode cX11_roundOf 46 = .ok (.iload 4, 2) := by decide +kernel
theorem dX11_roundOf_48 : decode cX11_roundOf 48 = .ok (.bipush 99, 2) := by decide +kernel
theorem dX11_roundOf_50 : decode cX11_roundOf 50 = .ok (.if_icmp .le 8, 3) := by decide +kernel
theorem dX11_roundOf_53 : decode cX11_roundOf 53 = .ok (.bipush 99, 2) := by decide +kernel
theorem dX11_roundOf_55 : decode cX11_roundOf 55 = .ok (.goto 5, 3) := by decide +kernel
theorem dX11_roundOf_58 : decode cX11_roundOf 58 = .ok (.iload 4, 2) := by decide +kernel
theorem dX11_roundOf_60 : decode cX11_roundOf 60 = .ok (.istore 4, 2) := by decide +kernel
theorem dX11_roundOf_62 : decode cX11_roundOf 62 = .ok (.bipush 100, 2) := by decide +kernel
theorem dX11_roundOf_64 : decode cX11_roundOf 64 = .ok (.aload_n 0, 1) := by decide +kernel
theorem dX11_roundOf_65 : decode cX11_roundOf 65 = .ok (.iload_n 2, 1) := by decide +kernel
theorem dX11_roundOf_66 : decode cX11_roundOf 66 = .ok (.iload_n 3, 1) := by decide +kernel
theorem dX11_roundOf_67 : decode cX11_roundOf 67 = .ok (.invokevirtual 142, 3) := by decide +kernel
theorem dX11_roundOf_70 : decode cX11_roundOf 70 = .ok (.imul, 1) := by decide +kernel
theorem dX11_roundOf_71 : decode cX11_roundOf 71 = .ok (.iload 4, 2) := by decide +kernel
theorem dX11_roundOf_73 : decode cX11_roundOf 73 = .ok (.iadd, 1) := by decide +kernel
theorem dX11_roundOf_74 : decode cX11_roundOf 74 = .ok (.ireturn, 1) := by decide +kernel
theorem dX11_warmth_0 : decode cX11_warmth 0 = .ok (.iload_n 1, 1) := by decide +kernel
theorem dX11_warmth_1 : decode cX11_warmth 1 = .ok (.i2l, 1) := by decide +kernel
theorem dX11_warmth_2 : decode cX11_warmth 2 = .ok (.lconst 0, 1) := by decide +kernel
theorem dX11_warmth_3 : decode cX11_warmth 3 = .ok (.ldc2_w 145, 3) := by decide +kernel
theorem dX11_warmth_6 : decode cX11_warmth 6 = .ok (.invokestatic 65, 3) := by decide +kernel
theorem dX11_warmth_9 : decode cX11_warmth 9 = .ok (.ifCond .ne 5, 3) := by decide +kernel
theorem dX11_warmth_12 : decode cX11_warmth 12 = .ok (.iconst (-1), 1) := by decide +kernel
theorem dX11_warmth_13 : decode cX11_warmth 13 = .ok (.ireturn, 1) := by decide +kernel
theorem dX11_warmth_14 : decode cX11_warmth 14 = .ok (.iload_n 2, 1) := by decide +kernel
theorem dX11_warmth_15 : decode cX11_warmth 15 = .ok (.iload_n 3, 1) := by decide +kernel
theorem dX11_warmth_16 : decode cX11_warmth 16 = .ok (.invokestatic 124, 3) := by decide +kernel
theorem dX11_warmth_19 : decode cX11_warmth 19 = .ok (.ifCond .eq 13, 3) := by decide +kernel
theorem dX11_warmth_22 : decode cX11_warmth 22 = .ok (.aload_n 0, 1) := by decide +kernel
theorem dX11_warmth_23 : decode cX11_warmth 23 = .ok (.iload_n 1, 1) := by decide +kernel
theorem dX11_warmth_24 : decode cX11_warmth 24 = .ok (.iload_n 2, 1) := by decide +kernel
theorem dX11_warmth_25 : decode cX11_warmth 25 = .ok (.iload_n 3, 1) := by decide +kernel
theorem dX11_warmth_26 : decode cX11_warmth 26 = .ok (.invokevirtual 135, 3) := by decide +kernel
theorem dX11_warmth_29 : decode cX11_warmth 29 = .ok (.goto 5, 3) := by decide +kernel
theorem dX11_warmth_32 : decode cX11_warmth 32 = .ok (.bipush (-2), 2) := by decide +kernel
theorem dX11_warmth_34 : decode cX11_warmth 34 = .ok (.ireturn, 1) := by decide +kernel
theorem dX11_round_0 : decode cX11_round 0 = .ok (.iload_n 1, 1) := by decide +kernel
theorem dX11_round_1 : decode cX11_round 1 = .ok (.iload_n 2, 1) := by decide +kernel
theorem dX11_round_2 : decode cX11_round 2 = .ok (.invokestatic 124, 3) := by decide +kernel
theorem dX11_round_5 : decode cX11_round 5 = .ok (.ifCond .eq 16, 3) := by decide +kernel
theorem dX11_round_8 : decode cX11_round 8 = .ok (.aload_n 0, 1) := by decide +kernel
theorem dX11_round_9 : decode cX11_round 9 = .ok (.bipush 100, 2) := by decide +kernel
theorem dX11_round_11 : decode cX11_round 11 = .ok (.iload_n 1, 1) := by decide +kernel
theorem dX11_round_12 : decode cX11_round 12 = .ok (.imul, 1) := by decide +kernel
theorem dX11_round_13 : decode cX11_round 13 = .ok (.iload_n 2, 1) := by decide +kernel
theorem dX11_round_14 : decode cX11_round 14 = .ok (.iadd, 1) := by decide +kernel
theorem dX11_round_15 : decode cX11_round 15 = .ok (.invokevirtual 128, 3) := by decide +kernel
theorem dX11_round_18 : decode cX11_round 18 = .ok (.goto 5, 3) := by decide +kernel
theorem dX11_round_21 : decode cX11_round 21 = .ok (.bipush (-2), 2) := by decide +kernel
theorem dX11_round_23 : decode cX11_round 23 = .ok (.ireturn, 1) := by decide +kernel
theorem dX11_after_0 : decode cX11_after 0 = .ok (.iload_n 1, 1) := by decide +kernel
theorem dX11_after_1 : decode cX11_after 1 = .ok (.iload_n 2, 1) := by decide +kernel
theorem dX11_after_2 : decode cX11_after 2 = .ok (.invokestatic 124, 3) := by decide +kernel
theorem dX11_after_5 : decode cX11_after 5 = .ok (.ifCond .eq 15, 3) := by decide +kernel
theorem dX11_after_8 : decode cX11_after 8 = .ok (.iload_n 3, 1) := by decide +kernel
theorem dX11_after_9 : decode cX11_after 9 = .ok (.i2l, 1) := by decide +kernel
theorem dX11_after_10 : decode cX11_after 10 = .ok (.lconst 0, 1) := by decide +kernel
theorem dX11_after_11 : decode cX11_after 11 = .ok (.ldc2_w 147, 3) := by decide +kernel
theorem dX11_after_14 : decode cX11_after 14 = .ok (.invokestatic 65, 3) := by decide +kernel
theorem dX11_after_17 : decode cX11_after 17 = .ok (.ifCond .ne 6, 3) := by decide +kernel
theorem dX11_after_20 : decode cX11_after 20 = .ok (.bipush (-2), 2) := by decide +kernel
theorem dX11_after_22 : decode cX11_after 22 = .ok (.ireturn, 1) := by decide +kernel
theorem dX11_after_23 : decode cX11_after 23 = .ok (.bipush 100, 2) := by decide +kernel
theorem dX11_after_25 : decode cX11_after 25 = .ok (.iload_n 1, 1) := by decide +kernel
theorem dX11_after_26 : decode cX11_after 26 = .ok (.imul, 1) := by decide +kernel
theorem dX11_after_27 : decode cX11_after 27 = .ok (.iload_n 2, 1) := by decide +kernel
theorem dX11_after_28 : decode cX11_after 28 = .ok (.iadd, 1) := by decide +kernel
theorem dX11_after_29 : decode cX11_after 29 = .ok (.istore 4, 2) := by decide +kernel
theorem dX11_after_31 : decode cX11_after 31 = .ok (.iconst 0, 1) := by decide +kernel
theorem dX11_after_32 : decode cX11_after 32 = .ok (.istore 5, 2) := by decide +kernel
theorem dX11_after_34 : decode cX11_after 34 = .ok (.iload 5, 2) := by decide +kernel
theorem dX11_after_36 : decode cX11_after 36 = .ok (.iload_n 3, 1) := by decide +kernel
theorem dX11_after_37 : decode cX11_after 37 = .ok (.if_icmp .ge 17, 3) := by decide +kernel
theorem dX11_after_40 : decode cX11_after 40 = .ok (.aload_n 0, 1) := by decide +kernel
theorem dX11_after_41 : decode cX11_after 41 = .ok (.iload 4, 2) := by decide +kernel
theorem dX11_after_43 : decode cX11_after 43 = .ok (.invokevirtual 128, 3) := by decide +kernel
theorem dX11_after_46 : decode cX11_after 46 = .ok (.istore 4, 2) := by decide +kernel
theorem dX11_after_48 : decode cX11_after 48 = .ok (.iinc 5 1, 3) := by decide +kernel
theorem dX11_after_51 : decode cX11_after 51 = .ok (.goto (-17), 3) := by decide +kernel
theorem dX11_after_54 : decode cX11_after 54 = .ok (.iload 4, 2) := by decide +kernel
theorem dX11_after_56 : decode cX11_after 56 = .ok (.ireturn, 1) := by decide +kernel
theorem dX11_layRun_0 : decode cX11_layRun 0 = .ok (.iconst 0, 1) := by decide +kernel
theorem dX11_layRun_1 : decode cX11_layRun 1 = .ok (.istore_n 3, 1) := by decide +kernel
theorem dX11_layRun_2 : decode cX11_layRun 2 = .ok (.iload_n 3, 1) := by decide +kernel
theorem dX11_layRun_3 : decode cX11_layRun 3 = .ok (.sipush 6400, 3) := by decide +kernel
theorem dX11_layRun_6 : decode cX11_layRun 6 = .ok (.if_icmp .ge 17, 3) := by decide +kernel
theorem dX11_layRun_9 : decode cX11_layRun 9 = .ok (.aload_n 0, 1) := by decide +kernel
theorem dX11_layRun_10 : decode cX11_layRun 10 = .ok (.getfield 31, 3) := by decide +kernel
theorem dX11_layRun_13 : decode cX11_layRun 13 = .ok (.iload_n 3, 1) := by decide +kernel
theorem dX11_layRun_14 : decode cX11_layRun 14 = .ok (.bipush (-9), 2) := by decide +kernel
theorem dX11_layRun_16 : decode cX11_layRun 16 = .ok (.iastore, 1) := by decide +kernel
theorem dX11_layRun_17 : decode cX11_layRun 17 = .ok (.iinc 3 1, 3) := by decide +kernel
theorem dX11_layRun_20 : decode cX11_layRun 20 = .ok (.goto (-18), 3) := by decide +kernel
theorem dX11_layRun_23 : decode cX11_layRun 23 = .ok (.bipush 100, 2) := by decide +kernel
theorem dX11_layRun_25 : decode cX11_layRun 25 = .ok (.iload_n 1, 1) := by decide +kernel
theorem dX11_layRun_26 : decode cX11_layRun 26 = .ok (.imul, 1) := by decide +kernel
theorem dX11_layRun_27 : decode cX11_layRun 27 = .ok (.iload_n 2, 1) := by decide +kernel
theorem dX11_layRun_28 : decode cX11_layRun 28 = .ok (.iadd, 1) := by decide +kernel
theorem dX11_layRun_29 : decode cX11_layRun 29 = .ok (.istore_n 3, 1) := by decide +kernel
theorem dX11_layRun_30 : decode cX11_layRun 30 = .ok (.iconst 0, 1) := by decide +kernel
theorem dX11_layRun_31 : decode cX11_layRun 31 = .ok (.istore 4, 2) := by decide +kernel
theorem dX11_layRun_33 : decode cX11_layRun 33 = .ok (.aload_n 0, 1) := by decide +kernel
theorem dX11_layRun_34 : decode cX11_layRun 34 = .ok (.getfield 31, 3) := by decide +kernel
theorem dX11_layRun_37 : decode cX11_layRun 37 = .ok (.iload_n 3, 1) := by decide +kernel
theorem dX11_layRun_38 : decode cX11_layRun 38 = .ok (.iaload, 1) := by decide +kernel
theorem dX11_layRun_39 : decode cX11_layRun 39 = .ok (.bipush (-9), 2) := by decide +kernel
theorem dX11_layRun_41 : decode cX11_layRun 41 = .ok (.if_icmp .ne 23, 3) := by decide +kernel
theorem dX11_layRun_44 : decode cX11_layRun 44 = .ok (.aload_n 0, 1) := by decide +kernel
theorem dX11_layRun_45 : decode cX11_layRun 45 = .ok (.getfield 31, 3) := by decide +kernel
theorem dX11_layRun_48 : decode cX11_layRun 48 = .ok (.iload_n 3, 1) := by decide +kernel
theorem dX11_layRun_49 : decode cX11_layRun 49 = .ok (.iload 4, 2) := by decide +kernel
theorem dX11_layRun_51 : decode cX11_layRun 51 = .ok (.iastore, 1) := by decide +kernel
theorem dX11_layRun_52 : decode cX11_layRun 52 = .ok (.aload_n 0, 1) := by decide +kernel
theorem dX11_layRun_53 : decode cX11_layRun 53 = .ok (.iload_n 3, 1) := by decide +kernel
theorem dX11_layRun_54 : decode cX11_layRun 54 = .ok (.invokevirtual 128, 3) := by decide +kernel
theorem dX11_layRun_57 : decode cX11_layRun 57 = .ok (.istore_n 3, 1) := by decide +kernel
theorem dX11_layRun_58 : decode cX11_layRun 58 = .ok (.iinc 4 1, 3) := by decide +kernel
theorem dX11_layRun_61 : decode cX11_layRun 61 = .ok (.goto (-28), 3) := by decide +kernel
theorem dX11_layRun_64 : decode cX11_layRun 64 = .ok (.aload_n 0, 1) := by decide +kernel
theorem dX11_layRun_65 : decode cX11_layRun 65 = .ok (.iload_n 3, 1) := by decide +kernel
theorem dX11_layRun_66 : decode cX11_layRun 66 = .ok (.putfield 149, 3) := by decide +kernel
theorem dX11_layRun_69 : decode cX11_layRun 69 = .ok (.aload_n 0, 1) := by decide +kernel
theorem dX11_layRun_70 : decode cX11_layRun 70 = .ok (.aload_n 0, 1) := by decide +kernel
theorem dX11_layRun_71 : decode cX11_layRun 71 = .ok (.getfield 31, 3) := by decide +kernel
theorem dX11_layRun_74 : decode cX11_layRun 74 = .ok (.iload_n 3, 1) := by decide +kernel
theorem dX11_layRun_75 : decode cX11_layRun 75 = .ok (.iaload, 1) := by decide +kernel
theorem dX11_layRun_76 : decode cX11_layRun 76 = .ok (.putfield 152, 3) := by decide +kernel
theorem dX11_layRun_79 : decode cX11_layRun 79 = .ok (.aload_n 0, 1) := by decide +kernel
theorem dX11_layRun_80 : decode cX11_layRun 80 = .ok (.iload 4, 2) := by decide +kernel
theorem dX11_layRun_82 : decode cX11_layRun 82 = .ok (.aload_n 0, 1) := by decide +kernel
theorem dX11_layRun_83 : decode cX11_layRun 83 = .ok (.getfield 152, 3) := by decide +kernel
theorem dX11_layRun_86 : decode cX11_layRun 86 = .ok (.isub, 1) := by decide +kernel
theorem dX11_layRun_87 : decode cX11_layRun 87 = .ok (.putfield 155, 3) := by decide +kernel
theorem dX11_layRun_90 : decode cX11_layRun 90 = .ok (.return_, 1) := by decide +kernel
theorem dX11_run_0 : decode cX11_run 0 = .ok (.iload_n 1, 1) := by decide +kernel
theorem dX11_run_1 : decode cX11_run 1 = .ok (.iload_n 2, 1) := by decide +kernel
theorem dX11_run_2 : decode cX11_run 2 = .ok (.invokestatic 124, 3) := by decide +kernel
theorem dX11_run_5 : decode cX11_run 5 = .ok (.ifCond .eq 15, 3) := by decide +kernel
theorem dX11_run_8 : decode cX11_run 8 = .ok (.iload_n 3, 1) := by decide +kernel
theorem dX11_run_9 : decode cX11_run 9 = .ok (.i2l, 1) := by decide +kernel
theorem dX11_run_10 : decode cX11_run 10 = .ok (.lconst 0, 1) := by decide +kernel
theorem dX11_run_11 : decode cX11_run 11 = .ok (.ldc2_w 158, 3) := by decide +kernel
theorem dX11_run_14 : decode cX11_run 14 = .ok (.invokestatic 65, 3) := by decide +kernel
theorem dX11_run_17 : decode cX11_run 17 = .ok (.ifCond .ne 6, 3) := by decide +kernel
theorem dX11_run_20 : decode cX11_run 20 = .ok (.bipush (-2), 2) := by decide +kernel
theorem dX11_run_22 : decode cX11_run 22 = .ok (.ireturn, 1) := by decide +kernel
theorem dX11_run_23 : decode cX11_run 23 = .ok (.aload_n 0, 1) := by decide +kernel
theorem dX11_run_24 : decode cX11_run 24 = .ok (.iload_n 1, 1) := by decide +kernel
theorem dX11_run_25 : decode cX11_run 25 = .ok (.iload_n 2, 1) := by decide +kernel
theorem dX11_run_26 : decode cX11_run 26 = .ok (.invokevirtual 160, 3) := by decide +kernel
theorem dX11_run_29 : decode cX11_run 29 = .ok (.iconst 0, 1) := by decide +kernel
theorem dX11_run_30 : decode cX11_run 30 = .ok (.istore 4, 2) := by decide +kernel
theorem dX11_run_32 : decode cX11_run 32 = .ok (.bipush 99, 2) := by decide +kernel
theorem dX11_run_34 : decode cX11_run 34 = .ok (.istore 5, 2) := by decide +kernel
theorem dX11_run_36 : decode cX11_run 36 = .ok (.iconst 0, 1) := by decide +kernel
theorem dX11_run_37 : decode cX11_run 37 = .ok (.istore 6, 2) := by decide +kernel
theorem dX11_run_39 : decode cX11_run 39 = .ok (.aload_n 0, 1) := by decide +kernel
theorem dX11_run_40 : decode cX11_run 40 = .ok (.getfield 149, 3) := by decide +kernel
theorem dX11_run_43 : decode cX11_run 43 = .ok (.istore 7, 2) := by decide +kernel
theorem dX11_run_45 : decode cX11_run 45 = .ok (.iconst 0, 1) := by decide +kernel
theorem dX11_run_46 : decode cX11_run 46 = .ok (.istore 8, 2) := by decide +kernel
theorem dX11_run_48 : decode cX11_run 48 = .ok (.iload 8, 2) := by decide +kernel
theorem dX11_run_50 : decode cX11_run 50 = .ok (.aload_n 0, 1) := by decide +kernel
theorem dX11_run_51 : decode cX11_run 51 = .ok (.getfield 155, 3) := by decide +kernel
theorem dX11_run_54 : decode cX11_run 54 = .ok (.if_icmp .ge 81, 3) := by decide +kernel
theorem dX11_run_57 : decode cX11_run 57 = .ok (.iload 4, 2) := by decide +kernel
theorem dX11_run_59 : decode cX11_run 59 = .ok (.iload 7, 2) := by decide +kernel
theorem dX11_run_61 : decode cX11_run 61 = .ok (.bipush 100, 2) := by decide +kernel
theorem dX11_run_63 : decode cX11_run 63 = .ok (.idiv, 1) := by decide +kernel
theorem dX11_run_64 : decode cX11_run 64 = .ok (.bipush 63, 2) := by decide +kernel
theorem dX11_run_66 : decode cX11_run 66 = .ok (.if_icmp .ne 7, 3) := by decide +kernel
theorem dX11_run_69 : decode cX11_run 69 = .ok (.iconst 1, 1) := by decide +kernel
theorem dX11_run_70 : decode cX11_run 70 = .ok (.goto 4, 3) := by decide +kernel
theorem dX11_run_73 : decode cX11_run 73 = .ok (.iconst 0, 1) := by decide +kernel
theorem dX11_run_74 : decode cX11_run 74 = .ok (.iadd, 1) := by decide +kernel
theorem dX11_run_75 : decode cX11_run 75 = .ok (.istore 4, 2) := by decide +kernel
theorem dX11_run_77 : decode cX11_run 77 = .ok (.iload 7, 2) := by decide +kernel
theorem dX11_run_79 : decode cX11_run 79 = .ok (.bipush 100, 2) := by decide +kernel
theorem dX11_run_81 : decode cX11_run 81 = .ok (.irem, 1) := by decide +kernel
theorem dX11_run_82 : decode cX11_run 82 = .ok (.iload 5, 2) := by decide +kernel
theorem dX11_run_84 : decode cX11_run 84 = .ok (.if_icmp .ge 11, 3) := by decide +kernel
theorem dX11_run_87 : decode cX11_run 87 = .ok (.iload 7, 2) := by decide +kernel
theorem dX11_run_89 : decode cX11_run 89 = .ok (.bipush 100, 2) := by decide +kernel
theorem dX11_run_91 : decode cX11_run 91 = .ok (.irem, 1) := by decide +kernel
theorem dX11_run_92 : decode cX11_run 92 = .ok (.goto 5, 3) := by decide +kernel
theorem dX11_run_95 : decode cX11_run 95 = .ok (.iload 5, 2) := by decide +kernel
theorem dX11_run_97 : decode cX11_run 97 = .ok (.istore 5, 2) := by decide +kernel
theorem dX11_run_99 : decode cX11_run 99 = .ok (.iload 7, 2) := by decide +kernel
theorem dX11_run_101 : decode cX11_run 101 = .ok (.bipush 100, 2) := by decide +kernel
theorem dX11_run_103 : decode cX11_run 103 = .ok (.irem, 1) := by decide +kernel
theorem dX11_run_104 : decode cX11_run 104 = .ok (.iload 6, 2) := by decide +kernel
theorem dX11_run_106 : decode cX11_run 106 = .ok (.if_icmp .le 11, 3) := by decide +kernel
theorem dX11_run_109 : decode cX11_run 109 = .ok (.iload 7, 2) := by decide +kernel
theorem dX11_run_111 : decode cX11_run 111 = .ok (.bipush 100, 2) := by decide +kernel
theorem dX11_run_113 : decode cX11_run 113 = .ok (.irem, 1) := by decide +kernel
theorem dX11_run_114 : decode cX11_run 114 = .ok (.goto 5, 3) := by decide +kernel
theorem dX11_run_117 : decode cX11_run 117 = .ok (.iload 6, 2) := by decide +kernel
theorem dX11_run_119 : decode cX11_run 119 = .ok (.istore 6, 2) := by decide +kernel
theorem dX11_run_121 : decode cX11_run 121 = .ok (.aload_n 0, 1) := by decide +kernel
theorem dX11_run_122 : decode cX11_run 122 = .ok (.iload 7, 2) := by decide +kernel
theorem dX11_run_124 : decode cX11_run 124 = .ok (.invokevirtual 128, 3) := by decide +kernel
theorem dX11_run_127 : decode cX11_run 127 = .ok (.istore 7, 2) := by decide +kernel
theorem dX11_run_129 : decode cX11_run 129 = .ok (.iinc 8 1, 3) := by decide +kernel
theorem dX11_run_132 : decode cX11_run 132 = .ok (.goto (-84), 3) := by decide +kernel
theorem dX11_run_135 : decode cX11_run 135 = .ok (.iload_n 3, 1) := by decide +kernel
theorem dX11_run_136 : decode cX11_run 136 = .ok (.ifCond .ne 10, 3) := by decide +kernel
theorem dX11_run_139 : decode cX11_run 139 = .ok (.aload_n 0, 1) := by decide +kernel
theorem dX11_run_140 : decode cX11_run 140 = .ok (.getfield 152, 3) := by decide +kernel
theorem dX11_run_143 : decode cX11_run 143 = .ok (.goto 37, 3) := by decide +kernel
theorem dX11_run_146 : decode cX11_run 146 = .ok (.iload_n 3, 1) := by decide +kernel
theorem dX11_run_147 : decode cX11_run 147 = .ok (.iconst 1, 1) := by decide +kernel
theorem dX11_run_148 : decode cX11_run 148 = .ok (.if_icmp .ne 10, 3) := by decide +kernel
theorem dX11_run_151 : decode cX11_run 151 = .ok (.aload_n 0, 1) := by decide +kernel
theorem dX11_run_152 : decode cX11_run 152 = .ok (.getfield 155, 3) := by decide +kernel
theorem dX11_run_155 : decode cX11_run 155 = .ok (.goto 25, 3) := by decide +kernel
theorem dX11_run_158 : decode cX11_run 158 = .ok (.iload_n 3, 1) := by decide +kernel
theorem dX11_run_159 : decode cX11_run 159 = .ok (.iconst 2, 1) := by decide +kernel
theorem dX11_run_160 : decode cX11_run 160 = .ok (.if_icmp .ne 8, 3) := by decide +kernel
theorem dX11_run_163 : decode cX11_run 163 = .ok (.iload 4, 2) := by decide +kernel
theorem dX11_run_165 : decode cX11_run 165 = .ok (.goto 15, 3) := by decide +kernel
theorem dX11_run_168 : decode cX11_run 168 = .ok (.iload_n 3, 1) := by decide +kernel
theorem dX11_run_169 : decode cX11_run 169 = .ok (.iconst 3, 1) := by decide +kernel
theorem dX11_run_170 : decode cX11_run 170 = .ok (.if_icmp .ne 8, 3) := by decide +kernel
theorem dX11_run_173 : decode cX11_run 173 = .ok (.iload 5, 2) := by decide +kernel
theorem dX11_run_175 : decode cX11_run 175 = .ok (.goto 5, 3) := by decide +kernel
theorem dX11_run_178 : decode cX11_run 178 = .ok (.iload 6, 2) := by decide +kernel
theorem dX11_run_180 : decode cX11_run 180 = .ok (.ireturn, 1) := by decide +kernel
theorem dX11_till_0 : decode cX11_till 0 = .ok (.iload_n 1, 1) := by decide +kernel
theorem dX11_till_1 : decode cX11_till 1 = .ok (.iload_n 2, 1) := by decide +kernel
theorem dX11_till_2 : decode cX11_till 2 = .ok (.invokestatic 124, 3) := by decide +kernel
theorem dX11_till_5 : decode cX11_till 5 = .ok (.ifCond .ne 6, 3) := by decide +kernel
theorem dX11_till_8 : decode cX11_till 8 = .ok (.bipush (-2), 2) := by decide +kernel
theorem dX11_till_10 : decode cX11_till 10 = .ok (.ireturn, 1) := by decide +kernel
theorem dX11_till_11 : decode cX11_till 11 = .ok (.aload_n 0, 1) := by decide +kernel
theorem dX11_till_12 : decode cX11_till 12 = .ok (.iload_n 1, 1) := by decide +kernel
theorem dX11_till_13 : decode cX11_till 13 = .ok (.iload_n 2, 1) := by decide +kernel
theorem dX11_till_14 : decode cX11_till 14 = .ok (.invokevirtual 160, 3) := by decide +kernel
theorem dX11_till_17 : decode cX11_till 17 = .ok (.bipush 100, 2) := by decide +kernel
theorem dX11_till_19 : decode cX11_till 19 = .ok (.iload_n 1, 1) := by decide +kernel
theorem dX11_till_20 : decode cX11_till 20 = .ok (.imul, 1) := by decide +kernel
theorem dX11_till_21 : decode cX11_till 21 = .ok (.iload_n 2, 1) := by decide +kernel
theorem dX11_till_22 : decode cX11_till 22 = .ok (.iadd, 1) := by decide +kernel
theorem dX11_till_23 : decode cX11_till 23 = .ok (.istore 4, 2) := by decide +kernel
theorem dX11_till_25 : decode cX11_till 25 = .ok (.iconst 0, 1) := by decide +kernel
theorem dX11_till_26 : decode cX11_till 26 = .ok (.istore 5, 2) := by decide +kernel
theorem dX11_till_28 : decode cX11_till 28 = .ok (.iload 5, 2) := by decide +kernel
theorem dX11_till_30 : decode cX11_till 30 = .ok (.aload_n 0, 1) := by decide +kernel
theorem dX11_till_31 : decode cX11_till 31 = .ok (.getfield 152, 3) := by decide +kernel
theorem dX11_till_34 : decode cX11_till 34 = .ok (.aload_n 0, 1) := by decide +kernel
theorem dX11_till_35 : decode cX11_till 35 = .ok (.getfield 155, 3) := by decide +kernel
theorem dX11_till_38 : decode cX11_till 38 = .ok (.iadd, 1) := by decide +kernel
theorem dX11_till_39 : decode cX11_till 39 = .ok (.if_icmp .ge 39, 3) := by decide +kernel
theorem dX11_till_42 : decode cX11_till 42 = .ok (.iload 4, 2) := by decide +kernel
theorem dX11_till_44 : decode cX11_till 44 = .ok (.bipush 100, 2) := by decide +kernel
theorem dX11_till_46 : decode cX11_till 46 = .ok (.idiv, 1) := by decide +kernel
theorem dX11_till_47 : decode cX11_till 47 = .ok (.bipush 63, 2) := by decide +kernel
theorem dX11_till_49 : decode cX11_till 49 = .ok (.if_icmp .ne 7, 3) := by decide +kernel
theorem dX11_till_52 : decode cX11_till 52 = .ok (.iconst 1, 1) := by decide +kernel
theorem dX11_till_53 : decode cX11_till 53 = .ok (.goto 4, 3) := by decide +kernel
theorem dX11_till_56 : decode cX11_till 56 = .ok (.iconst 0, 1) := by decide +kernel
theorem dX11_till_57 : decode cX11_till 57 = .ok (.iload_n 3, 1) := by decide +kernel
theorem dX11_till_58 : decode cX11_till 58 = .ok (.if_icmp .ne 6, 3) := by decide +kernel
theorem dX11_till_61 : decode cX11_till 61 = .ok (.iload 5, 2) := by decide +kernel
theorem dX11_till_63 : decode cX11_till 63 = .ok (.ireturn, 1) := by decide +kernel
theorem dX11_till_64 : decode cX11_till 64 = .ok (.aload_n 0, 1) := by decide +kernel
theorem dX11_till_65 : decode cX11_till 65 = .ok (.iload 4, 2) := by decide +kernel
theorem dX11_till_67 : decode cX11_till 67 = .ok (.invokevirtual 128, 3) := by decide +kernel
theorem dX11_till_70 : decode cX11_till 70 = .ok (.istore 4, 2) := by decide +kernel
theorem dX11_till_72 : decode cX11_till 72 = .ok (.iinc 5 1, 3) := by decide +kernel
theorem dX11_till_75 : decode cX11_till 75 = .ok (.goto (-47), 3) := by decide +kernel
theorem dX11_till_78 : decode cX11_till 78 = .ok (.bipush (-9), 2) := by decide +kernel
theorem dX11_till_80 : decode cX11_till 80 = .ok (.ireturn, 1) := by decide +kernel
theorem dX11_isRest_0 : decode cX11_isRest 0 = .ok (.aload_n 0, 1) := by decide +kernel
theorem dX11_isRest_1 : decode cX11_isRest 1 = .ok (.iload_n 1, 1) := by decide +kernel
theorem dX11_isRest_2 : decode cX11_isRest 2 = .ok (.iload_n 2, 1) := by decide +kernel
theorem dX11_isRest_3 : decode cX11_isRest 3 = .ok (.invokevirtual 142, 3) := by decide +kernel
theorem dX11_isRest_6 : decode cX11_isRest 6 = .ok (.iload_n 1, 1) := by decide +kernel
theorem dX11_isRest_7 : decode cX11_isRest 7 = .ok (.if_icmp .ne 7, 3) := by decide +kernel
theorem dX11_isRest_10 : decode cX11_isRest 10 = .ok (.iconst 1, 1) := by decide +kernel
theorem dX11_isRest_11 : decode cX11_isRest 11 = .ok (.goto 4, 3) := by decide +kernel
theorem dX11_isRest_14 : decode cX11_isRest 14 = .ok (.iconst 0, 1) := by decide +kernel
theorem dX11_isRest_15 : decode cX11_isRest 15 = .ok (.ireturn, 1) := by decide +kernel
theorem dX11_rests_0 : decode cX11_rests 0 = .ok (.iload_n 1, 1) := by decide +kernel
theorem dX11_rests_1 : decode cX11_rests 1 = .ok (.i2l, 1) := by decide +kernel
theorem dX11_rests_2 : decode cX11_rests 2 = .ok (.lconst 0, 1) := by decide +kernel
theorem dX11_rests_3 : decode cX11_rests 3 = .ok (.ldc2_w 122, 3) := by decide +kernel
theorem dX11_rests_6 : decode cX11_rests 6 = .ok (.invokestatic 65, 3) := by decide +kernel
theorem dX11_rests_9 : decode cX11_rests 9 = .ok (.ifCond .ne 6, 3) := by decide +kernel
theorem dX11_rests_12 : decode cX11_rests 12 = .ok (.bipush (-2), 2) := by decide +kernel
theorem dX11_rests_14 : decode cX11_rests 14 = .ok (.ireturn, 1) := by decide +kernel
theorem dX11_rests_15 : decode cX11_rests 15 = .ok (.iconst 0, 1) := by decide +kernel
theorem dX11_rests_16 : decode cX11_rests 16 = .ok (.istore_n 2, 1) := by decide +kernel
theorem dX11_rests_17 : decode cX11_rests 17 = .ok (.iconst 0, 1) := by decide +kernel
theorem dX11_rests_18 : decode cX11_rests 18 = .ok (.istore_n 3, 1) := by decide +kernel
theorem dX11_rests_19 : decode cX11_rests 19 = .ok (.iload_n 3, 1) := by decide +kernel
theorem dX11_rests_20 : decode cX11_rests 20 = .ok (.bipush 64, 2) := by decide +kernel
theorem dX11_rests_22 : decode cX11_rests 22 = .ok (.if_icmp .ge 26, 3) := by decide +kernel
theorem dX11_rests_25 : decode cX11_rests 25 = .ok (.iload_n 2, 1) := by decide +kernel
theorem dX11_rests_26 : decode cX11_rests 26 = .ok (.aload_n 0, 1) := by decide +kernel
theorem dX11_rests_27 : decode cX11_rests 27 = .ok (.iload_n 3, 1) := by decide +kernel
theorem dX11_rests_28 : decode cX11_rests 28 = .ok (.iload_n 1, 1) := by decide +kernel
theorem dX11_rests_29 : decode cX11_rests 29 = .ok (.invokevirtual 164, 3) := by decide +kernel
theorem dX11_rests_32 : decode cX11_rests 32 = .ok (.ifCond .eq 7, 3) := by decide +kernel
theorem dX11_rests_35 : decode cX11_rests 35 = .ok (.iconst 1, 1) := by decide +kernel
theorem dX11_rests_36 : decode cX11_rests 36 = .ok (.goto 4, 3) := by decide +kernel
theorem dX11_rests_39 : decode cX11_rests 39 = .ok (.iconst 0, 1) := by decide +kernel
theorem dX11_rests_40 : decode cX11_rests 40 = .ok (.iadd, 1) := by decide +kernel
theorem dX11_rests_41 : decode cX11_rests 41 = .ok (.istore_n 2, 1) := by decide +kernel
theorem dX11_rests_42 : decode cX11_rests 42 = .ok (.iinc 3 1, 3) := by decide +kernel
theorem dX11_rests_45 : decode cX11_rests 45 = .ok (.goto (-26), 3) := by decide +kernel
theorem dX11_rests_48 : decode cX11_rests 48 = .ok (.iload_n 2, 1) := by decide +kernel
theorem dX11_rests_49 : decode cX11_rests 49 = .ok (.ireturn, 1) := by decide +kernel
theorem dX11_rest_0 : decode cX11_rest 0 = .ok (.iload_n 1, 1) := by decide +kernel
theorem dX11_rest_1 : decode cX11_rest 1 = .ok (.i2l, 1) := by decide +kernel
theorem dX11_rest_2 : decode cX11_rest 2 = .ok (.lconst 0, 1) := by decide +kernel
theorem dX11_rest_3 : decode cX11_rest 3 = .ok (.ldc2_w 122, 3) := by decide +kernel
theorem dX11_rest_6 : decode cX11_rest 6 = .ok (.invokestatic 65, 3) := by decide +kernel
theorem dX11_rest_9 : decode cX11_rest 9 = .ok (.ifCond .ne 6, 3) := by decide +kernel
theorem dX11_rest_12 : decode cX11_rest 12 = .ok (.bipush (-2), 2) := by decide +kernel
theorem dX11_rest_14 : decode cX11_rest 14 = .ok (.ireturn, 1) := by decide +kernel
theorem dX11_rest_15 : decode cX11_rest 15 = .ok (.iconst 0, 1) := by decide +kernel
theorem dX11_rest_16 : decode cX11_rest 16 = .ok (.istore_n 3, 1) := by decide +kernel
theorem dX11_rest_17 : decode cX11_rest 17 = .ok (.iconst 0, 1) := by decide +kernel
theorem dX11_rest_18 : decode cX11_rest 18 = .ok (.istore 4, 2) := by decide +kernel
theorem dX11_rest_20 : decode cX11_rest 20 = .ok (.iload 4, 2) := by decide +kernel
theorem dX11_rest_22 : decode cX11_rest 22 = .ok (.bipush 64, 2) := by decide +kernel
theorem dX11_rest_24 : decode cX11_rest 24 = .ok (.if_icmp .ge 30, 3) := by decide +kernel
theorem dX11_rest_27 : decode cX11_rest 27 = .ok (.aload_n 0, 1) := by decide +kernel
theorem dX11_rest_28 : decode cX11_rest 28 = .ok (.iload 4, 2) := by decide +kernel
theorem dX11_rest_30 : decode cX11_rest 30 = .ok (.iload_n 1, 1) := by decide +kernel
theorem dX11_rest_31 : decode cX11_rest 31 = .ok (.invokevirtual 164, 3) := by decide +kernel
theorem dX11_rest_34 : decode cX11_rest 34 = .ok (.ifCond .eq 14, 3) := by decide +kernel
theorem dX11_rest_37 : decode cX11_rest 37 = .ok (.iload_n 3, 1) := by decide +kernel
theorem dX11_rest_38 : decode cX11_rest 38 = .ok (.iload_n 2, 1) := by decide +kernel
theorem dX11_rest_39 : decode cX11_rest 39 = .ok (.if_icmp .ne 6, 3) := by decide +kernel
theorem dX11_rest_42 : decode cX11_rest 42 = .ok (.iload 4, 2) := by decide +kernel
theorem dX11_rest_44 : decode cX11_rest 44 = .ok (.ireturn, 1) := by decide +kernel
theorem dX11_rest_45 : decode cX11_rest 45 = .ok (.iinc 3 1, 3) := by decide +kernel
theorem dX11_rest_48 : decode cX11_rest 48 = .ok (.iinc 4 1, 3) := by decide +kernel
theorem dX11_rest_51 : decode cX11_rest 51 = .ok (.goto (-31), 3) := by decide +kernel
theorem dX11_rest_54 : decode cX11_rest 54 = .ok (.bipush (-9), 2) := by decide +kernel
theorem dX11_rest_56 : decode cX11_rest 56 = .ok (.ireturn, 1) := by decide +kernel
theorem dX11_settleOf_0 : decode cX11_settleOf 0 = .ok (.iload_n 1, 1) := by decide +kernel
theorem dX11_settleOf_1 : decode cX11_settleOf 1 = .ok (.istore_n 3, 1) := by decide +kernel
theorem dX11_settleOf_2 : decode cX11_settleOf 2 = .ok (.iconst 0, 1) := by decide +kernel
theorem dX11_settleOf_3 : decode cX11_settleOf 3 = .ok (.istore 4, 2) := by decide +kernel
theorem dX11_settleOf_5 : decode cX11_settleOf 5 = .ok (.iload 4, 2) := by decide +kernel
theorem dX11_settleOf_7 : decode cX11_settleOf 7 = .ok (.bipush 65, 2) := by decide +kernel
theorem dX11_settleOf_9 : decode cX11_settleOf 9 = .ok (.if_icmp .ge 27, 3) := by decide +kernel
theorem dX11_settleOf_12 : decode cX11_settleOf 12 = .ok (.aload_n 0, 1) := by decide +kernel
theorem dX11_settleOf_13 : decode cX11_settleOf 13 = .ok (.iload_n 3, 1) := by decide +kernel
theorem dX11_settleOf_14 : decode cX11_settleOf 14 = .ok (.iload_n 2, 1) := by decide +kernel
theorem dX11_settleOf_15 : decode cX11_settleOf 15 = .ok (.invokevirtual 164, 3) := by decide +kernel
theorem dX11_settleOf_18 : decode cX11_settleOf 18 = .ok (.ifCond .eq 5, 3) := by decide +kernel
theorem dX11_settleOf_21 : decode cX11_settleOf 21 = .ok (.iload_n 3, 1) := by decide +kernel
theorem dX11_settleOf_22 : decode cX11_settleOf 22 = .ok (.ireturn, 1) := by decide +kernel
theorem dX11_settleOf_23 : decode cX11_settleOf 23 = .ok (.aload_n 0, 1) := by decide +kernel
theorem dX11_settleOf_24 : decode cX11_settleOf 24 = .ok (.iload_n 3, 1) := by decide +kernel
theorem dX11_settleOf_25 : decode cX11_settleOf 25 = .ok (.iload_n 2, 1) := by decide +kernel
theorem dX11_settleOf_26 : decode cX11_settleOf 26 = .ok (.invokevirtual 142, 3) := by decide +kernel
theorem dX11_settleOf_29 : decode cX11_settleOf 29 = .ok (.istore_n 3, 1) := by decide +kernel
theorem dX11_settleOf_30 : decode cX11_settleOf 30 = .ok (.iinc 4 1, 3) := by decide +kernel
theorem dX11_settleOf_33 : decode cX11_settleOf 33 = .ok (.goto (-28), 3) := by decide +kernel
theorem dX11_settleOf_36 : decode cX11_settleOf 36 = .ok (.bipush (-9), 2) := by decide +kernel
theorem dX11_settleOf_38 : decode cX11_settleOf 38 = .ok (.ireturn, 1) := by decide +kernel
theorem dX11_settle_0 : decode cX11_settle 0 = .ok (.iload_n 1, 1) := by decide +kernel
theorem dX11_settle_1 : decode cX11_settle 1 = .ok (.iload_n 2, 1) := by decide +kernel
theorem dX11_settle_2 : decode cX11_settle 2 = .ok (.invokestatic 124, 3) := by decide +kernel
theorem dX11_settle_5 : decode cX11_settle 5 = .ok (.ifCond .eq 12, 3) := by decide +kernel
theorem dX11_settle_8 : decode cX11_settle 8 = .ok (.aload_n 0, 1) := by decide +kernel
theorem dX11_settle_9 : decode cX11_settle 9 = .ok (.iload_n 1, 1) := by decide +kernel
theorem dX11_settle_10 : decode cX11_settle 10 = .ok (.iload_n 2, 1) := by decide +kernel
theorem dX11_settle_11 : decode cX11_settle 11 = .ok (.invokevirtual 167, 3) := by decide +kernel
theorem dX11_settle_14 : decode cX11_settle 14 = .ok (.goto 5, 3) := by decide +kernel
theorem dX11_settle_17 : decode cX11_settle 17 = .ok (.bipush (-2), 2) := by decide +kernel
theorem dX11_settle_19 : decode cX11_settle 19 = .ok (.ireturn, 1) := by decide +kernel
theorem dX11_layCurve_0 : decode cX11_layCurve 0 = .ok (.aload_n 0, 1) := by decide +kernel
theorem dX11_layCurve_1 : decode cX11_layCurve 1 = .ok (.iconst 0, 1) := by decide +kernel
theorem dX11_layCurve_2 : decode cX11_layCurve 2 = .ok (.putfield 170, 3) := by decide +kernel
theorem dX11_layCurve_5 : decode cX11_layCurve 5 = .ok (.aload_n 0, 1) := by decide +kernel
theorem dX11_layCurve_6 : decode cX11_layCurve 6 = .ok (.iload_n 1, 1) := by decide +kernel
theorem dX11_layCurve_7 : decode cX11_layCurve 7 = .ok (.putfield 173, 3) := by decide +kernel
theorem dX11_layCurve_10 : decode cX11_layCurve 10 = .ok (.iload_n 3, 1) := by decide +kernel
theorem dX11_layCurve_11 : decode cX11_layCurve 11 = .ok (.iload_n 2, 1) := by decide +kernel
theorem dX11_layCurve_12 : decode cX11_layCurve 12 = .ok (.if_icmp .ge 7, 3) := by decide +kernel
theorem dX11_layCurve_15 : decode cX11_layCurve 15 = .ok (.iconst (-1), 1) := by decide +kernel
theorem dX11_layCurve_16 : decode cX11_layCurve 16 = .ok (.goto 4, 3) := by decide +kernel
theorem dX11_layCurve_19 : decode cX11_layCurve 19 = .ok (.iconst 1, 1) := by decide +kernel
theorem dX11_layCurve_20 : decode cX11_layCurve 20 = .ok (.istore 4, 2) := by decide +kernel
theorem dX11_layCurve_22 : decode cX11_layCurve 22 = .ok (.iconst 1, 1) := by decide +kernel
theorem dX11_layCurve_23 : decode cX11_layCurve 23 = .ok (.istore 5, 2) := by decide +kernel
theorem dX11_layCurve_25 : decode cX11_layCurve 25 = .ok (.iload_n 2, 1) := by decide +kernel
theorem dX11_layCurve_26 : decode cX11_layCurve 26 = .ok (.istore 6, 2) := by decide +kernel
theorem dX11_layCurve_28 : decode cX11_layCurve 28 = .ok (.iload 5, 2) := by decide +kernel
theorem dX11_layCurve_30 : decode cX11_layCurve 30 = .ok (.ifCond .eq 106, 3) := by decide +kernel
theorem dX11_layCurve_33 : decode cX11_layCurve 33 = .ok (.aload_n 0, 1) := by decide +kernel
theorem dX11_layCurve_34 : decode cX11_layCurve 34 = .ok (.aload_n 0, 1) := by decide +kernel
theorem dX11_layCurve_35 : decode cX11_layCurve 35 = .ok (.getfield 173, 3) := by decide +kernel
theorem dX11_layCurve_38 : decode cX11_layCurve 38 = .ok (.iload 6, 2) := by decide +kernel
theorem dX11_layCurve_40 : decode cX11_layCurve 40 = .ok (.invokevirtual 167, 3) := by decide +kernel
theorem dX11_layCurve_43 : decode cX11_layCurve 43 = .ok (.istore 7, 2) := by decide +kernel
theorem dX11_layCurve_45 : decode cX11_layCurve 45 = .ok (.iload 7, 2) := by decide +kernel
theorem dX11_layCurve_47 : decode cX11_layCurve 47 = .ok (.bipush (-9), 2) := by decide +kernel
theorem dX11_layCurve_49 : decode cX11_layCurve 49 = .ok (.if_icmp .ne 10, 3) := by decide +kernel
theorem dX11_layCurve_52 : decode cX11_layCurve 52 = .ok (.aload_n 0, 1) := by decide +kernel
theorem dX11_layCurve_53 : decode cX11_layCurve 53 = .ok (.bipush (-9), 2) := by decide +kernel
theorem dX11_layCurve_55 : decode cX11_layCurve 55 = .ok (.putfield 173, 3) := by decide +kernel
theorem dX11_layCurve_58 : decode cX11_layCurve 58 = .ok (.return_, 1) := by decide +kernel
theorem dX11_layCurve_59 : decode cX11_layCurve 59 = .ok (.iload 7, 2) := by decide +kernel
theorem dX11_layCurve_61 : decode cX11_layCurve 61 = .ok (.invokestatic 139, 3) := by decide +kernel
theorem dX11_layCurve_64 : decode cX11_layCurve 64 = .ok (.aload_n 0, 1) := by decide +kernel
theorem dX11_layCurve_65 : decode cX11_layCurve 65 = .ok (.getfield 173, 3) := by decide +kernel
theorem dX11_layCurve_68 : decode cX11_layCurve 68 = .ok (.invokestatic 139, 3) := by decide +kernel
theorem dX11_layCurve_71 : decode cX11_layCurve 71 = .ok (.isub, 1) := by decide +kernel
theorem dX11_layCurve_72 : decode cX11_layCurve 72 = .ok (.istore 8, 2) := by decide +kernel
theorem dX11_layCurve_74 : decode cX11_layCurve 74 = .ok (.iload 8, 2) := by decide +kernel
theorem dX11_layCurve_76 : decode cX11_layCurve 76 = .ok (.iconst 1, 1) := by decide +kernel
theorem dX11_layCurve_77 : decode cX11_layCurve 77 = .ok (.if_icmp .gt 9, 3) := by decide +kernel
theorem dX11_layCurve_80 : decode cX11_layCurve 80 = .ok (.iload 8, 2) := by decide +kernel
theorem dX11_layCurve_82 : decode cX11_layCurve 82 = .ok (.iconst (-1), 1) := by decide +kernel
theorem dX11_layCurve_83 : decode cX11_layCurve 83 = .ok (.if_icmp .ge 24, 3) := by decide +kernel
theorem dX11_layCurve_86 : decode cX11_layCurve 86 = .ok (.aload_n 0, 1) := by decide +kernel
theorem dX11_layCurve_87 : decode cX11_layCurve 87 = .ok (.getfield 34, 3) := by decide +kernel
theorem dX11_layCurve_90 : decode cX11_layCurve 90 = .ok (.aload_n 0, 1) := by decide +kernel
theorem dX11_layCurve_91 : decode cX11_layCurve 91 = .ok (.getfield 170, 3) := by decide +kernel
theorem dX11_layCurve_94 : decode cX11_layCurve 94 = .ok (.iload 6, 2) := by decide +kernel
theorem dX11_layCurve_96 : decode cX11_layCurve 96 = .ok (.iastore, 1) := by decide +kernel
theorem dX11_layCurve_97 : decode cX11_layCurve 97 = .ok (.aload_n 0, 1) := by decide +kernel
theorem dX11_layCurve_98 : decode cX11_layCurve 98 = .ok (.dup, 1) := by decide +kernel
theorem dX11_layCurve_99 : decode cX11_layCurve 99 = .ok (.getfield 170, 3) := by decide +kernel
theorem dX11_layCurve_102 : decode cX11_layCurve 102 = .ok (.iconst 1, 1) := by decide +kernel
theorem dX11_layCurve_103 : decode cX11_layCurve 103 = .ok (.iadd, 1) := by decide +kernel
theorem dX11_layCurve_104 : decode cX11_layCurve 104 = .ok (.putfield 170, 3) := by decide +kernel
theorem dX11_layCurve_107 : decode cX11_layCurve 107 = .ok (.aload_n 0, 1) := by decide +kernel
theorem dX11_layCurve_108 : decode cX11_layCurve 108 = .ok (.iload 7, 2) := by decide +kernel
theorem dX11_layCurve_110 : decode cX11_layCurve 110 = .ok (.putfield 173, 3) := by decide +kernel
theorem dX11_layCurve_113 : decode cX11_layCurve 113 = .ok (.iload 6, 2) := by decide +kernel
theorem dX11_layCurve_115 : decode cX11_layCurve 115 = .ok (.iload_n 3, 1) := by decide +kernel
theorem dX11_layCurve_116 : decode cX11_layCurve 116 = .ok (.if_icmp .eq 7, 3) := by decide +kernel
theorem dX11_layCurve_119 : decode cX11_layCurve 119 = .ok (.iconst 1, 1) := by decide +kernel
theorem dX11_layCurve_120 : decode cX11_layCurve 120 = .ok (.goto 4, 3) := by decide +kernel
theorem dX11_layCurve_123 : decode cX11_layCurve 123 = .ok (.iconst 0, 1) := by decide +kernel
theorem dX11_layCurve_124 : decode cX11_layCurve 124 = .ok (.istore 5, 2) := by decide +kernel
theorem dX11_layCurve_126 : decode cX11_layCurve 126 = .ok (.iload 6, 2) := by decide +kernel
theorem dX11_layCurve_128 : decode cX11_layCurve 128 = .ok (.iload 4, 2) := by decide +kernel
theorem dX11_layCurve_130 : decode cX11_layCurve 130 = .ok (.iadd, 1) := by decide +kernel
theorem dX11_layCurve_131 : decode cX11_layCurve 131 = .ok (.istore 6, 2) := by decide +kernel
theorem dX11_layCurve_133 : decode cX11_layCurve 133 = .ok (.goto (-105), 3) := by decide +kernel
theorem dX11_layCurve_136 : decode cX11_layCurve 136 = .ok (.return_, 1) := by decide +kernel
theorem dX11_jumps_0 : decode cX11_jumps 0 = .ok (.iload_n 1, 1) := by decide +kernel
theorem dX11_jumps_1 : decode cX11_jumps 1 = .ok (.iload_n 2, 1) := by decide +kernel
theorem dX11_jumps_2 : decode cX11_jumps 2 = .ok (.invokestatic 124, 3) := by decide +kernel
theorem dX11_jumps_5 : decode cX11_jumps 5 = .ok (.ifCond .eq 15, 3) := by decide +kernel
theorem dX11_jumps_8 : decode cX11_jumps 8 = .ok (.iload_n 3, 1) := by decide +kernel
theorem dX11_jumps_9 : decode cX11_jumps 9 = .ok (.i2l, 1) := by decide +kernel
theorem dX11_jumps_10 : decode cX11_jumps 10 = .ok (.lconst 0, 1) := by decide +kernel
theorem dX11_jumps_11 : decode cX11_jumps 11 = .ok (.ldc2_w 122, 3) := by decide +kernel
theorem dX11_jumps_14 : decode cX11_jumps 14 = .ok (.invokestatic 65, 3) := by decide +kernel
theorem dX11_jumps_17 : decode cX11_jumps 17 = .ok (.ifCond .ne 6, 3) := by decide +kernel
theorem dX11_jumps_20 : decode cX11_jumps 20 = .ok (.bipush (-2), 2) := by decide +kernel
theorem dX11_jumps_22 : decode cX11_jumps 22 = .ok (.ireturn, 1) := by decide +kernel
theorem dX11_jumps_23 : decode cX11_jumps 23 = .ok (.aload_n 0, 1) := by decide +kernel
theorem dX11_jumps_24 : decode cX11_jumps 24 = .ok (.iload_n 1, 1) := by decide +kernel
theorem dX11_jumps_25 : decode cX11_jumps 25 = .ok (.iload_n 2, 1) := by decide +kernel
theorem dX11_jumps_26 : decode cX11_jumps 26 = .ok (.iload_n 3, 1) := by decide +kernel
theorem dX11_jumps_27 : decode cX11_jumps 27 = .ok (.invokevirtual 176, 3) := by decide +kernel
theorem dX11_jumps_30 : decode cX11_jumps 30 = .ok (.aload_n 0, 1) := by decide +kernel
theorem dX11_jumps_31 : decode cX11_jumps 31 = .ok (.getfield 170, 3) := by decide +kernel
theorem dX11_jumps_34 : decode cX11_jumps 34 = .ok (.ireturn, 1) := by decide +kernel
theorem dX11_jump_0 : decode cX11_jump 0 = .ok (.iload_n 1, 1) := by decide +kernel
theorem dX11_jump_1 : decode cX11_jump 1 = .ok (.iload_n 2, 1) := by decide +kernel
theorem dX11_jump_2 : decode cX11_jump 2 = .ok (.invokestatic 124, 3) := by decide +kernel
theorem dX11_jump_5 : decode cX11_jump 5 = .ok (.ifCond .eq 15, 3) := by decide +kernel
theorem dX11_jump_8 : decode cX11_jump 8 = .ok (.iload_n 3, 1) := by decide +kernel
theorem dX11_jump_9 : decode cX11_jump 9 = .ok (.i2l, 1) := by decide +kernel
theorem dX11_jump_10 : decode cX11_jump 10 = .ok (.lconst 0, 1) := by decide +kernel
theorem dX11_jump_11 : decode cX11_jump 11 = .ok (.ldc2_w 122, 3) := by decide +kernel
theorem dX11_jump_14 : decode cX11_jump 14 = .ok (.invokestatic 65, 3) := by decide +kernel
theorem dX11_jump_17 : decode cX11_jump 17 = .ok (.ifCond .ne 6, 3) := by decide +kernel
theorem dX11_jump_20 : decode cX11_jump 20 = .ok (.bipush (-2), 2) := by decide +kernel
theorem dX11_jump_22 : decode cX11_jump 22 = .ok (.ireturn, 1) := by decide +kernel
theorem dX11_jump_23 : decode cX11_jump 23 = .ok (.aload_n 0, 1) := by decide +kernel
theorem dX11_jump_24 : decode cX11_jump 24 = .ok (.iload_n 1, 1) := by decide +kernel
theorem dX11_jump_25 : decode cX11_jump 25 = .ok (.iload_n 2, 1) := by decide +kernel
theorem dX11_jump_26 : decode cX11_jump 26 = .ok (.iload_n 3, 1) := by decide +kernel
theorem dX11_jump_27 : decode cX11_jump 27 = .ok (.invokevirtual 176, 3) := by decide +kernel
end
section
theorem dX11_jump_30 : decode cX11_jump 30 = .ok (.iload 4, 2) := by decide +kernel
theorem dX11_jump_32 : decode cX11_jump 32 = .ok (.i2l, 1) := by decide +kernel
theorem dX11_jump_33 : decode cX11_jump 33 = .ok (.lconst 0, 1) := by decide +kernel
theorem dX11_jump_34 : decode cX11_jump 34 = .ok (.aload_n 0, 1) := by decide +kernel
theorem dX11_jump_35 : decode cX11_jump 35 = .ok (.getfield 170, 3) := by decide +kernel
theorem dX11_jump_38 : decode cX11_jump 38 = .ok (.iconst 1, 1) := by decide +kernel
theorem dX11_jump_39 : decode cX11_jump 39 = .ok (.isub, 1) := by decide +kernel
theorem dX11_jump_40 : decode cX11_jump 40 = .ok (.i2l, 1) := by decide +kernel
theorem dX11_jump_41 : decode cX11_jump 41 = .ok (.invokestatic 65, 3) := by decide +kernel
theorem dX11_jump_44 : decode cX11_jump 44 = .ok (.ifCond .eq 13, 3) := by decide +kernel
theorem dX11_jump_47 : decode cX11_jump 47 = .ok (.aload_n 0, 1) := by decide +kernel
theorem dX11_jump_48 : decode cX11_jump 48 = .ok (.getfield 34, 3) := by decide +kernel
theorem dX11_jump_51 : decode cX11_jump 51 = .ok (.iload 4, 2) := by decide +kernel
theorem dX11_jump_53 : decode cX11_jump 53 = .ok (.iaload, 1) := by decide +kernel
theorem dX11_jump_54 : decode cX11_jump 54 = .ok (.goto 5, 3) := by decide +kernel
theorem dX11_jump_57 : decode cX11_jump 57 = .ok (.bipush (-9), 2) := by decide +kernel
theorem dX11_jump_59 : decode cX11_jump 59 = .ok (.ireturn, 1) := by decide +kernel
theorem dX11_curve_0 : decode cX11_curve 0 = .ok (.iload_n 1, 1) := by decide +kernel
theorem dX11_curve_1 : decode cX11_curve 1 = .ok (.iload_n 2, 1) := by decide +kernel
theorem dX11_curve_2 : decode cX11_curve 2 = .ok (.invokestatic 124, 3) := by decide +kernel
theorem dX11_curve_5 : decode cX11_curve 5 = .ok (.ifCond .eq 15, 3) := by decide +kernel
theorem dX11_curve_8 : decode cX11_curve 8 = .ok (.iload_n 3, 1) := by decide +kernel
theorem dX11_curve_9 : decode cX11_curve 9 = .ok (.i2l, 1) := by decide +kernel
theorem dX11_curve_10 : decode cX11_curve 10 = .ok (.lconst 0, 1) := by decide +kernel
theorem dX11_curve_11 : decode cX11_curve 11 = .ok (.ldc2_w 122, 3) := by decide +kernel
theorem dX11_curve_14 : decode cX11_curve 14 = .ok (.invokestatic 65, 3) := by decide +kernel
theorem dX11_curve_17 : decode cX11_curve 17 = .ok (.ifCond .ne 6, 3) := by decide +kernel
theorem dX11_curve_20 : decode cX11_curve 20 = .ok (.bipush (-2), 2) := by decide +kernel
theorem dX11_curve_22 : decode cX11_curve 22 = .ok (.ireturn, 1) := by decide +kernel
theorem dX11_curve_23 : decode cX11_curve 23 = .ok (.aload_n 0, 1) := by decide +kernel
theorem dX11_curve_24 : decode cX11_curve 24 = .ok (.iload_n 1, 1) := by decide +kernel
theorem dX11_curve_25 : decode cX11_curve 25 = .ok (.iload_n 2, 1) := by decide +kernel
theorem dX11_curve_26 : decode cX11_curve 26 = .ok (.iload_n 3, 1) := by decide +kernel
theorem dX11_curve_27 : decode cX11_curve 27 = .ok (.invokevirtual 176, 3) := by decide +kernel
theorem dX11_curve_30 : decode cX11_curve 30 = .ok (.aload_n 0, 1) := by decide +kernel
theorem dX11_curve_31 : decode cX11_curve 31 = .ok (.getfield 173, 3) := by decide +kernel
theorem dX11_curve_34 : decode cX11_curve 34 = .ok (.ireturn, 1) := by decide +kernel
theorem dX11_least_0 : decode cX11_least 0 = .ok (.iconst 0, 1) := by decide +kernel
theorem dX11_least_1 : decode cX11_least 1 = .ok (.istore_n 2, 1) := by decide +kernel
theorem dX11_least_2 : decode cX11_least 2 = .ok (.iload_n 2, 1) := by decide +kernel
theorem dX11_least_3 : decode cX11_least 3 = .ok (.bipush 100, 2) := by decide +kernel
theorem dX11_least_5 : decode cX11_least 5 = .ok (.if_icmp .ge 38, 3) := by decide +kernel
theorem dX11_least_8 : decode cX11_least 8 = .ok (.iload_n 1, 1) := by decide +kernel
theorem dX11_least_9 : decode cX11_least 9 = .ok (.ifCond .eq 16, 3) := by decide +kernel
theorem dX11_least_12 : decode cX11_least 12 = .ok (.aload_n 0, 1) := by decide +kernel
theorem dX11_least_13 : decode cX11_least 13 = .ok (.bipush 62, 2) := by decide +kernel
theorem dX11_least_15 : decode cX11_least 15 = .ok (.iload_n 2, 1) := by decide +kernel
theorem dX11_least_16 : decode cX11_least 16 = .ok (.invokevirtual 164, 3) := by decide +kernel
theorem dX11_least_19 : decode cX11_least 19 = .ok (.ifCond .eq 18, 3) := by decide +kernel
theorem dX11_least_22 : decode cX11_least 22 = .ok (.goto 13, 3) := by decide +kernel
theorem dX11_least_25 : decode cX11_least 25 = .ok (.aload_n 0, 1) := by decide +kernel
theorem dX11_least_26 : decode cX11_least 26 = .ok (.bipush 63, 2) := by decide +kernel
theorem dX11_least_28 : decode cX11_least 28 = .ok (.iload_n 2, 1) := by decide +kernel
theorem dX11_least_29 : decode cX11_least 29 = .ok (.invokevirtual 164, 3) := by decide +kernel
theorem dX11_least_32 : decode cX11_least 32 = .ok (.ifCond .ne 5, 3) := by decide +kernel
theorem dX11_least_35 : decode cX11_least 35 = .ok (.iload_n 2, 1) := by decide +kernel
theorem dX11_least_36 : decode cX11_least 36 = .ok (.ireturn, 1) := by decide +kernel
theorem dX11_least_37 : decode cX11_least 37 = .ok (.iinc 2 1, 3) := by decide +kernel
theorem dX11_least_40 : decode cX11_least 40 = .ok (.goto (-38), 3) := by decide +kernel
theorem dX11_least_43 : decode cX11_least 43 = .ok (.bipush (-9), 2) := by decide +kernel
theorem dX11_least_45 : decode cX11_least 45 = .ok (.ireturn, 1) := by decide +kernel
theorem dX11_isBed_0 : decode cX11_isBed 0 = .ok (.iload_n 1, 1) := by decide +kernel
theorem dX11_isBed_1 : decode cX11_isBed 1 = .ok (.i2l, 1) := by decide +kernel
theorem dX11_isBed_2 : decode cX11_isBed 2 = .ok (.lconst 0, 1) := by decide +kernel
theorem dX11_isBed_3 : decode cX11_isBed 3 = .ok (.aload_n 0, 1) := by decide +kernel
theorem dX11_isBed_4 : decode cX11_isBed 4 = .ok (.getfield 180, 3) := by decide +kernel
theorem dX11_isBed_7 : decode cX11_isBed 7 = .ok (.iconst 1, 1) := by decide +kernel
theorem dX11_isBed_8 : decode cX11_isBed 8 = .ok (.isub, 1) := by decide +kernel
theorem dX11_isBed_9 : decode cX11_isBed 9 = .ok (.i2l, 1) := by decide +kernel
theorem dX11_isBed_10 : decode cX11_isBed 10 = .ok (.invokestatic 65, 3) := by decide +kernel
theorem dX11_isBed_13 : decode cX11_isBed 13 = .ok (.ireturn, 1) := by decide +kernel
theorem dX11_bed_0 : decode cX11_bed 0 = .ok (.iload_n 1, 1) := by decide +kernel
theorem dX11_bed_1 : decode cX11_bed 1 = .ok (.i2l, 1) := by decide +kernel
theorem dX11_bed_2 : decode cX11_bed 2 = .ok (.lconst 0, 1) := by decide +kernel
theorem dX11_bed_3 : decode cX11_bed 3 = .ok (.ldc2_w 115, 3) := by decide +kernel
theorem dX11_bed_6 : decode cX11_bed 6 = .ok (.invokestatic 65, 3) := by decide +kernel
theorem dX11_bed_9 : decode cX11_bed 9 = .ok (.ifCond .eq 16, 3) := by decide +kernel
theorem dX11_bed_12 : decode cX11_bed 12 = .ok (.iload 5, 2) := by decide +kernel
theorem dX11_bed_14 : decode cX11_bed 14 = .ok (.i2l, 1) := by decide +kernel
theorem dX11_bed_15 : decode cX11_bed 15 = .ok (.lconst 0, 1) := by decide +kernel
theorem dX11_bed_16 : decode cX11_bed 16 = .ok (.ldc2_w 145, 3) := by decide +kernel
theorem dX11_bed_19 : decode cX11_bed 19 = .ok (.invokestatic 65, 3) := by decide +kernel
theorem dX11_bed_22 : decode cX11_bed 22 = .ok (.ifCond .ne 5, 3) := by decide +kernel
theorem dX11_bed_25 : decode cX11_bed 25 = .ok (.iconst (-1), 1) := by decide +kernel
theorem dX11_bed_26 : decode cX11_bed 26 = .ok (.ireturn, 1) := by decide +kernel
theorem dX11_bed_27 : decode cX11_bed 27 = .ok (.iload_n 2, 1) := by decide +kernel
theorem dX11_bed_28 : decode cX11_bed 28 = .ok (.i2l, 1) := by decide +kernel
theorem dX11_bed_29 : decode cX11_bed 29 = .ok (.lconst 0, 1) := by decide +kernel
theorem dX11_bed_30 : decode cX11_bed 30 = .ok (.ldc2_w 183, 3) := by decide +kernel
theorem dX11_bed_33 : decode cX11_bed 33 = .ok (.invokestatic 65, 3) := by decide +kernel
theorem dX11_bed_36 : decode cX11_bed 36 = .ok (.ifCond .eq 42, 3) := by decide +kernel
theorem dX11_bed_39 : decode cX11_bed 39 = .ok (.iload_n 3, 1) := by decide +kernel
theorem dX11_bed_40 : decode cX11_bed 40 = .ok (.i2l, 1) := by decide +kernel
theorem dX11_bed_41 : decode cX11_bed 41 = .ok (.lconst 0, 1) := by decide +kernel
theorem dX11_bed_42 : decode cX11_bed 42 = .ok (.ldc2_w 122, 3) := by decide +kernel
theorem dX11_bed_45 : decode cX11_bed 45 = .ok (.invokestatic 65, 3) := by decide +kernel
theorem dX11_bed_48 : decode cX11_bed 48 = .ok (.ifCond .eq 30, 3) := by decide +kernel
theorem dX11_bed_51 : decode cX11_bed 51 = .ok (.iload 4, 2) := by decide +kernel
theorem dX11_bed_53 : decode cX11_bed 53 = .ok (.i2l, 1) := by decide +kernel
theorem dX11_bed_54 : decode cX11_bed 54 = .ok (.iload_n 3, 1) := by decide +kernel
theorem dX11_bed_55 : decode cX11_bed 55 = .ok (.i2l, 1) := by decide +kernel
theorem dX11_bed_56 : decode cX11_bed 56 = .ok (.ldc2_w 122, 3) := by decide +kernel
theorem dX11_bed_59 : decode cX11_bed 59 = .ok (.invokestatic 65, 3) := by decide +kernel
theorem dX11_bed_62 : decode cX11_bed 62 = .ok (.ifCond .eq 16, 3) := by decide +kernel
theorem dX11_bed_65 : decode cX11_bed 65 = .ok (.iload 6, 2) := by decide +kernel
theorem dX11_bed_67 : decode cX11_bed 67 = .ok (.i2l, 1) := by decide +kernel
theorem dX11_bed_68 : decode cX11_bed 68 = .ok (.lconst 0, 1) := by decide +kernel
theorem dX11_bed_69 : decode cX11_bed 69 = .ok (.ldc2_w 185, 3) := by decide +kernel
theorem dX11_bed_72 : decode cX11_bed 72 = .ok (.invokestatic 65, 3) := by decide +kernel
theorem dX11_bed_75 : decode cX11_bed 75 = .ok (.ifCond .ne 6, 3) := by decide +kernel
theorem dX11_bed_78 : decode cX11_bed 78 = .ok (.bipush (-2), 2) := by decide +kernel
theorem dX11_bed_80 : decode cX11_bed 80 = .ok (.ireturn, 1) := by decide +kernel
theorem dX11_bed_81 : decode cX11_bed 81 = .ok (.aload_n 0, 1) := by decide +kernel
theorem dX11_bed_82 : decode cX11_bed 82 = .ok (.getfield 180, 3) := by decide +kernel
theorem dX11_bed_85 : decode cX11_bed 85 = .ok (.bipush 8, 2) := by decide +kernel
theorem dX11_bed_87 : decode cX11_bed 87 = .ok (.if_icmp .ne 6, 3) := by decide +kernel
theorem dX11_bed_90 : decode cX11_bed 90 = .ok (.bipush (-4), 2) := by decide +kernel
theorem dX11_bed_92 : decode cX11_bed 92 = .ok (.ireturn, 1) := by decide +kernel
theorem dX11_bed_93 : decode cX11_bed 93 = .ok (.bipush 6, 2) := by decide +kernel
theorem dX11_bed_95 : decode cX11_bed 95 = .ok (.aload_n 0, 1) := by decide +kernel
theorem dX11_bed_96 : decode cX11_bed 96 = .ok (.getfield 180, 3) := by decide +kernel
theorem dX11_bed_99 : decode cX11_bed 99 = .ok (.imul, 1) := by decide +kernel
theorem dX11_bed_100 : decode cX11_bed 100 = .ok (.istore 7, 2) := by decide +kernel
theorem dX11_bed_102 : decode cX11_bed 102 = .ok (.aload_n 0, 1) := by decide +kernel
theorem dX11_bed_103 : decode cX11_bed 103 = .ok (.getfield 37, 3) := by decide +kernel
theorem dX11_bed_106 : decode cX11_bed 106 = .ok (.iload 7, 2) := by decide +kernel
theorem dX11_bed_108 : decode cX11_bed 108 = .ok (.iload_n 1, 1) := by decide +kernel
theorem dX11_bed_109 : decode cX11_bed 109 = .ok (.iastore, 1) := by decide +kernel
theorem dX11_bed_110 : decode cX11_bed 110 = .ok (.aload_n 0, 1) := by decide +kernel
theorem dX11_bed_111 : decode cX11_bed 111 = .ok (.getfield 37, 3) := by decide +kernel
theorem dX11_bed_114 : decode cX11_bed 114 = .ok (.iload 7, 2) := by decide +kernel
theorem dX11_bed_116 : decode cX11_bed 116 = .ok (.iconst 1, 1) := by decide +kernel
theorem dX11_bed_117 : decode cX11_bed 117 = .ok (.iadd, 1) := by decide +kernel
theorem dX11_bed_118 : decode cX11_bed 118 = .ok (.iload_n 2, 1) := by decide +kernel
theorem dX11_bed_119 : decode cX11_bed 119 = .ok (.iastore, 1) := by decide +kernel
theorem dX11_bed_120 : decode cX11_bed 120 = .ok (.aload_n 0, 1) := by decide +kernel
theorem dX11_bed_121 : decode cX11_bed 121 = .ok (.getfield 37, 3) := by decide +kernel
theorem dX11_bed_124 : decode cX11_bed 124 = .ok (.iload 7, 2) := by decide +kernel
theorem dX11_bed_126 : decode cX11_bed 126 = .ok (.iconst 2, 1) := by decide +kernel
theorem dX11_bed_127 : decode cX11_bed 127 = .ok (.iadd, 1) := by decide +kernel
theorem dX11_bed_128 : decode cX11_bed 128 = .ok (.iload_n 3, 1) := by decide +kernel
theorem dX11_bed_129 : decode cX11_bed 129 = .ok (.iastore, 1) := by decide +kernel
theorem dX11_bed_130 : decode cX11_bed 130 = .ok (.aload_n 0, 1) := by decide +kernel
theorem dX11_bed_131 : decode cX11_bed 131 = .ok (.getfield 37, 3) := by decide +kernel
theorem dX11_bed_134 : decode cX11_bed 134 = .ok (.iload 7, 2) := by decide +kernel
theorem dX11_bed_136 : decode cX11_bed 136 = .ok (.iconst 3, 1) := by decide +kernel
theorem dX11_bed_137 : decode cX11_bed 137 = .ok (.iadd, 1) := by decide +kernel
theorem dX11_bed_138 : decode cX11_bed 138 = .ok (.iload 4, 2) := by decide +kernel
theorem dX11_bed_140 : decode cX11_bed 140 = .ok (.iastore, 1) := by decide +kernel
theorem dX11_bed_141 : decode cX11_bed 141 = .ok (.aload_n 0, 1) := by decide +kernel
theorem dX11_bed_142 : decode cX11_bed 142 = .ok (.getfield 37, 3) := by decide +kernel
theorem dX11_bed_145 : decode cX11_bed 145 = .ok (.iload 7, 2) := by decide +kernel
theorem dX11_bed_147 : decode cX11_bed 147 = .ok (.iconst 4, 1) := by decide +kernel
theorem dX11_bed_148 : decode cX11_bed 148 = .ok (.iadd, 1) := by decide +kernel
theorem dX11_bed_149 : decode cX11_bed 149 = .ok (.iload 5, 2) := by decide +kernel
theorem dX11_bed_151 : decode cX11_bed 151 = .ok (.iastore, 1) := by decide +kernel
theorem dX11_bed_152 : decode cX11_bed 152 = .ok (.aload_n 0, 1) := by decide +kernel
theorem dX11_bed_153 : decode cX11_bed 153 = .ok (.getfield 37, 3) := by decide +kernel
theorem dX11_bed_156 : decode cX11_bed 156 = .ok (.iload 7, 2) := by decide +kernel
theorem dX11_bed_158 : decode cX11_bed 158 = .ok (.iconst 5, 1) := by decide +kernel
theorem dX11_bed_159 : decode cX11_bed 159 = .ok (.iadd, 1) := by decide +kernel
theorem dX11_bed_160 : decode cX11_bed 160 = .ok (.iload 6, 2) := by decide +kernel
theorem dX11_bed_162 : decode cX11_bed 162 = .ok (.iastore, 1) := by decide +kernel
theorem dX11_bed_163 : decode cX11_bed 163 = .ok (.aload_n 0, 1) := by decide +kernel
theorem dX11_bed_164 : decode cX11_bed 164 = .ok (.dup, 1) := by decide +kernel
theorem dX11_bed_165 : decode cX11_bed 165 = .ok (.getfield 180, 3) := by decide +kernel
theorem dX11_bed_168 : decode cX11_bed 168 = .ok (.iconst 1, 1) := by decide +kernel
theorem dX11_bed_169 : decode cX11_bed 169 = .ok (.iadd, 1) := by decide +kernel
theorem dX11_bed_170 : decode cX11_bed 170 = .ok (.putfield 180, 3) := by decide +kernel
theorem dX11_bed_173 : decode cX11_bed 173 = .ok (.aload_n 0, 1) := by decide +kernel
theorem dX11_bed_174 : decode cX11_bed 174 = .ok (.getfield 180, 3) := by decide +kernel
theorem dX11_bed_177 : decode cX11_bed 177 = .ok (.iconst 1, 1) := by decide +kernel
theorem dX11_bed_178 : decode cX11_bed 178 = .ok (.isub, 1) := by decide +kernel
theorem dX11_bed_179 : decode cX11_bed 179 = .ok (.ireturn, 1) := by decide +kernel
theorem dX11_forget_0 : decode cX11_forget 0 = .ok (.aload_n 0, 1) := by decide +kernel
theorem dX11_forget_1 : decode cX11_forget 1 = .ok (.getfield 180, 3) := by decide +kernel
theorem dX11_forget_4 : decode cX11_forget 4 = .ok (.ifCond .ne 6, 3) := by decide +kernel
theorem dX11_forget_7 : decode cX11_forget 7 = .ok (.bipush (-3), 2) := by decide +kernel
theorem dX11_forget_9 : decode cX11_forget 9 = .ok (.ireturn, 1) := by decide +kernel
theorem dX11_forget_10 : decode cX11_forget 10 = .ok (.aload_n 0, 1) := by decide +kernel
theorem dX11_forget_11 : decode cX11_forget 11 = .ok (.dup, 1) := by decide +kernel
theorem dX11_forget_12 : decode cX11_forget 12 = .ok (.getfield 180, 3) := by decide +kernel
theorem dX11_forget_15 : decode cX11_forget 15 = .ok (.iconst 1, 1) := by decide +kernel
theorem dX11_forget_16 : decode cX11_forget 16 = .ok (.isub, 1) := by decide +kernel
theorem dX11_forget_17 : decode cX11_forget 17 = .ok (.putfield 180, 3) := by decide +kernel
theorem dX11_forget_20 : decode cX11_forget 20 = .ok (.aload_n 0, 1) := by decide +kernel
theorem dX11_forget_21 : decode cX11_forget 21 = .ok (.getfield 180, 3) := by decide +kernel
theorem dX11_forget_24 : decode cX11_forget 24 = .ok (.ireturn, 1) := by decide +kernel
theorem dX11_slide_0 : decode cX11_slide 0 = .ok (.aload_n 0, 1) := by decide +kernel
theorem dX11_slide_1 : decode cX11_slide 1 = .ok (.getfield 37, 3) := by decide +kernel
theorem dX11_slide_4 : decode cX11_slide 4 = .ok (.bipush 6, 2) := by decide +kernel
theorem dX11_slide_6 : decode cX11_slide 6 = .ok (.iload_n 1, 1) := by decide +kernel
theorem dX11_slide_7 : decode cX11_slide 7 = .ok (.imul, 1) := by decide +kernel
theorem dX11_slide_8 : decode cX11_slide 8 = .ok (.iconst 1, 1) := by decide +kernel
theorem dX11_slide_9 : decode cX11_slide 9 = .ok (.iadd, 1) := by decide +kernel
theorem dX11_slide_10 : decode cX11_slide 10 = .ok (.iaload, 1) := by decide +kernel
theorem dX11_slide_11 : decode cX11_slide 11 = .ok (.istore_n 2, 1) := by decide +kernel
theorem dX11_slide_12 : decode cX11_slide 12 = .ok (.iconst 2, 1) := by decide +kernel
theorem dX11_slide_13 : decode cX11_slide 13 = .ok (.iload_n 2, 1) := by decide +kernel
theorem dX11_slide_14 : decode cX11_slide 14 = .ok (.bipush 8, 2) := by decide +kernel
theorem dX11_slide_16 : decode cX11_slide 16 = .ok (.iand, 1) := by decide +kernel
theorem dX11_slide_17 : decode cX11_slide 17 = .ok (.ifCond .le 7, 3) := by decide +kernel
theorem dX11_slide_20 : decode cX11_slide 20 = .ok (.iconst 4, 1) := by decide +kernel
theorem dX11_slide_21 : decode cX11_slide 21 = .ok (.goto 4, 3) := by decide +kernel
theorem dX11_slide_24 : decode cX11_slide 24 = .ok (.iconst 0, 1) := by decide +kernel
theorem dX11_slide_25 : decode cX11_slide 25 = .ok (.iadd, 1) := by decide +kernel
theorem dX11_slide_26 : decode cX11_slide 26 = .ok (.iload_n 2, 1) := by decide +kernel
theorem dX11_slide_27 : decode cX11_slide 27 = .ok (.iconst 2, 1) := by decide +kernel
theorem dX11_slide_28 : decode cX11_slide 28 = .ok (.iand, 1) := by decide +kernel
theorem dX11_slide_29 : decode cX11_slide 29 = .ok (.ifCond .le 7, 3) := by decide +kernel
theorem dX11_slide_32 : decode cX11_slide 32 = .ok (.iconst 1, 1) := by decide +kernel
theorem dX11_slide_33 : decode cX11_slide 33 = .ok (.goto 4, 3) := by decide +kernel
theorem dX11_slide_36 : decode cX11_slide 36 = .ok (.iconst 0, 1) := by decide +kernel
theorem dX11_slide_37 : decode cX11_slide 37 = .ok (.isub, 1) := by decide +kernel
theorem dX11_slide_38 : decode cX11_slide 38 = .ok (.iload_n 2, 1) := by decide +kernel
theorem dX11_slide_39 : decode cX11_slide 39 = .ok (.iconst 4, 1) := by decide +kernel
theorem dX11_slide_40 : decode cX11_slide 40 = .ok (.iand, 1) := by decide +kernel
theorem dX11_slide_41 : decode cX11_slide 41 = .ok (.ifCond .le 7, 3) := by decide +kernel
theorem dX11_slide_44 : decode cX11_slide 44 = .ok (.iconst 1, 1) := by decide +kernel
theorem dX11_slide_45 : decode cX11_slide 45 = .ok (.goto 4, 3) := by decide +kernel
theorem dX11_slide_48 : decode cX11_slide 48 = .ok (.iconst 0, 1) := by decide +kernel
theorem dX11_slide_49 : decode cX11_slide 49 = .ok (.isub, 1) := by decide +kernel
theorem dX11_slide_50 : decode cX11_slide 50 = .ok (.ireturn, 1) := by decide +kernel
theorem dX11_isIcy_0 : decode cX11_isIcy 0 = .ok (.aload_n 0, 1) := by decide +kernel
theorem dX11_isIcy_1 : decode cX11_isIcy 1 = .ok (.getfield 37, 3) := by decide +kernel
theorem dX11_isIcy_4 : decode cX11_isIcy 4 = .ok (.bipush 6, 2) := by decide +kernel
theorem dX11_isIcy_6 : decode cX11_isIcy 6 = .ok (.iload_n 1, 1) := by decide +kernel
theorem dX11_isIcy_7 : decode cX11_isIcy 7 = .ok (.imul, 1) := by decide +kernel
theorem dX11_isIcy_8 : decode cX11_isIcy 8 = .ok (.iconst 1, 1) := by decide +kernel
theorem dX11_isIcy_9 : decode cX11_isIcy 9 = .ok (.iadd, 1) := by decide +kernel
theorem dX11_isIcy_10 : decode cX11_isIcy 10 = .ok (.iaload, 1) := by decide +kernel
theorem dX11_isIcy_11 : decode cX11_isIcy 11 = .ok (.iconst 3, 1) := by decide +kernel
theorem dX11_isIcy_12 : decode cX11_isIcy 12 = .ok (.iand, 1) := by decide +kernel
theorem dX11_isIcy_13 : decode cX11_isIcy 13 = .ok (.ifCond .le 7, 3) := by decide +kernel
theorem dX11_isIcy_16 : decode cX11_isIcy 16 = .ok (.iconst 1, 1) := by decide +kernel
theorem dX11_isIcy_17 : decode cX11_isIcy 17 = .ok (.goto 4, 3) := by decide +kernel
theorem dX11_isIcy_20 : decode cX11_isIcy 20 = .ok (.iconst 0, 1) := by decide +kernel
theorem dX11_isIcy_21 : decode cX11_isIcy 21 = .ok (.ireturn, 1) := by decide +kernel
theorem dX11_about_0 : decode cX11_about 0 = .ok (.aload_n 0, 1) := by decide +kernel
theorem dX11_about_1 : decode cX11_about 1 = .ok (.iload_n 1, 1) := by decide +kernel
theorem dX11_about_2 : decode cX11_about 2 = .ok (.invokevirtual 187, 3) := by decide +kernel
theorem dX11_about_5 : decode cX11_about 5 = .ok (.ifCond .ne 5, 3) := by decide +kernel
theorem dX11_about_8 : decode cX11_about 8 = .ok (.iconst (-1), 1) := by decide +kernel
theorem dX11_about_9 : decode cX11_about 9 = .ok (.ireturn, 1) := by decide +kernel
theorem dX11_about_10 : decode cX11_about 10 = .ok (.iload_n 2, 1) := by decide +kernel
theorem dX11_about_11 : decode cX11_about 11 = .ok (.i2l, 1) := by decide +kernel
theorem dX11_about_12 : decode cX11_about 12 = .ok (.lconst 0, 1) := by decide +kernel
theorem dX11_about_13 : decode cX11_about 13 = .ok (.ldc2_w 190, 3) := by decide +kernel
theorem dX11_about_16 : decode cX11_about 16 = .ok (.invokestatic 65, 3) := by decide +kernel
theorem dX11_about_19 : decode cX11_about 19 = .ok (.ifCond .ne 6, 3) := by decide +kernel
theorem dX11_about_22 : decode cX11_about 22 = .ok (.bipush (-2), 2) := by decide +kernel
theorem dX11_about_24 : decode cX11_about 24 = .ok (.ireturn, 1) := by decide +kernel
theorem dX11_about_25 : decode cX11_about 25 = .ok (.iload_n 2, 1) := by decide +kernel
theorem dX11_about_26 : decode cX11_about 26 = .ok (.bipush 6, 2) := by decide +kernel
theorem dX11_about_28 : decode cX11_about 28 = .ok (.if_icmp .ge 17, 3) := by decide +kernel
theorem dX11_about_31 : decode cX11_about 31 = .ok (.aload_n 0, 1) := by decide +kernel
theorem dX11_about_32 : decode cX11_about 32 = .ok (.getfield 37, 3) := by decide +kernel
theorem dX11_about_35 : decode cX11_about 35 = .ok (.bipush 6, 2) := by decide +kernel
theorem dX11_about_37 : decode cX11_about 37 = .ok (.iload_n 1, 1) := by decide +kernel
theorem dX11_about_38 : decode cX11_about 38 = .ok (.imul, 1) := by decide +kernel
theorem dX11_about_39 : decode cX11_about 39 = .ok (.iload_n 2, 1) := by decide +kernel
theorem dX11_about_40 : decode cX11_about 40 = .ok (.iadd, 1) := by decide +kernel
theorem dX11_about_41 : decode cX11_about 41 = .ok (.iaload, 1) := by decide +kernel
theorem dX11_about_42 : decode cX11_about 42 = .ok (.goto 30, 3) := by decide +kernel
theorem dX11_about_45 : decode cX11_about 45 = .ok (.iload_n 2, 1) := by decide +kernel
theorem dX11_about_46 : decode cX11_about 46 = .ok (.bipush 6, 2) := by decide +kernel
theorem dX11_about_48 : decode cX11_about 48 = .ok (.if_icmp .ne 11, 3) := by decide +kernel
theorem dX11_about_51 : decode cX11_about 51 = .ok (.aload_n 0, 1) := by decide +kernel
theorem dX11_about_52 : decode cX11_about 52 = .ok (.iload_n 1, 1) := by decide +kernel
theorem dX11_about_53 : decode cX11_about 53 = .ok (.invokevirtual 192, 3) := by decide +kernel
theorem dX11_about_56 : decode cX11_about 56 = .ok (.goto 16, 3) := by decide +kernel
theorem dX11_about_59 : decode cX11_about 59 = .ok (.aload_n 0, 1) := by decide +kernel
theorem dX11_about_60 : decode cX11_about 60 = .ok (.iload_n 1, 1) := by decide +kernel
theorem dX11_about_61 : decode cX11_about 61 = .ok (.invokevirtual 195, 3) := by decide +kernel
theorem dX11_about_64 : decode cX11_about 64 = .ok (.ifCond .eq 7, 3) := by decide +kernel
theorem dX11_about_67 : decode cX11_about 67 = .ok (.iconst 1, 1) := by decide +kernel
theorem dX11_about_68 : decode cX11_about 68 = .ok (.goto 4, 3) := by decide +kernel
theorem dX11_about_71 : decode cX11_about 71 = .ok (.iconst 0, 1) := by decide +kernel
theorem dX11_about_72 : decode cX11_about 72 = .ok (.ireturn, 1) := by decide +kernel
theorem dX11_rounds_0 : decode cX11_rounds 0 = .ok (.iconst 0, 1) := by decide +kernel
theorem dX11_rounds_1 : decode cX11_rounds 1 = .ok (.istore 4, 2) := by decide +kernel
theorem dX11_rounds_3 : decode cX11_rounds 3 = .ok (.aload_n 0, 1) := by decide +kernel
theorem dX11_rounds_4 : decode cX11_rounds 4 = .ok (.getfield 37, 3) := by decide +kernel
theorem dX11_rounds_7 : decode cX11_rounds 7 = .ok (.bipush 6, 2) := by decide +kernel
theorem dX11_rounds_9 : decode cX11_rounds 9 = .ok (.iload_n 2, 1) := by decide +kernel
theorem dX11_rounds_10 : decode cX11_rounds 10 = .ok (.imul, 1) := by decide +kernel
theorem dX11_rounds_11 : decode cX11_rounds 11 = .ok (.iconst 2, 1) := by decide +kernel
theorem dX11_rounds_12 : decode cX11_rounds 12 = .ok (.iadd, 1) := by decide +kernel
theorem dX11_rounds_13 : decode cX11_rounds 13 = .ok (.iaload, 1) := by decide +kernel
theorem dX11_rounds_14 : decode cX11_rounds 14 = .ok (.istore 5, 2) := by decide +kernel
theorem dX11_rounds_16 : decode cX11_rounds 16 = .ok (.iload 5, 2) := by decide +kernel
theorem dX11_rounds_18 : decode cX11_rounds 18 = .ok (.aload_n 0, 1) := by decide +kernel
theorem dX11_rounds_19 : decode cX11_rounds 19 = .ok (.getfield 37, 3) := by decide +kernel
theorem dX11_rounds_22 : decode cX11_rounds 22 = .ok (.bipush 6, 2) := by decide +kernel
theorem dX11_rounds_24 : decode cX11_rounds 24 = .ok (.iload_n 2, 1) := by decide +kernel
theorem dX11_rounds_25 : decode cX11_rounds 25 = .ok (.imul, 1) := by decide +kernel
theorem dX11_rounds_26 : decode cX11_rounds 26 = .ok (.iconst 3, 1) := by decide +kernel
theorem dX11_rounds_27 : decode cX11_rounds 27 = .ok (.iadd, 1) := by decide +kernel
theorem dX11_rounds_28 : decode cX11_rounds 28 = .ok (.iaload, 1) := by decide +kernel
theorem dX11_rounds_29 : decode cX11_rounds 29 = .ok (.if_icmp .gt 53, 3) := by decide +kernel
theorem dX11_rounds_32 : decode cX11_rounds 32 = .ok (.aload_n 0, 1) := by decide +kernel
theorem dX11_rounds_33 : decode cX11_rounds 33 = .ok (.getfield 25, 3) := by decide +kernel
theorem dX11_rounds_36 : decode cX11_rounds 36 = .ok (.bipush 100, 2) := by decide +kernel
theorem dX11_rounds_38 : decode cX11_rounds 38 = .ok (.iload_n 1, 1) := by decide +kernel
theorem dX11_rounds_39 : decode cX11_rounds 39 = .ok (.imul, 1) := by decide +kernel
theorem dX11_rounds_40 : decode cX11_rounds 40 = .ok (.iload 5, 2) := by decide +kernel
theorem dX11_rounds_42 : decode cX11_rounds 42 = .ok (.iadd, 1) := by decide +kernel
theorem dX11_rounds_43 : decode cX11_rounds 43 = .ok (.iaload, 1) := by decide +kernel
theorem dX11_rounds_44 : decode cX11_rounds 44 = .ok (.istore 6, 2) := by decide +kernel
theorem dX11_rounds_46 : decode cX11_rounds 46 = .ok (.iload 4, 2) := by decide +kernel
theorem dX11_rounds_48 : decode cX11_rounds 48 = .ok (.iload_n 3, 1) := by decide +kernel
theorem dX11_rounds_49 : decode cX11_rounds 49 = .ok (.bipush 6, 2) := by decide +kernel
theorem dX11_rounds_51 : decode cX11_rounds 51 = .ok (.if_icmp .ne 16, 3) := by decide +kernel
theorem dX11_rounds_54 : decode cX11_rounds 54 = .ok (.iload 6, 2) := by decide +kernel
theorem dX11_rounds_56 : decode cX11_rounds 56 = .ok (.ifCond .le 7, 3) := by decide +kernel
theorem dX11_rounds_59 : decode cX11_rounds 59 = .ok (.iconst 1, 1) := by decide +kernel
theorem dX11_rounds_60 : decode cX11_rounds 60 = .ok (.goto 13, 3) := by decide +kernel
theorem dX11_rounds_63 : decode cX11_rounds 63 = .ok (.iconst 0, 1) := by decide +kernel
theorem dX11_rounds_64 : decode cX11_rounds 64 = .ok (.goto 9, 3) := by decide +kernel
theorem dX11_rounds_67 : decode cX11_rounds 67 = .ok (.iload 6, 2) := by decide +kernel
theorem dX11_rounds_69 : decode cX11_rounds 69 = .ok (.iload_n 3, 1) := by decide +kernel
theorem dX11_rounds_70 : decode cX11_rounds 70 = .ok (.ishr, 1) := by decide +kernel
theorem dX11_rounds_71 : decode cX11_rounds 71 = .ok (.iconst 1, 1) := by decide +kernel
theorem dX11_rounds_72 : decode cX11_rounds 72 = .ok (.iand, 1) := by decide +kernel
theorem dX11_rounds_73 : decode cX11_rounds 73 = .ok (.iadd, 1) := by decide +kernel
theorem dX11_rounds_74 : decode cX11_rounds 74 = .ok (.istore 4, 2) := by decide +kernel
theorem dX11_rounds_76 : decode cX11_rounds 76 = .ok (.iinc 5 1, 3) := by decide +kernel
theorem dX11_rounds_79 : decode cX11_rounds 79 = .ok (.goto (-63), 3) := by decide +kernel
theorem dX11_rounds_82 : decode cX11_rounds 82 = .ok (.iload 4, 2) := by decide +kernel
theorem dX11_rounds_84 : decode cX11_rounds 84 = .ok (.ireturn, 1) := by decide +kernel
theorem dX11_explains_0 : decode cX11_explains 0 = .ok (.iload_n 1, 1) := by decide +kernel
theorem dX11_explains_1 : decode cX11_explains 1 = .ok (.invokestatic 117, 3) := by decide +kernel
theorem dX11_explains_4 : decode cX11_explains 4 = .ok (.ifCond .eq 11, 3) := by decide +kernel
theorem dX11_explains_7 : decode cX11_explains 7 = .ok (.aload_n 0, 1) := by decide +kernel
theorem dX11_explains_8 : decode cX11_explains 8 = .ok (.iload_n 2, 1) := by decide +kernel
theorem dX11_explains_9 : decode cX11_explains 9 = .ok (.invokevirtual 187, 3) := by decide +kernel
theorem dX11_explains_12 : decode cX11_explains 12 = .ok (.ifCond .ne 5, 3) := by decide +kernel
theorem dX11_explains_15 : decode cX11_explains 15 = .ok (.iconst (-1), 1) := by decide +kernel
theorem dX11_explains_16 : decode cX11_explains 16 = .ok (.ireturn, 1) := by decide +kernel
theorem dX11_explains_17 : decode cX11_explains 17 = .ok (.aload_n 0, 1) := by decide +kernel
theorem dX11_explains_18 : decode cX11_explains 18 = .ok (.iload_n 2, 1) := by decide +kernel
theorem dX11_explains_19 : decode cX11_explains 19 = .ok (.invokevirtual 195, 3) := by decide +kernel
theorem dX11_explains_22 : decode cX11_explains 22 = .ok (.ifCond .ne 6, 3) := by decide +kernel
theorem dX11_explains_25 : decode cX11_explains 25 = .ok (.bipush (-3), 2) := by decide +kernel
theorem dX11_explains_27 : decode cX11_explains 27 = .ok (.ireturn, 1) := by decide +kernel
theorem dX11_explains_28 : decode cX11_explains 28 = .ok (.aload_n 0, 1) := by decide +kernel
theorem dX11_explains_29 : decode cX11_explains 29 = .ok (.iload_n 1, 1) := by decide +kernel
theorem dX11_explains_30 : decode cX11_explains 30 = .ok (.iload_n 2, 1) := by decide +kernel
theorem dX11_explains_31 : decode cX11_explains 31 = .ok (.aload_n 0, 1) := by decide +kernel
theorem dX11_explains_32 : decode cX11_explains 32 = .ok (.getfield 37, 3) := by decide +kernel
theorem dX11_explains_35 : decode cX11_explains 35 = .ok (.bipush 6, 2) := by decide +kernel
theorem dX11_explains_37 : decode cX11_explains 37 = .ok (.iload_n 2, 1) := by decide +kernel
theorem dX11_explains_38 : decode cX11_explains 38 = .ok (.imul, 1) := by decide +kernel
theorem dX11_explains_39 : decode cX11_explains 39 = .ok (.iconst 4, 1) := by decide +kernel
theorem dX11_explains_40 : decode cX11_explains 40 = .ok (.iadd, 1) := by decide +kernel
theorem dX11_explains_41 : decode cX11_explains 41 = .ok (.iaload, 1) := by decide +kernel
theorem dX11_explains_42 : decode cX11_explains 42 = .ok (.invokevirtual 198, 3) := by decide +kernel
theorem dX11_explains_45 : decode cX11_explains 45 = .ok (.ifCond .le 7, 3) := by decide +kernel
theorem dX11_explains_48 : decode cX11_explains 48 = .ok (.iconst 2, 1) := by decide +kernel
theorem dX11_explains_49 : decode cX11_explains 49 = .ok (.goto 19, 3) := by decide +kernel
theorem dX11_explains_52 : decode cX11_explains 52 = .ok (.aload_n 0, 1) := by decide +kernel
theorem dX11_explains_53 : decode cX11_explains 53 = .ok (.iload_n 1, 1) := by decide +kernel
theorem dX11_explains_54 : decode cX11_explains 54 = .ok (.iload_n 2, 1) := by decide +kernel
theorem dX11_explains_55 : decode cX11_explains 55 = .ok (.bipush 6, 2) := by decide +kernel
theorem dX11_explains_57 : decode cX11_explains 57 = .ok (.invokevirtual 198, 3) := by decide +kernel
theorem dX11_explains_60 : decode cX11_explains 60 = .ok (.ifCond .le 7, 3) := by decide +kernel
theorem dX11_explains_63 : decode cX11_explains 63 = .ok (.iconst 1, 1) := by decide +kernel
theorem dX11_explains_64 : decode cX11_explains 64 = .ok (.goto 4, 3) := by decide +kernel
theorem dX11_explains_67 : decode cX11_explains 67 = .ok (.iconst 0, 1) := by decide +kernel
theorem dX11_explains_68 : decode cX11_explains 68 = .ok (.ireturn, 1) := by decide +kernel
theorem dX11_chanceOf_0 : decode cX11_chanceOf 0 = .ok (.aload_n 0, 1) := by decide +kernel
theorem dX11_chanceOf_1 : decode cX11_chanceOf 1 = .ok (.getfield 37, 3) := by decide +kernel
theorem dX11_chanceOf_4 : decode cX11_chanceOf 4 = .ok (.bipush 6, 2) := by decide +kernel
theorem dX11_chanceOf_6 : decode cX11_chanceOf 6 = .ok (.iload_n 2, 1) := by decide +kernel
theorem dX11_chanceOf_7 : decode cX11_chanceOf 7 = .ok (.imul, 1) := by decide +kernel
theorem dX11_chanceOf_8 : decode cX11_chanceOf 8 = .ok (.iconst 5, 1) := by decide +kernel
theorem dX11_chanceOf_9 : decode cX11_chanceOf 9 = .ok (.iadd, 1) := by decide +kernel
theorem dX11_chanceOf_10 : decode cX11_chanceOf 10 = .ok (.iaload, 1) := by decide +kernel
theorem dX11_chanceOf_11 : decode cX11_chanceOf 11 = .ok (.istore_n 3, 1) := by decide +kernel
theorem dX11_chanceOf_12 : decode cX11_chanceOf 12 = .ok (.aload_n 0, 1) := by decide +kernel
theorem dX11_chanceOf_13 : decode cX11_chanceOf 13 = .ok (.iload_n 1, 1) := by decide +kernel
theorem dX11_chanceOf_14 : decode cX11_chanceOf 14 = .ok (.iload_n 2, 1) := by decide +kernel
theorem dX11_chanceOf_15 : decode cX11_chanceOf 15 = .ok (.aload_n 0, 1) := by decide +kernel
theorem dX11_chanceOf_16 : decode cX11_chanceOf 16 = .ok (.getfield 37, 3) := by decide +kernel
theorem dX11_chanceOf_19 : decode cX11_chanceOf 19 = .ok (.bipush 6, 2) := by decide +kernel
theorem dX11_chanceOf_21 : decode cX11_chanceOf 21 = .ok (.iload_n 2, 1) := by decide +kernel
theorem dX11_chanceOf_22 : decode cX11_chanceOf 22 = .ok (.imul, 1) := by decide +kernel
theorem dX11_chanceOf_23 : decode cX11_chanceOf 23 = .ok (.iconst 4, 1) := by decide +kernel
theorem dX11_chanceOf_24 : decode cX11_chanceOf 24 = .ok (.iadd, 1) := by decide +kernel
theorem dX11_chanceOf_25 : decode cX11_chanceOf 25 = .ok (.iaload, 1) := by decide +kernel
theorem dX11_chanceOf_26 : decode cX11_chanceOf 26 = .ok (.invokevirtual 198, 3) := by decide +kernel
theorem dX11_chanceOf_29 : decode cX11_chanceOf 29 = .ok (.istore 4, 2) := by decide +kernel
theorem dX11_chanceOf_31 : decode cX11_chanceOf 31 = .ok (.aload_n 0, 1) := by decide +kernel
theorem dX11_chanceOf_32 : decode cX11_chanceOf 32 = .ok (.iload_n 2, 1) := by decide +kernel
theorem dX11_chanceOf_33 : decode cX11_chanceOf 33 = .ok (.invokevirtual 195, 3) := by decide +kernel
theorem dX11_chanceOf_36 : decode cX11_chanceOf 36 = .ok (.ifCond .ne 62, 3) := by decide +kernel
theorem dX11_chanceOf_39 : decode cX11_chanceOf 39 = .ok (.iload 4, 2) := by decide +kernel
theorem dX11_chanceOf_41 : decode cX11_chanceOf 41 = .ok (.aload_n 0, 1) := by decide +kernel
theorem dX11_chanceOf_42 : decode cX11_chanceOf 42 = .ok (.getfield 37, 3) := by decide +kernel
theorem dX11_chanceOf_45 : decode cX11_chanceOf 45 = .ok (.bipush 6, 2) := by decide +kernel
theorem dX11_chanceOf_47 : decode cX11_chanceOf 47 = .ok (.iload_n 2, 1) := by decide +kernel
theorem dX11_chanceOf_48 : decode cX11_chanceOf 48 = .ok (.imul, 1) := by decide +kernel
theorem dX11_chanceOf_49 : decode cX11_chanceOf 49 = .ok (.iconst 3, 1) := by decide +kernel
theorem dX11_chanceOf_50 : decode cX11_chanceOf 50 = .ok (.iadd, 1) := by decide +kernel
theorem dX11_chanceOf_51 : decode cX11_chanceOf 51 = .ok (.iaload, 1) := by decide +kernel
theorem dX11_chanceOf_52 : decode cX11_chanceOf 52 = .ok (.aload_n 0, 1) := by decide +kernel
theorem dX11_chanceOf_53 : decode cX11_chanceOf 53 = .ok (.getfield 37, 3) := by decide +kernel
theorem dX11_chanceOf_56 : decode cX11_chanceOf 56 = .ok (.bipush 6, 2) := by decide +kernel
theorem dX11_chanceOf_58 : decode cX11_chanceOf 58 = .ok (.iload_n 2, 1) := by decide +kernel
theorem dX11_chanceOf_59 : decode cX11_chanceOf 59 = .ok (.imul, 1) := by decide +kernel
theorem dX11_chanceOf_60 : decode cX11_chanceOf 60 = .ok (.iconst 2, 1) := by decide +kernel
theorem dX11_chanceOf_61 : decode cX11_chanceOf 61 = .ok (.iadd, 1) := by decide +kernel
theorem dX11_chanceOf_62 : decode cX11_chanceOf 62 = .ok (.iaload, 1) := by decide +kernel
theorem dX11_chanceOf_63 : decode cX11_chanceOf 63 = .ok (.isub, 1) := by decide +kernel
theorem dX11_chanceOf_64 : decode cX11_chanceOf 64 = .ok (.iconst 1, 1) := by decide +kernel
theorem dX11_chanceOf_65 : decode cX11_chanceOf 65 = .ok (.iadd, 1) := by decide +kernel
theorem dX11_chanceOf_66 : decode cX11_chanceOf 66 = .ok (.if_icmp .ne 7, 3) := by decide +kernel
theorem dX11_chanceOf_69 : decode cX11_chanceOf 69 = .ok (.iconst 1, 1) := by decide +kernel
theorem dX11_chanceOf_70 : decode cX11_chanceOf 70 = .ok (.goto 4, 3) := by decide +kernel
theorem dX11_chanceOf_73 : decode cX11_chanceOf 73 = .ok (.iconst 0, 1) := by decide +kernel
theorem dX11_chanceOf_74 : decode cX11_chanceOf 74 = .ok (.istore 5, 2) := by decide +kernel
theorem dX11_chanceOf_76 : decode cX11_chanceOf 76 = .ok (.iload_n 3, 1) := by decide +kernel
theorem dX11_chanceOf_77 : decode cX11_chanceOf 77 = .ok (.iload 5, 2) := by decide +kernel
theorem dX11_chanceOf_79 : decode cX11_chanceOf 79 = .ok (.ifCond .eq 7, 3) := by decide +kernel
theorem dX11_chanceOf_82 : decode cX11_chanceOf 82 = .ok (.iconst 5, 1) := by decide +kernel
theorem dX11_chanceOf_83 : decode cX11_chanceOf 83 = .ok (.goto 5, 3) := by decide +kernel
theorem dX11_chanceOf_86 : decode cX11_chanceOf 86 = .ok (.bipush 10, 2) := by decide +kernel
theorem dX11_chanceOf_88 : decode cX11_chanceOf 88 = .ok (.imul, 1) := by decide +kernel
theorem dX11_chanceOf_89 : decode cX11_chanceOf 89 = .ok (.bipush 10, 2) := by decide +kernel
theorem dX11_chanceOf_91 : decode cX11_chanceOf 91 = .ok (.iload_n 3, 1) := by decide +kernel
theorem dX11_chanceOf_92 : decode cX11_chanceOf 92 = .ok (.isub, 1) := by decide +kernel
theorem dX11_chanceOf_93 : decode cX11_chanceOf 93 = .ok (.bipush 10, 2) := by decide +kernel
theorem dX11_chanceOf_95 : decode cX11_chanceOf 95 = .ok (.imul, 1) := by decide +kernel
theorem dX11_chanceOf_96 : decode cX11_chanceOf 96 = .ok (.iadd, 1) := by decide +kernel
theorem dX11_chanceOf_97 : decode cX11_chanceOf 97 = .ok (.ireturn, 1) := by decide +kernel
theorem dX11_chanceOf_98 : decode cX11_chanceOf 98 = .ok (.iload_n 3, 1) := by decide +kernel
theorem dX11_chanceOf_99 : decode cX11_chanceOf 99 = .ok (.iload 4, 2) := by decide +kernel
theorem dX11_chanceOf_101 : decode cX11_chanceOf 101 = .ok (.ifCond .le 8, 3) := by decide +kernel
theorem dX11_chanceOf_104 : decode cX11_chanceOf 104 = .ok (.bipush 10, 2) := by decide +kernel
theorem dX11_chanceOf_106 : decode cX11_chanceOf 106 = .ok (.goto 8, 3) := by decide +kernel
theorem dX11_chanceOf_109 : decode cX11_chanceOf 109 = .ok (.aload_n 0, 1) := by decide +kernel
theorem dX11_chanceOf_110 : decode cX11_chanceOf 110 = .ok (.iload_n 2, 1) := by decide +kernel
theorem dX11_chanceOf_111 : decode cX11_chanceOf 111 = .ok (.invokevirtual 192, 3) := by decide +kernel
theorem dX11_chanceOf_114 : decode cX11_chanceOf 114 = .ok (.imul, 1) := by decide +kernel
theorem dX11_chanceOf_115 : decode cX11_chanceOf 115 = .ok (.bipush 10, 2) := by decide +kernel
theorem dX11_chanceOf_117 : decode cX11_chanceOf 117 = .ok (.iload_n 3, 1) := by decide +kernel
theorem dX11_chanceOf_118 : decode cX11_chanceOf 118 = .ok (.isub, 1) := by decide +kernel
theorem dX11_chanceOf_119 : decode cX11_chanceOf 119 = .ok (.aload_n 0, 1) := by decide +kernel
theorem dX11_chanceOf_120 : decode cX11_chanceOf 120 = .ok (.iload_n 1, 1) := by decide +kernel
theorem dX11_chanceOf_121 : decode cX11_chanceOf 121 = .ok (.iload_n 2, 1) := by decide +kernel
theorem dX11_chanceOf_122 : decode cX11_chanceOf 122 = .ok (.bipush 6, 2) := by decide +kernel
theorem dX11_chanceOf_124 : decode cX11_chanceOf 124 = .ok (.invokevirtual 198, 3) := by decide +kernel
theorem dX11_chanceOf_127 : decode cX11_chanceOf 127 = .ok (.ifCond .le 8, 3) := by decide +kernel
theorem dX11_chanceOf_130 : decode cX11_chanceOf 130 = .ok (.bipush 10, 2) := by decide +kernel
theorem dX11_chanceOf_132 : decode cX11_chanceOf 132 = .ok (.goto 8, 3) := by decide +kernel
theorem dX11_chanceOf_135 : decode cX11_chanceOf 135 = .ok (.aload_n 0, 1) := by decide +kernel
theorem dX11_chanceOf_136 : decode cX11_chanceOf 136 = .ok (.iload_n 2, 1) := by decide +kernel
theorem dX11_chanceOf_137 : decode cX11_chanceOf 137 = .ok (.invokevirtual 192, 3) := by decide +kernel
theorem dX11_chanceOf_140 : decode cX11_chanceOf 140 = .ok (.imul, 1) := by decide +kernel
theorem dX11_chanceOf_141 : decode cX11_chanceOf 141 = .ok (.iadd, 1) := by decide +kernel
theorem dX11_chanceOf_142 : decode cX11_chanceOf 142 = .ok (.ireturn, 1) := by decide +kernel
theorem dX11_told_0 : decode cX11_told 0 = .ok (.lload_n 0, 1) := by decide +kernel
theorem dX11_told_1 : decode cX11_told 1 = .ok (.lstore 5, 2) := by decide +kernel
theorem dX11_told_3 : decode cX11_told 3 = .ok (.lload_n 2, 1) := by decide +kernel
theorem dX11_told_4 : decode cX11_told 4 = .ok (.lstore 7, 2) := by decide +kernel
theorem dX11_told_6 : decode cX11_told 6 = .ok (.lload 7, 2) := by decide +kernel
theorem dX11_told_8 : decode cX11_told 8 = .ok (.lconst 0, 1) := by decide +kernel
theorem dX11_told_9 : decode cX11_told 9 = .ok (.lcmp, 1) := by decide +kernel
theorem dX11_told_10 : decode cX11_told 10 = .ok (.ifCond .eq 21, 3) := by decide +kernel
theorem dX11_told_13 : decode cX11_told 13 = .ok (.lload 5, 2) := by decide +kernel
theorem dX11_told_15 : decode cX11_told 15 = .ok (.lload 7, 2) := by decide +kernel
theorem dX11_told_17 : decode cX11_told 17 = .ok (.lrem, 1) := by decide +kernel
theorem dX11_told_18 : decode cX11_told 18 = .ok (.lstore 9, 2) := by decide +kernel
theorem dX11_told_20 : decode cX11_told 20 = .ok (.lload 7, 2) := by decide +kernel
theorem dX11_told_22 : decode cX11_told 22 = .ok (.lstore 5, 2) := by decide +kernel
theorem dX11_told_24 : decode cX11_told 24 = .ok (.lload 9, 2) := by decide +kernel
theorem dX11_told_26 : decode cX11_told 26 = .ok (.lstore 7, 2) := by decide +kernel
theorem dX11_told_28 : decode cX11_told 28 = .ok (.goto (-22), 3) := by decide +kernel
theorem dX11_told_31 : decode cX11_told 31 = .ok (.iload 4, 2) := by decide +kernel
theorem dX11_told_33 : decode cX11_told 33 = .ok (.ifCond .eq 10, 3) := by decide +kernel
theorem dX11_told_36 : decode cX11_told 36 = .ok (.lload_n 0, 1) := by decide +kernel
theorem dX11_told_37 : decode cX11_told 37 = .ok (.lload 5, 2) := by decide +kernel
theorem dX11_told_39 : decode cX11_told 39 = .ok (.ldiv, 1) := by decide +kernel
theorem dX11_told_40 : decode cX11_told 40 = .ok (.goto 7, 3) := by decide +kernel
theorem dX11_told_43 : decode cX11_told 43 = .ok (.lload_n 2, 1) := by decide +kernel
theorem dX11_told_44 : decode cX11_told 44 = .ok (.lload 5, 2) := by decide +kernel
theorem dX11_told_46 : decode cX11_told 46 = .ok (.ldiv, 1) := by decide +kernel
theorem dX11_told_47 : decode cX11_told 47 = .ok (.lreturn, 1) := by decide +kernel
theorem dX11_chance_0 : decode cX11_chance 0 = .ok (.iload_n 1, 1) := by decide +kernel
theorem dX11_chance_1 : decode cX11_chance 1 = .ok (.invokestatic 117, 3) := by decide +kernel
theorem dX11_chance_4 : decode cX11_chance 4 = .ok (.ifCond .eq 28, 3) := by decide +kernel
theorem dX11_chance_7 : decode cX11_chance 7 = .ok (.aload_n 0, 1) := by decide +kernel
theorem dX11_chance_8 : decode cX11_chance 8 = .ok (.iload_n 2, 1) := by decide +kernel
theorem dX11_chance_9 : decode cX11_chance 9 = .ok (.invokevirtual 187, 3) := by decide +kernel
theorem dX11_chance_12 : decode cX11_chance 12 = .ok (.ifCond .eq 20, 3) := by decide +kernel
theorem dX11_chance_15 : decode cX11_chance 15 = .ok (.aload_n 0, 1) := by decide +kernel
theorem dX11_chance_16 : decode cX11_chance 16 = .ok (.iload_n 1, 1) := by decide +kernel
theorem dX11_chance_17 : decode cX11_chance 17 = .ok (.iload_n 2, 1) := by decide +kernel
theorem dX11_chance_18 : decode cX11_chance 18 = .ok (.invokevirtual 201, 3) := by decide +kernel
theorem dX11_chance_21 : decode cX11_chance 21 = .ok (.i2l, 1) := by decide +kernel
theorem dX11_chance_22 : decode cX11_chance 22 = .ok (.ldc2_w 204, 3) := by decide +kernel
theorem dX11_chance_25 : decode cX11_chance 25 = .ok (.iload_n 3, 1) := by decide +kernel
theorem dX11_chance_26 : decode cX11_chance 26 = .ok (.invokestatic 206, 3) := by decide +kernel
theorem dX11_chance_29 : decode cX11_chance 29 = .ok (.goto 6, 3) := by decide +kernel
theorem dX11_chance_32 : decode cX11_chance 32 = .ok (.ldc2_w 210, 3) := by decide +kernel
theorem dX11_chance_35 : decode cX11_chance 35 = .ok (.lreturn, 1) := by decide +kernel
theorem dX11_weight_0 : decode cX11_weight 0 = .ok (.iload_n 1, 1) := by decide +kernel
theorem dX11_weight_1 : decode cX11_weight 1 = .ok (.invokestatic 117, 3) := by decide +kernel
theorem dX11_weight_4 : decode cX11_weight 4 = .ok (.ifCond .ne 5, 3) := by decide +kernel
theorem dX11_weight_7 : decode cX11_weight 7 = .ok (.iconst (-1), 1) := by decide +kernel
theorem dX11_weight_8 : decode cX11_weight 8 = .ok (.ireturn, 1) := by decide +kernel
theorem dX11_weight_9 : decode cX11_weight 9 = .ok (.iload_n 2, 1) := by decide +kernel
theorem dX11_weight_10 : decode cX11_weight 10 = .ok (.i2l, 1) := by decide +kernel
theorem dX11_weight_11 : decode cX11_weight 11 = .ok (.lconst 0, 1) := by decide +kernel
theorem dX11_weight_12 : decode cX11_weight 12 = .ok (.ldc2_w 81, 3) := by decide +kernel
theorem dX11_weight_15 : decode cX11_weight 15 = .ok (.invokestatic 65, 3) := by decide +kernel
theorem dX11_weight_18 : decode cX11_weight 18 = .ok (.ifCond .ne 6, 3) := by decide +kernel
theorem dX11_weight_21 : decode cX11_weight 21 = .ok (.bipush (-2), 2) := by decide +kernel
theorem dX11_weight_23 : decode cX11_weight 23 = .ok (.ireturn, 1) := by decide +kernel
theorem dX11_weight_24 : decode cX11_weight 24 = .ok (.aload_n 0, 1) := by decide +kernel
theorem dX11_weight_25 : decode cX11_weight 25 = .ok (.getfield 28, 3) := by decide +kernel
theorem dX11_weight_28 : decode cX11_weight 28 = .ok (.iload_n 1, 1) := by decide +kernel
theorem dX11_weight_29 : decode cX11_weight 29 = .ok (.iaload, 1) := by decide +kernel
theorem dX11_weight_30 : decode cX11_weight 30 = .ok (.istore_n 3, 1) := by decide +kernel
theorem dX11_weight_31 : decode cX11_weight 31 = .ok (.aload_n 0, 1) := by decide +kernel
theorem dX11_weight_32 : decode cX11_weight 32 = .ok (.getfield 28, 3) := by decide +kernel
theorem dX11_weight_35 : decode cX11_weight 35 = .ok (.iload_n 1, 1) := by decide +kernel
theorem dX11_weight_36 : decode cX11_weight 36 = .ok (.iload_n 2, 1) := by decide +kernel
theorem dX11_weight_37 : decode cX11_weight 37 = .ok (.iastore, 1) := by decide +kernel
theorem dX11_weight_38 : decode cX11_weight 38 = .ok (.iload_n 3, 1) := by decide +kernel
theorem dX11_weight_39 : decode cX11_weight 39 = .ok (.ireturn, 1) := by decide +kernel
theorem dX11_layLots_0 : decode cX11_layLots 0 = .ok (.aload_n 0, 1) := by decide +kernel
theorem dX11_layLots_1 : decode cX11_layLots 1 = .ok (.lconst 0, 1) := by decide +kernel
theorem dX11_layLots_2 : decode cX11_layLots 2 = .ok (.putfield 212, 3) := by decide +kernel
theorem dX11_layLots_5 : decode cX11_layLots 5 = .ok (.iconst 0, 1) := by decide +kernel
theorem dX11_layLots_6 : decode cX11_layLots 6 = .ok (.istore_n 2, 1) := by decide +kernel
theorem dX11_layLots_7 : decode cX11_layLots 7 = .ok (.iload_n 2, 1) := by decide +kernel
theorem dX11_layLots_8 : decode cX11_layLots 8 = .ok (.iconst 4, 1) := by decide +kernel
theorem dX11_layLots_9 : decode cX11_layLots 9 = .ok (.if_icmp .ge 78, 3) := by decide +kernel
theorem dX11_layLots_12 : decode cX11_layLots 12 = .ok (.aload_n 0, 1) := by decide +kernel
theorem dX11_layLots_13 : decode cX11_layLots 13 = .ok (.getfield 40, 3) := by decide +kernel
theorem dX11_layLots_16 : decode cX11_layLots 16 = .ok (.iload_n 2, 1) := by decide +kernel
theorem dX11_layLots_17 : decode cX11_layLots 17 = .ok (.aload_n 0, 1) := by decide +kernel
theorem dX11_layLots_18 : decode cX11_layLots 18 = .ok (.getfield 28, 3) := by decide +kernel
theorem dX11_layLots_21 : decode cX11_layLots 21 = .ok (.iload_n 2, 1) := by decide +kernel
theorem dX11_layLots_22 : decode cX11_layLots 22 = .ok (.iaload, 1) := by decide +kernel
theorem dX11_layLots_23 : decode cX11_layLots 23 = .ok (.i2l, 1) := by decide +kernel
theorem dX11_layLots_24 : decode cX11_layLots 24 = .ok (.lastore, 1) := by decide +kernel
theorem dX11_layLots_25 : decode cX11_layLots 25 = .ok (.iconst 0, 1) := by decide +kernel
theorem dX11_layLots_26 : decode cX11_layLots 26 = .ok (.istore_n 3, 1) := by decide +kernel
theorem dX11_layLots_27 : decode cX11_layLots 27 = .ok (.iload_n 3, 1) := by decide +kernel
theorem dX11_layLots_28 : decode cX11_layLots 28 = .ok (.aload_n 0, 1) := by decide +kernel
theorem dX11_layLots_29 : decode cX11_layLots 29 = .ok (.getfield 180, 3) := by decide +kernel
theorem dX11_layLots_32 : decode cX11_layLots 32 = .ok (.if_icmp .ge 34, 3) := by decide +kernel
theorem dX11_layLots_35 : decode cX11_layLots 35 = .ok (.aload_n 0, 1) := by decide +kernel
theorem dX11_layLots_36 : decode cX11_layLots 36 = .ok (.getfield 40, 3) := by decide +kernel
theorem dX11_layLots_39 : decode cX11_layLots 39 = .ok (.iload_n 2, 1) := by decide +kernel
theorem dX11_layLots_40 : decode cX11_layLots 40 = .ok (.dup2, 1) := by decide +kernel
theorem dX11_layLots_41 : decode cX11_layLots 41 = .ok (.laload, 1) := by decide +kernel
theorem dX11_layLots_42 : decode cX11_layLots 42 = .ok (.iload_n 3, 1) := by decide +kernel
theorem dX11_layLots_43 : decode cX11_layLots 43 = .ok (.iload_n 1, 1) := by decide +kernel
theorem dX11_layLots_44 : decode cX11_layLots 44 = .ok (.if_icmp .ne 7, 3) := by decide +kernel
theorem dX11_layLots_47 : decode cX11_layLots 47 = .ok (.lconst 1, 1) := by decide +kernel
theorem dX11_layLots_48 : decode cX11_layLots 48 = .ok (.goto 10, 3) := by decide +kernel
theorem dX11_layLots_51 : decode cX11_layLots 51 = .ok (.aload_n 0, 1) := by decide +kernel
theorem dX11_layLots_52 : decode cX11_layLots 52 = .ok (.iload_n 2, 1) := by decide +kernel
theorem dX11_layLots_53 : decode cX11_layLots 53 = .ok (.iload_n 3, 1) := by decide +kernel
theorem dX11_layLots_54 : decode cX11_layLots 54 = .ok (.invokevirtual 201, 3) := by decide +kernel
theorem dX11_layLots_57 : decode cX11_layLots 57 = .ok (.i2l, 1) := by decide +kernel
theorem dX11_layLots_58 : decode cX11_layLots 58 = .ok (.lmul, 1) := by decide +kernel
theorem dX11_layLots_59 : decode cX11_layLots 59 = .ok (.lastore, 1) := by decide +kernel
theorem dX11_layLots_60 : decode cX11_layLots 60 = .ok (.iinc 3 1, 3) := by decide +kernel
theorem dX11_layLots_63 : decode cX11_layLots 63 = .ok (.goto (-36), 3) := by decide +kernel
theorem dX11_layLots_66 : decode cX11_layLots 66 = .ok (.aload_n 0, 1) := by decide +kernel
theorem dX11_layLots_67 : decode cX11_layLots 67 = .ok (.dup, 1) := by decide +kernel
theorem dX11_layLots_68 : decode cX11_layLots 68 = .ok (.getfield 212, 3) := by decide +kernel
theorem dX11_layLots_71 : decode cX11_layLots 71 = .ok (.aload_n 0, 1) := by decide +kernel
theorem dX11_layLots_72 : decode cX11_layLots 72 = .ok (.getfield 40, 3) := by decide +kernel
theorem dX11_layLots_75 : decode cX11_layLots 75 = .ok (.iload_n 2, 1) := by decide +kernel
theorem dX11_layLots_76 : decode cX11_layLots 76 = .ok (.laload, 1) := by decide +kernel
theorem dX11_layLots_77 : decode cX11_layLots 77 = .ok (.ladd, 1) := by decide +kernel
theorem dX11_layLots_78 : decode cX11_layLots 78 = .ok (.putfield 212, 3) := by decide +kernel
theorem dX11_layLots_81 : decode cX11_layLots 81 = .ok (.iinc 2 1, 3) := by decide +kernel
theorem dX11_layLots_84 : decode cX11_layLots 84 = .ok (.goto (-77), 3) := by decide +kernel
theorem dX11_layLots_87 : decode cX11_layLots 87 = .ok (.return_, 1) := by decide +kernel
theorem dX11_odds_0 : decode cX11_odds 0 = .ok (.iload_n 1, 1) := by decide +kernel
theorem dX11_odds_1 : decode cX11_odds 1 = .ok (.invokestatic 117, 3) := by decide +kernel
theorem dX11_odds_4 : decode cX11_odds 4 = .ok (.ifCond .ne 7, 3) := by decide +kernel
theorem dX11_odds_7 : decode cX11_odds 7 = .ok (.ldc2_w 210, 3) := by decide +kernel
theorem dX11_odds_10 : decode cX11_odds 10 = .ok (.lreturn, 1) := by decide +kernel
theorem dX11_odds_11 : decode cX11_odds 11 = .ok (.aload_n 0, 1) := by decide +kernel
theorem dX11_odds_12 : decode cX11_odds 12 = .ok (.iconst (-1), 1) := by decide +kernel
theorem dX11_odds_13 : decode cX11_odds 13 = .ok (.invokevirtual 216, 3) := by decide +kernel
theorem dX11_odds_16 : decode cX11_odds 16 = .ok (.aload_n 0, 1) := by decide +kernel
theorem dX11_odds_17 : decode cX11_odds 17 = .ok (.getfield 212, 3) := by decide +kernel
theorem dX11_odds_20 : decode cX11_odds 20 = .ok (.lconst 0, 1) := by decide +kernel
theorem dX11_odds_21 : decode cX11_odds 21 = .ok (.lcmp, 1) := by decide +kernel
theorem dX11_odds_22 : decode cX11_odds 22 = .ok (.ifCond .ne 9, 3) := by decide +kernel
theorem dX11_odds_25 : decode cX11_odds 25 = .ok (.ldc2_w 220, 3) := by decide +kernel
theorem dX11_odds_28 : decode cX11_odds 28 = .ok (.goto 17, 3) := by decide +kernel
theorem dX11_odds_31 : decode cX11_odds 31 = .ok (.aload_n 0, 1) := by decide +kernel
theorem dX11_odds_32 : decode cX11_odds 32 = .ok (.getfield 40, 3) := by decide +kernel
theorem dX11_odds_35 : decode cX11_odds 35 = .ok (.iload_n 1, 1) := by decide +kernel
theorem dX11_odds_36 : decode cX11_odds 36 = .ok (.laload, 1) := by decide +kernel
theorem dX11_odds_37 : decode cX11_odds 37 = .ok (.aload_n 0, 1) := by decide +kernel
theorem dX11_odds_38 : decode cX11_odds 38 = .ok (.getfield 212, 3) := by decide +kernel
theorem dX11_odds_41 : decode cX11_odds 41 = .ok (.iload_n 2, 1) := by decide +kernel
theorem dX11_odds_42 : decode cX11_odds 42 = .ok (.invokestatic 206, 3) := by decide +kernel
theorem dX11_odds_45 : decode cX11_odds 45 = .ok (.lreturn, 1) := by decide +kernel
theorem dX11_bestOf_0 : decode cX11_bestOf 0 = .ok (.iconst 0, 1) := by decide +kernel
theorem dX11_bestOf_1 : decode cX11_bestOf 1 = .ok (.istore_n 1, 1) := by decide +kernel
theorem dX11_bestOf_2 : decode cX11_bestOf 2 = .ok (.iconst 1, 1) := by decide +kernel
theorem dX11_bestOf_3 : decode cX11_bestOf 3 = .ok (.istore_n 2, 1) := by decide +kernel
theorem dX11_bestOf_4 : decode cX11_bestOf 4 = .ok (.iload_n 2, 1) := by decide +kernel
theorem dX11_bestOf_5 : decode cX11_bestOf 5 = .ok (.iconst 4, 1) := by decide +kernel
theorem dX11_bestOf_6 : decode cX11_bestOf 6 = .ok (.if_icmp .ge 31, 3) := by decide +kernel
theorem dX11_bestOf_9 : decode cX11_bestOf 9 = .ok (.aload_n 0, 1) := by decide +kernel
theorem dX11_bestOf_10 : decode cX11_bestOf 10 = .ok (.getfield 40, 3) := by decide +kernel
theorem dX11_bestOf_13 : decode cX11_bestOf 13 = .ok (.iload_n 2, 1) := by decide +kernel
theorem dX11_bestOf_14 : decode cX11_bestOf 14 = .ok (.laload, 1) := by decide +kernel
theorem dX11_bestOf_15 : decode cX11_bestOf 15 = .ok (.aload_n 0, 1) := by decide +kernel
theorem dX11_bestOf_16 : decode cX11_bestOf 16 = .ok (.getfield 40, 3) := by decide +kernel
theorem dX11_bestOf_19 : decode cX11_bestOf 19 = .ok (.iload_n 1, 1) := by decide +kernel
theorem dX11_bestOf_20 : decode cX11_bestOf 20 = .ok (.laload, 1) := by decide +kernel
theorem dX11_bestOf_21 : decode cX11_bestOf 21 = .ok (.lcmp, 1) := by decide +kernel
theorem dX11_bestOf_22 : decode cX11_bestOf 22 = .ok (.ifCond .le 7, 3) := by decide +kernel
theorem dX11_bestOf_25 : decode cX11_bestOf 25 = .ok (.iload_n 2, 1) := by decide +kernel
theorem dX11_bestOf_26 : decode cX11_bestOf 26 = .ok (.goto 4, 3) := by decide +kernel
theorem dX11_bestOf_29 : decode cX11_bestOf 29 = .ok (.iload_n 1, 1) := by decide +kernel
theorem dX11_bestOf_30 : decode cX11_bestOf 30 = .ok (.istore_n 1, 1) := by decide +kernel
theorem dX11_bestOf_31 : decode cX11_bestOf 31 = .ok (.iinc 2 1, 3) := by decide +kernel
theorem dX11_bestOf_34 : decode cX11_bestOf 34 = .ok (.goto (-30), 3) := by decide +kernel
theorem dX11_bestOf_37 : decode cX11_bestOf 37 = .ok (.iload_n 1, 1) := by decide +kernel
theorem dX11_bestOf_38 : decode cX11_bestOf 38 = .ok (.ireturn, 1) := by decide +kernel
theorem dX11_best_0 : decode cX11_best 0 = .ok (.aload_n 0, 1) := by decide +kernel
theorem dX11_best_1 : decode cX11_best 1 = .ok (.iconst (-1), 1) := by decide +kernel
theorem dX11_best_2 : decode cX11_best 2 = .ok (.invokevirtual 216, 3) := by decide +kernel
theorem dX11_best_5 : decode cX11_best 5 = .ok (.aload_n 0, 1) := by decide +kernel
theorem dX11_best_6 : decode cX11_best 6 = .ok (.getfield 212, 3) := by decide +kernel
theorem dX11_best_9 : decode cX11_best 9 = .ok (.lconst 0, 1) := by decide +kernel
theorem dX11_best_10 : decode cX11_best 10 = .ok (.lcmp, 1) := by decide +kernel
theorem dX11_best_11 : decode cX11_best 11 = .ok (.ifCond .ne 8, 3) := by decide +kernel
theorem dX11_best_14 : decode cX11_best 14 = .ok (.bipush (-3), 2) := by decide +kernel
theorem dX11_best_16 : decode cX11_best 16 = .ok (.goto 7, 3) := by decide +kernel
theorem dX11_best_19 : decode cX11_best 19 = .ok (.aload_n 0, 1) := by decide +kernel
theorem dX11_best_20 : decode cX11_best 20 = .ok (.invokevirtual 222, 3) := by decide +kernel
theorem dX11_best_23 : decode cX11_best 23 = .ok (.ireturn, 1) := by decide +kernel
theorem dX11_millionths_0 : decode cX11_millionths 0 = .ok (.aload_n 0, 1) := by decide +kernel
theorem dX11_millionths_1 : decode cX11_millionths 1 = .ok (.getfield 212, 3) := by decide +kernel
theorem dX11_millionths_4 : decode cX11_millionths 4 = .ok (.lconst 0, 1) := by decide +kernel
theorem dX11_millionths_5 : decode cX11_millionths 5 = .ok (.lcmp, 1) := by decide +kernel
theorem dX11_millionths_6 : decode cX11_millionths 6 = .ok (.ifCond .ne 5, 3) := by decide +kernel
theorem dX11_millionths_9 : decode cX11_millionths 9 = .ok (.iconst 0, 1) := by decide +kernel
theorem dX11_millionths_10 : decode cX11_millionths 10 = .ok (.ireturn, 1) := by decide +kernel
theorem dX11_millionths_11 : decode cX11_millionths 11 = .ok (.aload_n 0, 1) := by decide +kernel
theorem dX11_millionths_12 : decode cX11_millionths 12 = .ok (.getfield 40, 3) := by decide +kernel
theorem dX11_millionths_15 : decode cX11_millionths 15 = .ok (.iload_n 1, 1) := by decide +kernel
theorem dX11_millionths_16 : decode cX11_millionths 16 = .ok (.laload, 1) := by decide +kernel
theorem dX11_millionths_17 : decode cX11_millionths 17 = .ok (.aload_n 0, 1) := by decide +kernel
theorem dX11_millionths_18 : decode cX11_millionths 18 = .ok (.getfield 212, 3) := by decide +kernel
theorem dX11_millionths_21 : decode cX11_millionths 21 = .ok (.lrem, 1) := by decide +kernel
theorem dX11_millionths_22 : decode cX11_millionths 22 = .ok (.lstore_n 2, 1) := by decide +kernel
theorem dX11_millionths_23 : decode cX11_millionths 23 = .ok (.aload_n 0, 1) := by decide +kernel
theorem dX11_millionths_24 : decode cX11_millionths 24 = .ok (.getfield 40, 3) := by decide +kernel
theorem dX11_millionths_27 : decode cX11_millionths 27 = .ok (.iload_n 1, 1) := by decide +kernel
theorem dX11_millionths_28 : decode cX11_millionths 28 = .ok (.laload, 1) := by decide +kernel
theorem dX11_millionths_29 : decode cX11_millionths 29 = .ok (.aload_n 0, 1) := by decide +kernel
theorem dX11_millionths_30 : decode cX11_millionths 30 = .ok (.getfield 212, 3) := by decide +kernel
theorem dX11_millionths_33 : decode cX11_millionths 33 = .ok (.ldiv, 1) := by decide +kernel
theorem dX11_millionths_34 : decode cX11_millionths 34 = .ok (.l2i, 1) := by decide +kernel
theorem dX11_millionths_35 : decode cX11_millionths 35 = .ok (.istore 4, 2) := by decide +kernel
theorem dX11_millionths_37 : decode cX11_millionths 37 = .ok (.iconst 0, 1) := by decide +kernel
theorem dX11_millionths_38 : decode cX11_millionths 38 = .ok (.istore 5, 2) := by decide +kernel
theorem dX11_millionths_40 : decode cX11_millionths 40 = .ok (.iload 5, 2) := by decide +kernel
theorem dX11_millionths_42 : decode cX11_millionths 42 = .ok (.bipush 6, 2) := by decide +kernel
theorem dX11_millionths_44 : decode cX11_millionths 44 = .ok (.if_icmp .ge 37, 3) := by decide +kernel
theorem dX11_millionths_47 : decode cX11_millionths 47 = .ok (.lload_n 2, 1) := by decide +kernel
theorem dX11_millionths_48 : decode cX11_millionths 48 = .ok (.ldc2_w 185, 3) := by decide +kernel
theorem dX11_millionths_51 : decode cX11_millionths 51 = .ok (.lmul, 1) := by decide +kernel
theorem dX11_millionths_52 : decode cX11_millionths 52 = .ok (.lstore_n 2, 1) := by decide +kernel
theorem dX11_millionths_53 : decode cX11_millionths 53 = .ok (.bipush 10, 2) := by decide +kernel
theorem dX11_millionths_55 : decode cX11_millionths 55 = .ok (.iload 4, 2) := by decide +kernel
theorem dX11_millionths_57 : decode cX11_millionths 57 = .ok (.imul, 1) := by decide +kernel
theorem dX11_millionths_58 : decode cX11_millionths 58 = .ok (.lload_n 2, 1) := by decide +kernel
theorem dX11_millionths_59 : decode cX11_millionths 59 = .ok (.aload_n 0, 1) := by decide +kernel
theorem dX11_millionths_60 : decode cX11_millionths 60 = .ok (.getfield 212, 3) := by decide +kernel
theorem dX11_millionths_63 : decode cX11_millionths 63 = .ok (.ldiv, 1) := by decide +kernel
theorem dX11_millionths_64 : decode cX11_millionths 64 = .ok (.l2i, 1) := by decide +kernel
theorem dX11_millionths_65 : decode cX11_millionths 65 = .ok (.iadd, 1) := by decide +kernel
theorem dX11_millionths_66 : decode cX11_millionths 66 = .ok (.istore 4, 2) := by decide +kernel
theorem dX11_millionths_68 : decode cX11_millionths 68 = .ok (.lload_n 2, 1) := by decide +kernel
theorem dX11_millionths_69 : decode cX11_millionths 69 = .ok (.aload_n 0, 1) := by decide +kernel
theorem dX11_millionths_70 : decode cX11_millionths 70 = .ok (.getfield 212, 3) := by decide +kernel
theorem dX11_millionths_73 : decode cX11_millionths 73 = .ok (.lrem, 1) := by decide +kernel
theorem dX11_millionths_74 : decode cX11_millionths 74 = .ok (.lstore_n 2, 1) := by decide +kernel
theorem dX11_millionths_75 : decode cX11_millionths 75 = .ok (.iinc 5 1, 3) := by decide +kernel
theorem dX11_millionths_78 : decode cX11_millionths 78 = .ok (.goto (-38), 3) := by decide +kernel
theorem dX11_millionths_81 : decode cX11_millionths 81 = .ok (.iload 4, 2) := by decide +kernel
theorem dX11_millionths_83 : decode cX11_millionths 83 = .ok (.ireturn, 1) := by decide +kernel
theorem dX11_mover_0 : decode cX11_mover 0 = .ok (.aload_n 0, 1) := by decide +kernel
theorem dX11_mover_1 : decode cX11_mover 1 = .ok (.iconst (-1), 1) := by decide +kernel
theorem dX11_mover_2 : decode cX11_mover 2 = .ok (.invokevirtual 216, 3) := by decide +kernel
theorem dX11_mover_5 : decode cX11_mover 5 = .ok (.aload_n 0, 1) := by decide +kernel
theorem dX11_mover_6 : decode cX11_mover 6 = .ok (.getfield 212, 3) := by decide +kernel
theorem dX11_mover_9 : decode cX11_mover 9 = .ok (.lconst 0, 1) := by decide +kernel
theorem dX11_mover_10 : decode cX11_mover 10 = .ok (.lcmp, 1) := by decide +kernel
theorem dX11_mover_11 : decode cX11_mover 11 = .ok (.ifCond .ne 6, 3) := by decide +kernel
theorem dX11_mover_14 : decode cX11_mover 14 = .ok (.bipush (-3), 2) := by decide +kernel
theorem dX11_mover_16 : decode cX11_mover 16 = .ok (.ireturn, 1) := by decide +kernel
theorem dX11_mover_17 : decode cX11_mover 17 = .ok (.aload_n 0, 1) := by decide +kernel
theorem dX11_mover_18 : decode cX11_mover 18 = .ok (.invokevirtual 222, 3) := by decide +kernel
theorem dX11_mover_21 : decode cX11_mover 21 = .ok (.istore_n 1, 1) := by decide +kernel
theorem dX11_mover_22 : decode cX11_mover 22 = .ok (.aload_n 0, 1) := by decide +kernel
theorem dX11_mover_23 : decode cX11_mover 23 = .ok (.iload_n 1, 1) := by decide +kernel
theorem dX11_mover_24 : decode cX11_mover 24 = .ok (.invokevirtual 225, 3) := by decide +kernel
theorem dX11_mover_27 : decode cX11_mover 27 = .ok (.istore_n 2, 1) := by decide +kernel
theorem dX11_mover_28 : decode cX11_mover 28 = .ok (.bipush (-9), 2) := by decide +kernel
theorem dX11_mover_30 : decode cX11_mover 30 = .ok (.istore_n 3, 1) := by decide +kernel
theorem dX11_mover_31 : decode cX11_mover 31 = .ok (.iconst (-1), 1) := by decide +kernel
theorem dX11_mover_32 : decode cX11_mover 32 = .ok (.istore 4, 2) := by decide +kernel
theorem dX11_mover_34 : decode cX11_mover 34 = .ok (.iconst 0, 1) := by decide +kernel
theorem dX11_mover_35 : decode cX11_mover 35 = .ok (.istore 5, 2) := by decide +kernel
theorem dX11_mover_37 : decode cX11_mover 37 = .ok (.iload 5, 2) := by decide +kernel
theorem dX11_mover_39 : decode cX11_mover 39 = .ok (.aload_n 0, 1) := by decide +kernel
theorem dX11_mover_40 : decode cX11_mover 40 = .ok (.getfield 180, 3) := by decide +kernel
theorem dX11_mover_43 : decode cX11_mover 43 = .ok (.if_icmp .ge 69, 3) := by decide +kernel
theorem dX11_mover_46 : decode cX11_mover 46 = .ok (.aload_n 0, 1) := by decide +kernel
theorem dX11_mover_47 : decode cX11_mover 47 = .ok (.iload 5, 2) := by decide +kernel
theorem dX11_mover_49 : decode cX11_mover 49 = .ok (.invokevirtual 216, 3) := by decide +kernel
theorem dX11_mover_52 : decode cX11_mover 52 = .ok (.aload_n 0, 1) := by decide +kernel
theorem dX11_mover_53 : decode cX11_mover 53 = .ok (.iload_n 1, 1) := by decide +kernel
theorem dX11_mover_54 : decode cX11_mover 54 = .ok (.invokevirtual 225, 3) := by decide +kernel
theorem dX11_mover_57 : decode cX11_mover 57 = .ok (.iload_n 2, 1) := by decide +kernel
theorem dX11_mover_58 : decode cX11_mover 58 = .ok (.isub, 1) := by decide +kernel
theorem dX11_mover_59 : decode cX11_mover 59 = .ok (.istore 6, 2) := by decide +kernel
theorem dX11_mover_61 : decode cX11_mover 61 = .ok (.iload 6, 2) := by decide +kernel
theorem dX11_mover_63 : decode cX11_mover 63 = .ok (.ifCond .ge 9, 3) := by decide +kernel
theorem dX11_mover_66 : decode cX11_mover 66 = .ok (.iload 6, 2) := by decide +kernel
theorem dX11_mover_68 : decode cX11_mover 68 = .ok (.ineg, 1) := by decide +kernel
theorem dX11_mover_69 : decode cX11_mover 69 = .ok (.goto 5, 3) := by decide +kernel
theorem dX11_mover_72 : decode cX11_mover 72 = .ok (.iload 6, 2) := by decide +kernel
theorem dX11_mover_74 : decode cX11_mover 74 = .ok (.istore 6, 2) := by decide +kernel
theorem dX11_mover_76 : decode cX11_mover 76 = .ok (.iload 6, 2) := by decide +kernel
theorem dX11_mover_78 : decode cX11_mover 78 = .ok (.iload 4, 2) := by decide +kernel
theorem dX11_mover_80 : decode cX11_mover 80 = .ok (.if_icmp .le 8, 3) := by decide +kernel
theorem dX11_mover_83 : decode cX11_mover 83 = .ok (.iload 5, 2) := by decide +kernel
theorem dX11_mover_85 : decode cX11_mover 85 = .ok (.goto 4, 3) := by decide +kernel
theorem dX11_mover_88 : decode cX11_mover 88 = .ok (.iload_n 3, 1) := by decide +kernel
theorem dX11_mover_89 : decode cX11_mover 89 = .ok (.istore_n 3, 1) := by decide +kernel
theorem dX11_mover_90 : decode cX11_mover 90 = .ok (.iload 6, 2) := by decide +kernel
theorem dX11_mover_92 : decode cX11_mover 92 = .ok (.iload 4, 2) := by decide +kernel
theorem dX11_mover_94 : decode cX11_mover 94 = .ok (.if_icmp .le 8, 3) := by decide +kernel
theorem dX11_mover_97 : decode cX11_mover 97 = .ok (.iload 6, 2) := by decide +kernel
theorem dX11_mover_99 : decode cX11_mover 99 = .ok (.goto 5, 3) := by decide +kernel
theorem dX11_mover_102 : decode cX11_mover 102 = .ok (.iload 4, 2) := by decide +kernel
theorem dX11_mover_104 : decode cX11_mover 104 = .ok (.istore 4, 2) := by decide +kernel
theorem dX11_mover_106 : decode cX11_mover 106 = .ok (.iinc 5 1, 3) := by decide +kernel
theorem dX11_mover_109 : decode cX11_mover 109 = .ok (.goto (-72), 3) := by decide +kernel
theorem dX11_mover_112 : decode cX11_mover 112 = .ok (.iload_n 3, 1) := by decide +kernel
theorem dX11_mover_113 : decode cX11_mover 113 = .ok (.ireturn, 1) := by decide +kernel
theorem dX11_next_0 : decode cX11_next 0 = .ok (.aload_n 0, 1) := by decide +kernel
theorem dX11_next_1 : decode cX11_next 1 = .ok (.iconst (-1), 1) := by decide +kernel
theorem dX11_next_2 : decode cX11_next 2 = .ok (.invokevirtual 216, 3) := by decide +kernel
theorem dX11_next_5 : decode cX11_next 5 = .ok (.aload_n 0, 1) := by decide +kernel
theorem dX11_next_6 : decode cX11_next 6 = .ok (.getfield 212, 3) := by decide +kernel
theorem dX11_next_9 : decode cX11_next 9 = .ok (.lconst 0, 1) := by decide +kernel
theorem dX11_next_10 : decode cX11_next 10 = .ok (.lcmp, 1) := by decide +kernel
theorem dX11_next_11 : decode cX11_next 11 = .ok (.ifCond .ne 6, 3) := by decide +kernel
theorem dX11_next_14 : decode cX11_next 14 = .ok (.bipush (-3), 2) := by decide +kernel
theorem dX11_next_16 : decode cX11_next 16 = .ok (.ireturn, 1) := by decide +kernel
theorem dX11_next_17 : decode cX11_next 17 = .ok (.iconst 0, 1) := by decide +kernel
theorem dX11_next_18 : decode cX11_next 18 = .ok (.istore_n 1, 1) := by decide +kernel
theorem dX11_next_19 : decode cX11_next 19 = .ok (.ldc2_w 210, 3) := by decide +kernel
theorem dX11_next_22 : decode cX11_next 22 = .ok (.lstore_n 2, 1) := by decide +kernel
theorem dX11_next_23 : decode cX11_next 23 = .ok (.iconst 0, 1) := by decide +kernel
theorem dX11_next_24 : decode cX11_next 24 = .ok (.istore 4, 2) := by decide +kernel
theorem dX11_next_26 : decode cX11_next 26 = .ok (.iload 4, 2) := by decide +kernel
theorem dX11_next_28 : decode cX11_next 28 = .ok (.bipush 60, 2) := by decide +kernel
theorem dX11_next_30 : decode cX11_next 30 = .ok (.if_icmp .ge 123, 3) := by decide +kernel
theorem dX11_next_33 : decode cX11_next 33 = .ok (.lconst 0, 1) := by decide +kernel
theorem dX11_next_34 : decode cX11_next 34 = .ok (.lstore 5, 2) := by decide +kernel
theorem dX11_next_36 : decode cX11_next 36 = .ok (.iconst 0, 1) := by decide +kernel
theorem dX11_next_37 : decode cX11_next 37 = .ok (.istore 7, 2) := by decide +kernel
theorem dX11_next_39 : decode cX11_next 39 = .ok (.iload 7, 2) := by decide +kernel
theorem dX11_next_41 : decode cX11_next 41 = .ok (.iconst 4, 1) := by decide +kernel
theorem dX11_next_42 : decode cX11_next 42 = .ok (.if_icmp .ge 56, 3) := by decide +kernel
theorem dX11_next_45 : decode cX11_next 45 = .ok (.lload 5, 2) := by decide +kernel
theorem dX11_next_47 : decode cX11_next 47 = .ok (.aload_n 0, 1) := by decide +kernel
theorem dX11_next_48 : decode cX11_next 48 = .ok (.getfield 25, 3) := by decide +kernel
theorem dX11_next_51 : decode cX11_next 51 = .ok (.bipush 100, 2) := by decide +kernel
theorem dX11_next_53 : decode cX11_next 53 = .ok (.iload 7, 2) := by decide +kernel
theorem dX11_next_55 : decode cX11_next 55 = .ok (.imul, 1) := by decide +kernel
theorem dX11_next_56 : decode cX11_next 56 = .ok (.bipush 10, 2) := by decide +kernel
theorem dX11_next_58 : decode cX11_next 58 = .ok (.iload 4, 2) := by decide +kernel
theorem dX11_next_60 : decode cX11_next 60 = .ok (.bipush 10, 2) := by decide +kernel
theorem dX11_next_62 : decode cX11_next 62 = .ok (.irem, 1) := by decide +kernel
theorem dX11_next_63 : decode cX11_next 63 = .ok (.imul, 1) := by decide +kernel
theorem dX11_next_64 : decode cX11_next 64 = .ok (.iadd, 1) := by decide +kernel
theorem dX11_next_65 : decode cX11_next 65 = .ok (.iaload, 1) := by decide +kernel
theorem dX11_next_66 : decode cX11_next 66 = .ok (.iload 4, 2) := by decide +kernel
theorem dX11_next_68 : decode cX11_next 68 = .ok (.bipush 10, 2) := by decide +kernel
theorem dX11_next_70 : decode cX11_next 70 = .ok (.idiv, 1) := by decide +kernel
theorem dX11_next_71 : decode cX11_next 71 = .ok (.ishr, 1) := by decide +kernel
theorem dX11_next_72 : decode cX11_next 72 = .ok (.iconst 1, 1) := by decide +kernel
theorem dX11_next_73 : decode cX11_next 73 = .ok (.iand, 1) := by decide +kernel
theorem dX11_next_74 : decode cX11_next 74 = .ok (.iconst 1, 1) := by decide +kernel
theorem dX11_next_75 : decode cX11_next 75 = .ok (.if_icmp .ne 13, 3) := by decide +kernel
theorem dX11_next_78 : decode cX11_next 78 = .ok (.aload_n 0, 1) := by decide +kernel
theorem dX11_next_79 : decode cX11_next 79 = .ok (.getfield 40, 3) := by decide +kernel
theorem dX11_next_82 : decode cX11_next 82 = .ok (.iload 7, 2) := by decide +kernel
theorem dX11_next_84 : decode cX11_next 84 = .ok (.laload, 1) := by decide +kernel
theorem dX11_next_85 : decode cX11_next 85 = .ok (.goto 4, 3) := by decide +kernel
theorem dX11_next_88 : decode cX11_next 88 = .ok (.lconst 0, 1) := by decide +kernel
theorem dX11_next_89 : decode cX11_next 89 = .ok (.ladd, 1) := by decide +kernel
theorem dX11_next_90 : decode cX11_next 90 = .ok (.lstore 5, 2) := by decide +kernel
theorem dX11_next_92 : decode cX11_next 92 = .ok (.iinc 7 1, 3) := by decide +kernel
theorem dX11_next_95 : decode cX11_next 95 = .ok (.goto (-56), 3) := by decide +kernel
theorem dX11_next_98 : decode cX11_next 98 = .ok (.ldc2_w 228, 3) := by decide +kernel
theorem dX11_next_101 : decode cX11_next 101 = .ok (.lload 5, 2) := by decide +kernel
theorem dX11_next_103 : decode cX11_next 103 = .ok (.lmul, 1) := by decide +kernel
theorem dX11_next_104 : decode cX11_next 104 = .ok (.aload_n 0, 1) := by decide +kernel
theorem dX11_next_105 : decode cX11_next 105 = .ok (.getfield 212, 3) := by decide +kernel
theorem dX11_next_108 : decode cX11_next 108 = .ok (.lsub, 1) := by decide +kernel
theorem dX11_next_109 : decode cX11_next 109 = .ok (.lstore 7, 2) := by decide +kernel
theorem dX11_next_111 : decode cX11_next 111 = .ok (.lload 7, 2) := by decide +kernel
theorem dX11_next_113 : decode cX11_next 113 = .ok (.lconst 0, 1) := by decide +kernel
theorem dX11_next_114 : decode cX11_next 114 = .ok (.lcmp, 1) := by decide +kernel
theorem dX11_next_115 : decode cX11_next 115 = .ok (.ifCond .ge 9, 3) := by decide +kernel
theorem dX11_next_118 : decode cX11_next 118 = .ok (.lload 7, 2) := by decide +kernel
theorem dX11_next_120 : decode cX11_next 120 = .ok (.lneg, 1) := by decide +kernel
theorem dX11_next_121 : decode cX11_next 121 = .ok (.goto 5, 3) := by decide +kernel
theorem dX11_next_124 : decode cX11_next 124 = .ok (.lload 7, 2) := by decide +kernel
theorem dX11_next_126 : decode cX11_next 126 = .ok (.lstore 7, 2) := by decide +kernel
theorem dX11_next_128 : decode cX11_next 128 = .ok (.lload_n 2, 1) := by decide +kernel
theorem dX11_next_129 : decode cX11_next 129 = .ok (.lconst 0, 1) := by decide +kernel
theorem dX11_next_130 : decode cX11_next 130 = .ok (.lcmp, 1) := by decide +kernel
theorem dX11_next_131 : decode cX11_next 131 = .ok (.ifCond .lt 10, 3) := by decide +kernel
theorem dX11_next_134 : decode cX11_next 134 = .ok (.lload 7, 2) := by decide +kernel
theorem dX11_next_136 : decode cX11_next 136 = .ok (.lload_n 2, 1) := by decide +kernel
theorem dX11_next_137 : decode cX11_next 137 = .ok (.lcmp, 1) := by decide +kernel
theorem dX11_next_138 : decode cX11_next 138 = .ok (.ifCond .ge 9, 3) := by decide +kernel
theorem dX11_next_141 : decode cX11_next 141 = .ok (.iload 4, 2) := by decide +kernel
theorem dX11_next_143 : decode cX11_next 143 = .ok (.istore_n 1, 1) := by decide +kernel
theorem dX11_next_144 : decode cX11_next 144 = .ok (.lload 7, 2) := by decide +kernel
theorem dX11_next_146 : decode cX11_next 146 = .ok (.lstore_n 2, 1) := by decide +kernel
theorem dX11_next_147 : decode cX11_next 147 = .ok (.iinc 4 1, 3) := by decide +kernel
theorem dX11_next_150 : decode cX11_next 150 = .ok (.goto (-124), 3) := by decide +kernel
theorem dX11_next_153 : decode cX11_next 153 = .ok (.iload_n 1, 1) := by decide +kernel
theorem dX11_next_154 : decode cX11_next 154 = .ok (.ireturn, 1) := by decide +kernel
theorem dX11_once_0 : decode cX11_once 0 = .ok (.iconst 0, 1) := by decide +kernel
theorem dX11_once_1 : decode cX11_once 1 = .ok (.istore_n 1, 1) := by decide +kernel
theorem dX11_once_2 : decode cX11_once 2 = .ok (.bipush 99, 2) := by decide +kernel
theorem dX11_once_4 : decode cX11_once 4 = .ok (.istore_n 2, 1) := by decide +kernel
theorem dX11_once_5 : decode cX11_once 5 = .ok (.iconst 0, 1) := by decide +kernel
theorem dX11_once_6 : decode cX11_once 6 = .ok (.istore_n 3, 1) := by decide +kernel
theorem dX11_once_7 : decode cX11_once 7 = .ok (.iconst 0, 1) := by decide +kernel
theorem dX11_once_8 : decode cX11_once 8 = .ok (.istore 4, 2) := by decide +kernel
theorem dX11_once_10 : decode cX11_once 10 = .ok (.iload 4, 2) := by decide +kernel
theorem dX11_once_12 : decode cX11_once 12 = .ok (.aload_n 0, 1) := by decide +kernel
theorem dX11_once_13 : decode cX11_once 13 = .ok (.getfield 180, 3) := by decide +kernel
theorem dX11_once_16 : decode cX11_once 16 = .ok (.if_icmp .ge 87, 3) := by decide +kernel
theorem dX11_once_19 : decode cX11_once 19 = .ok (.aload_n 0, 1) := by decide +kernel
theorem dX11_once_20 : decode cX11_once 20 = .ok (.iload 4, 2) := by decide +kernel
theorem dX11_once_22 : decode cX11_once 22 = .ok (.invokevirtual 195, 3) := by decide +kernel
theorem dX11_once_25 : decode cX11_once 25 = .ok (.ifCond .eq 72, 3) := by decide +kernel
theorem dX11_once_28 : decode cX11_once 28 = .ok (.aload_n 0, 1) := by decide +kernel
theorem dX11_once_29 : decode cX11_once 29 = .ok (.getfield 37, 3) := by decide +kernel
theorem dX11_once_32 : decode cX11_once 32 = .ok (.bipush 6, 2) := by decide +kernel
theorem dX11_once_34 : decode cX11_once 34 = .ok (.iload 4, 2) := by decide +kernel
theorem dX11_once_36 : decode cX11_once 36 = .ok (.imul, 1) := by decide +kernel
theorem dX11_once_37 : decode cX11_once 37 = .ok (.iconst 2, 1) := by decide +kernel
theorem dX11_once_38 : decode cX11_once 38 = .ok (.iadd, 1) := by decide +kernel
theorem dX11_once_39 : decode cX11_once 39 = .ok (.iaload, 1) := by decide +kernel
theorem dX11_once_40 : decode cX11_once 40 = .ok (.iload_n 1, 1) := by decide +kernel
theorem dX11_once_41 : decode cX11_once 41 = .ok (.if_icmp .le 18, 3) := by decide +kernel
theorem dX11_once_44 : decode cX11_once 44 = .ok (.aload_n 0, 1) := by decide +kernel
theorem dX11_once_45 : decode cX11_once 45 = .ok (.getfield 37, 3) := by decide +kernel
theorem dX11_once_48 : decode cX11_once 48 = .ok (.bipush 6, 2) := by decide +kernel
theorem dX11_once_50 : decode cX11_once 50 = .ok (.iload 4, 2) := by decide +kernel
theorem dX11_once_52 : decode cX11_once 52 = .ok (.imul, 1) := by decide +kernel
theorem dX11_once_53 : decode cX11_once 53 = .ok (.iconst 2, 1) := by decide +kernel
theorem dX11_once_54 : decode cX11_once 54 = .ok (.iadd, 1) := by decide +kernel
theorem dX11_once_55 : decode cX11_once 55 = .ok (.iaload, 1) := by decide +kernel
theorem dX11_once_56 : decode cX11_once 56 = .ok (.goto 4, 3) := by decide +kernel
theorem dX11_once_59 : decode cX11_once 59 = .ok (.iload_n 1, 1) := by decide +kernel
theorem dX11_once_60 : decode cX11_once 60 = .ok (.istore_n 1, 1) := by decide +kernel
theorem dX11_once_61 : decode cX11_once 61 = .ok (.aload_n 0, 1) := by decide +kernel
theorem dX11_once_62 : decode cX11_once 62 = .ok (.getfield 37, 3) := by decide +kernel
theorem dX11_once_65 : decode cX11_once 65 = .ok (.bipush 6, 2) := by decide +kernel
theorem dX11_once_67 : decode cX11_once 67 = .ok (.iload 4, 2) := by decide +kernel
theorem dX11_once_69 : decode cX11_once 69 = .ok (.imul, 1) := by decide +kernel
theorem dX11_once_70 : decode cX11_once 70 = .ok (.iconst 3, 1) := by decide +kernel
theorem dX11_once_71 : decode cX11_once 71 = .ok (.iadd, 1) := by decide +kernel
theorem dX11_once_72 : decode cX11_once 72 = .ok (.iaload, 1) := by decide +kernel
theorem dX11_once_73 : decode cX11_once 73 = .ok (.iload_n 2, 1) := by decide +kernel
theorem dX11_once_74 : decode cX11_once 74 = .ok (.if_icmp .ge 18, 3) := by decide +kernel
theorem dX11_once_77 : decode cX11_once 77 = .ok (.aload_n 0, 1) := by decide +kernel
theorem dX11_once_78 : decode cX11_once 78 = .ok (.getfield 37, 3) := by decide +kernel
theorem dX11_once_81 : decode cX11_once 81 = .ok (.bipush 6, 2) := by decide +kernel
theorem dX11_once_83 : decode cX11_once 83 = .ok (.iload 4, 2) := by decide +kernel
theorem dX11_once_85 : decode cX11_once 85 = .ok (.imul, 1) := by decide +kernel
theorem dX11_once_86 : decode cX11_once 86 = .ok (.iconst 3, 1) := by decide +kernel
theorem dX11_once_87 : decode cX11_once 87 = .ok (.iadd, 1) := by decide +kernel
theorem dX11_once_88 : decode cX11_once 88 = .ok (.iaload, 1) := by decide +kernel
theorem dX11_once_89 : decode cX11_once 89 = .ok (.goto 4, 3) := by decide +kernel
theorem dX11_once_92 : decode cX11_once 92 = .ok (.iload_n 2, 1) := by decide +kernel
theorem dX11_once_93 : decode cX11_once 93 = .ok (.istore_n 2, 1) := by decide +kernel
theorem dX11_once_94 : decode cX11_once 94 = .ok (.iinc 3 1, 3) := by decide +kernel
theorem dX11_once_97 : decode cX11_once 97 = .ok (.iinc 4 1, 3) := by decide +kernel
theorem dX11_once_100 : decode cX11_once 100 = .ok (.goto (-90), 3) := by decide +kernel
theorem dX11_once_103 : decode cX11_once 103 = .ok (.iload_n 3, 1) := by decide +kernel
theorem dX11_once_104 : decode cX11_once 104 = .ok (.ifCond .eq 8, 3) := by decide +kernel
theorem dX11_once_107 : decode cX11_once 107 = .ok (.iload_n 1, 1) := by decide +kernel
theorem dX11_once_108 : decode cX11_once 108 = .ok (.iload_n 2, 1) := by decide +kernel
theorem dX11_once_109 : decode cX11_once 109 = .ok (.if_icmp .le 8, 3) := by decide +kernel
theorem dX11_once_112 : decode cX11_once 112 = .ok (.bipush (-9), 2) := by decide +kernel
theorem dX11_once_114 : decode cX11_once 114 = .ok (.goto 4, 3) := by decide +kernel
theorem dX11_once_117 : decode cX11_once 117 = .ok (.iload_n 1, 1) := by decide +kernel
theorem dX11_once_118 : decode cX11_once 118 = .ok (.ireturn, 1) := by decide +kernel
theorem dX11_firstEnd_0 : decode cX11_firstEnd 0 = .ok (.bipush (-9), 2) := by decide +kernel
theorem dX11_firstEnd_2 : decode cX11_firstEnd 2 = .ok (.istore_n 2, 1) := by decide +kernel
theorem dX11_firstEnd_3 : decode cX11_firstEnd 3 = .ok (.iconst 0, 1) := by decide +kernel
theorem dX11_firstEnd_4 : decode cX11_firstEnd 4 = .ok (.istore_n 3, 1) := by decide +kernel
theorem dX11_firstEnd_5 : decode cX11_firstEnd 5 = .ok (.iload_n 3, 1) := by decide +kernel
theorem dX11_firstEnd_6 : decode cX11_firstEnd 6 = .ok (.aload_n 0, 1) := by decide +kernel
theorem dX11_firstEnd_7 : decode cX11_firstEnd 7 = .ok (.getfield 180, 3) := by decide +kernel
theorem dX11_firstEnd_10 : decode cX11_firstEnd 10 = .ok (.if_icmp .ge 64, 3) := by decide +kernel
theorem dX11_firstEnd_13 : decode cX11_firstEnd 13 = .ok (.aload_n 0, 1) := by decide +kernel
theorem dX11_firstEnd_14 : decode cX11_firstEnd 14 = .ok (.getfield 37, 3) := by decide +kernel
theorem dX11_firstEnd_17 : decode cX11_firstEnd 17 = .ok (.bipush 6, 2) := by decide +kernel
theorem dX11_firstEnd_19 : decode cX11_firstEnd 19 = .ok (.iload_n 3, 1) := by decide +kernel
theorem dX11_firstEnd_20 : decode cX11_firstEnd 20 = .ok (.imul, 1) := by decide +kernel
theorem dX11_firstEnd_21 : decode cX11_firstEnd 21 = .ok (.iconst 3, 1) := by decide +kernel
theorem dX11_firstEnd_22 : decode cX11_firstEnd 22 = .ok (.iadd, 1) := by decide +kernel
theorem dX11_firstEnd_23 : decode cX11_firstEnd 23 = .ok (.iaload, 1) := by decide +kernel
theorem dX11_firstEnd_24 : decode cX11_firstEnd 24 = .ok (.istore 4, 2) := by decide +kernel
theorem dX11_firstEnd_26 : decode cX11_firstEnd 26 = .ok (.aload_n 0, 1) := by decide +kernel
theorem dX11_firstEnd_27 : decode cX11_firstEnd 27 = .ok (.iload_n 3, 1) := by decide +kernel
theorem dX11_firstEnd_28 : decode cX11_firstEnd 28 = .ok (.invokevirtual 195, 3) := by decide +kernel
theorem dX11_firstEnd_31 : decode cX11_firstEnd 31 = .ok (.ifCond .eq 35, 3) := by decide +kernel
theorem dX11_firstEnd_34 : decode cX11_firstEnd 34 = .ok (.aload_n 0, 1) := by decide +kernel
theorem dX11_firstEnd_35 : decode cX11_firstEnd 35 = .ok (.getfield 37, 3) := by decide +kernel
theorem dX11_firstEnd_38 : decode cX11_firstEnd 38 = .ok (.bipush 6, 2) := by decide +kernel
theorem dX11_firstEnd_40 : decode cX11_firstEnd 40 = .ok (.iload_n 3, 1) := by decide +kernel
theorem dX11_firstEnd_41 : decode cX11_firstEnd 41 = .ok (.imul, 1) := by decide +kernel
theorem dX11_firstEnd_42 : decode cX11_firstEnd 42 = .ok (.iconst 2, 1) := by decide +kernel
theorem dX11_firstEnd_43 : decode cX11_firstEnd 43 = .ok (.iadd, 1) := by decide +kernel
theorem dX11_firstEnd_44 : decode cX11_firstEnd 44 = .ok (.iaload, 1) := by decide +kernel
theorem dX11_firstEnd_45 : decode cX11_firstEnd 45 = .ok (.iload_n 1, 1) := by decide +kernel
theorem dX11_firstEnd_46 : decode cX11_firstEnd 46 = .ok (.if_icmp .le 20, 3) := by decide +kernel
theorem dX11_firstEnd_49 : decode cX11_firstEnd 49 = .ok (.iload_n 2, 1) := by decide +kernel
theorem dX11_firstEnd_50 : decode cX11_firstEnd 50 = .ok (.bipush (-9), 2) := by decide +kernel
theorem dX11_firstEnd_52 : decode cX11_firstEnd 52 = .ok (.if_icmp .eq 9, 3) := by decide +kernel
theorem dX11_firstEnd_55 : decode cX11_firstEnd 55 = .ok (.iload 4, 2) := by decide +kernel
theorem dX11_firstEnd_57 : decode cX11_firstEnd 57 = .ok (.iload_n 2, 1) := by decide +kernel
theorem dX11_firstEnd_58 : decode cX11_firstEnd 58 = .ok (.if_icmp .ge 8, 3) := by decide +kernel
theorem dX11_firstEnd_61 : decode cX11_firstEnd 61 = .ok (.iload 4, 2) := by decide +kernel
theorem dX11_firstEnd_63 : decode cX11_firstEnd 63 = .ok (.goto 4, 3) := by decide +kernel
theorem dX11_firstEnd_66 : decode cX11_firstEnd 66 = .ok (.iload_n 2, 1) := by decide +kernel
theorem dX11_firstEnd_67 : decode cX11_firstEnd 67 = .ok (.istore_n 2, 1) := by decide +kernel
theorem dX11_firstEnd_68 : decode cX11_firstEnd 68 = .ok (.iinc 3 1, 3) := by decide +kernel
theorem dX11_firstEnd_71 : decode cX11_firstEnd 71 = .ok (.goto (-66), 3) := by decide +kernel
theorem dX11_firstEnd_74 : decode cX11_firstEnd 74 = .ok (.iload_n 2, 1) := by decide +kernel
theorem dX11_firstEnd_75 : decode cX11_firstEnd 75 = .ok (.ireturn, 1) := by decide +kernel
theorem dX11_times_0 : decode cX11_times 0 = .ok (.iconst 0, 1) := by decide +kernel
theorem dX11_times_1 : decode cX11_times 1 = .ok (.istore_n 1, 1) := by decide +kernel
theorem dX11_times_2 : decode cX11_times 2 = .ok (.aload_n 0, 1) := by decide +kernel
theorem dX11_times_3 : decode cX11_times 3 = .ok (.iconst (-1), 1) := by decide +kernel
theorem dX11_times_4 : decode cX11_times 4 = .ok (.invokevirtual 230, 3) := by decide +kernel
theorem dX11_times_7 : decode cX11_times 7 = .ok (.istore_n 2, 1) := by decide +kernel
theorem dX11_times_8 : decode cX11_times 8 = .ok (.iload_n 2, 1) := by decide +kernel
theorem dX11_times_9 : decode cX11_times 9 = .ok (.bipush (-9), 2) := by decide +kernel
theorem dX11_times_11 : decode cX11_times 11 = .ok (.if_icmp .eq 15, 3) := by decide +kernel
theorem dX11_times_14 : decode cX11_times 14 = .ok (.iinc 1 1, 3) := by decide +kernel
theorem dX11_times_17 : decode cX11_times 17 = .ok (.aload_n 0, 1) := by decide +kernel
theorem dX11_times_18 : decode cX11_times 18 = .ok (.iload_n 2, 1) := by decide +kernel
theorem dX11_times_19 : decode cX11_times 19 = .ok (.invokevirtual 230, 3) := by decide +kernel
theorem dX11_times_22 : decode cX11_times 22 = .ok (.istore_n 2, 1) := by decide +kernel
theorem dX11_times_23 : decode cX11_times 23 = .ok (.goto (-15), 3) := by decide +kernel
theorem dX11_times_26 : decode cX11_times 26 = .ok (.iload_n 1, 1) := by decide +kernel
theorem dX11_times_27 : decode cX11_times 27 = .ok (.ireturn, 1) := by decide +kernel
theorem dX11_time_0 : decode cX11_time 0 = .ok (.iconst 0, 1) := by decide +kernel
theorem dX11_time_1 : decode cX11_time 1 = .ok (.istore_n 2, 1) := by decide +kernel
theorem dX11_time_2 : decode cX11_time 2 = .ok (.aload_n 0, 1) := by decide +kernel
theorem dX11_time_3 : decode cX11_time 3 = .ok (.iconst (-1), 1) := by decide +kernel
theorem dX11_time_4 : decode cX11_time 4 = .ok (.invokevirtual 230, 3) := by decide +kernel
theorem dX11_time_7 : decode cX11_time 7 = .ok (.istore_n 3, 1) := by decide +kernel
theorem dX11_time_8 : decode cX11_time 8 = .ok (.iload_n 3, 1) := by decide +kernel
theorem dX11_time_9 : decode cX11_time 9 = .ok (.bipush (-9), 2) := by decide +kernel
theorem dX11_time_11 : decode cX11_time 11 = .ok (.if_icmp .eq 22, 3) := by decide +kernel
theorem dX11_time_14 : decode cX11_time 14 = .ok (.iload_n 2, 1) := by decide +kernel
theorem dX11_time_15 : decode cX11_time 15 = .ok (.iload_n 1, 1) := by decide +kernel
theorem dX11_time_16 : decode cX11_time 16 = .ok (.if_icmp .ne 5, 3) := by decide +kernel
theorem dX11_time_19 : decode cX11_time 19 = .ok (.iload_n 3, 1) := by decide +kernel
theorem dX11_time_20 : decode cX11_time 20 = .ok (.ireturn, 1) := by decide +kernel
theorem dX11_time_21 : decode cX11_time 21 = .ok (.iinc 2 1, 3) := by decide +kernel
theorem dX11_time_24 : decode cX11_time 24 = .ok (.aload_n 0, 1) := by decide +kernel
theorem dX11_time_25 : decode cX11_time 25 = .ok (.iload_n 3, 1) := by decide +kernel
theorem dX11_time_26 : decode cX11_time 26 = .ok (.invokevirtual 230, 3) := by decide +kernel
theorem dX11_time_29 : decode cX11_time 29 = .ok (.istore_n 3, 1) := by decide +kernel
theorem dX11_time_30 : decode cX11_time 30 = .ok (.goto (-22), 3) := by decide +kernel
theorem dX11_time_33 : decode cX11_time 33 = .ok (.bipush (-9), 2) := by decide +kernel
theorem dX11_time_35 : decode cX11_time 35 = .ok (.ireturn, 1) := by decide +kernel
theorem dX11_layOrder_0 : decode cX11_layOrder 0 = .ok (.iconst 0, 1) := by decide +kernel
theorem dX11_layOrder_1 : decode cX11_layOrder 1 = .ok (.istore_n 2, 1) := by decide +kernel
theorem dX11_layOrder_2 : decode cX11_layOrder 2 = .ok (.iconst 1, 1) := by decide +kernel
theorem dX11_layOrder_3 : decode cX11_layOrder 3 = .ok (.istore_n 3, 1) := by decide +kernel
theorem dX11_layOrder_4 : decode cX11_layOrder 4 = .ok (.iconst 0, 1) := by decide +kernel
theorem dX11_layOrder_5 : decode cX11_layOrder 5 = .ok (.istore 4, 2) := by decide +kernel
theorem dX11_layOrder_7 : decode cX11_layOrder 7 = .ok (.iload 4, 2) := by decide +kernel
theorem dX11_layOrder_9 : decode cX11_layOrder 9 = .ok (.aload_n 0, 1) := by decide +kernel
theorem dX11_layOrder_10 : decode cX11_layOrder 10 = .ok (.getfield 180, 3) := by decide +kernel
theorem dX11_layOrder_13 : decode cX11_layOrder 13 = .ok (.if_icmp .ge 90, 3) := by decide +kernel
theorem dX11_layOrder_16 : decode cX11_layOrder 16 = .ok (.aload_n 0, 1) := by decide +kernel
theorem dX11_layOrder_17 : decode cX11_layOrder 17 = .ok (.getfield 37, 3) := by decide +kernel
theorem dX11_layOrder_20 : decode cX11_layOrder 20 = .ok (.bipush 6, 2) := by decide +kernel
theorem dX11_layOrder_22 : decode cX11_layOrder 22 = .ok (.iload 4, 2) := by decide +kernel
theorem dX11_layOrder_24 : decode cX11_layOrder 24 = .ok (.imul, 1) := by decide +kernel
theorem dX11_layOrder_25 : decode cX11_layOrder 25 = .ok (.iaload, 1) := by decide +kernel
theorem dX11_layOrder_26 : decode cX11_layOrder 26 = .ok (.iload_n 1, 1) := by decide +kernel
theorem dX11_layOrder_27 : decode cX11_layOrder 27 = .ok (.if_icmp .ne 70, 3) := by decide +kernel
theorem dX11_layOrder_30 : decode cX11_layOrder 30 = .ok (.aload_n 0, 1) := by decide +kernel
theorem dX11_layOrder_31 : decode cX11_layOrder 31 = .ok (.getfield 37, 3) := by decide +kernel
theorem dX11_layOrder_34 : decode cX11_layOrder 34 = .ok (.bipush 6, 2) := by decide +kernel
theorem dX11_layOrder_36 : decode cX11_layOrder 36 = .ok (.iload 4, 2) := by decide +kernel
theorem dX11_layOrder_38 : decode cX11_layOrder 38 = .ok (.imul, 1) := by decide +kernel
theorem dX11_layOrder_39 : decode cX11_layOrder 39 = .ok (.iconst 2, 1) := by decide +kernel
theorem dX11_layOrder_40 : decode cX11_layOrder 40 = .ok (.iadd, 1) := by decide +kernel
theorem dX11_layOrder_41 : decode cX11_layOrder 41 = .ok (.iaload, 1) := by decide +kernel
theorem dX11_layOrder_42 : decode cX11_layOrder 42 = .ok (.iload_n 2, 1) := by decide +kernel
theorem dX11_layOrder_43 : decode cX11_layOrder 43 = .ok (.if_icmp .le 18, 3) := by decide +kernel
theorem dX11_layOrder_46 : decode cX11_layOrder 46 = .ok (.aload_n 0, 1) := by decide +kernel
theorem dX11_layOrder_47 : decode cX11_layOrder 47 = .ok (.getfield 37, 3) := by decide +kernel
theorem dX11_layOrder_50 : decode cX11_layOrder 50 = .ok (.bipush 6, 2) := by decide +kernel
theorem dX11_layOrder_52 : decode cX11_layOrder 52 = .ok (.iload 4, 2) := by decide +kernel
theorem dX11_layOrder_54 : decode cX11_layOrder 54 = .ok (.imul, 1) := by decide +kernel
theorem dX11_layOrder_55 : decode cX11_layOrder 55 = .ok (.iconst 2, 1) := by decide +kernel
theorem dX11_layOrder_56 : decode cX11_layOrder 56 = .ok (.iadd, 1) := by decide +kernel
theorem dX11_layOrder_57 : decode cX11_layOrder 57 = .ok (.iaload, 1) := by decide +kernel
theorem dX11_layOrder_58 : decode cX11_layOrder 58 = .ok (.goto 4, 3) := by decide +kernel
theorem dX11_layOrder_61 : decode cX11_layOrder 61 = .ok (.iload_n 2, 1) := by decide +kernel
theorem dX11_layOrder_62 : decode cX11_layOrder 62 = .ok (.istore_n 2, 1) := by decide +kernel
theorem dX11_layOrder_63 : decode cX11_layOrder 63 = .ok (.aload_n 0, 1) := by decide +kernel
theorem dX11_layOrder_64 : decode cX11_layOrder 64 = .ok (.getfield 44, 3) := by decide +kernel
theorem dX11_layOrder_67 : decode cX11_layOrder 67 = .ok (.iload 4, 2) := by decide +kernel
theorem dX11_layOrder_69 : decode cX11_layOrder 69 = .ok (.iload_n 2, 1) := by decide +kernel
theorem dX11_layOrder_70 : decode cX11_layOrder 70 = .ok (.iastore, 1) := by decide +kernel
theorem dX11_layOrder_71 : decode cX11_layOrder 71 = .ok (.iload_n 3, 1) := by decide +kernel
theorem dX11_layOrder_72 : decode cX11_layOrder 72 = .ok (.ifCond .eq 23, 3) := by decide +kernel
theorem dX11_layOrder_75 : decode cX11_layOrder 75 = .ok (.iload_n 2, 1) := by decide +kernel
theorem dX11_layOrder_76 : decode cX11_layOrder 76 = .ok (.aload_n 0, 1) := by decide +kernel
theorem dX11_layOrder_77 : decode cX11_layOrder 77 = .ok (.getfield 37, 3) := by decide +kernel
theorem dX11_layOrder_80 : decode cX11_layOrder 80 = .ok (.bipush 6, 2) := by decide +kernel
theorem dX11_layOrder_82 : decode cX11_layOrder 82 = .ok (.iload 4, 2) := by decide +kernel
theorem dX11_layOrder_84 : decode cX11_layOrder 84 = .ok (.imul, 1) := by decide +kernel
theorem dX11_layOrder_85 : decode cX11_layOrder 85 = .ok (.iconst 3, 1) := by decide +kernel
theorem dX11_layOrder_86 : decode cX11_layOrder 86 = .ok (.iadd, 1) := by decide +kernel
theorem dX11_layOrder_87 : decode cX11_layOrder 87 = .ok (.iaload, 1) := by decide +kernel
theorem dX11_layOrder_88 : decode cX11_layOrder 88 = .ok (.if_icmp .gt 7, 3) := by decide +kernel
theorem dX11_layOrder_91 : decode cX11_layOrder 91 = .ok (.iconst 1, 1) := by decide +kernel
theorem dX11_layOrder_92 : decode cX11_layOrder 92 = .ok (.goto 4, 3) := by decide +kernel
theorem dX11_layOrder_95 : decode cX11_layOrder 95 = .ok (.iconst 0, 1) := by decide +kernel
theorem dX11_layOrder_96 : decode cX11_layOrder 96 = .ok (.istore_n 3, 1) := by decide +kernel
theorem dX11_layOrder_97 : decode cX11_layOrder 97 = .ok (.iinc 4 1, 3) := by decide +kernel
theorem dX11_layOrder_100 : decode cX11_layOrder 100 = .ok (.goto (-93), 3) := by decide +kernel
theorem dX11_layOrder_103 : decode cX11_layOrder 103 = .ok (.bipush 99, 2) := by decide +kernel
theorem dX11_layOrder_105 : decode cX11_layOrder 105 = .ok (.istore 4, 2) := by decide +kernel
theorem dX11_layOrder_107 : decode cX11_layOrder 107 = .ok (.aload_n 0, 1) := by decide +kernel
theorem dX11_layOrder_108 : decode cX11_layOrder 108 = .ok (.getfield 180, 3) := by decide +kernel
theorem dX11_layOrder_111 : decode cX11_layOrder 111 = .ok (.iconst 1, 1) := by decide +kernel
theorem dX11_layOrder_112 : decode cX11_layOrder 112 = .ok (.isub, 1) := by decide +kernel
theorem dX11_layOrder_113 : decode cX11_layOrder 113 = .ok (.istore 5, 2) := by decide +kernel
theorem dX11_layOrder_115 : decode cX11_layOrder 115 = .ok (.iload 5, 2) := by decide +kernel
theorem dX11_layOrder_117 : decode cX11_layOrder 117 = .ok (.ifCond .lt 68, 3) := by decide +kernel
theorem dX11_layOrder_120 : decode cX11_layOrder 120 = .ok (.aload_n 0, 1) := by decide +kernel
theorem dX11_layOrder_121 : decode cX11_layOrder 121 = .ok (.getfield 37, 3) := by decide +kernel
theorem dX11_layOrder_124 : decode cX11_layOrder 124 = .ok (.bipush 6, 2) := by decide +kernel
theorem dX11_layOrder_126 : decode cX11_layOrder 126 = .ok (.iload 5, 2) := by decide +kernel
theorem dX11_layOrder_128 : decode cX11_layOrder 128 = .ok (.imul, 1) := by decide +kernel
theorem dX11_layOrder_129 : decode cX11_layOrder 129 = .ok (.iaload, 1) := by decide +kernel
theorem dX11_layOrder_130 : decode cX11_layOrder 130 = .ok (.iload_n 1, 1) := by decide +kernel
theorem dX11_layOrder_131 : decode cX11_layOrder 131 = .ok (.if_icmp .ne 48, 3) := by decide +kernel
theorem dX11_layOrder_134 : decode cX11_layOrder 134 = .ok (.aload_n 0, 1) := by decide +kernel
theorem dX11_layOrder_135 : decode cX11_layOrder 135 = .ok (.getfield 37, 3) := by decide +kernel
theorem dX11_layOrder_138 : decode cX11_layOrder 138 = .ok (.bipush 6, 2) := by decide +kernel
theorem dX11_layOrder_140 : decode cX11_layOrder 140 = .ok (.iload 5, 2) := by decide +kernel
theorem dX11_layOrder_142 : decode cX11_layOrder 142 = .ok (.imul, 1) := by decide +kernel
theorem dX11_layOrder_143 : decode cX11_layOrder 143 = .ok (.iconst 3, 1) := by decide +kernel
theorem dX11_layOrder_144 : decode cX11_layOrder 144 = .ok (.iadd, 1) := by decide +kernel
theorem dX11_layOrder_145 : decode cX11_layOrder 145 = .ok (.iaload, 1) := by decide +kernel
theorem dX11_layOrder_146 : decode cX11_layOrder 146 = .ok (.iload 4, 2) := by decide +kernel
theorem dX11_layOrder_148 : decode cX11_layOrder 148 = .ok (.if_icmp .ge 18, 3) := by decide +kernel
theorem dX11_layOrder_151 : decode cX11_layOrder 151 = .ok (.aload_n 0, 1) := by decide +kernel
theorem dX11_layOrder_152 : decode cX11_layOrder 152 = .ok (.getfield 37, 3) := by decide +kernel
theorem dX11_layOrder_155 : decode cX11_layOrder 155 = .ok (.bipush 6, 2) := by decide +kernel
theorem dX11_layOrder_157 : decode cX11_layOrder 157 = .ok (.iload 5, 2) := by decide +kernel
theorem dX11_layOrder_159 : decode cX11_layOrder 159 = .ok (.imul, 1) := by decide +kernel
theorem dX11_layOrder_160 : decode cX11_layOrder 160 = .ok (.iconst 3, 1) := by decide +kernel
theorem dX11_layOrder_161 : decode cX11_layOrder 161 = .ok (.iadd, 1) := by decide +kernel
theorem dX11_layOrder_162 : decode cX11_layOrder 162 = .ok (.iaload, 1) := by decide +kernel
theorem dX11_layOrder_163 : decode cX11_layOrder 163 = .ok (.goto 5, 3) := by decide +kernel
theorem dX11_layOrder_166 : decode cX11_layOrder 166 = .ok (.iload 4, 2) := by decide +kernel
theorem dX11_layOrder_168 : decode cX11_layOrder 168 = .ok (.istore 4, 2) := by decide +kernel
theorem dX11_layOrder_170 : decode cX11_layOrder 170 = .ok (.aload_n 0, 1) := by decide +kernel
theorem dX11_layOrder_171 : decode cX11_layOrder 171 = .ok (.getfield 47, 3) := by decide +kernel
theorem dX11_layOrder_174 : decode cX11_layOrder 174 = .ok (.iload 5, 2) := by decide +kernel
theorem dX11_layOrder_176 : decode cX11_layOrder 176 = .ok (.iload 4, 2) := by decide +kernel
theorem dX11_layOrder_178 : decode cX11_layOrder 178 = .ok (.iastore, 1) := by decide +kernel
theorem dX11_layOrder_179 : decode cX11_layOrder 179 = .ok (.iinc 5 (-1), 3) := by decide +kernel
theorem dX11_layOrder_182 : decode cX11_layOrder 182 = .ok (.goto (-67), 3) := by decide +kernel
theorem dX11_layOrder_185 : decode cX11_layOrder 185 = .ok (.iload_n 3, 1) := by decide +kernel
theorem dX11_layOrder_186 : decode cX11_layOrder 186 = .ok (.ireturn, 1) := by decide +kernel
theorem dX11_order_0 : decode cX11_order 0 = .ok (.iload_n 1, 1) := by decide +kernel
theorem dX11_order_1 : decode cX11_order 1 = .ok (.i2l, 1) := by decide +kernel
theorem dX11_order_2 : decode cX11_order 2 = .ok (.lconst 0, 1) := by decide +kernel
theorem dX11_order_3 : decode cX11_order 3 = .ok (.ldc2_w 115, 3) := by decide +kernel
theorem dX11_order_6 : decode cX11_order 6 = .ok (.invokestatic 65, 3) := by decide +kernel
theorem dX11_order_9 : decode cX11_order 9 = .ok (.ifCond .ne 5, 3) := by decide +kernel
theorem dX11_order_12 : decode cX11_order 12 = .ok (.iconst (-1), 1) := by decide +kernel
theorem dX11_order_13 : decode cX11_order 13 = .ok (.ireturn, 1) := by decide +kernel
theorem dX11_order_14 : decode cX11_order 14 = .ok (.aload_n 0, 1) := by decide +kernel
theorem dX11_order_15 : decode cX11_order 15 = .ok (.iload_n 1, 1) := by decide +kernel
theorem dX11_order_16 : decode cX11_order 16 = .ok (.invokevirtual 233, 3) := by decide +kernel
theorem dX11_order_19 : decode cX11_order 19 = .ok (.ifCond .eq 7, 3) := by decide +kernel
theorem dX11_order_22 : decode cX11_order 22 = .ok (.iconst 1, 1) := by decide +kernel
theorem dX11_order_23 : decode cX11_order 23 = .ok (.goto 4, 3) := by decide +kernel
theorem dX11_order_26 : decode cX11_order 26 = .ok (.iconst 0, 1) := by decide +kernel
theorem dX11_order_27 : decode cX11_order 27 = .ok (.ireturn, 1) := by decide +kernel
theorem dX11_gap_0 : decode cX11_gap 0 = .ok (.aload_n 0, 1) := by decide +kernel
theorem dX11_gap_1 : decode cX11_gap 1 = .ok (.iload_n 1, 1) := by decide +kernel
theorem dX11_gap_2 : decode cX11_gap 2 = .ok (.invokevirtual 187, 3) := by decide +kernel
theorem dX11_gap_5 : decode cX11_gap 5 = .ok (.ifCond .ne 5, 3) := by decide +kernel
theorem dX11_gap_8 : decode cX11_gap 8 = .ok (.iconst (-1), 1) := by decide +kernel
theorem dX11_gap_9 : decode cX11_gap 9 = .ok (.ireturn, 1) := by decide +kernel
theorem dX11_gap_10 : decode cX11_gap 10 = .ok (.iload_n 1, 1) := by decide +kernel
theorem dX11_gap_11 : decode cX11_gap 11 = .ok (.iconst 1, 1) := by decide +kernel
theorem dX11_gap_12 : decode cX11_gap 12 = .ok (.isub, 1) := by decide +kernel
theorem dX11_gap_13 : decode cX11_gap 13 = .ok (.istore_n 2, 1) := by decide +kernel
theorem dX11_gap_14 : decode cX11_gap 14 = .ok (.iload_n 2, 1) := by decide +kernel
theorem dX11_gap_15 : decode cX11_gap 15 = .ok (.ifCond .lt 30, 3) := by decide +kernel
theorem dX11_gap_18 : decode cX11_gap 18 = .ok (.aload_n 0, 1) := by decide +kernel
theorem dX11_gap_19 : decode cX11_gap 19 = .ok (.getfield 37, 3) := by decide +kernel
theorem dX11_gap_22 : decode cX11_gap 22 = .ok (.bipush 6, 2) := by decide +kernel
theorem dX11_gap_24 : decode cX11_gap 24 = .ok (.iload_n 2, 1) := by decide +kernel
theorem dX11_gap_25 : decode cX11_gap 25 = .ok (.imul, 1) := by decide +kernel
theorem dX11_gap_26 : decode cX11_gap 26 = .ok (.iaload, 1) := by decide +kernel
theorem dX11_gap_27 : decode cX11_gap 27 = .ok (.aload_n 0, 1) := by decide +kernel
theorem dX11_gap_28 : decode cX11_gap 28 = .ok (.getfield 37, 3) := by decide +kernel
theorem dX11_gap_31 : decode cX11_gap 31 = .ok (.bipush 6, 2) := by decide +kernel
theorem dX11_gap_33 : decode cX11_gap 33 = .ok (.iload_n 1, 1) := by decide +kernel
theorem dX11_gap_34 : decode cX11_gap 34 = .ok (.imul, 1) := by decide +kernel
theorem dX11_gap_35 : decode cX11_gap 35 = .ok (.iaload, 1) := by decide +kernel
theorem dX11_gap_36 : decode cX11_gap 36 = .ok (.if_icmp .eq 9, 3) := by decide +kernel
theorem dX11_gap_39 : decode cX11_gap 39 = .ok (.iinc 2 (-1), 3) := by decide +kernel
theorem dX11_gap_42 : decode cX11_gap 42 = .ok (.goto (-28), 3) := by decide +kernel
theorem dX11_gap_45 : decode cX11_gap 45 = .ok (.iload_n 2, 1) := by decide +kernel
theorem dX11_gap_46 : decode cX11_gap 46 = .ok (.ifCond .lt 19, 3) := by decide +kernel
theorem dX11_gap_49 : decode cX11_gap 49 = .ok (.aload_n 0, 1) := by decide +kernel
theorem dX11_gap_50 : decode cX11_gap 50 = .ok (.aload_n 0, 1) := by decide +kernel
theorem dX11_gap_51 : decode cX11_gap 51 = .ok (.getfield 37, 3) := by decide +kernel
theorem dX11_gap_54 : decode cX11_gap 54 = .ok (.bipush 6, 2) := by decide +kernel
theorem dX11_gap_56 : decode cX11_gap 56 = .ok (.iload_n 1, 1) := by decide +kernel
theorem dX11_gap_57 : decode cX11_gap 57 = .ok (.imul, 1) := by decide +kernel
theorem dX11_gap_58 : decode cX11_gap 58 = .ok (.iaload, 1) := by decide +kernel
theorem dX11_gap_59 : decode cX11_gap 59 = .ok (.invokevirtual 233, 3) := by decide +kernel
theorem dX11_gap_62 : decode cX11_gap 62 = .ok (.ifCond .ne 6, 3) := by decide +kernel
theorem dX11_gap_65 : decode cX11_gap 65 = .ok (.bipush (-3), 2) := by decide +kernel
theorem dX11_gap_67 : decode cX11_gap 67 = .ok (.ireturn, 1) := by decide +kernel
theorem dX11_gap_68 : decode cX11_gap 68 = .ok (.aload_n 0, 1) := by decide +kernel
theorem dX11_gap_69 : decode cX11_gap 69 = .ok (.getfield 47, 3) := by decide +kernel
theorem dX11_gap_72 : decode cX11_gap 72 = .ok (.iload_n 1, 1) := by decide +kernel
theorem dX11_gap_73 : decode cX11_gap 73 = .ok (.iaload, 1) := by decide +kernel
theorem dX11_gap_74 : decode cX11_gap 74 = .ok (.aload_n 0, 1) := by decide +kernel
theorem dX11_gap_75 : decode cX11_gap 75 = .ok (.getfield 44, 3) := by decide +kernel
theorem dX11_gap_78 : decode cX11_gap 78 = .ok (.iload_n 2, 1) := by decide +kernel
theorem dX11_gap_79 : decode cX11_gap 79 = .ok (.iaload, 1) := by decide +kernel
theorem dX11_gap_80 : decode cX11_gap 80 = .ok (.isub, 1) := by decide +kernel
theorem dX11_gap_81 : decode cX11_gap 81 = .ok (.ireturn, 1) := by decide +kernel
theorem dX11_poleOf_0 : decode cX11_poleOf 0 = .ok (.iconst 0, 1) := by decide +kernel
theorem dX11_poleOf_1 : decode cX11_poleOf 1 = .ok (.istore_n 3, 1) := by decide +kernel
theorem dX11_poleOf_2 : decode cX11_poleOf 2 = .ok (.iconst 0, 1) := by decide +kernel
theorem dX11_poleOf_3 : decode cX11_poleOf 3 = .ok (.istore 4, 2) := by decide +kernel
theorem dX11_poleOf_5 : decode cX11_poleOf 5 = .ok (.iload 4, 2) := by decide +kernel
theorem dX11_poleOf_7 : decode cX11_poleOf 7 = .ok (.aload_n 0, 1) := by decide +kernel
theorem dX11_poleOf_8 : decode cX11_poleOf 8 = .ok (.getfield 180, 3) := by decide +kernel
theorem dX11_poleOf_11 : decode cX11_poleOf 11 = .ok (.if_icmp .ge 65, 3) := by decide +kernel
theorem dX11_poleOf_14 : decode cX11_poleOf 14 = .ok (.aload_n 0, 1) := by decide +kernel
theorem dX11_poleOf_15 : decode cX11_poleOf 15 = .ok (.getfield 37, 3) := by decide +kernel
theorem dX11_poleOf_18 : decode cX11_poleOf 18 = .ok (.bipush 6, 2) := by decide +kernel
theorem dX11_poleOf_20 : decode cX11_poleOf 20 = .ok (.iload 4, 2) := by decide +kernel
theorem dX11_poleOf_22 : decode cX11_poleOf 22 = .ok (.imul, 1) := by decide +kernel
theorem dX11_poleOf_23 : decode cX11_poleOf 23 = .ok (.iconst 4, 1) := by decide +kernel
theorem dX11_poleOf_24 : decode cX11_poleOf 24 = .ok (.iadd, 1) := by decide +kernel
theorem dX11_poleOf_25 : decode cX11_poleOf 25 = .ok (.iaload, 1) := by decide +kernel
theorem dX11_poleOf_26 : decode cX11_poleOf 26 = .ok (.iload_n 2, 1) := by decide +kernel
theorem dX11_poleOf_27 : decode cX11_poleOf 27 = .ok (.isub, 1) := by decide +kernel
theorem dX11_poleOf_28 : decode cX11_poleOf 28 = .ok (.istore 5, 2) := by decide +kernel
theorem dX11_poleOf_30 : decode cX11_poleOf 30 = .ok (.iload_n 3, 1) := by decide +kernel
theorem dX11_poleOf_31 : decode cX11_poleOf 31 = .ok (.aload_n 0, 1) := by decide +kernel
theorem dX11_poleOf_32 : decode cX11_poleOf 32 = .ok (.iload 4, 2) := by decide +kernel
theorem dX11_poleOf_34 : decode cX11_poleOf 34 = .ok (.invokevirtual 195, 3) := by decide +kernel
theorem dX11_poleOf_37 : decode cX11_poleOf 37 = .ok (.ifCond .eq 30, 3) := by decide +kernel
theorem dX11_poleOf_40 : decode cX11_poleOf 40 = .ok (.aload_n 0, 1) := by decide +kernel
theorem dX11_poleOf_41 : decode cX11_poleOf 41 = .ok (.iload_n 1, 1) := by decide +kernel
theorem dX11_poleOf_42 : decode cX11_poleOf 42 = .ok (.iload 4, 2) := by decide +kernel
theorem dX11_poleOf_44 : decode cX11_poleOf 44 = .ok (.iload 5, 2) := by decide +kernel
theorem dX11_poleOf_46 : decode cX11_poleOf 46 = .ok (.ifCond .ge 9, 3) := by decide +kernel
theorem dX11_poleOf_49 : decode cX11_poleOf 49 = .ok (.iload 5, 2) := by decide +kernel
theorem dX11_poleOf_51 : decode cX11_poleOf 51 = .ok (.ineg, 1) := by decide +kernel
theorem dX11_poleOf_52 : decode cX11_poleOf 52 = .ok (.goto 5, 3) := by decide +kernel
theorem dX11_poleOf_55 : decode cX11_poleOf 55 = .ok (.iload 5, 2) := by decide +kernel
theorem dX11_poleOf_57 : decode cX11_poleOf 57 = .ok (.invokevirtual 198, 3) := by decide +kernel
theorem dX11_poleOf_60 : decode cX11_poleOf 60 = .ok (.ifCond .le 7, 3) := by decide +kernel
theorem dX11_poleOf_63 : decode cX11_poleOf 63 = .ok (.iconst 1, 1) := by decide +kernel
theorem dX11_poleOf_64 : decode cX11_poleOf 64 = .ok (.goto 4, 3) := by decide +kernel
theorem dX11_poleOf_67 : decode cX11_poleOf 67 = .ok (.iconst 0, 1) := by decide +kernel
theorem dX11_poleOf_68 : decode cX11_poleOf 68 = .ok (.iadd, 1) := by decide +kernel
theorem dX11_poleOf_69 : decode cX11_poleOf 69 = .ok (.istore_n 3, 1) := by decide +kernel
theorem dX11_poleOf_70 : decode cX11_poleOf 70 = .ok (.iinc 4 1, 3) := by decide +kernel
theorem dX11_poleOf_73 : decode cX11_poleOf 73 = .ok (.goto (-68), 3) := by decide +kernel
theorem dX11_poleOf_76 : decode cX11_poleOf 76 = .ok (.iload_n 3, 1) := by decide +kernel
theorem dX11_poleOf_77 : decode cX11_poleOf 77 = .ok (.ireturn, 1) := by decide +kernel
theorem dX11_pole_0 : decode cX11_pole 0 = .ok (.iload_n 1, 1) := by decide +kernel
theorem dX11_pole_1 : decode cX11_pole 1 = .ok (.invokestatic 117, 3) := by decide +kernel
theorem dX11_pole_4 : decode cX11_pole 4 = .ok (.ifCond .ne 5, 3) := by decide +kernel
theorem dX11_pole_7 : decode cX11_pole 7 = .ok (.iconst (-1), 1) := by decide +kernel
theorem dX11_pole_8 : decode cX11_pole 8 = .ok (.ireturn, 1) := by decide +kernel
theorem dX11_pole_9 : decode cX11_pole 9 = .ok (.iload_n 2, 1) := by decide +kernel
theorem dX11_pole_10 : decode cX11_pole 10 = .ok (.i2l, 1) := by decide +kernel
theorem dX11_pole_11 : decode cX11_pole 11 = .ok (.lconst 0, 1) := by decide +kernel
theorem dX11_pole_12 : decode cX11_pole 12 = .ok (.ldc2_w 145, 3) := by decide +kernel
theorem dX11_pole_15 : decode cX11_pole 15 = .ok (.invokestatic 65, 3) := by decide +kernel
theorem dX11_pole_18 : decode cX11_pole 18 = .ok (.ifCond .eq 12, 3) := by decide +kernel
theorem dX11_pole_21 : decode cX11_pole 21 = .ok (.aload_n 0, 1) := by decide +kernel
theorem dX11_pole_22 : decode cX11_pole 22 = .ok (.iload_n 1, 1) := by decide +kernel
theorem dX11_pole_23 : decode cX11_pole 23 = .ok (.iload_n 2, 1) := by decide +kernel
theorem dX11_pole_24 : decode cX11_pole 24 = .ok (.invokevirtual 236, 3) := by decide +kernel
theorem dX11_pole_27 : decode cX11_pole 27 = .ok (.goto 5, 3) := by decide +kernel
theorem dX11_pole_30 : decode cX11_pole 30 = .ok (.bipush (-2), 2) := by decide +kernel
theorem dX11_pole_32 : decode cX11_pole 32 = .ok (.ireturn, 1) := by decide +kernel
theorem dX11_elsewhere_0 : decode cX11_elsewhere 0 = .ok (.iload_n 1, 1) := by decide +kernel
theorem dX11_elsewhere_1 : decode cX11_elsewhere 1 = .ok (.invokestatic 117, 3) := by decide +kernel
theorem dX11_elsewhere_4 : decode cX11_elsewhere 4 = .ok (.ifCond .ne 5, 3) := by decide +kernel
theorem dX11_elsewhere_7 : decode cX11_elsewhere 7 = .ok (.iconst (-1), 1) := by decide +kernel
theorem dX11_elsewhere_8 : decode cX11_elsewhere 8 = .ok (.ireturn, 1) := by decide +kernel
theorem dX11_elsewhere_9 : decode cX11_elsewhere 9 = .ok (.iconst 0, 1) := by decide +kernel
theorem dX11_elsewhere_10 : decode cX11_elsewhere 10 = .ok (.istore_n 2, 1) := by decide +kernel
theorem dX11_elsewhere_11 : decode cX11_elsewhere 11 = .ok (.iconst 1, 1) := by decide +kernel
theorem dX11_elsewhere_12 : decode cX11_elsewhere 12 = .ok (.istore_n 3, 1) := by decide +kernel
theorem dX11_elsewhere_13 : decode cX11_elsewhere 13 = .ok (.iload_n 3, 1) := by decide +kernel
theorem dX11_elsewhere_14 : decode cX11_elsewhere 14 = .ok (.bipush 6, 2) := by decide +kernel
theorem dX11_elsewhere_16 : decode cX11_elsewhere 16 = .ok (.if_icmp .ge 30, 3) := by decide +kernel
theorem dX11_elsewhere_19 : decode cX11_elsewhere 19 = .ok (.aload_n 0, 1) := by decide +kernel
theorem dX11_elsewhere_20 : decode cX11_elsewhere 20 = .ok (.iload_n 1, 1) := by decide +kernel
theorem dX11_elsewhere_21 : decode cX11_elsewhere 21 = .ok (.iload_n 3, 1) := by decide +kernel
theorem dX11_elsewhere_22 : decode cX11_elsewhere 22 = .ok (.invokevirtual 236, 3) := by decide +kernel
theorem dX11_elsewhere_25 : decode cX11_elsewhere 25 = .ok (.aload_n 0, 1) := by decide +kernel
theorem dX11_elsewhere_26 : decode cX11_elsewhere 26 = .ok (.iload_n 1, 1) := by decide +kernel
theorem dX11_elsewhere_27 : decode cX11_elsewhere 27 = .ok (.iload_n 2, 1) := by decide +kernel
theorem dX11_elsewhere_28 : decode cX11_elsewhere 28 = .ok (.invokevirtual 236, 3) := by decide +kernel
theorem dX11_elsewhere_31 : decode cX11_elsewhere 31 = .ok (.if_icmp .le 7, 3) := by decide +kernel
theorem dX11_elsewhere_34 : decode cX11_elsewhere 34 = .ok (.iload_n 3, 1) := by decide +kernel
theorem dX11_elsewhere_35 : decode cX11_elsewhere 35 = .ok (.goto 4, 3) := by decide +kernel
theorem dX11_elsewhere_38 : decode cX11_elsewhere 38 = .ok (.iload_n 2, 1) := by decide +kernel
theorem dX11_elsewhere_39 : decode cX11_elsewhere 39 = .ok (.istore_n 2, 1) := by decide +kernel
theorem dX11_elsewhere_40 : decode cX11_elsewhere 40 = .ok (.iinc 3 1, 3) := by decide +kernel
theorem dX11_elsewhere_43 : decode cX11_elsewhere 43 = .ok (.goto (-30), 3) := by decide +kernel
theorem dX11_elsewhere_46 : decode cX11_elsewhere 46 = .ok (.iload_n 2, 1) := by decide +kernel
theorem dX11_elsewhere_47 : decode cX11_elsewhere 47 = .ok (.ireturn, 1) := by decide +kernel
theorem dX11_keep_0 : decode cX11_keep 0 = .ok (.iload_n 1, 1) := by decide +kernel
theorem dX11_keep_1 : decode cX11_keep 1 = .ok (.i2l, 1) := by decide +kernel
theorem dX11_keep_2 : decode cX11_keep 2 = .ok (.lconst 0, 1) := by decide +kernel
theorem dX11_keep_3 : decode cX11_keep 3 = .ok (.lconst 1, 1) := by decide +kernel
theorem dX11_keep_4 : decode cX11_keep 4 = .ok (.invokestatic 65, 3) := by decide +kernel
theorem dX11_keep_7 : decode cX11_keep 7 = .ok (.ifCond .ne 5, 3) := by decide +kernel
theorem dX11_keep_10 : decode cX11_keep 10 = .ok (.iconst (-1), 1) := by decide +kernel
theorem dX11_keep_11 : decode cX11_keep 11 = .ok (.ireturn, 1) := by decide +kernel
theorem dX11_keep_12 : decode cX11_keep 12 = .ok (.aload_n 0, 1) := by decide +kernel
theorem dX11_keep_13 : decode cX11_keep 13 = .ok (.getfield 50, 3) := by decide +kernel
theorem dX11_keep_16 : decode cX11_keep 16 = .ok (.iload_n 1, 1) := by decide +kernel
theorem dX11_keep_17 : decode cX11_keep 17 = .ok (.iconst 1, 1) := by decide +kernel
theorem dX11_keep_18 : decode cX11_keep 18 = .ok (.bastore, 1) := by decide +kernel
theorem dX11_keep_19 : decode cX11_keep 19 = .ok (.aload_n 0, 1) := by decide +kernel
theorem dX11_keep_20 : decode cX11_keep 20 = .ok (.getfield 54, 3) := by decide +kernel
theorem dX11_keep_23 : decode cX11_keep 23 = .ok (.iload_n 1, 1) := by decide +kernel
theorem dX11_keep_24 : decode cX11_keep 24 = .ok (.aload_n 0, 1) := by decide +kernel
theorem dX11_keep_25 : decode cX11_keep 25 = .ok (.getfield 180, 3) := by decide +kernel
theorem dX11_keep_28 : decode cX11_keep 28 = .ok (.iastore, 1) := by decide +kernel
theorem dX11_keep_29 : decode cX11_keep 29 = .ok (.iconst 0, 1) := by decide +kernel
theorem dX11_keep_30 : decode cX11_keep 30 = .ok (.istore_n 2, 1) := by decide +kernel
theorem dX11_keep_31 : decode cX11_keep 31 = .ok (.iload_n 2, 1) := by decide +kernel
theorem dX11_keep_32 : decode cX11_keep 32 = .ok (.bipush 48, 2) := by decide +kernel
theorem dX11_keep_34 : decode cX11_keep 34 = .ok (.if_icmp .ge 26, 3) := by decide +kernel
theorem dX11_keep_37 : decode cX11_keep 37 = .ok (.aload_n 0, 1) := by decide +kernel
theorem dX11_keep_38 : decode cX11_keep 38 = .ok (.getfield 57, 3) := by decide +kernel
theorem dX11_keep_41 : decode cX11_keep 41 = .ok (.bipush 48, 2) := by decide +kernel
theorem dX11_keep_43 : decode cX11_keep 43 = .ok (.iload_n 1, 1) := by decide +kernel
theorem dX11_keep_44 : decode cX11_keep 44 = .ok (.imul, 1) := by decide +kernel
theorem dX11_keep_45 : decode cX11_keep 45 = .ok (.iload_n 2, 1) := by decide +kernel
theorem dX11_keep_46 : decode cX11_keep 46 = .ok (.iadd, 1) := by decide +kernel
theorem dX11_keep_47 : decode cX11_keep 47 = .ok (.aload_n 0, 1) := by decide +kernel
theorem dX11_keep_48 : decode cX11_keep 48 = .ok (.getfield 37, 3) := by decide +kernel
theorem dX11_keep_51 : decode cX11_keep 51 = .ok (.iload_n 2, 1) := by decide +kernel
theorem dX11_keep_52 : decode cX11_keep 52 = .ok (.iaload, 1) := by decide +kernel
theorem dX11_keep_53 : decode cX11_keep 53 = .ok (.iastore, 1) := by decide +kernel
theorem dX11_keep_54 : decode cX11_keep 54 = .ok (.iinc 2 1, 3) := by decide +kernel
theorem dX11_keep_57 : decode cX11_keep 57 = .ok (.goto (-26), 3) := by decide +kernel
theorem dX11_keep_60 : decode cX11_keep 60 = .ok (.iconst 0, 1) := by decide +kernel
theorem dX11_keep_61 : decode cX11_keep 61 = .ok (.istore_n 2, 1) := by decide +kernel
theorem dX11_keep_62 : decode cX11_keep 62 = .ok (.iload_n 2, 1) := by decide +kernel
theorem dX11_keep_63 : decode cX11_keep 63 = .ok (.iconst 4, 1) := by decide +kernel
theorem dX11_keep_64 : decode cX11_keep 64 = .ok (.if_icmp .ge 25, 3) := by decide +kernel
theorem dX11_keep_67 : decode cX11_keep 67 = .ok (.aload_n 0, 1) := by decide +kernel
theorem dX11_keep_68 : decode cX11_keep 68 = .ok (.getfield 60, 3) := by decide +kernel
theorem dX11_keep_71 : decode cX11_keep 71 = .ok (.iconst 4, 1) := by decide +kernel
theorem dX11_keep_72 : decode cX11_keep 72 = .ok (.iload_n 1, 1) := by decide +kernel
theorem dX11_keep_73 : decode cX11_keep 73 = .ok (.imul, 1) := by decide +kernel
theorem dX11_keep_74 : decode cX11_keep 74 = .ok (.iload_n 2, 1) := by decide +kernel
theorem dX11_keep_75 : decode cX11_keep 75 = .ok (.iadd, 1) := by decide +kernel
theorem dX11_keep_76 : decode cX11_keep 76 = .ok (.aload_n 0, 1) := by decide +kernel
theorem dX11_keep_77 : decode cX11_keep 77 = .ok (.getfield 28, 3) := by decide +kernel
theorem dX11_keep_80 : decode cX11_keep 80 = .ok (.iload_n 2, 1) := by decide +kernel
theorem dX11_keep_81 : decode cX11_keep 81 = .ok (.iaload, 1) := by decide +kernel
theorem dX11_keep_82 : decode cX11_keep 82 = .ok (.iastore, 1) := by decide +kernel
theorem dX11_keep_83 : decode cX11_keep 83 = .ok (.iinc 2 1, 3) := by decide +kernel
theorem dX11_keep_86 : decode cX11_keep 86 = .ok (.goto (-24), 3) := by decide +kernel
theorem dX11_keep_89 : decode cX11_keep 89 = .ok (.aload_n 0, 1) := by decide +kernel
theorem dX11_keep_90 : decode cX11_keep 90 = .ok (.getfield 180, 3) := by decide +kernel
theorem dX11_keep_93 : decode cX11_keep 93 = .ok (.ireturn, 1) := by decide +kernel
theorem dX11_again_0 : decode cX11_again 0 = .ok (.iload_n 1, 1) := by decide +kernel
theorem dX11_again_1 : decode cX11_again 1 = .ok (.i2l, 1) := by decide +kernel
theorem dX11_again_2 : decode cX11_again 2 = .ok (.lconst 0, 1) := by decide +kernel
theorem dX11_again_3 : decode cX11_again 3 = .ok (.lconst 1, 1) := by decide +kernel
theorem dX11_again_4 : decode cX11_again 4 = .ok (.invokestatic 65, 3) := by decide +kernel
theorem dX11_again_7 : decode cX11_again 7 = .ok (.ifCond .ne 5, 3) := by decide +kernel
theorem dX11_again_10 : decode cX11_again 10 = .ok (.iconst (-1), 1) := by decide +kernel
theorem dX11_again_11 : decode cX11_again 11 = .ok (.ireturn, 1) := by decide +kernel
theorem dX11_again_12 : decode cX11_again 12 = .ok (.aload_n 0, 1) := by decide +kernel
theorem dX11_again_13 : decode cX11_again 13 = .ok (.getfield 50, 3) := by decide +kernel
theorem dX11_again_16 : decode cX11_again 16 = .ok (.iload_n 1, 1) := by decide +kernel
theorem dX11_again_17 : decode cX11_again 17 = .ok (.baload, 1) := by decide +kernel
theorem dX11_again_18 : decode cX11_again 18 = .ok (.ifCond .ne 6, 3) := by decide +kernel
theorem dX11_again_21 : decode cX11_again 21 = .ok (.bipush (-3), 2) := by decide +kernel
theorem dX11_again_23 : decode cX11_again 23 = .ok (.ireturn, 1) := by decide +kernel
theorem dX11_again_24 : decode cX11_again 24 = .ok (.aload_n 0, 1) := by decide +kernel
theorem dX11_again_25 : decode cX11_again 25 = .ok (.aload_n 0, 1) := by decide +kernel
theorem dX11_again_26 : decode cX11_again 26 = .ok (.getfield 54, 3) := by decide +kernel
theorem dX11_again_29 : decode cX11_again 29 = .ok (.iload_n 1, 1) := by decide +kernel
theorem dX11_again_30 : decode cX11_again 30 = .ok (.iaload, 1) := by decide +kernel
theorem dX11_again_31 : decode cX11_again 31 = .ok (.putfield 180, 3) := by decide +kernel
theorem dX11_again_34 : decode cX11_again 34 = .ok (.iconst 0, 1) := by decide +kernel
theorem dX11_again_35 : decode cX11_again 35 = .ok (.istore_n 2, 1) := by decide +kernel
theorem dX11_again_36 : decode cX11_again 36 = .ok (.iload_n 2, 1) := by decide +kernel
theorem dX11_again_37 : decode cX11_again 37 = .ok (.bipush 48, 2) := by decide +kernel
theorem dX11_again_39 : decode cX11_again 39 = .ok (.if_icmp .ge 26, 3) := by decide +kernel
theorem dX11_again_42 : decode cX11_again 42 = .ok (.aload_n 0, 1) := by decide +kernel
theorem dX11_again_43 : decode cX11_again 43 = .ok (.getfield 37, 3) := by decide +kernel
theorem dX11_again_46 : decode cX11_again 46 = .ok (.iload_n 2, 1) := by decide +kernel
theorem dX11_again_47 : decode cX11_again 47 = .ok (.aload_n 0, 1) := by decide +kernel
theorem dX11_again_48 : decode cX11_again 48 = .ok (.getfield 57, 3) := by decide +kernel
theorem dX11_again_51 : decode cX11_again 51 = .ok (.bipush 48, 2) := by decide +kernel
theorem dX11_again_53 : decode cX11_again 53 = .ok (.iload_n 1, 1) := by decide +kernel
theorem dX11_again_54 : decode cX11_again 54 = .ok (.imul, 1) := by decide +kernel
theorem dX11_again_55 : decode cX11_again 55 = .ok (.iload_n 2, 1) := by decide +kernel
theorem dX11_again_56 : decode cX11_again 56 = .ok (.iadd, 1) := by decide +kernel
theorem dX11_again_57 : decode cX11_again 57 = .ok (.iaload, 1) := by decide +kernel
theorem dX11_again_58 : decode cX11_again 58 = .ok (.iastore, 1) := by decide +kernel
theorem dX11_again_59 : decode cX11_again 59 = .ok (.iinc 2 1, 3) := by decide +kernel
theorem dX11_again_62 : decode cX11_again 62 = .ok (.goto (-26), 3) := by decide +kernel
theorem dX11_again_65 : decode cX11_again 65 = .ok (.iconst 0, 1) := by decide +kernel
theorem dX11_again_66 : decode cX11_again 66 = .ok (.istore_n 2, 1) := by decide +kernel
theorem dX11_again_67 : decode cX11_again 67 = .ok (.iload_n 2, 1) := by decide +kernel
theorem dX11_again_68 : decode cX11_again 68 = .ok (.iconst 4, 1) := by decide +kernel
theorem dX11_again_69 : decode cX11_again 69 = .ok (.if_icmp .ge 25, 3) := by decide +kernel
theorem dX11_again_72 : decode cX11_again 72 = .ok (.aload_n 0, 1) := by decide +kernel
theorem dX11_again_73 : decode cX11_again 73 = .ok (.getfield 28, 3) := by decide +kernel
theorem dX11_again_76 : decode cX11_again 76 = .ok (.iload_n 2, 1) := by decide +kernel
theorem dX11_again_77 : decode cX11_again 77 = .ok (.aload_n 0, 1) := by decide +kernel
theorem dX11_again_78 : decode cX11_again 78 = .ok (.getfield 60, 3) := by decide +kernel
theorem dX11_again_81 : decode cX11_again 81 = .ok (.iconst 4, 1) := by decide +kernel
theorem dX11_again_82 : decode cX11_again 82 = .ok (.iload_n 1, 1) := by decide +kernel
theorem dX11_again_83 : decode cX11_again 83 = .ok (.imul, 1) := by decide +kernel
theorem dX11_again_84 : decode cX11_again 84 = .ok (.iload_n 2, 1) := by decide +kernel
theorem dX11_again_85 : decode cX11_again 85 = .ok (.iadd, 1) := by decide +kernel
theorem dX11_again_86 : decode cX11_again 86 = .ok (.iaload, 1) := by decide +kernel
theorem dX11_again_87 : decode cX11_again 87 = .ok (.iastore, 1) := by decide +kernel
theorem dX11_again_88 : decode cX11_again 88 = .ok (.iinc 2 1, 3) := by decide +kernel
theorem dX11_again_91 : decode cX11_again 91 = .ok (.goto (-24), 3) := by decide +kernel
theorem dX11_again_94 : decode cX11_again 94 = .ok (.aload_n 0, 1) := by decide +kernel
theorem dX11_again_95 : decode cX11_again 95 = .ok (.getfield 180, 3) := by decide +kernel
theorem dX11_again_98 : decode cX11_again 98 = .ok (.ireturn, 1) := by decide +kernel
theorem dX11_count_0 : decode cX11_count 0 = .ok (.iconst 0, 1) := by decide +kernel
theorem dX11_count_1 : decode cX11_count 1 = .ok (.istore_n 2, 1) := by decide +kernel
theorem dX11_count_2 : decode cX11_count 2 = .ok (.iconst 0, 1) := by decide +kernel
theorem dX11_count_3 : decode cX11_count 3 = .ok (.istore_n 3, 1) := by decide +kernel
theorem dX11_count_4 : decode cX11_count 4 = .ok (.iconst 0, 1) := by decide +kernel
theorem dX11_count_5 : decode cX11_count 5 = .ok (.istore 4, 2) := by decide +kernel
theorem dX11_count_7 : decode cX11_count 7 = .ok (.iload 4, 2) := by decide +kernel
theorem dX11_count_9 : decode cX11_count 9 = .ok (.aload_n 0, 1) := by decide +kernel
theorem dX11_count_10 : decode cX11_count 10 = .ok (.getfield 180, 3) := by decide +kernel
theorem dX11_count_13 : decode cX11_count 13 = .ok (.if_icmp .ge 26, 3) := by decide +kernel
theorem dX11_count_16 : decode cX11_count 16 = .ok (.iload_n 2, 1) := by decide +kernel
theorem dX11_count_17 : decode cX11_count 17 = .ok (.aload_n 0, 1) := by decide +kernel
theorem dX11_count_18 : decode cX11_count 18 = .ok (.iload 4, 2) := by decide +kernel
theorem dX11_count_20 : decode cX11_count 20 = .ok (.invokevirtual 195, 3) := by decide +kernel
theorem dX11_count_23 : decode cX11_count 23 = .ok (.ifCond .eq 7, 3) := by decide +kernel
theorem dX11_count_26 : decode cX11_count 26 = .ok (.iconst 1, 1) := by decide +kernel
theorem dX11_count_27 : decode cX11_count 27 = .ok (.goto 4, 3) := by decide +kernel
theorem dX11_count_30 : decode cX11_count 30 = .ok (.iconst 0, 1) := by decide +kernel
theorem dX11_count_31 : decode cX11_count 31 = .ok (.iadd, 1) := by decide +kernel
theorem dX11_count_32 : decode cX11_count 32 = .ok (.istore_n 2, 1) := by decide +kernel
theorem dX11_count_33 : decode cX11_count 33 = .ok (.iinc 4 1, 3) := by decide +kernel
theorem dX11_count_36 : decode cX11_count 36 = .ok (.goto (-29), 3) := by decide +kernel
theorem dX11_count_39 : decode cX11_count 39 = .ok (.iconst 0, 1) := by decide +kernel
theorem dX11_count_40 : decode cX11_count 40 = .ok (.istore 4, 2) := by decide +kernel
theorem dX11_count_42 : decode cX11_count 42 = .ok (.iload 4, 2) := by decide +kernel
theorem dX11_count_44 : decode cX11_count 44 = .ok (.iconst 4, 1) := by decide +kernel
theorem dX11_count_45 : decode cX11_count 45 = .ok (.if_icmp .ge 19, 3) := by decide +kernel
theorem dX11_count_48 : decode cX11_count 48 = .ok (.iload_n 3, 1) := by decide +kernel
theorem dX11_count_49 : decode cX11_count 49 = .ok (.aload_n 0, 1) := by decide +kernel
theorem dX11_count_50 : decode cX11_count 50 = .ok (.getfield 28, 3) := by decide +kernel
theorem dX11_count_53 : decode cX11_count 53 = .ok (.iload 4, 2) := by decide +kernel
theorem dX11_count_55 : decode cX11_count 55 = .ok (.iaload, 1) := by decide +kernel
theorem dX11_count_56 : decode cX11_count 56 = .ok (.iadd, 1) := by decide +kernel
theorem dX11_count_57 : decode cX11_count 57 = .ok (.istore_n 3, 1) := by decide +kernel
theorem dX11_count_58 : decode cX11_count 58 = .ok (.iinc 4 1, 3) := by decide +kernel
theorem dX11_count_61 : decode cX11_count 61 = .ok (.goto (-19), 3) := by decide +kernel
theorem dX11_count_64 : decode cX11_count 64 = .ok (.iload_n 1, 1) := by decide +kernel
theorem dX11_count_65 : decode cX11_count 65 = .ok (.tableswitch 45 0 3 #[31, 36, 41, 43], 31) := by decide +kernel
theorem dX11_count_96 : decode cX11_count 96 = .ok (.aload_n 0, 1) := by decide +kernel
theorem dX11_count_97 : decode cX11_count 97 = .ok (.getfield 69, 3) := by decide +kernel
theorem dX11_count_100 : decode cX11_count 100 = .ok (.ireturn, 1) := by decide +kernel
theorem dX11_count_101 : decode cX11_count 101 = .ok (.aload_n 0, 1) := by decide +kernel
theorem dX11_count_102 : decode cX11_count 102 = .ok (.getfield 180, 3) := by decide +kernel
theorem dX11_count_105 : decode cX11_count 105 = .ok (.ireturn, 1) := by decide +kernel
theorem dX11_count_106 : decode cX11_count 106 = .ok (.iload_n 2, 1) := by decide +kernel
theorem dX11_count_107 : decode cX11_count 107 = .ok (.ireturn, 1) := by decide +kernel
theorem dX11_count_108 : decode cX11_count 108 = .ok (.iload_n 3, 1) := by decide +kernel
theorem dX11_count_109 : decode cX11_count 109 = .ok (.ireturn, 1) := by decide +kernel
theorem dX11_count_110 : decode cX11_count 110 = .ok (.bipush (-2), 2) := by decide +kernel
theorem dX11_count_112 : decode cX11_count 112 = .ok (.ireturn, 1) := by decide +kernel
end
section
theorem dL_law_0 : decode cL_law 0 = .ok (.new 7, 3) := by decide +kernel
theorem dL_law_3 : decode cL_law 3 = .ok (.dup, 1) := by decide +kernel
theorem dL_law_4 : decode cL_law 4 = .ok (.invokespecial 9, 3) := by decide +kernel
theorem dL_law_7 : decode cL_law 7 = .ok (.astore_n 1, 1) := by decide +kernel
theorem dL_law_8 : decode cL_law 8 = .ok (.new 10, 3) := by decide +kernel
theorem dL_law_11 : decode cL_law 11 = .ok (.dup, 1) := by decide +kernel
theorem dL_law_12 : decode cL_law 12 = .ok (.invokespecial 12, 3) := by decide +kernel
theorem dL_law_15 : decode cL_law 15 = .ok (.astore_n 2, 1) := by decide +kernel
theorem dL_law_16 : decode cL_law 16 = .ok (.iconst 0, 1) := by decide +kernel
theorem dL_law_17 : decode cL_law 17 = .ok (.istore_n 3, 1) := by decide +kernel
theorem dL_law_18 : decode cL_law 18 = .ok (.iload_n 3, 1) := by decide +kernel
theorem dL_law_19 : decode cL_law 19 = .ok (.aload_n 0, 1) := by decide +kernel
theorem dL_law_20 : decode cL_law 20 = .ok (.arraylength, 1) := by decide +kernel
theorem dL_law_21 : decode cL_law 21 = .ok (.bipush 7, 2) := by decide +kernel
theorem dL_law_23 : decode cL_law 23 = .ok (.isub, 1) := by decide +kernel
theorem dL_law_24 : decode cL_law 24 = .ok (.if_icmp .gt 1484, 3) := by decide +kernel
theorem dL_law_27 : decode cL_law 27 = .ok (.aload_n 0, 1) := by decide +kernel
theorem dL_law_28 : decode cL_law 28 = .ok (.iload_n 3, 1) := by decide +kernel
theorem dL_law_29 : decode cL_law 29 = .ok (.iaload, 1) := by decide +kernel
theorem dL_law_30 : decode cL_law 30 = .ok (.bipush 63, 2) := by decide +kernel
theorem dL_law_32 : decode cL_law 32 = .ok (.iand, 1) := by decide +kernel
theorem dL_law_33 : decode cL_law 33 = .ok (.tableswitch 1469 0 39 #[175, 238, 251, 290, 303, 326, 349, 392, 425, 468, 501, 544, 587, 646, 669, 702, 735, 778, 831, 874, 913, 988, 1001, 1034, 1067, 1127, 1160, 1210, 1223, 1236, 1249, 1262, 1275, 1298, 1321, 1344, 1377, 1400, 1423, 1446], 175) := by decide +kernel
theorem dL_law_208 : decode cL_law 208 = .ok (.aload_n 1, 1) := by decide +kernel
theorem dL_law_209 : decode cL_law 209 = .ok (.aload_n 0, 1) := by decide +kernel
theorem dL_law_210 : decode cL_law 210 = .ok (.iload_n 3, 1) := by decide +kernel
theorem dL_law_211 : decode cL_law 211 = .ok (.iconst 1, 1) := by decide +kernel
theorem dL_law_212 : decode cL_law 212 = .ok (.iadd, 1) := by decide +kernel
theorem dL_law_213 : decode cL_law 213 = .ok (.iaload, 1) := by decide +kernel
theorem dL_law_214 : decode cL_law 214 = .ok (.aload_n 0, 1) := by decide +kernel
theorem dL_law_215 : decode cL_law 215 = .ok (.iload_n 3, 1) := by decide +kernel
theorem dL_law_216 : decode cL_law 216 = .ok (.iconst 2, 1) := by decide +kernel
theorem dL_law_217 : decode cL_law 217 = .ok (.iadd, 1) := by decide +kernel
theorem dL_law_218 : decode cL_law 218 = .ok (.iaload, 1) := by decide +kernel
theorem dL_law_219 : decode cL_law 219 = .ok (.i2l, 1) := by decide +kernel
theorem dL_law_220 : decode cL_law 220 = .ok (.bipush 32, 2) := by decide +kernel
theorem dL_law_222 : decode cL_law 222 = .ok (.lshl, 1) := by decide +kernel
theorem dL_law_223 : decode cL_law 223 = .ok (.aload_n 0, 1) := by decide +kernel
theorem dL_law_224 : decode cL_law 224 = .ok (.iload_n 3, 1) := by decide +kernel
theorem dL_law_225 : decode cL_law 225 = .ok (.iconst 3, 1) := by decide +kernel
theorem dL_law_226 : decode cL_law 226 = .ok (.iadd, 1) := by decide +kernel
theorem dL_law_227 : decode cL_law 227 = .ok (.iaload, 1) := by decide +kernel
theorem dL_law_228 : decode cL_law 228 = .ok (.i2l, 1) := by decide +kernel
theorem dL_law_229 : decode cL_law 229 = .ok (.ldc2_w 13, 3) := by decide +kernel
theorem dL_law_232 : decode cL_law 232 = .ok (.land, 1) := by decide +kernel
theorem dL_law_233 : decode cL_law 233 = .ok (.lor, 1) := by decide +kernel
theorem dL_law_234 : decode cL_law 234 = .ok (.invokevirtual 15, 3) := by decide +kernel
theorem dL_law_237 : decode cL_law 237 = .ok (.aload_n 2, 1) := by decide +kernel
theorem dL_law_238 : decode cL_law 238 = .ok (.aload_n 0, 1) := by decide +kernel
theorem dL_law_239 : decode cL_law 239 = .ok (.iload_n 3, 1) := by decide +kernel
theorem dL_law_240 : decode cL_law 240 = .ok (.iconst 1, 1) := by decide +kernel
theorem dL_law_241 : decode cL_law 241 = .ok (.iadd, 1) := by decide +kernel
theorem dL_law_242 : decode cL_law 242 = .ok (.iaload, 1) := by decide +kernel
theorem dL_law_243 : decode cL_law 243 = .ok (.aload_n 0, 1) := by decide +kernel
theorem dL_law_244 : decode cL_law 244 = .ok (.iload_n 3, 1) := by decide +kernel
theorem dL_law_245 : decode cL_law 245 = .ok (.iconst 2, 1) := by decide +kernel
theorem dL_law_246 : decode cL_law 246 = .ok (.iadd, 1) := by decide +kernel
theorem dL_law_247 : decode cL_law 247 = .ok (.iaload, 1) := by decide +kernel
theorem dL_law_248 : decode cL_law 248 = .ok (.i2l, 1) := by decide +kernel
theorem dL_law_249 : decode cL_law 249 = .ok (.bipush 32, 2) := by decide +kernel
theorem dL_law_251 : decode cL_law 251 = .ok (.lshl, 1) := by decide +kernel
theorem dL_law_252 : decode cL_law 252 = .ok (.aload_n 0, 1) := by decide +kernel
theorem dL_law_253 : decode cL_law 253 = .ok (.iload_n 3, 1) := by decide +kernel
theorem dL_law_254 : decode cL_law 254 = .ok (.iconst 3, 1) := by decide +kernel
theorem dL_law_255 : decode cL_law 255 = .ok (.iadd, 1) := by decide +kernel
theorem dL_law_256 : decode cL_law 256 = .ok (.iaload, 1) := by decide +kernel
theorem dL_law_257 : decode cL_law 257 = .ok (.i2l, 1) := by decide +kernel
theorem dL_law_258 : decode cL_law 258 = .ok (.ldc2_w 13, 3) := by decide +kernel
theorem dL_law_261 : decode cL_law 261 = .ok (.land, 1) := by decide +kernel
theorem dL_law_262 : decode cL_law 262 = .ok (.lor, 1) := by decide +kernel
theorem dL_law_263 : decode cL_law 263 = .ok (.invokevirtual 19, 3) := by decide +kernel
theorem dL_law_266 : decode cL_law 266 = .ok (.if_icmp .eq 1236, 3) := by decide +kernel
theorem dL_law_269 : decode cL_law 269 = .ok (.iconst 0, 1) := by decide +kernel
theorem dL_law_270 : decode cL_law 270 = .ok (.ireturn, 1) := by decide +kernel
theorem dL_law_271 : decode cL_law 271 = .ok (.aload_n 1, 1) := by decide +kernel
theorem dL_law_272 : decode cL_law 272 = .ok (.invokevirtual 20, 3) := by decide +kernel
theorem dL_law_275 : decode cL_law 275 = .ok (.aload_n 2, 1) := by decide +kernel
theorem dL_law_276 : decode cL_law 276 = .ok (.invokevirtual 24, 3) := by decide +kernel
theorem dL_law_279 : decode cL_law 279 = .ok (.if_icmp .eq 1223, 3) := by decide +kernel
theorem dL_law_282 : decode cL_law 282 = .ok (.iconst 0, 1) := by decide +kernel
theorem dL_law_283 : decode cL_law 283 = .ok (.ireturn, 1) := by decide +kernel
theorem dL_law_284 : decode cL_law 284 = .ok (.aload_n 1, 1) := by decide +kernel
theorem dL_law_285 : decode cL_law 285 = .ok (.aload_n 0, 1) := by decide +kernel
theorem dL_law_286 : decode cL_law 286 = .ok (.iload_n 3, 1) := by decide +kernel
theorem dL_law_287 : decode cL_law 287 = .ok (.iconst 1, 1) := by decide +kernel
theorem dL_law_288 : decode cL_law 288 = .ok (.iadd, 1) := by decide +kernel
theorem dL_law_289 : decode cL_law 289 = .ok (.iaload, 1) := by decide +kernel
theorem dL_law_290 : decode cL_law 290 = .ok (.ifCond .eq 7, 3) := by decide +kernel
theorem dL_law_293 : decode cL_law 293 = .ok (.iconst 1, 1) := by decide +kernel
theorem dL_law_294 : decode cL_law 294 = .ok (.goto 4, 3) := by decide +kernel
theorem dL_law_297 : decode cL_law 297 = .ok (.iconst 0, 1) := by decide +kernel
theorem dL_law_298 : decode cL_law 298 = .ok (.invokevirtual 25, 3) := by decide +kernel
theorem dL_law_301 : decode cL_law 301 = .ok (.aload_n 2, 1) := by decide +kernel
theorem dL_law_302 : decode cL_law 302 = .ok (.aload_n 0, 1) := by decide +kernel
theorem dL_law_303 : decode cL_law 303 = .ok (.iload_n 3, 1) := by decide +kernel
theorem dL_law_304 : decode cL_law 304 = .ok (.iconst 1, 1) := by decide +kernel
theorem dL_law_305 : decode cL_law 305 = .ok (.iadd, 1) := by decide +kernel
theorem dL_law_306 : decode cL_law 306 = .ok (.iaload, 1) := by decide +kernel
theorem dL_law_307 : decode cL_law 307 = .ok (.ifCond .eq 7, 3) := by decide +kernel
theorem dL_law_310 : decode cL_law 310 = .ok (.iconst 1, 1) := by decide +kernel
theorem dL_law_311 : decode cL_law 311 = .ok (.goto 4, 3) := by decide +kernel
theorem dL_law_314 : decode cL_law 314 = .ok (.iconst 0, 1) := by decide +kernel
theorem dL_law_315 : decode cL_law 315 = .ok (.invokevirtual 29, 3) := by decide +kernel
theorem dL_law_318 : decode cL_law 318 = .ok (.if_icmp .eq 1184, 3) := by decide +kernel
theorem dL_law_321 : decode cL_law 321 = .ok (.iconst 0, 1) := by decide +kernel
theorem dL_law_322 : decode cL_law 322 = .ok (.ireturn, 1) := by decide +kernel
theorem dL_law_323 : decode cL_law 323 = .ok (.aload_n 1, 1) := by decide +kernel
theorem dL_law_324 : decode cL_law 324 = .ok (.invokevirtual 30, 3) := by decide +kernel
theorem dL_law_327 : decode cL_law 327 = .ok (.aload_n 2, 1) := by decide +kernel
theorem dL_law_328 : decode cL_law 328 = .ok (.invokevirtual 33, 3) := by decide +kernel
theorem dL_law_331 : decode cL_law 331 = .ok (.if_icmp .eq 1171, 3) := by decide +kernel
theorem dL_law_334 : decode cL_law 334 = .ok (.iconst 0, 1) := by decide +kernel
theorem dL_law_335 : decode cL_law 335 = .ok (.ireturn, 1) := by decide +kernel
theorem dL_law_336 : decode cL_law 336 = .ok (.aload_n 1, 1) := by decide +kernel
theorem dL_law_337 : decode cL_law 337 = .ok (.aload_n 0, 1) := by decide +kernel
theorem dL_law_338 : decode cL_law 338 = .ok (.iload_n 3, 1) := by decide +kernel
theorem dL_law_339 : decode cL_law 339 = .ok (.iconst 1, 1) := by decide +kernel
theorem dL_law_340 : decode cL_law 340 = .ok (.iadd, 1) := by decide +kernel
theorem dL_law_341 : decode cL_law 341 = .ok (.iaload, 1) := by decide +kernel
theorem dL_law_342 : decode cL_law 342 = .ok (.invokevirtual 34, 3) := by decide +kernel
theorem dL_law_345 : decode cL_law 345 = .ok (.aload_n 2, 1) := by decide +kernel
theorem dL_law_346 : decode cL_law 346 = .ok (.aload_n 0, 1) := by decide +kernel
theorem dL_law_347 : decode cL_law 347 = .ok (.iload_n 3, 1) := by decide +kernel
theorem dL_law_348 : decode cL_law 348 = .ok (.iconst 1, 1) := by decide +kernel
theorem dL_law_349 : decode cL_law 349 = .ok (.iadd, 1) := by decide +kernel
theorem dL_law_350 : decode cL_law 350 = .ok (.iaload, 1) := by decide +kernel
theorem dL_law_351 : decode cL_law 351 = .ok (.invokevirtual 38, 3) := by decide +kernel
theorem dL_law_354 : decode cL_law 354 = .ok (.if_icmp .eq 1148, 3) := by decide +kernel
theorem dL_law_357 : decode cL_law 357 = .ok (.iconst 0, 1) := by decide +kernel
theorem dL_law_358 : decode cL_law 358 = .ok (.ireturn, 1) := by decide +kernel
theorem dL_law_359 : decode cL_law 359 = .ok (.aload_n 1, 1) := by decide +kernel
theorem dL_law_360 : decode cL_law 360 = .ok (.aload_n 0, 1) := by decide +kernel
theorem dL_law_361 : decode cL_law 361 = .ok (.iload_n 3, 1) := by decide +kernel
theorem dL_law_362 : decode cL_law 362 = .ok (.iconst 1, 1) := by decide +kernel
theorem dL_law_363 : decode cL_law 363 = .ok (.iadd, 1) := by decide +kernel
theorem dL_law_364 : decode cL_law 364 = .ok (.iaload, 1) := by decide +kernel
theorem dL_law_365 : decode cL_law 365 = .ok (.invokevirtual 39, 3) := by decide +kernel
theorem dL_law_368 : decode cL_law 368 = .ok (.aload_n 2, 1) := by decide +kernel
theorem dL_law_369 : decode cL_law 369 = .ok (.aload_n 0, 1) := by decide +kernel
theorem dL_law_370 : decode cL_law 370 = .ok (.iload_n 3, 1) := by decide +kernel
theorem dL_law_371 : decode cL_law 371 = .ok (.iconst 1, 1) := by decide +kernel
theorem dL_law_372 : decode cL_law 372 = .ok (.iadd, 1) := by decide +kernel
theorem dL_law_373 : decode cL_law 373 = .ok (.iaload, 1) := by decide +kernel
theorem dL_law_374 : decode cL_law 374 = .ok (.invokevirtual 42, 3) := by decide +kernel
theorem dL_law_377 : decode cL_law 377 = .ok (.if_icmp .eq 1125, 3) := by decide +kernel
theorem dL_law_380 : decode cL_law 380 = .ok (.iconst 0, 1) := by decide +kernel
theorem dL_law_381 : decode cL_law 381 = .ok (.ireturn, 1) := by decide +kernel
theorem dL_law_382 : decode cL_law 382 = .ok (.aload_n 1, 1) := by decide +kernel
theorem dL_law_383 : decode cL_law 383 = .ok (.aload_n 0, 1) := by decide +kernel
theorem dL_law_384 : decode cL_law 384 = .ok (.iload_n 3, 1) := by decide +kernel
theorem dL_law_385 : decode cL_law 385 = .ok (.iconst 1, 1) := by decide +kernel
theorem dL_law_386 : decode cL_law 386 = .ok (.iadd, 1) := by decide +kernel
theorem dL_law_387 : decode cL_law 387 = .ok (.iaload, 1) := by decide +kernel
theorem dL_law_388 : decode cL_law 388 = .ok (.aload_n 0, 1) := by decide +kernel
theorem dL_law_389 : decode cL_law 389 = .ok (.iload_n 3, 1) := by decide +kernel
theorem dL_law_390 : decode cL_law 390 = .ok (.iconst 2, 1) := by decide +kernel
theorem dL_law_391 : decode cL_law 391 = .ok (.iadd, 1) := by decide +kernel
theorem dL_law_392 : decode cL_law 392 = .ok (.iaload, 1) := by decide +kernel
theorem dL_law_393 : decode cL_law 393 = .ok (.aload_n 0, 1) := by decide +kernel
theorem dL_law_394 : decode cL_law 394 = .ok (.iload_n 3, 1) := by decide +kernel
theorem dL_law_395 : decode cL_law 395 = .ok (.iconst 3, 1) := by decide +kernel
theorem dL_law_396 : decode cL_law 396 = .ok (.iadd, 1) := by decide +kernel
theorem dL_law_397 : decode cL_law 397 = .ok (.iaload, 1) := by decide +kernel
theorem dL_law_398 : decode cL_law 398 = .ok (.invokevirtual 43, 3) := by decide +kernel
theorem dL_law_401 : decode cL_law 401 = .ok (.aload_n 2, 1) := by decide +kernel
theorem dL_law_402 : decode cL_law 402 = .ok (.aload_n 0, 1) := by decide +kernel
theorem dL_law_403 : decode cL_law 403 = .ok (.iload_n 3, 1) := by decide +kernel
theorem dL_law_404 : decode cL_law 404 = .ok (.iconst 1, 1) := by decide +kernel
theorem dL_law_405 : decode cL_law 405 = .ok (.iadd, 1) := by decide +kernel
theorem dL_law_406 : decode cL_law 406 = .ok (.iaload, 1) := by decide +kernel
theorem dL_law_407 : decode cL_law 407 = .ok (.aload_n 0, 1) := by decide +kernel
theorem dL_law_408 : decode cL_law 408 = .ok (.iload_n 3, 1) := by decide +kernel
theorem dL_law_409 : decode cL_law 409 = .ok (.iconst 2, 1) := by decide +kernel
theorem dL_law_410 : decode cL_law 410 = .ok (.iadd, 1) := by decide +kernel
theorem dL_law_411 : decode cL_law 411 = .ok (.iaload, 1) := by decide +kernel
theorem dL_law_412 : decode cL_law 412 = .ok (.aload_n 0, 1) := by decide +kernel
theorem dL_law_413 : decode cL_law 413 = .ok (.iload_n 3, 1) := by decide +kernel
theorem dL_law_414 : decode cL_law 414 = .ok (.iconst 3, 1) := by decide +kernel
theorem dL_law_415 : decode cL_law 415 = .ok (.iadd, 1) := by decide +kernel
theorem dL_law_416 : decode cL_law 416 = .ok (.iaload, 1) := by decide +kernel
theorem dL_law_417 : decode cL_law 417 = .ok (.invokevirtual 47, 3) := by decide +kernel
theorem dL_law_420 : decode cL_law 420 = .ok (.if_icmp .eq 1082, 3) := by decide +kernel
theorem dL_law_423 : decode cL_law 423 = .ok (.iconst 0, 1) := by decide +kernel
theorem dL_law_424 : decode cL_law 424 = .ok (.ireturn, 1) := by decide +kernel
theorem dL_law_425 : decode cL_law 425 = .ok (.aload_n 1, 1) := by decide +kernel
theorem dL_law_426 : decode cL_law 426 = .ok (.aload_n 0, 1) := by decide +kernel
theorem dL_law_427 : decode cL_law 427 = .ok (.iload_n 3, 1) := by decide +kernel
theorem dL_law_428 : decode cL_law 428 = .ok (.iconst 1, 1) := by decide +kernel
theorem dL_law_429 : decode cL_law 429 = .ok (.iadd, 1) := by decide +kernel
theorem dL_law_430 : decode cL_law 430 = .ok (.iaload, 1) := by decide +kernel
theorem dL_law_431 : decode cL_law 431 = .ok (.aload_n 0, 1) := by decide +kernel
theorem dL_law_432 : decode cL_law 432 = .ok (.iload_n 3, 1) := by decide +kernel
theorem dL_law_433 : decode cL_law 433 = .ok (.iconst 2, 1) := by decide +kernel
theorem dL_law_434 : decode cL_law 434 = .ok (.iadd, 1) := by decide +kernel
theorem dL_law_435 : decode cL_law 435 = .ok (.iaload, 1) := by decide +kernel
theorem dL_law_436 : decode cL_law 436 = .ok (.invokevirtual 48, 3) := by decide +kernel
theorem dL_law_439 : decode cL_law 439 = .ok (.aload_n 2, 1) := by decide +kernel
theorem dL_law_440 : decode cL_law 440 = .ok (.aload_n 0, 1) := by decide +kernel
theorem dL_law_441 : decode cL_law 441 = .ok (.iload_n 3, 1) := by decide +kernel
theorem dL_law_442 : decode cL_law 442 = .ok (.iconst 1, 1) := by decide +kernel
theorem dL_law_443 : decode cL_law 443 = .ok (.iadd, 1) := by decide +kernel
theorem dL_law_444 : decode cL_law 444 = .ok (.iaload, 1) := by decide +kernel
theorem dL_law_445 : decode cL_law 445 = .ok (.aload_n 0, 1) := by decide +kernel
theorem dL_law_446 : decode cL_law 446 = .ok (.iload_n 3, 1) := by decide +kernel
theorem dL_law_447 : decode cL_law 447 = .ok (.iconst 2, 1) := by decide +kernel
theorem dL_law_448 : decode cL_law 448 = .ok (.iadd, 1) := by decide +kernel
theorem dL_law_449 : decode cL_law 449 = .ok (.iaload, 1) := by decide +kernel
theorem dL_law_450 : decode cL_law 450 = .ok (.invokevirtual 52, 3) := by decide +kernel
theorem dL_law_453 : decode cL_law 453 = .ok (.if_icmp .eq 1049, 3) := by decide +kernel
theorem dL_law_456 : decode cL_law 456 = .ok (.iconst 0, 1) := by decide +kernel
theorem dL_law_457 : decode cL_law 457 = .ok (.ireturn, 1) := by decide +kernel
theorem dL_law_458 : decode cL_law 458 = .ok (.aload_n 1, 1) := by decide +kernel
theorem dL_law_459 : decode cL_law 459 = .ok (.aload_n 0, 1) := by decide +kernel
theorem dL_law_460 : decode cL_law 460 = .ok (.iload_n 3, 1) := by decide +kernel
theorem dL_law_461 : decode cL_law 461 = .ok (.iconst 1, 1) := by decide +kernel
theorem dL_law_462 : decode cL_law 462 = .ok (.iadd, 1) := by decide +kernel
theorem dL_law_463 : decode cL_law 463 = .ok (.iaload, 1) := by decide +kernel
theorem dL_law_464 : decode cL_law 464 = .ok (.aload_n 0, 1) := by decide +kernel
theorem dL_law_465 : decode cL_law 465 = .ok (.iload_n 3, 1) := by decide +kernel
theorem dL_law_466 : decode cL_law 466 = .ok (.iconst 2, 1) := by decide +kernel
theorem dL_law_467 : decode cL_law 467 = .ok (.iadd, 1) := by decide +kernel
theorem dL_law_468 : decode cL_law 468 = .ok (.iaload, 1) := by decide +kernel
theorem dL_law_469 : decode cL_law 469 = .ok (.aload_n 0, 1) := by decide +kernel
theorem dL_law_470 : decode cL_law 470 = .ok (.iload_n 3, 1) := by decide +kernel
theorem dL_law_471 : decode cL_law 471 = .ok (.iconst 3, 1) := by decide +kernel
theorem dL_law_472 : decode cL_law 472 = .ok (.iadd, 1) := by decide +kernel
theorem dL_law_473 : decode cL_law 473 = .ok (.iaload, 1) := by decide +kernel
theorem dL_law_474 : decode cL_law 474 = .ok (.invokevirtual 53, 3) := by decide +kernel
theorem dL_law_477 : decode cL_law 477 = .ok (.aload_n 2, 1) := by decide +kernel
theorem dL_law_478 : decode cL_law 478 = .ok (.aload_n 0, 1) := by decide +kernel
theorem dL_law_479 : decode cL_law 479 = .ok (.iload_n 3, 1) := by decide +kernel
theorem dL_law_480 : decode cL_law 480 = .ok (.iconst 1, 1) := by decide +kernel
theorem dL_law_481 : decode cL_law 481 = .ok (.iadd, 1) := by decide +kernel
theorem dL_law_482 : decode cL_law 482 = .ok (.iaload, 1) := by decide +kernel
theorem dL_law_483 : decode cL_law 483 = .ok (.aload_n 0, 1) := by decide +kernel
theorem dL_law_484 : decode cL_law 484 = .ok (.iload_n 3, 1) := by decide +kernel
theorem dL_law_485 : decode cL_law 485 = .ok (.iconst 2, 1) := by decide +kernel
theorem dL_law_486 : decode cL_law 486 = .ok (.iadd, 1) := by decide +kernel
theorem dL_law_487 : decode cL_law 487 = .ok (.iaload, 1) := by decide +kernel
theorem dL_law_488 : decode cL_law 488 = .ok (.aload_n 0, 1) := by decide +kernel
theorem dL_law_489 : decode cL_law 489 = .ok (.iload_n 3, 1) := by decide +kernel
theorem dL_law_490 : decode cL_law 490 = .ok (.iconst 3, 1) := by decide +kernel
theorem dL_law_491 : decode cL_law 491 = .ok (.iadd, 1) := by decide +kernel
theorem dL_law_492 : decode cL_law 492 = .ok (.iaload, 1) := by decide +kernel
theorem dL_law_493 : decode cL_law 493 = .ok (.invokevirtual 56, 3) := by decide +kernel
theorem dL_law_496 : decode cL_law 496 = .ok (.if_icmp .eq 1006, 3) := by decide +kernel
theorem dL_law_499 : decode cL_law 499 = .ok (.iconst 0, 1) := by decide +kernel
theorem dL_law_500 : decode cL_law 500 = .ok (.ireturn, 1) := by decide +kernel
theorem dL_law_501 : decode cL_law 501 = .ok (.aload_n 1, 1) := by decide +kernel
theorem dL_law_502 : decode cL_law 502 = .ok (.aload_n 0, 1) := by decide +kernel
theorem dL_law_503 : decode cL_law 503 = .ok (.iload_n 3, 1) := by decide +kernel
theorem dL_law_504 : decode cL_law 504 = .ok (.iconst 1, 1) := by decide +kernel
theorem dL_law_505 : decode cL_law 505 = .ok (.iadd, 1) := by decide +kernel
theorem dL_law_506 : decode cL_law 506 = .ok (.iaload, 1) := by decide +kernel
theorem dL_law_507 : decode cL_law 507 = .ok (.aload_n 0, 1) := by decide +kernel
theorem dL_law_508 : decode cL_law 508 = .ok (.iload_n 3, 1) := by decide +kernel
theorem dL_law_509 : decode cL_law 509 = .ok (.iconst 2, 1) := by decide +kernel
theorem dL_law_510 : decode cL_law 510 = .ok (.iadd, 1) := by decide +kernel
theorem dL_law_511 : decode cL_law 511 = .ok (.iaload, 1) := by decide +kernel
theorem dL_law_512 : decode cL_law 512 = .ok (.invokevirtual 57, 3) := by decide +kernel
theorem dL_law_515 : decode cL_law 515 = .ok (.aload_n 2, 1) := by decide +kernel
theorem dL_law_516 : decode cL_law 516 = .ok (.aload_n 0, 1) := by decide +kernel
theorem dL_law_517 : decode cL_law 517 = .ok (.iload_n 3, 1) := by decide +kernel
theorem dL_law_518 : decode cL_law 518 = .ok (.iconst 1, 1) := by decide +kernel
theorem dL_law_519 : decode cL_law 519 = .ok (.iadd, 1) := by decide +kernel
theorem dL_law_520 : decode cL_law 520 = .ok (.iaload, 1) := by decide +kernel
theorem dL_law_521 : decode cL_law 521 = .ok (.aload_n 0, 1) := by decide +kernel
theorem dL_law_522 : decode cL_law 522 = .ok (.iload_n 3, 1) := by decide +kernel
theorem dL_law_523 : decode cL_law 523 = .ok (.iconst 2, 1) := by decide +kernel
theorem dL_law_524 : decode cL_law 524 = .ok (.iadd, 1) := by decide +kernel
theorem dL_law_525 : decode cL_law 525 = .ok (.iaload, 1) := by decide +kernel
theorem dL_law_526 : decode cL_law 526 = .ok (.invokevirtual 60, 3) := by decide +kernel
theorem dL_law_529 : decode cL_law 529 = .ok (.if_icmp .eq 973, 3) := by decide +kernel
theorem dL_law_532 : decode cL_law 532 = .ok (.iconst 0, 1) := by decide +kernel
theorem dL_law_533 : decode cL_law 533 = .ok (.ireturn, 1) := by decide +kernel
theorem dL_law_534 : decode cL_law 534 = .ok (.aload_n 1, 1) := by decide +kernel
theorem dL_law_535 : decode cL_law 535 = .ok (.aload_n 0, 1) := by decide +kernel
theorem dL_law_536 : decode cL_law 536 = .ok (.iload_n 3, 1) := by decide +kernel
theorem dL_law_537 : decode cL_law 537 = .ok (.iconst 1, 1) := by decide +kernel
theorem dL_law_538 : decode cL_law 538 = .ok (.iadd, 1) := by decide +kernel
theorem dL_law_539 : decode cL_law 539 = .ok (.iaload, 1) := by decide +kernel
theorem dL_law_540 : decode cL_law 540 = .ok (.aload_n 0, 1) := by decide +kernel
theorem dL_law_541 : decode cL_law 541 = .ok (.iload_n 3, 1) := by decide +kernel
theorem dL_law_542 : decode cL_law 542 = .ok (.iconst 2, 1) := by decide +kernel
theorem dL_law_543 : decode cL_law 543 = .ok (.iadd, 1) := by decide +kernel
theorem dL_law_544 : decode cL_law 544 = .ok (.iaload, 1) := by decide +kernel
theorem dL_law_545 : decode cL_law 545 = .ok (.aload_n 0, 1) := by decide +kernel
theorem dL_law_546 : decode cL_law 546 = .ok (.iload_n 3, 1) := by decide +kernel
theorem dL_law_547 : decode cL_law 547 = .ok (.iconst 3, 1) := by decide +kernel
theorem dL_law_548 : decode cL_law 548 = .ok (.iadd, 1) := by decide +kernel
theorem dL_law_549 : decode cL_law 549 = .ok (.iaload, 1) := by decide +kernel
theorem dL_law_550 : decode cL_law 550 = .ok (.invokevirtual 61, 3) := by decide +kernel
theorem dL_law_553 : decode cL_law 553 = .ok (.aload_n 2, 1) := by decide +kernel
theorem dL_law_554 : decode cL_law 554 = .ok (.aload_n 0, 1) := by decide +kernel
theorem dL_law_555 : decode cL_law 555 = .ok (.iload_n 3, 1) := by decide +kernel
theorem dL_law_556 : decode cL_law 556 = .ok (.iconst 1, 1) := by decide +kernel
theorem dL_law_557 : decode cL_law 557 = .ok (.iadd, 1) := by decide +kernel
theorem dL_law_558 : decode cL_law 558 = .ok (.iaload, 1) := by decide +kernel
theorem dL_law_559 : decode cL_law 559 = .ok (.aload_n 0, 1) := by decide +kernel
theorem dL_law_560 : decode cL_law 560 = .ok (.iload_n 3, 1) := by decide +kernel
theorem dL_law_561 : decode cL_law 561 = .ok (.iconst 2, 1) := by decide +kernel
theorem dL_law_562 : decode cL_law 562 = .ok (.iadd, 1) := by decide +kernel
theorem dL_law_563 : decode cL_law 563 = .ok (.iaload, 1) := by decide +kernel
theorem dL_law_564 : decode cL_law 564 = .ok (.aload_n 0, 1) := by decide +kernel
theorem dL_law_565 : decode cL_law 565 = .ok (.iload_n 3, 1) := by decide +kernel
theorem dL_law_566 : decode cL_law 566 = .ok (.iconst 3, 1) := by decide +kernel
theorem dL_law_567 : decode cL_law 567 = .ok (.iadd, 1) := by decide +kernel
theorem dL_law_568 : decode cL_law 568 = .ok (.iaload, 1) := by decide +kernel
theorem dL_law_569 : decode cL_law 569 = .ok (.invokevirtual 64, 3) := by decide +kernel
theorem dL_law_572 : decode cL_law 572 = .ok (.if_icmp .eq 930, 3) := by decide +kernel
theorem dL_law_575 : decode cL_law 575 = .ok (.iconst 0, 1) := by decide +kernel
theorem dL_law_576 : decode cL_law 576 = .ok (.ireturn, 1) := by decide +kernel
theorem dL_law_577 : decode cL_law 577 = .ok (.aload_n 1, 1) := by decide +kernel
theorem dL_law_578 : decode cL_law 578 = .ok (.aload_n 0, 1) := by decide +kernel
theorem dL_law_579 : decode cL_law 579 = .ok (.iload_n 3, 1) := by decide +kernel
theorem dL_law_580 : decode cL_law 580 = .ok (.iconst 1, 1) := by decide +kernel
theorem dL_law_581 : decode cL_law 581 = .ok (.iadd, 1) := by decide +kernel
theorem dL_law_582 : decode cL_law 582 = .ok (.iaload, 1) := by decide +kernel
theorem dL_law_583 : decode cL_law 583 = .ok (.aload_n 0, 1) := by decide +kernel
theorem dL_law_584 : decode cL_law 584 = .ok (.iload_n 3, 1) := by decide +kernel
theorem dL_law_585 : decode cL_law 585 = .ok (.iconst 2, 1) := by decide +kernel
theorem dL_law_586 : decode cL_law 586 = .ok (.iadd, 1) := by decide +kernel
theorem dL_law_587 : decode cL_law 587 = .ok (.iaload, 1) := by decide +kernel
theorem dL_law_588 : decode cL_law 588 = .ok (.aload_n 0, 1) := by decide +kernel
theorem dL_law_589 : decode cL_law 589 = .ok (.iload_n 3, 1) := by decide +kernel
theorem dL_law_590 : decode cL_law 590 = .ok (.iconst 3, 1) := by decide +kernel
theorem dL_law_591 : decode cL_law 591 = .ok (.iadd, 1) := by decide +kernel
theorem dL_law_592 : decode cL_law 592 = .ok (.iaload, 1) := by decide +kernel
theorem dL_law_593 : decode cL_law 593 = .ok (.invokevirtual 65, 3) := by decide +kernel
theorem dL_law_596 : decode cL_law 596 = .ok (.aload_n 2, 1) := by decide +kernel
theorem dL_law_597 : decode cL_law 597 = .ok (.aload_n 0, 1) := by decide +kernel
theorem dL_law_598 : decode cL_law 598 = .ok (.iload_n 3, 1) := by decide +kernel
theorem dL_law_599 : decode cL_law 599 = .ok (.iconst 1, 1) := by decide +kernel
theorem dL_law_600 : decode cL_law 600 = .ok (.iadd, 1) := by decide +kernel
theorem dL_law_601 : decode cL_law 601 = .ok (.iaload, 1) := by decide +kernel
theorem dL_law_602 : decode cL_law 602 = .ok (.aload_n 0, 1) := by decide +kernel
theorem dL_law_603 : decode cL_law 603 = .ok (.iload_n 3, 1) := by decide +kernel
theorem dL_law_604 : decode cL_law 604 = .ok (.iconst 2, 1) := by decide +kernel
theorem dL_law_605 : decode cL_law 605 = .ok (.iadd, 1) := by decide +kernel
theorem dL_law_606 : decode cL_law 606 = .ok (.iaload, 1) := by decide +kernel
theorem dL_law_607 : decode cL_law 607 = .ok (.aload_n 0, 1) := by decide +kernel
theorem dL_law_608 : decode cL_law 608 = .ok (.iload_n 3, 1) := by decide +kernel
theorem dL_law_609 : decode cL_law 609 = .ok (.iconst 3, 1) := by decide +kernel
theorem dL_law_610 : decode cL_law 610 = .ok (.iadd, 1) := by decide +kernel
theorem dL_law_611 : decode cL_law 611 = .ok (.iaload, 1) := by decide +kernel
theorem dL_law_612 : decode cL_law 612 = .ok (.invokevirtual 68, 3) := by decide +kernel
theorem dL_law_615 : decode cL_law 615 = .ok (.if_icmp .eq 887, 3) := by decide +kernel
theorem dL_law_618 : decode cL_law 618 = .ok (.iconst 0, 1) := by decide +kernel
theorem dL_law_619 : decode cL_law 619 = .ok (.ireturn, 1) := by decide +kernel
theorem dL_law_620 : decode cL_law 620 = .ok (.aload_n 1, 1) := by decide +kernel
theorem dL_law_621 : decode cL_law 621 = .ok (.aload_n 0, 1) := by decide +kernel
theorem dL_law_622 : decode cL_law 622 = .ok (.iload_n 3, 1) := by decide +kernel
theorem dL_law_623 : decode cL_law 623 = .ok (.iconst 1, 1) := by decide +kernel
theorem dL_law_624 : decode cL_law 624 = .ok (.iadd, 1) := by decide +kernel
theorem dL_law_625 : decode cL_law 625 = .ok (.iaload, 1) := by decide +kernel
theorem dL_law_626 : decode cL_law 626 = .ok (.aload_n 0, 1) := by decide +kernel
theorem dL_law_627 : decode cL_law 627 = .ok (.iload_n 3, 1) := by decide +kernel
theorem dL_law_628 : decode cL_law 628 = .ok (.iconst 2, 1) := by decide +kernel
theorem dL_law_629 : decode cL_law 629 = .ok (.iadd, 1) := by decide +kernel
theorem dL_law_630 : decode cL_law 630 = .ok (.iaload, 1) := by decide +kernel
theorem dL_law_631 : decode cL_law 631 = .ok (.aload_n 0, 1) := by decide +kernel
theorem dL_law_632 : decode cL_law 632 = .ok (.iload_n 3, 1) := by decide +kernel
theorem dL_law_633 : decode cL_law 633 = .ok (.iconst 3, 1) := by decide +kernel
theorem dL_law_634 : decode cL_law 634 = .ok (.iadd, 1) := by decide +kernel
theorem dL_law_635 : decode cL_law 635 = .ok (.iaload, 1) := by decide +kernel
theorem dL_law_636 : decode cL_law 636 = .ok (.ifCond .eq 7, 3) := by decide +kernel
theorem dL_law_639 : decode cL_law 639 = .ok (.iconst 1, 1) := by decide +kernel
theorem dL_law_640 : decode cL_law 640 = .ok (.goto 4, 3) := by decide +kernel
theorem dL_law_643 : decode cL_law 643 = .ok (.iconst 0, 1) := by decide +kernel
theorem dL_law_644 : decode cL_law 644 = .ok (.invokevirtual 69, 3) := by decide +kernel
theorem dL_law_647 : decode cL_law 647 = .ok (.aload_n 2, 1) := by decide +kernel
theorem dL_law_648 : decode cL_law 648 = .ok (.aload_n 0, 1) := by decide +kernel
theorem dL_law_649 : decode cL_law 649 = .ok (.iload_n 3, 1) := by decide +kernel
theorem dL_law_650 : decode cL_law 650 = .ok (.iconst 1, 1) := by decide +kernel
theorem dL_law_651 : decode cL_law 651 = .ok (.iadd, 1) := by decide +kernel
theorem dL_law_652 : decode cL_law 652 = .ok (.iaload, 1) := by decide +kernel
theorem dL_law_653 : decode cL_law 653 = .ok (.aload_n 0, 1) := by decide +kernel
theorem dL_law_654 : decode cL_law 654 = .ok (.iload_n 3, 1) := by decide +kernel
theorem dL_law_655 : decode cL_law 655 = .ok (.iconst 2, 1) := by decide +kernel
theorem dL_law_656 : decode cL_law 656 = .ok (.iadd, 1) := by decide +kernel
theorem dL_law_657 : decode cL_law 657 = .ok (.iaload, 1) := by decide +kernel
theorem dL_law_658 : decode cL_law 658 = .ok (.aload_n 0, 1) := by decide +kernel
theorem dL_law_659 : decode cL_law 659 = .ok (.iload_n 3, 1) := by decide +kernel
theorem dL_law_660 : decode cL_law 660 = .ok (.iconst 3, 1) := by decide +kernel
theorem dL_law_661 : decode cL_law 661 = .ok (.iadd, 1) := by decide +kernel
theorem dL_law_662 : decode cL_law 662 = .ok (.iaload, 1) := by decide +kernel
theorem dL_law_663 : decode cL_law 663 = .ok (.ifCond .eq 7, 3) := by decide +kernel
theorem dL_law_666 : decode cL_law 666 = .ok (.iconst 1, 1) := by decide +kernel
theorem dL_law_667 : decode cL_law 667 = .ok (.goto 4, 3) := by decide +kernel
theorem dL_law_670 : decode cL_law 670 = .ok (.iconst 0, 1) := by decide +kernel
theorem dL_law_671 : decode cL_law 671 = .ok (.invokevirtual 73, 3) := by decide +kernel
theorem dL_law_674 : decode cL_law 674 = .ok (.if_icmp .eq 828, 3) := by decide +kernel
theorem dL_law_677 : decode cL_law 677 = .ok (.iconst 0, 1) := by decide +kernel
theorem dL_law_678 : decode cL_law 678 = .ok (.ireturn, 1) := by decide +kernel
theorem dL_law_679 : decode cL_law 679 = .ok (.aload_n 1, 1) := by decide +kernel
theorem dL_law_680 : decode cL_law 680 = .ok (.aload_n 0, 1) := by decide +kernel
theorem dL_law_681 : decode cL_law 681 = .ok (.iload_n 3, 1) := by decide +kernel
theorem dL_law_682 : decode cL_law 682 = .ok (.iconst 1, 1) := by decide +kernel
theorem dL_law_683 : decode cL_law 683 = .ok (.iadd, 1) := by decide +kernel
theorem dL_law_684 : decode cL_law 684 = .ok (.iaload, 1) := by decide +kernel
theorem dL_law_685 : decode cL_law 685 = .ok (.invokevirtual 74, 3) := by decide +kernel
theorem dL_law_688 : decode cL_law 688 = .ok (.aload_n 2, 1) := by decide +kernel
theorem dL_law_689 : decode cL_law 689 = .ok (.aload_n 0, 1) := by decide +kernel
theorem dL_law_690 : decode cL_law 690 = .ok (.iload_n 3, 1) := by decide +kernel
theorem dL_law_691 : decode cL_law 691 = .ok (.iconst 1, 1) := by decide +kernel
theorem dL_law_692 : decode cL_law 692 = .ok (.iadd, 1) := by decide +kernel
theorem dL_law_693 : decode cL_law 693 = .ok (.iaload, 1) := by decide +kernel
theorem dL_law_694 : decode cL_law 694 = .ok (.invokevirtual 77, 3) := by decide +kernel
theorem dL_law_697 : decode cL_law 697 = .ok (.if_icmp .eq 805, 3) := by decide +kernel
theorem dL_law_700 : decode cL_law 700 = .ok (.iconst 0, 1) := by decide +kernel
theorem dL_law_701 : decode cL_law 701 = .ok (.ireturn, 1) := by decide +kernel
theorem dL_law_702 : decode cL_law 702 = .ok (.aload_n 1, 1) := by decide +kernel
theorem dL_law_703 : decode cL_law 703 = .ok (.aload_n 0, 1) := by decide +kernel
theorem dL_law_704 : decode cL_law 704 = .ok (.iload_n 3, 1) := by decide +kernel
theorem dL_law_705 : decode cL_law 705 = .ok (.iconst 1, 1) := by decide +kernel
theorem dL_law_706 : decode cL_law 706 = .ok (.iadd, 1) := by decide +kernel
theorem dL_law_707 : decode cL_law 707 = .ok (.iaload, 1) := by decide +kernel
theorem dL_law_708 : decode cL_law 708 = .ok (.aload_n 0, 1) := by decide +kernel
theorem dL_law_709 : decode cL_law 709 = .ok (.iload_n 3, 1) := by decide +kernel
theorem dL_law_710 : decode cL_law 710 = .ok (.iconst 2, 1) := by decide +kernel
theorem dL_law_711 : decode cL_law 711 = .ok (.iadd, 1) := by decide +kernel
theorem dL_law_712 : decode cL_law 712 = .ok (.iaload, 1) := by decide +kernel
theorem dL_law_713 : decode cL_law 713 = .ok (.invokevirtual 78, 3) := by decide +kernel
theorem dL_law_716 : decode cL_law 716 = .ok (.aload_n 2, 1) := by decide +kernel
theorem dL_law_717 : decode cL_law 717 = .ok (.aload_n 0, 1) := by decide +kernel
theorem dL_law_718 : decode cL_law 718 = .ok (.iload_n 3, 1) := by decide +kernel
theorem dL_law_719 : decode cL_law 719 = .ok (.iconst 1, 1) := by decide +kernel
theorem dL_law_720 : decode cL_law 720 = .ok (.iadd, 1) := by decide +kernel
theorem dL_law_721 : decode cL_law 721 = .ok (.iaload, 1) := by decide +kernel
theorem dL_law_722 : decode cL_law 722 = .ok (.aload_n 0, 1) := by decide +kernel
theorem dL_law_723 : decode cL_law 723 = .ok (.iload_n 3, 1) := by decide +kernel
theorem dL_law_724 : decode cL_law 724 = .ok (.iconst 2, 1) := by decide +kernel
theorem dL_law_725 : decode cL_law 725 = .ok (.iadd, 1) := by decide +kernel
theorem dL_law_726 : decode cL_law 726 = .ok (.iaload, 1) := by decide +kernel
theorem dL_law_727 : decode cL_law 727 = .ok (.invokevirtual 81, 3) := by decide +kernel
theorem dL_law_730 : decode cL_law 730 = .ok (.if_icmp .eq 772, 3) := by decide +kernel
theorem dL_law_733 : decode cL_law 733 = .ok (.iconst 0, 1) := by decide +kernel
theorem dL_law_734 : decode cL_law 734 = .ok (.ireturn, 1) := by decide +kernel
theorem dL_law_735 : decode cL_law 735 = .ok (.aload_n 1, 1) := by decide +kernel
theorem dL_law_736 : decode cL_law 736 = .ok (.aload_n 0, 1) := by decide +kernel
theorem dL_law_737 : decode cL_law 737 = .ok (.iload_n 3, 1) := by decide +kernel
theorem dL_law_738 : decode cL_law 738 = .ok (.iconst 1, 1) := by decide +kernel
theorem dL_law_739 : decode cL_law 739 = .ok (.iadd, 1) := by decide +kernel
theorem dL_law_740 : decode cL_law 740 = .ok (.iaload, 1) := by decide +kernel
theorem dL_law_741 : decode cL_law 741 = .ok (.aload_n 0, 1) := by decide +kernel
theorem dL_law_742 : decode cL_law 742 = .ok (.iload_n 3, 1) := by decide +kernel
theorem dL_law_743 : decode cL_law 743 = .ok (.iconst 2, 1) := by decide +kernel
theorem dL_law_744 : decode cL_law 744 = .ok (.iadd, 1) := by decide +kernel
theorem dL_law_745 : decode cL_law 745 = .ok (.iaload, 1) := by decide +kernel
theorem dL_law_746 : decode cL_law 746 = .ok (.invokevirtual 82, 3) := by decide +kernel
theorem dL_law_749 : decode cL_law 749 = .ok (.aload_n 2, 1) := by decide +kernel
theorem dL_law_750 : decode cL_law 750 = .ok (.aload_n 0, 1) := by decide +kernel
theorem dL_law_751 : decode cL_law 751 = .ok (.iload_n 3, 1) := by decide +kernel
theorem dL_law_752 : decode cL_law 752 = .ok (.iconst 1, 1) := by decide +kernel
theorem dL_law_753 : decode cL_law 753 = .ok (.iadd, 1) := by decide +kernel
theorem dL_law_754 : decode cL_law 754 = .ok (.iaload, 1) := by decide +kernel
theorem dL_law_755 : decode cL_law 755 = .ok (.aload_n 0, 1) := by decide +kernel
theorem dL_law_756 : decode cL_law 756 = .ok (.iload_n 3, 1) := by decide +kernel
theorem dL_law_757 : decode cL_law 757 = .ok (.iconst 2, 1) := by decide +kernel
theorem dL_law_758 : decode cL_law 758 = .ok (.iadd, 1) := by decide +kernel
theorem dL_law_759 : decode cL_law 759 = .ok (.iaload, 1) := by decide +kernel
theorem dL_law_760 : decode cL_law 760 = .ok (.invokevirtual 85, 3) := by decide +kernel
theorem dL_law_763 : decode cL_law 763 = .ok (.if_icmp .eq 739, 3) := by decide +kernel
theorem dL_law_766 : decode cL_law 766 = .ok (.iconst 0, 1) := by decide +kernel
theorem dL_law_767 : decode cL_law 767 = .ok (.ireturn, 1) := by decide +kernel
theorem dL_law_768 : decode cL_law 768 = .ok (.aload_n 1, 1) := by decide +kernel
theorem dL_law_769 : decode cL_law 769 = .ok (.aload_n 0, 1) := by decide +kernel
theorem dL_law_770 : decode cL_law 770 = .ok (.iload_n 3, 1) := by decide +kernel
theorem dL_law_771 : decode cL_law 771 = .ok (.iconst 1, 1) := by decide +kernel
theorem dL_law_772 : decode cL_law 772 = .ok (.iadd, 1) := by decide +kernel
theorem dL_law_773 : decode cL_law 773 = .ok (.iaload, 1) := by decide +kernel
theorem dL_law_774 : decode cL_law 774 = .ok (.aload_n 0, 1) := by decide +kernel
theorem dL_law_775 : decode cL_law 775 = .ok (.iload_n 3, 1) := by decide +kernel
theorem dL_law_776 : decode cL_law 776 = .ok (.iconst 2, 1) := by decide +kernel
theorem dL_law_777 : decode cL_law 777 = .ok (.iadd, 1) := by decide +kernel
theorem dL_law_778 : decode cL_law 778 = .ok (.iaload, 1) := by decide +kernel
theorem dL_law_779 : decode cL_law 779 = .ok (.aload_n 0, 1) := by decide +kernel
theorem dL_law_780 : decode cL_law 780 = .ok (.iload_n 3, 1) := by decide +kernel
theorem dL_law_781 : decode cL_law 781 = .ok (.iconst 3, 1) := by decide +kernel
theorem dL_law_782 : decode cL_law 782 = .ok (.iadd, 1) := by decide +kernel
theorem dL_law_783 : decode cL_law 783 = .ok (.iaload, 1) := by decide +kernel
theorem dL_law_784 : decode cL_law 784 = .ok (.invokevirtual 86, 3) := by decide +kernel
theorem dL_law_787 : decode cL_law 787 = .ok (.aload_n 2, 1) := by decide +kernel
theorem dL_law_788 : decode cL_law 788 = .ok (.aload_n 0, 1) := by decide +kernel
theorem dL_law_789 : decode cL_law 789 = .ok (.iload_n 3, 1) := by decide +kernel
theorem dL_law_790 : decode cL_law 790 = .ok (.iconst 1, 1) := by decide +kernel
theorem dL_law_791 : decode cL_law 791 = .ok (.iadd, 1) := by decide +kernel
theorem dL_law_792 : decode cL_law 792 = .ok (.iaload, 1) := by decide +kernel
theorem dL_law_793 : decode cL_law 793 = .ok (.aload_n 0, 1) := by decide +kernel
theorem dL_law_794 : decode cL_law 794 = .ok (.iload_n 3, 1) := by decide +kernel
theorem dL_law_795 : decode cL_law 795 = .ok (.iconst 2, 1) := by decide +kernel
theorem dL_law_796 : decode cL_law 796 = .ok (.iadd, 1) := by decide +kernel
theorem dL_law_797 : decode cL_law 797 = .ok (.iaload, 1) := by decide +kernel
theorem dL_law_798 : decode cL_law 798 = .ok (.aload_n 0, 1) := by decide +kernel
theorem dL_law_799 : decode cL_law 799 = .ok (.iload_n 3, 1) := by decide +kernel
theorem dL_law_800 : decode cL_law 800 = .ok (.iconst 3, 1) := by decide +kernel
theorem dL_law_801 : decode cL_law 801 = .ok (.iadd, 1) := by decide +kernel
theorem dL_law_802 : decode cL_law 802 = .ok (.iaload, 1) := by decide +kernel
theorem dL_law_803 : decode cL_law 803 = .ok (.invokevirtual 89, 3) := by decide +kernel
theorem dL_law_806 : decode cL_law 806 = .ok (.if_icmp .eq 696, 3) := by decide +kernel
theorem dL_law_809 : decode cL_law 809 = .ok (.iconst 0, 1) := by decide +kernel
theorem dL_law_810 : decode cL_law 810 = .ok (.ireturn, 1) := by decide +kernel
theorem dL_law_811 : decode cL_law 811 = .ok (.aload_n 1, 1) := by decide +kernel
theorem dL_law_812 : decode cL_law 812 = .ok (.aload_n 0, 1) := by decide +kernel
theorem dL_law_813 : decode cL_law 813 = .ok (.iload_n 3, 1) := by decide +kernel
theorem dL_law_814 : decode cL_law 814 = .ok (.iconst 1, 1) := by decide +kernel
theorem dL_law_815 : decode cL_law 815 = .ok (.iadd, 1) := by decide +kernel
theorem dL_law_816 : decode cL_law 816 = .ok (.iaload, 1) := by decide +kernel
theorem dL_law_817 : decode cL_law 817 = .ok (.aload_n 0, 1) := by decide +kernel
theorem dL_law_818 : decode cL_law 818 = .ok (.iload_n 3, 1) := by decide +kernel
theorem dL_law_819 : decode cL_law 819 = .ok (.iconst 2, 1) := by decide +kernel
theorem dL_law_820 : decode cL_law 820 = .ok (.iadd, 1) := by decide +kernel
theorem dL_law_821 : decode cL_law 821 = .ok (.iaload, 1) := by decide +kernel
theorem dL_law_822 : decode cL_law 822 = .ok (.aload_n 0, 1) := by decide +kernel
theorem dL_law_823 : decode cL_law 823 = .ok (.iload_n 3, 1) := by decide +kernel
theorem dL_law_824 : decode cL_law 824 = .ok (.iconst 3, 1) := by decide +kernel
theorem dL_law_825 : decode cL_law 825 = .ok (.iadd, 1) := by decide +kernel
end
section
theorem dL_law_826 : decode cL_law 826 = .ok (.iaload, 1) := by decide +kernel
theorem dL_law_827 : decode cL_law 827 = .ok (.aload_n 0, 1) := by decide +kernel
theorem dL_law_828 : decode cL_law 828 = .ok (.iload_n 3, 1) := by decide +kernel
theorem dL_law_829 : decode cL_law 829 = .ok (.iconst 4, 1) := by decide +kernel
theorem dL_law_830 : decode cL_law 830 = .ok (.iadd, 1) := by decide +kernel
theorem dL_law_831 : decode cL_law 831 = .ok (.iaload, 1) := by decide +kernel
theorem dL_law_832 : decode cL_law 832 = .ok (.invokevirtual 90, 3) := by decide +kernel
theorem dL_law_835 : decode cL_law 835 = .ok (.aload_n 2, 1) := by decide +kernel
theorem dL_law_836 : decode cL_law 836 = .ok (.aload_n 0, 1) := by decide +kernel
theorem dL_law_837 : decode cL_law 837 = .ok (.iload_n 3, 1) := by decide +kernel
theorem dL_law_838 : decode cL_law 838 = .ok (.iconst 1, 1) := by decide +kernel
theorem dL_law_839 : decode cL_law 839 = .ok (.iadd, 1) := by decide +kernel
theorem dL_law_840 : decode cL_law 840 = .ok (.iaload, 1) := by decide +kernel
theorem dL_law_841 : decode cL_law 841 = .ok (.aload_n 0, 1) := by decide +kernel
theorem dL_law_842 : decode cL_law 842 = .ok (.iload_n 3, 1) := by decide +kernel
theorem dL_law_843 : decode cL_law 843 = .ok (.iconst 2, 1) := by decide +kernel
theorem dL_law_844 : decode cL_law 844 = .ok (.iadd, 1) := by decide +kernel
theorem dL_law_845 : decode cL_law 845 = .ok (.iaload, 1) := by decide +kernel
theorem dL_law_846 : decode cL_law 846 = .ok (.aload_n 0, 1) := by decide +kernel
theorem dL_law_847 : decode cL_law 847 = .ok (.iload_n 3, 1) := by decide +kernel
theorem dL_law_848 : decode cL_law 848 = .ok (.iconst 3, 1) := by decide +kernel
theorem dL_law_849 : decode cL_law 849 = .ok (.iadd, 1) := by decide +kernel
theorem dL_law_850 : decode cL_law 850 = .ok (.iaload, 1) := by decide +kernel
theorem dL_law_851 : decode cL_law 851 = .ok (.aload_n 0, 1) := by decide +kernel
theorem dL_law_852 : decode cL_law 852 = .ok (.iload_n 3, 1) := by decide +kernel
theorem dL_law_853 : decode cL_law 853 = .ok (.iconst 4, 1) := by decide +kernel
theorem dL_law_854 : decode cL_law 854 = .ok (.iadd, 1) := by decide +kernel
theorem dL_law_855 : decode cL_law 855 = .ok (.iaload, 1) := by decide +kernel
theorem dL_law_856 : decode cL_law 856 = .ok (.invokevirtual 94, 3) := by decide +kernel
theorem dL_law_859 : decode cL_law 859 = .ok (.if_icmp .eq 643, 3) := by decide +kernel
theorem dL_law_862 : decode cL_law 862 = .ok (.iconst 0, 1) := by decide +kernel
theorem dL_law_863 : decode cL_law 863 = .ok (.ireturn, 1) := by decide +kernel
theorem dL_law_864 : decode cL_law 864 = .ok (.aload_n 1, 1) := by decide +kernel
theorem dL_law_865 : decode cL_law 865 = .ok (.aload_n 0, 1) := by decide +kernel
theorem dL_law_866 : decode cL_law 866 = .ok (.iload_n 3, 1) := by decide +kernel
theorem dL_law_867 : decode cL_law 867 = .ok (.iconst 1, 1) := by decide +kernel
theorem dL_law_868 : decode cL_law 868 = .ok (.iadd, 1) := by decide +kernel
theorem dL_law_869 : decode cL_law 869 = .ok (.iaload, 1) := by decide +kernel
theorem dL_law_870 : decode cL_law 870 = .ok (.aload_n 0, 1) := by decide +kernel
theorem dL_law_871 : decode cL_law 871 = .ok (.iload_n 3, 1) := by decide +kernel
theorem dL_law_872 : decode cL_law 872 = .ok (.iconst 2, 1) := by decide +kernel
theorem dL_law_873 : decode cL_law 873 = .ok (.iadd, 1) := by decide +kernel
theorem dL_law_874 : decode cL_law 874 = .ok (.iaload, 1) := by decide +kernel
theorem dL_law_875 : decode cL_law 875 = .ok (.aload_n 0, 1) := by decide +kernel
theorem dL_law_876 : decode cL_law 876 = .ok (.iload_n 3, 1) := by decide +kernel
theorem dL_law_877 : decode cL_law 877 = .ok (.iconst 3, 1) := by decide +kernel
theorem dL_law_878 : decode cL_law 878 = .ok (.iadd, 1) := by decide +kernel
theorem dL_law_879 : decode cL_law 879 = .ok (.iaload, 1) := by decide +kernel
theorem dL_law_880 : decode cL_law 880 = .ok (.invokevirtual 95, 3) := by decide +kernel
theorem dL_law_883 : decode cL_law 883 = .ok (.aload_n 2, 1) := by decide +kernel
theorem dL_law_884 : decode cL_law 884 = .ok (.aload_n 0, 1) := by decide +kernel
theorem dL_law_885 : decode cL_law 885 = .ok (.iload_n 3, 1) := by decide +kernel
theorem dL_law_886 : decode cL_law 886 = .ok (.iconst 1, 1) := by decide +kernel
theorem dL_law_887 : decode cL_law 887 = .ok (.iadd, 1) := by decide +kernel
theorem dL_law_888 : decode cL_law 888 = .ok (.iaload, 1) := by decide +kernel
theorem dL_law_889 : decode cL_law 889 = .ok (.aload_n 0, 1) := by decide +kernel
theorem dL_law_890 : decode cL_law 890 = .ok (.iload_n 3, 1) := by decide +kernel
theorem dL_law_891 : decode cL_law 891 = .ok (.iconst 2, 1) := by decide +kernel
theorem dL_law_892 : decode cL_law 892 = .ok (.iadd, 1) := by decide +kernel
theorem dL_law_893 : decode cL_law 893 = .ok (.iaload, 1) := by decide +kernel
theorem dL_law_894 : decode cL_law 894 = .ok (.aload_n 0, 1) := by decide +kernel
theorem dL_law_895 : decode cL_law 895 = .ok (.iload_n 3, 1) := by decide +kernel
theorem dL_law_896 : decode cL_law 896 = .ok (.iconst 3, 1) := by decide +kernel
theorem dL_law_897 : decode cL_law 897 = .ok (.iadd, 1) := by decide +kernel
theorem dL_law_898 : decode cL_law 898 = .ok (.iaload, 1) := by decide +kernel
theorem dL_law_899 : decode cL_law 899 = .ok (.invokevirtual 98, 3) := by decide +kernel
theorem dL_law_902 : decode cL_law 902 = .ok (.if_icmp .eq 600, 3) := by decide +kernel
theorem dL_law_905 : decode cL_law 905 = .ok (.iconst 0, 1) := by decide +kernel
theorem dL_law_906 : decode cL_law 906 = .ok (.ireturn, 1) := by decide +kernel
theorem dL_law_907 : decode cL_law 907 = .ok (.aload_n 1, 1) := by decide +kernel
theorem dL_law_908 : decode cL_law 908 = .ok (.aload_n 0, 1) := by decide +kernel
theorem dL_law_909 : decode cL_law 909 = .ok (.iload_n 3, 1) := by decide +kernel
theorem dL_law_910 : decode cL_law 910 = .ok (.iconst 1, 1) := by decide +kernel
theorem dL_law_911 : decode cL_law 911 = .ok (.iadd, 1) := by decide +kernel
theorem dL_law_912 : decode cL_law 912 = .ok (.iaload, 1) := by decide +kernel
theorem dL_law_913 : decode cL_law 913 = .ok (.ifCond .eq 7, 3) := by decide +kernel
theorem dL_law_916 : decode cL_law 916 = .ok (.iconst 1, 1) := by decide +kernel
theorem dL_law_917 : decode cL_law 917 = .ok (.goto 4, 3) := by decide +kernel
theorem dL_law_920 : decode cL_law 920 = .ok (.iconst 0, 1) := by decide +kernel
theorem dL_law_921 : decode cL_law 921 = .ok (.invokevirtual 99, 3) := by decide +kernel
theorem dL_law_924 : decode cL_law 924 = .ok (.aload_n 2, 1) := by decide +kernel
theorem dL_law_925 : decode cL_law 925 = .ok (.aload_n 0, 1) := by decide +kernel
theorem dL_law_926 : decode cL_law 926 = .ok (.iload_n 3, 1) := by decide +kernel
theorem dL_law_927 : decode cL_law 927 = .ok (.iconst 1, 1) := by decide +kernel
theorem dL_law_928 : decode cL_law 928 = .ok (.iadd, 1) := by decide +kernel
theorem dL_law_929 : decode cL_law 929 = .ok (.iaload, 1) := by decide +kernel
theorem dL_law_930 : decode cL_law 930 = .ok (.ifCond .eq 7, 3) := by decide +kernel
theorem dL_law_933 : decode cL_law 933 = .ok (.iconst 1, 1) := by decide +kernel
theorem dL_law_934 : decode cL_law 934 = .ok (.goto 4, 3) := by decide +kernel
theorem dL_law_937 : decode cL_law 937 = .ok (.iconst 0, 1) := by decide +kernel
theorem dL_law_938 : decode cL_law 938 = .ok (.invokevirtual 102, 3) := by decide +kernel
theorem dL_law_941 : decode cL_law 941 = .ok (.if_icmp .eq 561, 3) := by decide +kernel
theorem dL_law_944 : decode cL_law 944 = .ok (.iconst 0, 1) := by decide +kernel
theorem dL_law_945 : decode cL_law 945 = .ok (.ireturn, 1) := by decide +kernel
theorem dL_law_946 : decode cL_law 946 = .ok (.aload_n 1, 1) := by decide +kernel
theorem dL_law_947 : decode cL_law 947 = .ok (.aload_n 0, 1) := by decide +kernel
theorem dL_law_948 : decode cL_law 948 = .ok (.iload_n 3, 1) := by decide +kernel
theorem dL_law_949 : decode cL_law 949 = .ok (.iconst 1, 1) := by decide +kernel
theorem dL_law_950 : decode cL_law 950 = .ok (.iadd, 1) := by decide +kernel
theorem dL_law_951 : decode cL_law 951 = .ok (.iaload, 1) := by decide +kernel
theorem dL_law_952 : decode cL_law 952 = .ok (.aload_n 0, 1) := by decide +kernel
theorem dL_law_953 : decode cL_law 953 = .ok (.iload_n 3, 1) := by decide +kernel
theorem dL_law_954 : decode cL_law 954 = .ok (.iconst 2, 1) := by decide +kernel
theorem dL_law_955 : decode cL_law 955 = .ok (.iadd, 1) := by decide +kernel
theorem dL_law_956 : decode cL_law 956 = .ok (.iaload, 1) := by decide +kernel
theorem dL_law_957 : decode cL_law 957 = .ok (.aload_n 0, 1) := by decide +kernel
theorem dL_law_958 : decode cL_law 958 = .ok (.iload_n 3, 1) := by decide +kernel
theorem dL_law_959 : decode cL_law 959 = .ok (.iconst 3, 1) := by decide +kernel
theorem dL_law_960 : decode cL_law 960 = .ok (.iadd, 1) := by decide +kernel
theorem dL_law_961 : decode cL_law 961 = .ok (.iaload, 1) := by decide +kernel
theorem dL_law_962 : decode cL_law 962 = .ok (.aload_n 0, 1) := by decide +kernel
theorem dL_law_963 : decode cL_law 963 = .ok (.iload_n 3, 1) := by decide +kernel
theorem dL_law_964 : decode cL_law 964 = .ok (.iconst 4, 1) := by decide +kernel
theorem dL_law_965 : decode cL_law 965 = .ok (.iadd, 1) := by decide +kernel
theorem dL_law_966 : decode cL_law 966 = .ok (.iaload, 1) := by decide +kernel
theorem dL_law_967 : decode cL_law 967 = .ok (.aload_n 0, 1) := by decide +kernel
theorem dL_law_968 : decode cL_law 968 = .ok (.iload_n 3, 1) := by decide +kernel
theorem dL_law_969 : decode cL_law 969 = .ok (.iconst 5, 1) := by decide +kernel
theorem dL_law_970 : decode cL_law 970 = .ok (.iadd, 1) := by decide +kernel
theorem dL_law_971 : decode cL_law 971 = .ok (.iaload, 1) := by decide +kernel
theorem dL_law_972 : decode cL_law 972 = .ok (.aload_n 0, 1) := by decide +kernel
theorem dL_law_973 : decode cL_law 973 = .ok (.iload_n 3, 1) := by decide +kernel
theorem dL_law_974 : decode cL_law 974 = .ok (.bipush 6, 2) := by decide +kernel
theorem dL_law_976 : decode cL_law 976 = .ok (.iadd, 1) := by decide +kernel
theorem dL_law_977 : decode cL_law 977 = .ok (.iaload, 1) := by decide +kernel
theorem dL_law_978 : decode cL_law 978 = .ok (.invokevirtual 103, 3) := by decide +kernel
theorem dL_law_981 : decode cL_law 981 = .ok (.aload_n 2, 1) := by decide +kernel
theorem dL_law_982 : decode cL_law 982 = .ok (.aload_n 0, 1) := by decide +kernel
theorem dL_law_983 : decode cL_law 983 = .ok (.iload_n 3, 1) := by decide +kernel
theorem dL_law_984 : decode cL_law 984 = .ok (.iconst 1, 1) := by decide +kernel
theorem dL_law_985 : decode cL_law 985 = .ok (.iadd, 1) := by decide +kernel
theorem dL_law_986 : decode cL_law 986 = .ok (.iaload, 1) := by decide +kernel
theorem dL_law_987 : decode cL_law 987 = .ok (.aload_n 0, 1) := by decide +kernel
theorem dL_law_988 : decode cL_law 988 = .ok (.iload_n 3, 1) := by decide +kernel
theorem dL_law_989 : decode cL_law 989 = .ok (.iconst 2, 1) := by decide +kernel
theorem dL_law_990 : decode cL_law 990 = .ok (.iadd, 1) := by decide +kernel
theorem dL_law_991 : decode cL_law 991 = .ok (.iaload, 1) := by decide +kernel
theorem dL_law_992 : decode cL_law 992 = .ok (.aload_n 0, 1) := by decide +kernel
theorem dL_law_993 : decode cL_law 993 = .ok (.iload_n 3, 1) := by decide +kernel
theorem dL_law_994 : decode cL_law 994 = .ok (.iconst 3, 1) := by decide +kernel
theorem dL_law_995 : decode cL_law 995 = .ok (.iadd, 1) := by decide +kernel
theorem dL_law_996 : decode cL_law 996 = .ok (.iaload, 1) := by decide +kernel
theorem dL_law_997 : decode cL_law 997 = .ok (.aload_n 0, 1) := by decide +kernel
theorem dL_law_998 : decode cL_law 998 = .ok (.iload_n 3, 1) := by decide +kernel
theorem dL_law_999 : decode cL_law 999 = .ok (.iconst 4, 1) := by decide +kernel
theorem dL_law_1000 : decode cL_law 1000 = .ok (.iadd, 1) := by decide +kernel
theorem dL_law_1001 : decode cL_law 1001 = .ok (.iaload, 1) := by decide +kernel
theorem dL_law_1002 : decode cL_law 1002 = .ok (.aload_n 0, 1) := by decide +kernel
theorem dL_law_1003 : decode cL_law 1003 = .ok (.iload_n 3, 1) := by decide +kernel
theorem dL_law_1004 : decode cL_law 1004 = .ok (.iconst 5, 1) := by decide +kernel
theorem dL_law_1005 : decode cL_law 1005 = .ok (.iadd, 1) := by decide +kernel
theorem dL_law_1006 : decode cL_law 1006 = .ok (.iaload, 1) := by decide +kernel
theorem dL_law_1007 : decode cL_law 1007 = .ok (.aload_n 0, 1) := by decide +kernel
theorem dL_law_1008 : decode cL_law 1008 = .ok (.iload_n 3, 1) := by decide +kernel
theorem dL_law_1009 : decode cL_law 1009 = .ok (.bipush 6, 2) := by decide +kernel
theorem dL_law_1011 : decode cL_law 1011 = .ok (.iadd, 1) := by decide +kernel
theorem dL_law_1012 : decode cL_law 1012 = .ok (.iaload, 1) := by decide +kernel
theorem dL_law_1013 : decode cL_law 1013 = .ok (.invokevirtual 107, 3) := by decide +kernel
theorem dL_law_1016 : decode cL_law 1016 = .ok (.if_icmp .eq 486, 3) := by decide +kernel
theorem dL_law_1019 : decode cL_law 1019 = .ok (.iconst 0, 1) := by decide +kernel
theorem dL_law_1020 : decode cL_law 1020 = .ok (.ireturn, 1) := by decide +kernel
theorem dL_law_1021 : decode cL_law 1021 = .ok (.aload_n 1, 1) := by decide +kernel
theorem dL_law_1022 : decode cL_law 1022 = .ok (.invokevirtual 108, 3) := by decide +kernel
theorem dL_law_1025 : decode cL_law 1025 = .ok (.aload_n 2, 1) := by decide +kernel
theorem dL_law_1026 : decode cL_law 1026 = .ok (.invokevirtual 111, 3) := by decide +kernel
theorem dL_law_1029 : decode cL_law 1029 = .ok (.if_icmp .eq 473, 3) := by decide +kernel
theorem dL_law_1032 : decode cL_law 1032 = .ok (.iconst 0, 1) := by decide +kernel
theorem dL_law_1033 : decode cL_law 1033 = .ok (.ireturn, 1) := by decide +kernel
theorem dL_law_1034 : decode cL_law 1034 = .ok (.aload_n 1, 1) := by decide +kernel
theorem dL_law_1035 : decode cL_law 1035 = .ok (.aload_n 0, 1) := by decide +kernel
theorem dL_law_1036 : decode cL_law 1036 = .ok (.iload_n 3, 1) := by decide +kernel
theorem dL_law_1037 : decode cL_law 1037 = .ok (.iconst 1, 1) := by decide +kernel
theorem dL_law_1038 : decode cL_law 1038 = .ok (.iadd, 1) := by decide +kernel
theorem dL_law_1039 : decode cL_law 1039 = .ok (.iaload, 1) := by decide +kernel
theorem dL_law_1040 : decode cL_law 1040 = .ok (.aload_n 0, 1) := by decide +kernel
theorem dL_law_1041 : decode cL_law 1041 = .ok (.iload_n 3, 1) := by decide +kernel
theorem dL_law_1042 : decode cL_law 1042 = .ok (.iconst 2, 1) := by decide +kernel
theorem dL_law_1043 : decode cL_law 1043 = .ok (.iadd, 1) := by decide +kernel
theorem dL_law_1044 : decode cL_law 1044 = .ok (.iaload, 1) := by decide +kernel
theorem dL_law_1045 : decode cL_law 1045 = .ok (.invokevirtual 112, 3) := by decide +kernel
theorem dL_law_1048 : decode cL_law 1048 = .ok (.aload_n 2, 1) := by decide +kernel
theorem dL_law_1049 : decode cL_law 1049 = .ok (.aload_n 0, 1) := by decide +kernel
theorem dL_law_1050 : decode cL_law 1050 = .ok (.iload_n 3, 1) := by decide +kernel
theorem dL_law_1051 : decode cL_law 1051 = .ok (.iconst 1, 1) := by decide +kernel
theorem dL_law_1052 : decode cL_law 1052 = .ok (.iadd, 1) := by decide +kernel
theorem dL_law_1053 : decode cL_law 1053 = .ok (.iaload, 1) := by decide +kernel
theorem dL_law_1054 : decode cL_law 1054 = .ok (.aload_n 0, 1) := by decide +kernel
theorem dL_law_1055 : decode cL_law 1055 = .ok (.iload_n 3, 1) := by decide +kernel
theorem dL_law_1056 : decode cL_law 1056 = .ok (.iconst 2, 1) := by decide +kernel
theorem dL_law_1057 : decode cL_law 1057 = .ok (.iadd, 1) := by decide +kernel
theorem dL_law_1058 : decode cL_law 1058 = .ok (.iaload, 1) := by decide +kernel
theorem dL_law_1059 : decode cL_law 1059 = .ok (.invokevirtual 115, 3) := by decide +kernel
theorem dL_law_1062 : decode cL_law 1062 = .ok (.if_icmp .eq 440, 3) := by decide +kernel
theorem dL_law_1065 : decode cL_law 1065 = .ok (.iconst 0, 1) := by decide +kernel
theorem dL_law_1066 : decode cL_law 1066 = .ok (.ireturn, 1) := by decide +kernel
theorem dL_law_1067 : decode cL_law 1067 = .ok (.aload_n 1, 1) := by decide +kernel
theorem dL_law_1068 : decode cL_law 1068 = .ok (.aload_n 0, 1) := by decide +kernel
theorem dL_law_1069 : decode cL_law 1069 = .ok (.iload_n 3, 1) := by decide +kernel
theorem dL_law_1070 : decode cL_law 1070 = .ok (.iconst 1, 1) := by decide +kernel
theorem dL_law_1071 : decode cL_law 1071 = .ok (.iadd, 1) := by decide +kernel
theorem dL_law_1072 : decode cL_law 1072 = .ok (.iaload, 1) := by decide +kernel
theorem dL_law_1073 : decode cL_law 1073 = .ok (.aload_n 0, 1) := by decide +kernel
theorem dL_law_1074 : decode cL_law 1074 = .ok (.iload_n 3, 1) := by decide +kernel
theorem dL_law_1075 : decode cL_law 1075 = .ok (.iconst 2, 1) := by decide +kernel
theorem dL_law_1076 : decode cL_law 1076 = .ok (.iadd, 1) := by decide +kernel
theorem dL_law_1077 : decode cL_law 1077 = .ok (.iaload, 1) := by decide +kernel
theorem dL_law_1078 : decode cL_law 1078 = .ok (.invokevirtual 116, 3) := by decide +kernel
theorem dL_law_1081 : decode cL_law 1081 = .ok (.aload_n 2, 1) := by decide +kernel
theorem dL_law_1082 : decode cL_law 1082 = .ok (.aload_n 0, 1) := by decide +kernel
theorem dL_law_1083 : decode cL_law 1083 = .ok (.iload_n 3, 1) := by decide +kernel
theorem dL_law_1084 : decode cL_law 1084 = .ok (.iconst 1, 1) := by decide +kernel
theorem dL_law_1085 : decode cL_law 1085 = .ok (.iadd, 1) := by decide +kernel
theorem dL_law_1086 : decode cL_law 1086 = .ok (.iaload, 1) := by decide +kernel
theorem dL_law_1087 : decode cL_law 1087 = .ok (.aload_n 0, 1) := by decide +kernel
theorem dL_law_1088 : decode cL_law 1088 = .ok (.iload_n 3, 1) := by decide +kernel
theorem dL_law_1089 : decode cL_law 1089 = .ok (.iconst 2, 1) := by decide +kernel
theorem dL_law_1090 : decode cL_law 1090 = .ok (.iadd, 1) := by decide +kernel
theorem dL_law_1091 : decode cL_law 1091 = .ok (.iaload, 1) := by decide +kernel
theorem dL_law_1092 : decode cL_law 1092 = .ok (.invokevirtual 119, 3) := by decide +kernel
theorem dL_law_1095 : decode cL_law 1095 = .ok (.if_icmp .eq 407, 3) := by decide +kernel
theorem dL_law_1098 : decode cL_law 1098 = .ok (.iconst 0, 1) := by decide +kernel
theorem dL_law_1099 : decode cL_law 1099 = .ok (.ireturn, 1) := by decide +kernel
theorem dL_law_1100 : decode cL_law 1100 = .ok (.aload_n 1, 1) := by decide +kernel
theorem dL_law_1101 : decode cL_law 1101 = .ok (.aload_n 0, 1) := by decide +kernel
theorem dL_law_1102 : decode cL_law 1102 = .ok (.iload_n 3, 1) := by decide +kernel
theorem dL_law_1103 : decode cL_law 1103 = .ok (.iconst 1, 1) := by decide +kernel
theorem dL_law_1104 : decode cL_law 1104 = .ok (.iadd, 1) := by decide +kernel
theorem dL_law_1105 : decode cL_law 1105 = .ok (.iaload, 1) := by decide +kernel
theorem dL_law_1106 : decode cL_law 1106 = .ok (.aload_n 0, 1) := by decide +kernel
theorem dL_law_1107 : decode cL_law 1107 = .ok (.iload_n 3, 1) := by decide +kernel
theorem dL_law_1108 : decode cL_law 1108 = .ok (.iconst 2, 1) := by decide +kernel
theorem dL_law_1109 : decode cL_law 1109 = .ok (.iadd, 1) := by decide +kernel
theorem dL_law_1110 : decode cL_law 1110 = .ok (.iaload, 1) := by decide +kernel
theorem dL_law_1111 : decode cL_law 1111 = .ok (.aload_n 0, 1) := by decide +kernel
theorem dL_law_1112 : decode cL_law 1112 = .ok (.iload_n 3, 1) := by decide +kernel
theorem dL_law_1113 : decode cL_law 1113 = .ok (.iconst 3, 1) := by decide +kernel
theorem dL_law_1114 : decode cL_law 1114 = .ok (.iadd, 1) := by decide +kernel
theorem dL_law_1115 : decode cL_law 1115 = .ok (.iaload, 1) := by decide +kernel
theorem dL_law_1116 : decode cL_law 1116 = .ok (.ifCond .eq 7, 3) := by decide +kernel
theorem dL_law_1119 : decode cL_law 1119 = .ok (.iconst 1, 1) := by decide +kernel
theorem dL_law_1120 : decode cL_law 1120 = .ok (.goto 4, 3) := by decide +kernel
theorem dL_law_1123 : decode cL_law 1123 = .ok (.iconst 0, 1) := by decide +kernel
theorem dL_law_1124 : decode cL_law 1124 = .ok (.invokevirtual 120, 3) := by decide +kernel
theorem dL_law_1127 : decode cL_law 1127 = .ok (.aload_n 2, 1) := by decide +kernel
theorem dL_law_1128 : decode cL_law 1128 = .ok (.aload_n 0, 1) := by decide +kernel
theorem dL_law_1129 : decode cL_law 1129 = .ok (.iload_n 3, 1) := by decide +kernel
theorem dL_law_1130 : decode cL_law 1130 = .ok (.iconst 1, 1) := by decide +kernel
theorem dL_law_1131 : decode cL_law 1131 = .ok (.iadd, 1) := by decide +kernel
theorem dL_law_1132 : decode cL_law 1132 = .ok (.iaload, 1) := by decide +kernel
theorem dL_law_1133 : decode cL_law 1133 = .ok (.aload_n 0, 1) := by decide +kernel
theorem dL_law_1134 : decode cL_law 1134 = .ok (.iload_n 3, 1) := by decide +kernel
theorem dL_law_1135 : decode cL_law 1135 = .ok (.iconst 2, 1) := by decide +kernel
theorem dL_law_1136 : decode cL_law 1136 = .ok (.iadd, 1) := by decide +kernel
theorem dL_law_1137 : decode cL_law 1137 = .ok (.iaload, 1) := by decide +kernel
theorem dL_law_1138 : decode cL_law 1138 = .ok (.aload_n 0, 1) := by decide +kernel
theorem dL_law_1139 : decode cL_law 1139 = .ok (.iload_n 3, 1) := by decide +kernel
theorem dL_law_1140 : decode cL_law 1140 = .ok (.iconst 3, 1) := by decide +kernel
theorem dL_law_1141 : decode cL_law 1141 = .ok (.iadd, 1) := by decide +kernel
theorem dL_law_1142 : decode cL_law 1142 = .ok (.iaload, 1) := by decide +kernel
theorem dL_law_1143 : decode cL_law 1143 = .ok (.ifCond .eq 7, 3) := by decide +kernel
theorem dL_law_1146 : decode cL_law 1146 = .ok (.iconst 1, 1) := by decide +kernel
theorem dL_law_1147 : decode cL_law 1147 = .ok (.goto 4, 3) := by decide +kernel
theorem dL_law_1150 : decode cL_law 1150 = .ok (.iconst 0, 1) := by decide +kernel
theorem dL_law_1151 : decode cL_law 1151 = .ok (.invokevirtual 124, 3) := by decide +kernel
theorem dL_law_1154 : decode cL_law 1154 = .ok (.lcmp, 1) := by decide +kernel
theorem dL_law_1155 : decode cL_law 1155 = .ok (.ifCond .eq 347, 3) := by decide +kernel
theorem dL_law_1158 : decode cL_law 1158 = .ok (.iconst 0, 1) := by decide +kernel
theorem dL_law_1159 : decode cL_law 1159 = .ok (.ireturn, 1) := by decide +kernel
theorem dL_law_1160 : decode cL_law 1160 = .ok (.aload_n 1, 1) := by decide +kernel
theorem dL_law_1161 : decode cL_law 1161 = .ok (.aload_n 0, 1) := by decide +kernel
theorem dL_law_1162 : decode cL_law 1162 = .ok (.iload_n 3, 1) := by decide +kernel
theorem dL_law_1163 : decode cL_law 1163 = .ok (.iconst 1, 1) := by decide +kernel
theorem dL_law_1164 : decode cL_law 1164 = .ok (.iadd, 1) := by decide +kernel
theorem dL_law_1165 : decode cL_law 1165 = .ok (.iaload, 1) := by decide +kernel
theorem dL_law_1166 : decode cL_law 1166 = .ok (.aload_n 0, 1) := by decide +kernel
theorem dL_law_1167 : decode cL_law 1167 = .ok (.iload_n 3, 1) := by decide +kernel
theorem dL_law_1168 : decode cL_law 1168 = .ok (.iconst 2, 1) := by decide +kernel
theorem dL_law_1169 : decode cL_law 1169 = .ok (.iadd, 1) := by decide +kernel
theorem dL_law_1170 : decode cL_law 1170 = .ok (.iaload, 1) := by decide +kernel
theorem dL_law_1171 : decode cL_law 1171 = .ok (.invokevirtual 125, 3) := by decide +kernel
theorem dL_law_1174 : decode cL_law 1174 = .ok (.aload_n 2, 1) := by decide +kernel
theorem dL_law_1175 : decode cL_law 1175 = .ok (.aload_n 0, 1) := by decide +kernel
theorem dL_law_1176 : decode cL_law 1176 = .ok (.iload_n 3, 1) := by decide +kernel
theorem dL_law_1177 : decode cL_law 1177 = .ok (.iconst 1, 1) := by decide +kernel
theorem dL_law_1178 : decode cL_law 1178 = .ok (.iadd, 1) := by decide +kernel
theorem dL_law_1179 : decode cL_law 1179 = .ok (.iaload, 1) := by decide +kernel
theorem dL_law_1180 : decode cL_law 1180 = .ok (.aload_n 0, 1) := by decide +kernel
theorem dL_law_1181 : decode cL_law 1181 = .ok (.iload_n 3, 1) := by decide +kernel
theorem dL_law_1182 : decode cL_law 1182 = .ok (.iconst 2, 1) := by decide +kernel
theorem dL_law_1183 : decode cL_law 1183 = .ok (.iadd, 1) := by decide +kernel
theorem dL_law_1184 : decode cL_law 1184 = .ok (.iaload, 1) := by decide +kernel
theorem dL_law_1185 : decode cL_law 1185 = .ok (.invokevirtual 128, 3) := by decide +kernel
theorem dL_law_1188 : decode cL_law 1188 = .ok (.if_icmp .eq 314, 3) := by decide +kernel
theorem dL_law_1191 : decode cL_law 1191 = .ok (.iconst 0, 1) := by decide +kernel
theorem dL_law_1192 : decode cL_law 1192 = .ok (.ireturn, 1) := by decide +kernel
theorem dL_law_1193 : decode cL_law 1193 = .ok (.aload_n 1, 1) := by decide +kernel
theorem dL_law_1194 : decode cL_law 1194 = .ok (.aload_n 0, 1) := by decide +kernel
theorem dL_law_1195 : decode cL_law 1195 = .ok (.iload_n 3, 1) := by decide +kernel
theorem dL_law_1196 : decode cL_law 1196 = .ok (.iconst 1, 1) := by decide +kernel
theorem dL_law_1197 : decode cL_law 1197 = .ok (.iadd, 1) := by decide +kernel
theorem dL_law_1198 : decode cL_law 1198 = .ok (.iaload, 1) := by decide +kernel
theorem dL_law_1199 : decode cL_law 1199 = .ok (.aload_n 0, 1) := by decide +kernel
theorem dL_law_1200 : decode cL_law 1200 = .ok (.iload_n 3, 1) := by decide +kernel
theorem dL_law_1201 : decode cL_law 1201 = .ok (.iconst 2, 1) := by decide +kernel
theorem dL_law_1202 : decode cL_law 1202 = .ok (.iadd, 1) := by decide +kernel
theorem dL_law_1203 : decode cL_law 1203 = .ok (.iaload, 1) := by decide +kernel
theorem dL_law_1204 : decode cL_law 1204 = .ok (.ifCond .eq 7, 3) := by decide +kernel
theorem dL_law_1207 : decode cL_law 1207 = .ok (.iconst 1, 1) := by decide +kernel
theorem dL_law_1208 : decode cL_law 1208 = .ok (.goto 4, 3) := by decide +kernel
theorem dL_law_1211 : decode cL_law 1211 = .ok (.iconst 0, 1) := by decide +kernel
theorem dL_law_1212 : decode cL_law 1212 = .ok (.invokevirtual 129, 3) := by decide +kernel
theorem dL_law_1215 : decode cL_law 1215 = .ok (.aload_n 2, 1) := by decide +kernel
theorem dL_law_1216 : decode cL_law 1216 = .ok (.aload_n 0, 1) := by decide +kernel
theorem dL_law_1217 : decode cL_law 1217 = .ok (.iload_n 3, 1) := by decide +kernel
theorem dL_law_1218 : decode cL_law 1218 = .ok (.iconst 1, 1) := by decide +kernel
theorem dL_law_1219 : decode cL_law 1219 = .ok (.iadd, 1) := by decide +kernel
theorem dL_law_1220 : decode cL_law 1220 = .ok (.iaload, 1) := by decide +kernel
theorem dL_law_1221 : decode cL_law 1221 = .ok (.aload_n 0, 1) := by decide +kernel
theorem dL_law_1222 : decode cL_law 1222 = .ok (.iload_n 3, 1) := by decide +kernel
theorem dL_law_1223 : decode cL_law 1223 = .ok (.iconst 2, 1) := by decide +kernel
theorem dL_law_1224 : decode cL_law 1224 = .ok (.iadd, 1) := by decide +kernel
theorem dL_law_1225 : decode cL_law 1225 = .ok (.iaload, 1) := by decide +kernel
theorem dL_law_1226 : decode cL_law 1226 = .ok (.ifCond .eq 7, 3) := by decide +kernel
theorem dL_law_1229 : decode cL_law 1229 = .ok (.iconst 1, 1) := by decide +kernel
theorem dL_law_1230 : decode cL_law 1230 = .ok (.goto 4, 3) := by decide +kernel
theorem dL_law_1233 : decode cL_law 1233 = .ok (.iconst 0, 1) := by decide +kernel
theorem dL_law_1234 : decode cL_law 1234 = .ok (.invokevirtual 133, 3) := by decide +kernel
theorem dL_law_1237 : decode cL_law 1237 = .ok (.lcmp, 1) := by decide +kernel
theorem dL_law_1238 : decode cL_law 1238 = .ok (.ifCond .eq 264, 3) := by decide +kernel
theorem dL_law_1241 : decode cL_law 1241 = .ok (.iconst 0, 1) := by decide +kernel
theorem dL_law_1242 : decode cL_law 1242 = .ok (.ireturn, 1) := by decide +kernel
theorem dL_law_1243 : decode cL_law 1243 = .ok (.aload_n 1, 1) := by decide +kernel
theorem dL_law_1244 : decode cL_law 1244 = .ok (.invokevirtual 134, 3) := by decide +kernel
theorem dL_law_1247 : decode cL_law 1247 = .ok (.aload_n 2, 1) := by decide +kernel
theorem dL_law_1248 : decode cL_law 1248 = .ok (.invokevirtual 137, 3) := by decide +kernel
theorem dL_law_1251 : decode cL_law 1251 = .ok (.if_icmp .eq 251, 3) := by decide +kernel
theorem dL_law_1254 : decode cL_law 1254 = .ok (.iconst 0, 1) := by decide +kernel
theorem dL_law_1255 : decode cL_law 1255 = .ok (.ireturn, 1) := by decide +kernel
theorem dL_law_1256 : decode cL_law 1256 = .ok (.aload_n 1, 1) := by decide +kernel
theorem dL_law_1257 : decode cL_law 1257 = .ok (.invokevirtual 138, 3) := by decide +kernel
theorem dL_law_1260 : decode cL_law 1260 = .ok (.aload_n 2, 1) := by decide +kernel
theorem dL_law_1261 : decode cL_law 1261 = .ok (.invokevirtual 141, 3) := by decide +kernel
theorem dL_law_1264 : decode cL_law 1264 = .ok (.if_icmp .eq 238, 3) := by decide +kernel
theorem dL_law_1267 : decode cL_law 1267 = .ok (.iconst 0, 1) := by decide +kernel
theorem dL_law_1268 : decode cL_law 1268 = .ok (.ireturn, 1) := by decide +kernel
theorem dL_law_1269 : decode cL_law 1269 = .ok (.aload_n 1, 1) := by decide +kernel
theorem dL_law_1270 : decode cL_law 1270 = .ok (.invokevirtual 142, 3) := by decide +kernel
theorem dL_law_1273 : decode cL_law 1273 = .ok (.aload_n 2, 1) := by decide +kernel
theorem dL_law_1274 : decode cL_law 1274 = .ok (.invokevirtual 145, 3) := by decide +kernel
theorem dL_law_1277 : decode cL_law 1277 = .ok (.if_icmp .eq 225, 3) := by decide +kernel
theorem dL_law_1280 : decode cL_law 1280 = .ok (.iconst 0, 1) := by decide +kernel
theorem dL_law_1281 : decode cL_law 1281 = .ok (.ireturn, 1) := by decide +kernel
theorem dL_law_1282 : decode cL_law 1282 = .ok (.aload_n 1, 1) := by decide +kernel
theorem dL_law_1283 : decode cL_law 1283 = .ok (.invokevirtual 146, 3) := by decide +kernel
theorem dL_law_1286 : decode cL_law 1286 = .ok (.aload_n 2, 1) := by decide +kernel
theorem dL_law_1287 : decode cL_law 1287 = .ok (.invokevirtual 149, 3) := by decide +kernel
theorem dL_law_1290 : decode cL_law 1290 = .ok (.if_icmp .eq 212, 3) := by decide +kernel
theorem dL_law_1293 : decode cL_law 1293 = .ok (.iconst 0, 1) := by decide +kernel
theorem dL_law_1294 : decode cL_law 1294 = .ok (.ireturn, 1) := by decide +kernel
theorem dL_law_1295 : decode cL_law 1295 = .ok (.aload_n 1, 1) := by decide +kernel
theorem dL_law_1296 : decode cL_law 1296 = .ok (.invokevirtual 150, 3) := by decide +kernel
theorem dL_law_1299 : decode cL_law 1299 = .ok (.aload_n 2, 1) := by decide +kernel
theorem dL_law_1300 : decode cL_law 1300 = .ok (.invokevirtual 153, 3) := by decide +kernel
theorem dL_law_1303 : decode cL_law 1303 = .ok (.if_icmp .eq 199, 3) := by decide +kernel
theorem dL_law_1306 : decode cL_law 1306 = .ok (.iconst 0, 1) := by decide +kernel
theorem dL_law_1307 : decode cL_law 1307 = .ok (.ireturn, 1) := by decide +kernel
theorem dL_law_1308 : decode cL_law 1308 = .ok (.aload_n 1, 1) := by decide +kernel
theorem dL_law_1309 : decode cL_law 1309 = .ok (.aload_n 0, 1) := by decide +kernel
theorem dL_law_1310 : decode cL_law 1310 = .ok (.iload_n 3, 1) := by decide +kernel
theorem dL_law_1311 : decode cL_law 1311 = .ok (.iconst 1, 1) := by decide +kernel
theorem dL_law_1312 : decode cL_law 1312 = .ok (.iadd, 1) := by decide +kernel
theorem dL_law_1313 : decode cL_law 1313 = .ok (.iaload, 1) := by decide +kernel
theorem dL_law_1314 : decode cL_law 1314 = .ok (.invokevirtual 154, 3) := by decide +kernel
theorem dL_law_1317 : decode cL_law 1317 = .ok (.aload_n 2, 1) := by decide +kernel
theorem dL_law_1318 : decode cL_law 1318 = .ok (.aload_n 0, 1) := by decide +kernel
theorem dL_law_1319 : decode cL_law 1319 = .ok (.iload_n 3, 1) := by decide +kernel
theorem dL_law_1320 : decode cL_law 1320 = .ok (.iconst 1, 1) := by decide +kernel
theorem dL_law_1321 : decode cL_law 1321 = .ok (.iadd, 1) := by decide +kernel
theorem dL_law_1322 : decode cL_law 1322 = .ok (.iaload, 1) := by decide +kernel
theorem dL_law_1323 : decode cL_law 1323 = .ok (.invokevirtual 157, 3) := by decide +kernel
theorem dL_law_1326 : decode cL_law 1326 = .ok (.if_icmp .eq 176, 3) := by decide +kernel
theorem dL_law_1329 : decode cL_law 1329 = .ok (.iconst 0, 1) := by decide +kernel
theorem dL_law_1330 : decode cL_law 1330 = .ok (.ireturn, 1) := by decide +kernel
theorem dL_law_1331 : decode cL_law 1331 = .ok (.aload_n 1, 1) := by decide +kernel
theorem dL_law_1332 : decode cL_law 1332 = .ok (.aload_n 0, 1) := by decide +kernel
theorem dL_law_1333 : decode cL_law 1333 = .ok (.iload_n 3, 1) := by decide +kernel
theorem dL_law_1334 : decode cL_law 1334 = .ok (.iconst 1, 1) := by decide +kernel
theorem dL_law_1335 : decode cL_law 1335 = .ok (.iadd, 1) := by decide +kernel
theorem dL_law_1336 : decode cL_law 1336 = .ok (.iaload, 1) := by decide +kernel
theorem dL_law_1337 : decode cL_law 1337 = .ok (.invokevirtual 158, 3) := by decide +kernel
theorem dL_law_1340 : decode cL_law 1340 = .ok (.aload_n 2, 1) := by decide +kernel
theorem dL_law_1341 : decode cL_law 1341 = .ok (.aload_n 0, 1) := by decide +kernel
theorem dL_law_1342 : decode cL_law 1342 = .ok (.iload_n 3, 1) := by decide +kernel
theorem dL_law_1343 : decode cL_law 1343 = .ok (.iconst 1, 1) := by decide +kernel
theorem dL_law_1344 : decode cL_law 1344 = .ok (.iadd, 1) := by decide +kernel
theorem dL_law_1345 : decode cL_law 1345 = .ok (.iaload, 1) := by decide +kernel
theorem dL_law_1346 : decode cL_law 1346 = .ok (.invokevirtual 161, 3) := by decide +kernel
theorem dL_law_1349 : decode cL_law 1349 = .ok (.if_icmp .eq 153, 3) := by decide +kernel
theorem dL_law_1352 : decode cL_law 1352 = .ok (.iconst 0, 1) := by decide +kernel
theorem dL_law_1353 : decode cL_law 1353 = .ok (.ireturn, 1) := by decide +kernel
theorem dL_law_1354 : decode cL_law 1354 = .ok (.aload_n 1, 1) := by decide +kernel
theorem dL_law_1355 : decode cL_law 1355 = .ok (.aload_n 0, 1) := by decide +kernel
theorem dL_law_1356 : decode cL_law 1356 = .ok (.iload_n 3, 1) := by decide +kernel
theorem dL_law_1357 : decode cL_law 1357 = .ok (.iconst 1, 1) := by decide +kernel
theorem dL_law_1358 : decode cL_law 1358 = .ok (.iadd, 1) := by decide +kernel
theorem dL_law_1359 : decode cL_law 1359 = .ok (.iaload, 1) := by decide +kernel
theorem dL_law_1360 : decode cL_law 1360 = .ok (.invokevirtual 162, 3) := by decide +kernel
theorem dL_law_1363 : decode cL_law 1363 = .ok (.aload_n 2, 1) := by decide +kernel
theorem dL_law_1364 : decode cL_law 1364 = .ok (.aload_n 0, 1) := by decide +kernel
theorem dL_law_1365 : decode cL_law 1365 = .ok (.iload_n 3, 1) := by decide +kernel
theorem dL_law_1366 : decode cL_law 1366 = .ok (.iconst 1, 1) := by decide +kernel
theorem dL_law_1367 : decode cL_law 1367 = .ok (.iadd, 1) := by decide +kernel
theorem dL_law_1368 : decode cL_law 1368 = .ok (.iaload, 1) := by decide +kernel
theorem dL_law_1369 : decode cL_law 1369 = .ok (.invokevirtual 165, 3) := by decide +kernel
theorem dL_law_1372 : decode cL_law 1372 = .ok (.if_icmp .eq 130, 3) := by decide +kernel
theorem dL_law_1375 : decode cL_law 1375 = .ok (.iconst 0, 1) := by decide +kernel
theorem dL_law_1376 : decode cL_law 1376 = .ok (.ireturn, 1) := by decide +kernel
theorem dL_law_1377 : decode cL_law 1377 = .ok (.aload_n 1, 1) := by decide +kernel
theorem dL_law_1378 : decode cL_law 1378 = .ok (.aload_n 0, 1) := by decide +kernel
theorem dL_law_1379 : decode cL_law 1379 = .ok (.iload_n 3, 1) := by decide +kernel
theorem dL_law_1380 : decode cL_law 1380 = .ok (.iconst 1, 1) := by decide +kernel
theorem dL_law_1381 : decode cL_law 1381 = .ok (.iadd, 1) := by decide +kernel
theorem dL_law_1382 : decode cL_law 1382 = .ok (.iaload, 1) := by decide +kernel
theorem dL_law_1383 : decode cL_law 1383 = .ok (.aload_n 0, 1) := by decide +kernel
theorem dL_law_1384 : decode cL_law 1384 = .ok (.iload_n 3, 1) := by decide +kernel
theorem dL_law_1385 : decode cL_law 1385 = .ok (.iconst 2, 1) := by decide +kernel
theorem dL_law_1386 : decode cL_law 1386 = .ok (.iadd, 1) := by decide +kernel
theorem dL_law_1387 : decode cL_law 1387 = .ok (.iaload, 1) := by decide +kernel
theorem dL_law_1388 : decode cL_law 1388 = .ok (.invokevirtual 166, 3) := by decide +kernel
theorem dL_law_1391 : decode cL_law 1391 = .ok (.aload_n 2, 1) := by decide +kernel
theorem dL_law_1392 : decode cL_law 1392 = .ok (.aload_n 0, 1) := by decide +kernel
theorem dL_law_1393 : decode cL_law 1393 = .ok (.iload_n 3, 1) := by decide +kernel
theorem dL_law_1394 : decode cL_law 1394 = .ok (.iconst 1, 1) := by decide +kernel
theorem dL_law_1395 : decode cL_law 1395 = .ok (.iadd, 1) := by decide +kernel
theorem dL_law_1396 : decode cL_law 1396 = .ok (.iaload, 1) := by decide +kernel
theorem dL_law_1397 : decode cL_law 1397 = .ok (.aload_n 0, 1) := by decide +kernel
theorem dL_law_1398 : decode cL_law 1398 = .ok (.iload_n 3, 1) := by decide +kernel
theorem dL_law_1399 : decode cL_law 1399 = .ok (.iconst 2, 1) := by decide +kernel
theorem dL_law_1400 : decode cL_law 1400 = .ok (.iadd, 1) := by decide +kernel
theorem dL_law_1401 : decode cL_law 1401 = .ok (.iaload, 1) := by decide +kernel
theorem dL_law_1402 : decode cL_law 1402 = .ok (.invokevirtual 169, 3) := by decide +kernel
theorem dL_law_1405 : decode cL_law 1405 = .ok (.if_icmp .eq 97, 3) := by decide +kernel
theorem dL_law_1408 : decode cL_law 1408 = .ok (.iconst 0, 1) := by decide +kernel
theorem dL_law_1409 : decode cL_law 1409 = .ok (.ireturn, 1) := by decide +kernel
theorem dL_law_1410 : decode cL_law 1410 = .ok (.aload_n 1, 1) := by decide +kernel
theorem dL_law_1411 : decode cL_law 1411 = .ok (.aload_n 0, 1) := by decide +kernel
theorem dL_law_1412 : decode cL_law 1412 = .ok (.iload_n 3, 1) := by decide +kernel
theorem dL_law_1413 : decode cL_law 1413 = .ok (.iconst 1, 1) := by decide +kernel
theorem dL_law_1414 : decode cL_law 1414 = .ok (.iadd, 1) := by decide +kernel
theorem dL_law_1415 : decode cL_law 1415 = .ok (.iaload, 1) := by decide +kernel
theorem dL_law_1416 : decode cL_law 1416 = .ok (.invokevirtual 170, 3) := by decide +kernel
theorem dL_law_1419 : decode cL_law 1419 = .ok (.aload_n 2, 1) := by decide +kernel
theorem dL_law_1420 : decode cL_law 1420 = .ok (.aload_n 0, 1) := by decide +kernel
theorem dL_law_1421 : decode cL_law 1421 = .ok (.iload_n 3, 1) := by decide +kernel
theorem dL_law_1422 : decode cL_law 1422 = .ok (.iconst 1, 1) := by decide +kernel
theorem dL_law_1423 : decode cL_law 1423 = .ok (.iadd, 1) := by decide +kernel
theorem dL_law_1424 : decode cL_law 1424 = .ok (.iaload, 1) := by decide +kernel
theorem dL_law_1425 : decode cL_law 1425 = .ok (.invokevirtual 173, 3) := by decide +kernel
theorem dL_law_1428 : decode cL_law 1428 = .ok (.if_icmp .eq 74, 3) := by decide +kernel
theorem dL_law_1431 : decode cL_law 1431 = .ok (.iconst 0, 1) := by decide +kernel
theorem dL_law_1432 : decode cL_law 1432 = .ok (.ireturn, 1) := by decide +kernel
theorem dL_law_1433 : decode cL_law 1433 = .ok (.aload_n 1, 1) := by decide +kernel
theorem dL_law_1434 : decode cL_law 1434 = .ok (.aload_n 0, 1) := by decide +kernel
theorem dL_law_1435 : decode cL_law 1435 = .ok (.iload_n 3, 1) := by decide +kernel
theorem dL_law_1436 : decode cL_law 1436 = .ok (.iconst 1, 1) := by decide +kernel
theorem dL_law_1437 : decode cL_law 1437 = .ok (.iadd, 1) := by decide +kernel
theorem dL_law_1438 : decode cL_law 1438 = .ok (.iaload, 1) := by decide +kernel
theorem dL_law_1439 : decode cL_law 1439 = .ok (.invokevirtual 174, 3) := by decide +kernel
theorem dL_law_1442 : decode cL_law 1442 = .ok (.aload_n 2, 1) := by decide +kernel
theorem dL_law_1443 : decode cL_law 1443 = .ok (.aload_n 0, 1) := by decide +kernel
theorem dL_law_1444 : decode cL_law 1444 = .ok (.iload_n 3, 1) := by decide +kernel
theorem dL_law_1445 : decode cL_law 1445 = .ok (.iconst 1, 1) := by decide +kernel
theorem dL_law_1446 : decode cL_law 1446 = .ok (.iadd, 1) := by decide +kernel
theorem dL_law_1447 : decode cL_law 1447 = .ok (.iaload, 1) := by decide +kernel
theorem dL_law_1448 : decode cL_law 1448 = .ok (.invokevirtual 177, 3) := by decide +kernel
theorem dL_law_1451 : decode cL_law 1451 = .ok (.if_icmp .eq 51, 3) := by decide +kernel
theorem dL_law_1454 : decode cL_law 1454 = .ok (.iconst 0, 1) := by decide +kernel
theorem dL_law_1455 : decode cL_law 1455 = .ok (.ireturn, 1) := by decide +kernel
theorem dL_law_1456 : decode cL_law 1456 = .ok (.aload_n 1, 1) := by decide +kernel
theorem dL_law_1457 : decode cL_law 1457 = .ok (.aload_n 0, 1) := by decide +kernel
theorem dL_law_1458 : decode cL_law 1458 = .ok (.iload_n 3, 1) := by decide +kernel
theorem dL_law_1459 : decode cL_law 1459 = .ok (.iconst 1, 1) := by decide +kernel
theorem dL_law_1460 : decode cL_law 1460 = .ok (.iadd, 1) := by decide +kernel
theorem dL_law_1461 : decode cL_law 1461 = .ok (.iaload, 1) := by decide +kernel
theorem dL_law_1462 : decode cL_law 1462 = .ok (.invokevirtual 178, 3) := by decide +kernel
theorem dL_law_1465 : decode cL_law 1465 = .ok (.aload_n 2, 1) := by decide +kernel
theorem dL_law_1466 : decode cL_law 1466 = .ok (.aload_n 0, 1) := by decide +kernel
theorem dL_law_1467 : decode cL_law 1467 = .ok (.iload_n 3, 1) := by decide +kernel
theorem dL_law_1468 : decode cL_law 1468 = .ok (.iconst 1, 1) := by decide +kernel
theorem dL_law_1469 : decode cL_law 1469 = .ok (.iadd, 1) := by decide +kernel
theorem dL_law_1470 : decode cL_law 1470 = .ok (.iaload, 1) := by decide +kernel
theorem dL_law_1471 : decode cL_law 1471 = .ok (.invokevirtual 181, 3) := by decide +kernel
theorem dL_law_1474 : decode cL_law 1474 = .ok (.if_icmp .eq 28, 3) := by decide +kernel
theorem dL_law_1477 : decode cL_law 1477 = .ok (.iconst 0, 1) := by decide +kernel
theorem dL_law_1478 : decode cL_law 1478 = .ok (.ireturn, 1) := by decide +kernel
theorem dL_law_1479 : decode cL_law 1479 = .ok (.aload_n 1, 1) := by decide +kernel
theorem dL_law_1480 : decode cL_law 1480 = .ok (.aload_n 0, 1) := by decide +kernel
theorem dL_law_1481 : decode cL_law 1481 = .ok (.iload_n 3, 1) := by decide +kernel
theorem dL_law_1482 : decode cL_law 1482 = .ok (.iconst 1, 1) := by decide +kernel
theorem dL_law_1483 : decode cL_law 1483 = .ok (.iadd, 1) := by decide +kernel
theorem dL_law_1484 : decode cL_law 1484 = .ok (.iaload, 1) := by decide +kernel
theorem dL_law_1485 : decode cL_law 1485 = .ok (.invokevirtual 182, 3) := by decide +kernel
theorem dL_law_1488 : decode cL_law 1488 = .ok (.aload_n 2, 1) := by decide +kernel
theorem dL_law_1489 : decode cL_law 1489 = .ok (.aload_n 0, 1) := by decide +kernel
theorem dL_law_1490 : decode cL_law 1490 = .ok (.iload_n 3, 1) := by decide +kernel
theorem dL_law_1491 : decode cL_law 1491 = .ok (.iconst 1, 1) := by decide +kernel
theorem dL_law_1492 : decode cL_law 1492 = .ok (.iadd, 1) := by decide +kernel
theorem dL_law_1493 : decode cL_law 1493 = .ok (.iaload, 1) := by decide +kernel
theorem dL_law_1494 : decode cL_law 1494 = .ok (.invokevirtual 185, 3) := by decide +kernel
theorem dL_law_1497 : decode cL_law 1497 = .ok (.if_icmp .eq 5, 3) := by decide +kernel
theorem dL_law_1500 : decode cL_law 1500 = .ok (.iconst 0, 1) := by decide +kernel
theorem dL_law_1501 : decode cL_law 1501 = .ok (.ireturn, 1) := by decide +kernel
theorem dL_law_1502 : decode cL_law 1502 = .ok (.iinc 3 7, 3) := by decide +kernel
theorem dL_law_1505 : decode cL_law 1505 = .ok (.goto (-1487), 3) := by decide +kernel
theorem dL_law_1508 : decode cL_law 1508 = .ok (.iconst 1, 1) := by decide +kernel
theorem dL_law_1509 : decode cL_law 1509 = .ok (.ireturn, 1) := by decide +kernel
end
section
/-- the tables' words that stay true whatever is resolved -/
def tG : List Cond := lw_tbl.filter goodWord
theorem tg_in {w : Cond} (i : Nat) (h : lw_tbl[i]? = some w) (hg : goodWord w = true) : w ∈ tG := List.mem_filter.mpr ⟨List.mem_of_getElem? h, hg⟩
theorem tg_good : GoodIn tG tG := fun _ h => ⟨h, good_of_word (List.mem_filter.mp h).2⟩
theorem tg_call {y : MethodName} {c : ByteArray} {n : Nat} {r : Option FieldType} (h : Cond.code y c n r ∈ tG) : GoodIn tG (Cond.code y c n r :: tG) := by
  intro w hw
  rcases List.mem_cons.mp hw with e | e
  · rw [e]; exact tg_good _ h
  · exact tg_good w e
theorem ksel_X8_begin : Cond.selects RX8 yX8_begin yX8_begin ∈ tG := tg_in 0 (by decide +kernel) rfl
theorem ksel_X8_takes : Cond.selects RX8 yX8_takes yX8_takes ∈ tG := tg_in 1 (by decide +kernel) rfl
theorem ksel_X8_takesTens : Cond.selects RX8 yX8_takesTens yX8_takesTens ∈ tG := tg_in 2 (by decide +kernel) rfl
theorem ksel_X8_takesOnes : Cond.selects RX8 yX8_takesOnes yX8_takesOnes ∈ tG := tg_in 3 (by decide +kernel) rfl
theorem ksel_X8_takesColon : Cond.selects RX8 yX8_takesColon yX8_takesColon ∈ tG := tg_in 4 (by decide +kernel) rfl
theorem ksel_X8_takesNextEntry : Cond.selects RX8 yX8_takesNextEntry yX8_takesNextEntry ∈ tG := tg_in 5 (by decide +kernel) rfl
theorem ksel_X8_takesBand : Cond.selects RX8 yX8_takesBand yX8_takesBand ∈ tG := tg_in 6 (by decide +kernel) rfl
theorem ksel_X6_begin : Cond.selects RX6 yX6_begin yX6_begin ∈ tG := tg_in 7 (by decide +kernel) rfl
theorem ksel_X6_takes : Cond.selects RX6 yX6_takes yX6_takes ∈ tG := tg_in 8 (by decide +kernel) rfl
theorem ksel_X6_takesFigure : Cond.selects RX6 yX6_takesFigure yX6_takesFigure ∈ tG := tg_in 9 (by decide +kernel) rfl
theorem ksel_X6_takesBand : Cond.selects RX6 yX6_takesBand yX6_takesBand ∈ tG := tg_in 10 (by decide +kernel) rfl
theorem ksel_X6_opens : Cond.selects RX6 yX6_opens yX6_opens ∈ tG := tg_in 11 (by decide +kernel) rfl
theorem ksel_X6_takesKind : Cond.selects RX6 yX6_takesKind yX6_takesKind ∈ tG := tg_in 12 (by decide +kernel) rfl
theorem ksel_X6_someBandIsUntold : Cond.selects RX6 yX6_someBandIsUntold yX6_someBandIsUntold ∈ tG := tg_in 13 (by decide +kernel) rfl
theorem ksel_X7_isNew : Cond.selects RX7 yX7_isNew yX7_isNew ∈ tG := tg_in 14 (by decide +kernel) rfl
theorem ksel_X1_add : Cond.selects RX1 yX1_add yX1_add ∈ tG := tg_in 15 (by decide +kernel) rfl
theorem ksel_X10_isBed : Cond.selects RX10 yX10_isBed yX10_isBed ∈ tG := tg_in 16 (by decide +kernel) rfl
theorem ksel_X5_weighWithout : Cond.selects RX5 yX5_weighWithout yX5_weighWithout ∈ tG := tg_in 17 (by decide +kernel) rfl
theorem ksel_X5_shareWithIce : Cond.selects RX5 yX5_shareWithIce yX5_shareWithIce ∈ tG := tg_in 18 (by decide +kernel) rfl
theorem ksel_X11_readStory : Cond.selects RX11 yX11_readStory yX11_readStory ∈ tG := tg_in 19 (by decide +kernel) rfl
theorem ksel_X11_readEntry : Cond.selects RX11 yX11_readEntry yX11_readEntry ∈ tG := tg_in 20 (by decide +kernel) rfl
theorem ksel_X11_figure : Cond.selects RX11 yX11_figure yX11_figure ∈ tG := tg_in 21 (by decide +kernel) rfl
theorem ksel_X11_fail : Cond.selects RX11 yX11_fail yX11_fail ∈ tG := tg_in 22 (by decide +kernel) rfl
theorem ksel_X11_isNext : Cond.selects RX11 yX11_isNext yX11_isNext ∈ tG := tg_in 23 (by decide +kernel) rfl
theorem ksel_X11_readLaw : Cond.selects RX11 yX11_readLaw yX11_readLaw ∈ tG := tg_in 24 (by decide +kernel) rfl
theorem ksel_X11_roundOf : Cond.selects RX11 yX11_roundOf yX11_roundOf ∈ tG := tg_in 25 (by decide +kernel) rfl
theorem ksel_X11_iceThen : Cond.selects RX11 yX11_iceThen yX11_iceThen ∈ tG := tg_in 26 (by decide +kernel) rfl
theorem ksel_X11_warmthOf : Cond.selects RX11 yX11_warmthOf yX11_warmthOf ∈ tG := tg_in 27 (by decide +kernel) rfl
theorem ksel_X11_taken : Cond.selects RX11 yX11_taken yX11_taken ∈ tG := tg_in 28 (by decide +kernel) rfl
theorem ksel_X11_layRun : Cond.selects RX11 yX11_layRun yX11_layRun ∈ tG := tg_in 29 (by decide +kernel) rfl
theorem ksel_X11_isRest : Cond.selects RX11 yX11_isRest yX11_isRest ∈ tG := tg_in 30 (by decide +kernel) rfl
theorem ksel_X11_settleOf : Cond.selects RX11 yX11_settleOf yX11_settleOf ∈ tG := tg_in 31 (by decide +kernel) rfl
theorem ksel_X11_layCurve : Cond.selects RX11 yX11_layCurve yX11_layCurve ∈ tG := tg_in 32 (by decide +kernel) rfl
theorem ksel_X11_isBed : Cond.selects RX11 yX11_isBed yX11_isBed ∈ tG := tg_in 33 (by decide +kernel) rfl
theorem ksel_X11_slide : Cond.selects RX11 yX11_slide yX11_slide ∈ tG := tg_in 34 (by decide +kernel) rfl
theorem ksel_X11_isIcy : Cond.selects RX11 yX11_isIcy yX11_isIcy ∈ tG := tg_in 35 (by decide +kernel) rfl
theorem ksel_X11_rounds : Cond.selects RX11 yX11_rounds yX11_rounds ∈ tG := tg_in 36 (by decide +kernel) rfl
theorem ksel_X11_chanceOf : Cond.selects RX11 yX11_chanceOf yX11_chanceOf ∈ tG := tg_in 37 (by decide +kernel) rfl
theorem ksel_X11_layLots : Cond.selects RX11 yX11_layLots yX11_layLots ∈ tG := tg_in 38 (by decide +kernel) rfl
theorem ksel_X11_bestOf : Cond.selects RX11 yX11_bestOf yX11_bestOf ∈ tG := tg_in 39 (by decide +kernel) rfl
theorem ksel_X11_millionths : Cond.selects RX11 yX11_millionths yX11_millionths ∈ tG := tg_in 40 (by decide +kernel) rfl
theorem ksel_X11_firstEnd : Cond.selects RX11 yX11_firstEnd yX11_firstEnd ∈ tG := tg_in 41 (by decide +kernel) rfl
theorem ksel_X11_layOrder : Cond.selects RX11 yX11_layOrder yX11_layOrder ∈ tG := tg_in 42 (by decide +kernel) rfl
theorem ksel_X11_poleOf : Cond.selects RX11 yX11_poleOf yX11_poleOf ∈ tG := tg_in 43 (by decide +kernel) rfl
theorem kini_L : Cond.initialized RL ∈ tG := tg_in 44 (by decide +kernel) rfl
theorem kini_X10 : Cond.initialized RX10 ∈ tG := tg_in 45 (by decide +kernel) rfl
theorem kini_X9 : Cond.initialized RX9 ∈ tG := tg_in 46 (by decide +kernel) rfl
theorem kini_X6 : Cond.initialized RX6 ∈ tG := tg_in 47 (by decide +kernel) rfl
theorem kini_X8 : Cond.initialized RX8 ∈ tG := tg_in 48 (by decide +kernel) rfl
theorem kini_X3 : Cond.initialized RX3 ∈ tG := tg_in 49 (by decide +kernel) rfl
theorem kini_X7 : Cond.initialized RX7 ∈ tG := tg_in 50 (by decide +kernel) rfl
theorem kini_X1 : Cond.initialized RX1 ∈ tG := tg_in 51 (by decide +kernel) rfl
theorem kini_X0 : Cond.initialized RX0 ∈ tG := tg_in 52 (by decide +kernel) rfl
theorem kini_X4 : Cond.initialized RX4 ∈ tG := tg_in 53 (by decide +kernel) rfl
theorem kini_X5 : Cond.initialized RX5 ∈ tG := tg_in 54 (by decide +kernel) rfl
theorem kini_X2 : Cond.initialized RX2 ∈ tG := tg_in 55 (by decide +kernel) rfl
theorem kini_X11 : Cond.initialized RX11 ∈ tG := tg_in 56 (by decide +kernel) rfl
theorem kini_J0 : Cond.initialized RJ0 ∈ tG := tg_in 57 (by decide +kernel) rfl
theorem kini_J1 : Cond.initialized RJ1 ∈ tG := tg_in 58 (by decide +kernel) rfl
theorem kini_J9 : Cond.initialized "java/lang/Math" ∈ tG := tg_in 59 (by decide +kernel) rfl
theorem kini_J2 : Cond.initialized RJ2 ∈ tG := tg_in 60 (by decide +kernel) rfl
theorem kini_J3 : Cond.initialized RJ3 ∈ tG := tg_in 61 (by decide +kernel) rfl
theorem kini_J11 : Cond.initialized RJ11 ∈ tG := tg_in 62 (by decide +kernel) rfl
theorem kini_J6 : Cond.initialized RJ6 ∈ tG := tg_in 63 (by decide +kernel) rfl
theorem kini_J10 : Cond.initialized "java/lang/System" ∈ tG := tg_in 64 (by decide +kernel) rfl
theorem kcl_L_7 : Cond.classLink RL 7 RX10 ∈ tG := tg_in 65 (by decide +kernel) rfl
theorem kins_X10 : Cond.instantiable RX10 11 ∈ tG := tg_in 66 (by decide +kernel) rfl
theorem kml_L_9 : Cond.methodLink RL 9 yX10_init ∈ tG := tg_in 67 (by decide +kernel) rfl
theorem kim_X10_init : Cond.instanceMethod yX10_init ∈ tG := tg_in 68 (by decide +kernel) rfl
theorem kcode_X10_init : Cond.code yX10_init cX10_init 1 none ∈ tG := tg_in 69 (by decide +kernel) rfl
theorem kml_X10_1 : Cond.methodLink RX10 1 Lib.objectInit ∈ tG := tg_in 70 (by decide +kernel) rfl
theorem kim_java_lang_Object__init____V : Cond.instanceMethod Lib.objectInit ∈ tG := tg_in 71 (by decide +kernel) rfl
theorem kcode_java_lang_Object__init____V : Cond.code Lib.objectInit ⟨#[0xb1]⟩ 1 none ∈ tG := tg_in 72 (by decide +kernel) rfl
theorem kcl_X10_7 : Cond.classLink RX10 7 RX9 ∈ tG := tg_in 73 (by decide +kernel) rfl
theorem kins_X9 : Cond.instantiable RX9 2 ∈ tG := tg_in 74 (by decide +kernel) rfl
theorem kim_X9_init : Cond.instanceMethod yX9_init ∈ tG := tg_in 76 (by decide +kernel) rfl
theorem kcode_X9_init : Cond.code yX9_init cX9_init 1 none ∈ tG := tg_in 77 (by decide +kernel) rfl
theorem kml_X9_1 : Cond.methodLink RX9 1 Lib.objectInit ∈ tG := tg_in 78 (by decide +kernel) rfl
theorem kfl_X9_9 : Cond.fieldLink RX9 9 "IceAtTheMiddle$Text" "signs" "[I" ∈ tG := tg_in 79 (by decide +kernel) rfl
theorem kfl_X8_24 : Cond.fieldLink RX8 24 "IceAtTheMiddle$Text" "signs" "[I" ∈ tG := tg_in 80 (by decide +kernel) rfl
theorem kfl_X6_26 : Cond.fieldLink RX6 26 "IceAtTheMiddle$Text" "signs" "[I" ∈ tG := tg_in 81 (by decide +kernel) rfl
theorem kfl_X9_13 : Cond.fieldLink RX9 13 "IceAtTheMiddle$Text" "length" "I" ∈ tG := tg_in 82 (by decide +kernel) rfl
theorem kfl_X8_18 : Cond.fieldLink RX8 18 "IceAtTheMiddle$Text" "length" "I" ∈ tG := tg_in 83 (by decide +kernel) rfl
theorem kfl_X6_20 : Cond.fieldLink RX6 20 "IceAtTheMiddle$Text" "length" "I" ∈ tG := tg_in 84 (by decide +kernel) rfl
theorem kfl_X10_95 : Cond.fieldLink RX10 95 "IceAtTheMiddle$Text" "length" "I" ∈ tG := tg_in 85 (by decide +kernel) rfl
theorem karr_int : Cond.arrayClass .int ∈ tG := tg_in 91 (by decide +kernel) rfl
theorem kcl_X10_16 : Cond.classLink RX10 16 RX6 ∈ tG := tg_in 92 (by decide +kernel) rfl
theorem kins_X6 : Cond.instantiable RX6 5 ∈ tG := tg_in 93 (by decide +kernel) rfl
theorem kim_X6_init : Cond.instanceMethod yX6_init ∈ tG := tg_in 95 (by decide +kernel) rfl
theorem kcode_X6_init : Cond.code yX6_init cX6_init 1 none ∈ tG := tg_in 96 (by decide +kernel) rfl
theorem kml_X6_3 : Cond.methodLink RX6 3 Lib.objectInit ∈ tG := tg_in 97 (by decide +kernel) rfl
theorem kfl_X6_11 : Cond.fieldLink RX6 11 "IceAtTheMiddle$LawReader" "numbers" "[I" ∈ tG := tg_in 98 (by decide +kernel) rfl
theorem kfl_X6_49 : Cond.fieldLink RX6 49 "IceAtTheMiddle$LawReader" "parts" "I" ∈ tG := tg_in 99 (by decide +kernel) rfl
theorem kfl_X10_108 : Cond.fieldLink RX10 108 "IceAtTheMiddle$LawReader" "parts" "I" ∈ tG := tg_in 100 (by decide +kernel) rfl
theorem kfl_X6_33 : Cond.fieldLink RX6 33 "IceAtTheMiddle$LawReader" "figuresDue" "I" ∈ tG := tg_in 101 (by decide +kernel) rfl
theorem kfl_X6_52 : Cond.fieldLink RX6 52 "IceAtTheMiddle$LawReader" "place" "I" ∈ tG := tg_in 102 (by decide +kernel) rfl
theorem kfl_X6_36 : Cond.fieldLink RX6 36 "IceAtTheMiddle$LawReader" "bandDue" "Z" ∈ tG := tg_in 103 (by decide +kernel) rfl
theorem kcl_X10_23 : Cond.classLink RX10 23 RX8 ∈ tG := tg_in 115 (by decide +kernel) rfl
theorem kins_X8 : Cond.instantiable RX8 7 ∈ tG := tg_in 116 (by decide +kernel) rfl
theorem kim_X8_init : Cond.instanceMethod yX8_init ∈ tG := tg_in 118 (by decide +kernel) rfl
theorem kcode_X8_init : Cond.code yX8_init cX8_init 1 none ∈ tG := tg_in 119 (by decide +kernel) rfl
theorem kml_X8_3 : Cond.methodLink RX8 3 Lib.objectInit ∈ tG := tg_in 120 (by decide +kernel) rfl
theorem kfl_X8_9 : Cond.fieldLink RX8 9 "IceAtTheMiddle$StoryReader" "iceFrom" "[I" ∈ tG := tg_in 121 (by decide +kernel) rfl
theorem kfl_X8_40 : Cond.fieldLink RX8 40 "IceAtTheMiddle$StoryReader" "entries" "I" ∈ tG := tg_in 122 (by decide +kernel) rfl
theorem kfl_X10_121 : Cond.fieldLink RX10 121 "IceAtTheMiddle$StoryReader" "entries" "I" ∈ tG := tg_in 123 (by decide +kernel) rfl
theorem kfl_X8_31 : Cond.fieldLink RX8 31 "IceAtTheMiddle$StoryReader" "due" "I" ∈ tG := tg_in 124 (by decide +kernel) rfl
theorem kfl_X8_43 : Cond.fieldLink RX8 43 "IceAtTheMiddle$StoryReader" "roundAhead" "I" ∈ tG := tg_in 125 (by decide +kernel) rfl
theorem kfl_X8_46 : Cond.fieldLink RX8 46 "IceAtTheMiddle$StoryReader" "tens" "I" ∈ tG := tg_in 126 (by decide +kernel) rfl
theorem kfl_X8_49 : Cond.fieldLink RX8 49 "IceAtTheMiddle$StoryReader" "roundNow" "I" ∈ tG := tg_in 127 (by decide +kernel) rfl
theorem kfl_X8_52 : Cond.fieldLink RX8 52 "IceAtTheMiddle$StoryReader" "bandAhead" "I" ∈ tG := tg_in 128 (by decide +kernel) rfl
theorem kcl_X10_30 : Cond.classLink RX10 30 RX3 ∈ tG := tg_in 144 (by decide +kernel) rfl
theorem kins_X3 : Cond.instantiable RX3 1 ∈ tG := tg_in 145 (by decide +kernel) rfl
theorem kim_X3_init : Cond.instanceMethod yX3_init ∈ tG := tg_in 147 (by decide +kernel) rfl
theorem kcode_X3_init : Cond.code yX3_init cX3_init 1 none ∈ tG := tg_in 148 (by decide +kernel) rfl
theorem kml_X3_3 : Cond.methodLink RX3 3 Lib.objectInit ∈ tG := tg_in 149 (by decide +kernel) rfl
theorem kfl_X3_11 : Cond.fieldLink RX3 11 "IceAtTheMiddle$Earth" "law" "[I" ∈ tG := tg_in 150 (by decide +kernel) rfl
theorem kfl_X6_40 : Cond.fieldLink RX6 40 "IceAtTheMiddle$Earth" "law" "[I" ∈ tG := tg_in 151 (by decide +kernel) rfl
theorem kfl_X10_111 : Cond.fieldLink RX10 111 "IceAtTheMiddle$Earth" "law" "[I" ∈ tG := tg_in 152 (by decide +kernel) rfl
theorem kcl_X10_37 : Cond.classLink RX10 37 RX7 ∈ tG := tg_in 156 (by decide +kernel) rfl
theorem kins_X7 : Cond.instantiable RX7 4 ∈ tG := tg_in 157 (by decide +kernel) rfl
theorem kim_X7_init : Cond.instanceMethod yX7_init ∈ tG := tg_in 159 (by decide +kernel) rfl
theorem kcode_X7_init : Cond.code yX7_init cX7_init 1 none ∈ tG := tg_in 160 (by decide +kernel) rfl
theorem kml_X7_3 : Cond.methodLink RX7 3 Lib.objectInit ∈ tG := tg_in 161 (by decide +kernel) rfl
theorem kfl_X7_11 : Cond.fieldLink RX7 11 "IceAtTheMiddle$Run" "states" "[I" ∈ tG := tg_in 162 (by decide +kernel) rfl
theorem kfl_X7_17 : Cond.fieldLink RX7 17 "IceAtTheMiddle$Run" "placeBehind" "[I" ∈ tG := tg_in 163 (by decide +kernel) rfl
theorem kfl_X7_24 : Cond.fieldLink RX7 24 "IceAtTheMiddle$Run" "length" "I" ∈ tG := tg_in 164 (by decide +kernel) rfl
theorem kfl_X7_45 : Cond.fieldLink RX7 45 "IceAtTheMiddle$Run" "lead" "I" ∈ tG := tg_in 165 (by decide +kernel) rfl
theorem kfl_X10_166 : Cond.fieldLink RX10 166 "IceAtTheMiddle$Run" "lead" "I" ∈ tG := tg_in 166 (by decide +kernel) rfl
theorem kcl_X10_44 : Cond.classLink RX10 44 RX1 ∈ tG := tg_in 176 (by decide +kernel) rfl
theorem kins_X1 : Cond.instantiable RX1 3 ∈ tG := tg_in 177 (by decide +kernel) rfl
theorem kim_X1_init : Cond.instanceMethod yX1_init ∈ tG := tg_in 179 (by decide +kernel) rfl
theorem kcode_X1_init : Cond.code yX1_init cX1_init 1 none ∈ tG := tg_in 180 (by decide +kernel) rfl
theorem kml_X1_3 : Cond.methodLink RX1 3 Lib.objectInit ∈ tG := tg_in 181 (by decide +kernel) rfl
theorem kfl_X1_9 : Cond.fieldLink RX1 9 "IceAtTheMiddle$Curve" "airs" "[I" ∈ tG := tg_in 182 (by decide +kernel) rfl
theorem kfl_X1_21 : Cond.fieldLink RX1 21 "IceAtTheMiddle$Curve" "found" "I" ∈ tG := tg_in 183 (by decide +kernel) rfl
theorem kfl_X10_196 : Cond.fieldLink RX10 196 "IceAtTheMiddle$Curve" "found" "I" ∈ tG := tg_in 184 (by decide +kernel) rfl
theorem kfl_X1_25 : Cond.fieldLink RX1 25 "IceAtTheMiddle$Curve" "end" "I" ∈ tG := tg_in 185 (by decide +kernel) rfl
theorem kfl_X10_202 : Cond.fieldLink RX10 202 "IceAtTheMiddle$Curve" "end" "I" ∈ tG := tg_in 186 (by decide +kernel) rfl
theorem kcl_X10_51 : Cond.classLink RX10 51 RX0 ∈ tG := tg_in 194 (by decide +kernel) rfl
theorem kins_X0 : Cond.instantiable RX0 1 ∈ tG := tg_in 195 (by decide +kernel) rfl
theorem kim_X0_init : Cond.instanceMethod yX0_init ∈ tG := tg_in 197 (by decide +kernel) rfl
theorem kcode_X0_init : Cond.code yX0_init cX0_init 1 none ∈ tG := tg_in 198 (by decide +kernel) rfl
theorem kml_X0_3 : Cond.methodLink RX0 3 Lib.objectInit ∈ tG := tg_in 199 (by decide +kernel) rfl
theorem kfl_X0_9 : Cond.fieldLink RX0 9 "IceAtTheMiddle$Chronicle" "ice" "[I" ∈ tG := tg_in 200 (by decide +kernel) rfl
theorem kcl_X10_58 : Cond.classLink RX10 58 RX4 ∈ tG := tg_in 204 (by decide +kernel) rfl
theorem kins_X4 : Cond.instantiable RX4 4 ∈ tG := tg_in 205 (by decide +kernel) rfl
theorem kim_X4_init : Cond.instanceMethod yX4_init ∈ tG := tg_in 207 (by decide +kernel) rfl
theorem kcode_X4_init : Cond.code yX4_init cX4_init 1 none ∈ tG := tg_in 208 (by decide +kernel) rfl
theorem kml_X4_3 : Cond.methodLink RX4 3 Lib.objectInit ∈ tG := tg_in 209 (by decide +kernel) rfl
theorem kfl_X4_11 : Cond.fieldLink RX4 11 "IceAtTheMiddle$Ground" "marks" "[I" ∈ tG := tg_in 210 (by decide +kernel) rfl
theorem kfl_X4_15 : Cond.fieldLink RX4 15 "IceAtTheMiddle$Ground" "weights" "[I" ∈ tG := tg_in 211 (by decide +kernel) rfl
theorem kfl_X5_67 : Cond.fieldLink RX5 67 "IceAtTheMiddle$Ground" "weights" "[I" ∈ tG := tg_in 212 (by decide +kernel) rfl
theorem kfl_X10_244 : Cond.fieldLink RX10 244 "IceAtTheMiddle$Ground" "weights" "[I" ∈ tG := tg_in 213 (by decide +kernel) rfl
theorem kfl_X2_17 : Cond.fieldLink RX2 17 "IceAtTheMiddle$Ground" "beds" "I" ∈ tG := tg_in 214 (by decide +kernel) rfl
theorem kfl_X5_46 : Cond.fieldLink RX5 46 "IceAtTheMiddle$Ground" "beds" "I" ∈ tG := tg_in 215 (by decide +kernel) rfl
theorem kfl_X4_30 : Cond.fieldLink RX4 30 "IceAtTheMiddle$Ground" "beds" "I" ∈ tG := tg_in 216 (by decide +kernel) rfl
theorem kfl_X10_208 : Cond.fieldLink RX10 208 "IceAtTheMiddle$Ground" "beds" "I" ∈ tG := tg_in 217 (by decide +kernel) rfl
theorem kfl_X10_303 : Cond.fieldLink RX10 303 "IceAtTheMiddle$Ground" "isKept" "Z" ∈ tG := tg_in 218 (by decide +kernel) rfl
theorem kcl_X10_65 : Cond.classLink RX10 65 RX5 ∈ tG := tg_in 228 (by decide +kernel) rfl
theorem kins_X5 : Cond.instantiable RX5 3 ∈ tG := tg_in 229 (by decide +kernel) rfl
theorem kim_X5_init : Cond.instanceMethod yX5_init ∈ tG := tg_in 231 (by decide +kernel) rfl
theorem kcode_X5_init : Cond.code yX5_init cX5_init 1 none ∈ tG := tg_in 232 (by decide +kernel) rfl
theorem kml_X5_3 : Cond.methodLink RX5 3 Lib.objectInit ∈ tG := tg_in 233 (by decide +kernel) rfl
theorem kfl_X5_9 : Cond.fieldLink RX5 9 "IceAtTheMiddle$Judge" "shares" "[J" ∈ tG := tg_in 234 (by decide +kernel) rfl
theorem kfl_X10_257 : Cond.fieldLink RX10 257 "IceAtTheMiddle$Judge" "shares" "[J" ∈ tG := tg_in 235 (by decide +kernel) rfl
theorem kfl_X5_17 : Cond.fieldLink RX5 17 "IceAtTheMiddle$Judge" "chances" "[I" ∈ tG := tg_in 236 (by decide +kernel) rfl
theorem kfl_X5_63 : Cond.fieldLink RX5 63 "IceAtTheMiddle$Judge" "all" "J" ∈ tG := tg_in 237 (by decide +kernel) rfl
theorem kfl_X10_251 : Cond.fieldLink RX10 251 "IceAtTheMiddle$Judge" "all" "J" ∈ tG := tg_in 238 (by decide +kernel) rfl
theorem karr_long : Cond.arrayClass .long ∈ tG := tg_in 246 (by decide +kernel) rfl
theorem kcl_X10_72 : Cond.classLink RX10 72 RX2 ∈ tG := tg_in 247 (by decide +kernel) rfl
theorem kins_X2 : Cond.instantiable RX2 2 ∈ tG := tg_in 248 (by decide +kernel) rfl
theorem kim_X2_init : Cond.instanceMethod yX2_init ∈ tG := tg_in 250 (by decide +kernel) rfl
theorem kcode_X2_init : Cond.code yX2_init cX2_init 1 none ∈ tG := tg_in 251 (by decide +kernel) rfl
theorem kml_X2_3 : Cond.methodLink RX2 3 Lib.objectInit ∈ tG := tg_in 252 (by decide +kernel) rfl
theorem kfl_X2_11 : Cond.fieldLink RX2 11 "IceAtTheMiddle$Dates" "rounds" "[I" ∈ tG := tg_in 253 (by decide +kernel) rfl
theorem kfl_X2_37 : Cond.fieldLink RX2 37 "IceAtTheMiddle$Dates" "found" "I" ∈ tG := tg_in 254 (by decide +kernel) rfl
theorem kfl_X10_279 : Cond.fieldLink RX10 279 "IceAtTheMiddle$Dates" "found" "I" ∈ tG := tg_in 255 (by decide +kernel) rfl
theorem kfl_X10_10 : Cond.fieldLink RX10 10 "IceAtTheMiddle" "text" "LIceAtTheMiddle$Text;" ∈ tG := tg_in 262 (by decide +kernel) rfl
theorem kfl_X10_19 : Cond.fieldLink RX10 19 "IceAtTheMiddle" "lawReader" "LIceAtTheMiddle$LawReader;" ∈ tG := tg_in 263 (by decide +kernel) rfl
theorem kfl_X10_26 : Cond.fieldLink RX10 26 "IceAtTheMiddle" "storyReader" "LIceAtTheMiddle$StoryReader;" ∈ tG := tg_in 264 (by decide +kernel) rfl
theorem kfl_X10_33 : Cond.fieldLink RX10 33 "IceAtTheMiddle" "earth" "LIceAtTheMiddle$Earth;" ∈ tG := tg_in 265 (by decide +kernel) rfl
theorem kfl_X10_40 : Cond.fieldLink RX10 40 "IceAtTheMiddle" "path" "LIceAtTheMiddle$Run;" ∈ tG := tg_in 266 (by decide +kernel) rfl
theorem kfl_X10_47 : Cond.fieldLink RX10 47 "IceAtTheMiddle" "bend" "LIceAtTheMiddle$Curve;" ∈ tG := tg_in 267 (by decide +kernel) rfl
theorem kfl_X10_54 : Cond.fieldLink RX10 54 "IceAtTheMiddle" "chronicle" "LIceAtTheMiddle$Chronicle;" ∈ tG := tg_in 268 (by decide +kernel) rfl
theorem kfl_X10_61 : Cond.fieldLink RX10 61 "IceAtTheMiddle" "ground" "LIceAtTheMiddle$Ground;" ∈ tG := tg_in 269 (by decide +kernel) rfl
theorem kfl_X10_68 : Cond.fieldLink RX10 68 "IceAtTheMiddle" "judge" "LIceAtTheMiddle$Judge;" ∈ tG := tg_in 270 (by decide +kernel) rfl
theorem kfl_X10_75 : Cond.fieldLink RX10 75 "IceAtTheMiddle" "dates" "LIceAtTheMiddle$Dates;" ∈ tG := tg_in 271 (by decide +kernel) rfl
theorem kfl_X10_79 : Cond.fieldLink RX10 79 "IceAtTheMiddle" "slots" "[LIceAtTheMiddle$Ground;" ∈ tG := tg_in 272 (by decide +kernel) rfl
theorem kml_L_15 : Cond.methodLink RL 15 yX10_write ∈ tG := tg_in 296 (by decide +kernel) rfl
theorem kim_X10_write : Cond.instanceMethod yX10_write ∈ tG := tg_in 297 (by decide +kernel) rfl
theorem ksel_X10_write : Cond.selects RX10 yX10_write yX10_write ∈ tG := tg_in 298 (by decide +kernel) rfl
theorem kcode_X10_write : Cond.code yX10_write cX10_write 4 (some .int) ∈ tG := tg_in 299 (by decide +kernel) rfl
theorem kml_X10_83 : Cond.methodLink RX10 83 yX10_within ∈ tG := tg_in 300 (by decide +kernel) rfl
theorem kst_X10_within : Cond.static yX10_within ∈ tG := tg_in 301 (by decide +kernel) rfl
theorem kcode_X10_within : Cond.code yX10_within cX10_within 3 (some .boolean) ∈ tG := tg_in 302 (by decide +kernel) rfl
theorem kml_X10_87 : Cond.methodLink RX10 87 yX9_hasRoomFor ∈ tG := tg_in 303 (by decide +kernel) rfl
theorem kim_X9_hasRoomFor : Cond.instanceMethod yX9_hasRoomFor ∈ tG := tg_in 304 (by decide +kernel) rfl
theorem ksel_X9_hasRoomFor : Cond.selects RX9 yX9_hasRoomFor yX9_hasRoomFor ∈ tG := tg_in 305 (by decide +kernel) rfl
theorem kcode_X9_hasRoomFor : Cond.code yX9_hasRoomFor cX9_hasRoomFor 2 (some .boolean) ∈ tG := tg_in 306 (by decide +kernel) rfl
theorem kml_X10_91 : Cond.methodLink RX10 91 yX9_put ∈ tG := tg_in 307 (by decide +kernel) rfl
theorem kim_X9_put : Cond.instanceMethod yX9_put ∈ tG := tg_in 308 (by decide +kernel) rfl
theorem ksel_X9_put : Cond.selects RX9 yX9_put yX9_put ∈ tG := tg_in 309 (by decide +kernel) rfl
theorem kcode_X9_put : Cond.code yX9_put cX9_put 5 none ∈ tG := tg_in 310 (by decide +kernel) rfl
theorem kml_L_20 : Cond.methodLink RL 20 yX10_wipe ∈ tG := tg_in 311 (by decide +kernel) rfl
theorem kim_X10_wipe : Cond.instanceMethod yX10_wipe ∈ tG := tg_in 312 (by decide +kernel) rfl
theorem ksel_X10_wipe : Cond.selects RX10 yX10_wipe yX10_wipe ∈ tG := tg_in 313 (by decide +kernel) rfl
theorem kcode_X10_wipe : Cond.code yX10_wipe cX10_wipe 2 (some .int) ∈ tG := tg_in 314 (by decide +kernel) rfl
theorem kml_L_25 : Cond.methodLink RL 25 yX10_fault ∈ tG := tg_in 315 (by decide +kernel) rfl
theorem kim_X10_fault : Cond.instanceMethod yX10_fault ∈ tG := tg_in 316 (by decide +kernel) rfl
theorem ksel_X10_fault : Cond.selects RX10 yX10_fault yX10_fault ∈ tG := tg_in 317 (by decide +kernel) rfl
theorem kcode_X10_fault : Cond.code yX10_fault cX10_fault 2 (some .int) ∈ tG := tg_in 318 (by decide +kernel) rfl
theorem kml_X10_99 : Cond.methodLink RX10 99 yX8_faultOf ∈ tG := tg_in 319 (by decide +kernel) rfl
theorem kim_X8_faultOf : Cond.instanceMethod yX8_faultOf ∈ tG := tg_in 320 (by decide +kernel) rfl
theorem ksel_X8_faultOf : Cond.selects RX8 yX8_faultOf yX8_faultOf ∈ tG := tg_in 321 (by decide +kernel) rfl
theorem kcode_X8_faultOf : Cond.code yX8_faultOf cX8_faultOf 3 (some .int) ∈ tG := tg_in 322 (by decide +kernel) rfl
theorem kml_X8_15 : Cond.methodLink RX8 15 yX8_begin ∈ tG := tg_in 323 (by decide +kernel) rfl
theorem kim_X8_begin : Cond.instanceMethod yX8_begin ∈ tG := tg_in 325 (by decide +kernel) rfl
theorem kcode_X8_begin : Cond.code yX8_begin cX8_begin 2 none ∈ tG := tg_in 326 (by decide +kernel) rfl
theorem kml_X8_27 : Cond.methodLink RX8 27 yX8_takes ∈ tG := tg_in 327 (by decide +kernel) rfl
theorem kim_X8_takes : Cond.instanceMethod yX8_takes ∈ tG := tg_in 329 (by decide +kernel) rfl
theorem kcode_X8_takes : Cond.code yX8_takes cX8_takes 2 (some .boolean) ∈ tG := tg_in 330 (by decide +kernel) rfl
theorem kml_X8_55 : Cond.methodLink RX8 55 yX8_takesTens ∈ tG := tg_in 331 (by decide +kernel) rfl
theorem kim_X8_takesTens : Cond.instanceMethod yX8_takesTens ∈ tG := tg_in 333 (by decide +kernel) rfl
theorem kcode_X8_takesTens : Cond.code yX8_takesTens cX8_takesTens 2 (some .boolean) ∈ tG := tg_in 334 (by decide +kernel) rfl
theorem kst_X10_figure : Cond.static yX10_figure ∈ tG := tg_in 336 (by decide +kernel) rfl
theorem kcode_X10_figure : Cond.code yX10_figure cX10_figure 1 (some .int) ∈ tG := tg_in 337 (by decide +kernel) rfl
theorem kml_X8_58 : Cond.methodLink RX8 58 yX8_takesOnes ∈ tG := tg_in 338 (by decide +kernel) rfl
theorem kim_X8_takesOnes : Cond.instanceMethod yX8_takesOnes ∈ tG := tg_in 340 (by decide +kernel) rfl
theorem kcode_X8_takesOnes : Cond.code yX8_takesOnes cX8_takesOnes 3 (some .boolean) ∈ tG := tg_in 341 (by decide +kernel) rfl
theorem kml_X8_61 : Cond.methodLink RX8 61 yX8_takesColon ∈ tG := tg_in 342 (by decide +kernel) rfl
theorem kim_X8_takesColon : Cond.instanceMethod yX8_takesColon ∈ tG := tg_in 344 (by decide +kernel) rfl
theorem kcode_X8_takesColon : Cond.code yX8_takesColon cX8_takesColon 2 (some .boolean) ∈ tG := tg_in 345 (by decide +kernel) rfl
theorem kst_X10_isRound : Cond.static yX10_isRound ∈ tG := tg_in 347 (by decide +kernel) rfl
theorem kcode_X10_isRound : Cond.code yX10_isRound cX10_isRound 1 (some .boolean) ∈ tG := tg_in 348 (by decide +kernel) rfl
theorem kml_X8_64 : Cond.methodLink RX8 64 yX8_takesNextEntry ∈ tG := tg_in 349 (by decide +kernel) rfl
theorem kim_X8_takesNextEntry : Cond.instanceMethod yX8_takesNextEntry ∈ tG := tg_in 351 (by decide +kernel) rfl
theorem kcode_X8_takesNextEntry : Cond.code yX8_takesNextEntry cX8_takesNextEntry 1 (some .boolean) ∈ tG := tg_in 352 (by decide +kernel) rfl
theorem kml_X8_68 : Cond.methodLink RX8 68 yX8_takesBand ∈ tG := tg_in 353 (by decide +kernel) rfl
theorem kim_X8_takesBand : Cond.instanceMethod yX8_takesBand ∈ tG := tg_in 355 (by decide +kernel) rfl
theorem kcode_X8_takesBand : Cond.code yX8_takesBand cX8_takesBand 3 (some .boolean) ∈ tG := tg_in 356 (by decide +kernel) rfl
theorem kst_X10_isBand : Cond.static yX10_isBand ∈ tG := tg_in 358 (by decide +kernel) rfl
theorem kcode_X10_isBand : Cond.code yX10_isBand cX10_isBand 1 (some .boolean) ∈ tG := tg_in 359 (by decide +kernel) rfl
theorem kml_X10_103 : Cond.methodLink RX10 103 yX6_faultOf ∈ tG := tg_in 360 (by decide +kernel) rfl
theorem kim_X6_faultOf : Cond.instanceMethod yX6_faultOf ∈ tG := tg_in 361 (by decide +kernel) rfl
theorem ksel_X6_faultOf : Cond.selects RX6 yX6_faultOf yX6_faultOf ∈ tG := tg_in 362 (by decide +kernel) rfl
theorem kcode_X6_faultOf : Cond.code yX6_faultOf cX6_faultOf 3 (some .int) ∈ tG := tg_in 363 (by decide +kernel) rfl
theorem kml_X6_17 : Cond.methodLink RX6 17 yX6_begin ∈ tG := tg_in 364 (by decide +kernel) rfl
theorem kim_X6_begin : Cond.instanceMethod yX6_begin ∈ tG := tg_in 366 (by decide +kernel) rfl
theorem kcode_X6_begin : Cond.code yX6_begin cX6_begin 2 none ∈ tG := tg_in 367 (by decide +kernel) rfl
theorem kml_X6_29 : Cond.methodLink RX6 29 yX6_takes ∈ tG := tg_in 368 (by decide +kernel) rfl
theorem kim_X6_takes : Cond.instanceMethod yX6_takes ∈ tG := tg_in 370 (by decide +kernel) rfl
theorem kcode_X6_takes : Cond.code yX6_takes cX6_takes 2 (some .boolean) ∈ tG := tg_in 371 (by decide +kernel) rfl
theorem kml_X6_55 : Cond.methodLink RX6 55 yX6_takesFigure ∈ tG := tg_in 372 (by decide +kernel) rfl
theorem kim_X6_takesFigure : Cond.instanceMethod yX6_takesFigure ∈ tG := tg_in 374 (by decide +kernel) rfl
theorem kcode_X6_takesFigure : Cond.code yX6_takesFigure cX6_takesFigure 3 (some .boolean) ∈ tG := tg_in 375 (by decide +kernel) rfl
theorem kml_X6_58 : Cond.methodLink RX6 58 yX6_takesBand ∈ tG := tg_in 378 (by decide +kernel) rfl
theorem kim_X6_takesBand : Cond.instanceMethod yX6_takesBand ∈ tG := tg_in 380 (by decide +kernel) rfl
theorem kcode_X6_takesBand : Cond.code yX6_takesBand cX6_takesBand 3 (some .boolean) ∈ tG := tg_in 381 (by decide +kernel) rfl
theorem kml_X6_76 : Cond.methodLink RX6 76 yX6_opens ∈ tG := tg_in 383 (by decide +kernel) rfl
theorem kim_X6_opens : Cond.instanceMethod yX6_opens ∈ tG := tg_in 385 (by decide +kernel) rfl
theorem kcode_X6_opens : Cond.code yX6_opens cX6_opens 2 (some .boolean) ∈ tG := tg_in 386 (by decide +kernel) rfl
theorem kml_X6_61 : Cond.methodLink RX6 61 yX6_takesKind ∈ tG := tg_in 387 (by decide +kernel) rfl
theorem kim_X6_takesKind : Cond.instanceMethod yX6_takesKind ∈ tG := tg_in 389 (by decide +kernel) rfl
theorem kcode_X6_takesKind : Cond.code yX6_takesKind cX6_takesKind 3 (some .boolean) ∈ tG := tg_in 390 (by decide +kernel) rfl
theorem kml_X6_64 : Cond.methodLink RX6 64 yX6_someBandIsUntold ∈ tG := tg_in 391 (by decide +kernel) rfl
theorem kim_X6_someBandIsUntold : Cond.instanceMethod yX6_someBandIsUntold ∈ tG := tg_in 393 (by decide +kernel) rfl
theorem kcode_X6_someBandIsUntold : Cond.code yX6_someBandIsUntold cX6_someBandIsUntold 2 (some .boolean) ∈ tG := tg_in 394 (by decide +kernel) rfl
theorem kml_X6_70 : Cond.methodLink RX6 70 yJ0_indexOf_0f7a4 ∈ tG := tg_in 396 (by decide +kernel) rfl
theorem kim_J0_indexOf_0f7a4 : Cond.instanceMethod yJ0_indexOf_0f7a4 ∈ tG := tg_in 397 (by decide +kernel) rfl
theorem ksel_J0_indexOf_0f7a4 : Cond.selects RJ0 yJ0_indexOf_0f7a4 yJ0_indexOf_0f7a4 ∈ tG := tg_in 398 (by decide +kernel) rfl
theorem kcode_J0_indexOf_0f7a4 : Cond.code yJ0_indexOf_0f7a4 cJ0_indexOf_0f7a4 2 (some .int) ∈ tG := tg_in 399 (by decide +kernel) rfl
theorem kml_J0_633 : Cond.methodLink RJ0 633 yJ0_indexOf_7cf53 ∈ tG := tg_in 400 (by decide +kernel) rfl
theorem kim_J0_indexOf_7cf53 : Cond.instanceMethod yJ0_indexOf_7cf53 ∈ tG := tg_in 401 (by decide +kernel) rfl
theorem ksel_J0_indexOf_7cf53 : Cond.selects RJ0 yJ0_indexOf_7cf53 yJ0_indexOf_7cf53 ∈ tG := tg_in 402 (by decide +kernel) rfl
theorem kcode_J0_indexOf_7cf53 : Cond.code yJ0_indexOf_7cf53 cJ0_indexOf_7cf53 3 (some .int) ∈ tG := tg_in 403 (by decide +kernel) rfl
theorem kml_J0_492 : Cond.methodLink RJ0 492 yJ0_isLatin1_aae02 ∈ tG := tg_in 404 (by decide +kernel) rfl
theorem kim_J0_isLatin1_aae02 : Cond.instanceMethod yJ0_isLatin1_aae02 ∈ tG := tg_in 405 (by decide +kernel) rfl
theorem ksel_J0_isLatin1_aae02 : Cond.selects RJ0 yJ0_isLatin1_aae02 yJ0_isLatin1_aae02 ∈ tG := tg_in 406 (by decide +kernel) rfl
theorem kcode_J0_isLatin1_aae02 : Cond.code yJ0_isLatin1_aae02 cJ0_isLatin1_aae02 1 (some .boolean) ∈ tG := tg_in 407 (by decide +kernel) rfl
theorem kfl_J0_38 : Cond.fieldLink RJ0 38 "java/lang/String" "COMPACT_STRINGS" "Z" ∈ tG := tg_in 408 (by decide +kernel) rfl
theorem kml_J0_505 : Cond.methodLink RJ0 505 yJ0_length_8abf5 ∈ tG := tg_in 410 (by decide +kernel) rfl
theorem kim_J0_length_8abf5 : Cond.instanceMethod yJ0_length_8abf5 ∈ tG := tg_in 411 (by decide +kernel) rfl
theorem ksel_J0_length_8abf5 : Cond.selects RJ0 yJ0_length_8abf5 yJ0_length_8abf5 ∈ tG := tg_in 412 (by decide +kernel) rfl
theorem kcode_J0_length_8abf5 : Cond.code yJ0_length_8abf5 cJ0_length_8abf5 1 (some .int) ∈ tG := tg_in 413 (by decide +kernel) rfl
theorem kml_J0_335 : Cond.methodLink RJ0 335 yJ0_coder_7d493 ∈ tG := tg_in 414 (by decide +kernel) rfl
theorem kim_J0_coder_7d493 : Cond.instanceMethod yJ0_coder_7d493 ∈ tG := tg_in 415 (by decide +kernel) rfl
theorem ksel_J0_coder_7d493 : Cond.selects RJ0 yJ0_coder_7d493 yJ0_coder_7d493 ∈ tG := tg_in 416 (by decide +kernel) rfl
theorem kcode_J0_coder_7d493 : Cond.code yJ0_coder_7d493 cJ0_coder_7d493 1 (some .byte) ∈ tG := tg_in 417 (by decide +kernel) rfl
theorem kml_J0_637 : Cond.methodLink RJ0 637 yJ1_indexOf_4cfef ∈ tG := tg_in 418 (by decide +kernel) rfl
theorem kst_J1_indexOf_4cfef : Cond.static yJ1_indexOf_4cfef ∈ tG := tg_in 419 (by decide +kernel) rfl
theorem kcode_J1_indexOf_4cfef : Cond.code yJ1_indexOf_4cfef cJ1_indexOf_4cfef 4 (some .int) ∈ tG := tg_in 420 (by decide +kernel) rfl
theorem kml_J1_88 : Cond.methodLink RJ1 88 yJ1_canEncode_9a6ad ∈ tG := tg_in 421 (by decide +kernel) rfl
theorem kst_J1_canEncode_9a6ad : Cond.static yJ1_canEncode_9a6ad ∈ tG := tg_in 422 (by decide +kernel) rfl
theorem kcode_J1_canEncode_9a6ad : Cond.code yJ1_canEncode_9a6ad cJ1_canEncode_9a6ad 1 (some .boolean) ∈ tG := tg_in 423 (by decide +kernel) rfl
theorem kml_J1_92 : Cond.methodLink RJ1 92 Lib.Math.max.name ∈ tG := tg_in 424 (by decide +kernel) rfl
theorem kst_J9_max_7cf53 : Cond.static Lib.Math.max.name ∈ tG := tg_in 425 (by decide +kernel) rfl
theorem kcode_J9_max_7cf53 : Cond.code Lib.Math.max.name Lib.Math.max.code 2 (some .int) ∈ tG := tg_in 426 (by decide +kernel) rfl
theorem kml_J1_38 : Cond.methodLink RJ1 38 Lib.Math.min.name ∈ tG := tg_in 427 (by decide +kernel) rfl
theorem kst_J9_min_7cf53 : Cond.static Lib.Math.min.name ∈ tG := tg_in 428 (by decide +kernel) rfl
theorem kcode_J9_min_7cf53 : Cond.code Lib.Math.min.name Lib.Math.min.code 2 (some .int) ∈ tG := tg_in 429 (by decide +kernel) rfl
theorem kml_J1_95 : Cond.methodLink RJ1 95 yJ1_indexOfChar_4cfef ∈ tG := tg_in 430 (by decide +kernel) rfl
theorem kst_J1_indexOfChar_4cfef : Cond.static yJ1_indexOfChar_4cfef ∈ tG := tg_in 431 (by decide +kernel) rfl
theorem kcode_J1_indexOfChar_4cfef : Cond.code yJ1_indexOfChar_4cfef cJ1_indexOfChar_4cfef 6 (some .int) ∈ tG := tg_in 432 (by decide +kernel) rfl
theorem kml_J0_640 : Cond.methodLink RJ0 640 yJ2_indexOf_4cfef ∈ tG := tg_in 433 (by decide +kernel) rfl
theorem kst_J2_indexOf_4cfef : Cond.static yJ2_indexOf_4cfef ∈ tG := tg_in 434 (by decide +kernel) rfl
theorem kcode_J2_indexOf_4cfef : Cond.code yJ2_indexOf_4cfef cJ2_indexOf_4cfef 4 (some .int) ∈ tG := tg_in 435 (by decide +kernel) rfl
theorem kml_J2_224 : Cond.methodLink RJ2 224 Lib.Math.max.name ∈ tG := tg_in 436 (by decide +kernel) rfl
theorem kml_J2_183 : Cond.methodLink RJ2 183 Lib.Math.min.name ∈ tG := tg_in 437 (by decide +kernel) rfl
theorem kcI_J2_227 : Cond.constant RJ2 227 (65536) ∈ tG := tg_in 438 (by decide +kernel) rfl
theorem kml_J2_228 : Cond.methodLink RJ2 228 yJ2_indexOfChar_4cfef ∈ tG := tg_in 439 (by decide +kernel) rfl
theorem kst_J2_indexOfChar_4cfef : Cond.static yJ2_indexOfChar_4cfef ∈ tG := tg_in 440 (by decide +kernel) rfl
theorem kcode_J2_indexOfChar_4cfef : Cond.code yJ2_indexOfChar_4cfef cJ2_indexOfChar_4cfef 4 (some .int) ∈ tG := tg_in 441 (by decide +kernel) rfl
theorem kml_J2_96 : Cond.methodLink RJ2 96 yJ2_checkBoundsBeginEnd_d044e ∈ tG := tg_in 442 (by decide +kernel) rfl
theorem kst_J2_checkBoundsBeginEnd_d044e : Cond.static yJ2_checkBoundsBeginEnd_d044e ∈ tG := tg_in 443 (by decide +kernel) rfl
theorem kcode_J2_checkBoundsBeginEnd_d044e : Cond.code yJ2_checkBoundsBeginEnd_d044e cJ2_checkBoundsBeginEnd_d044e 3 none ∈ tG := tg_in 444 (by decide +kernel) rfl
theorem kml_J2_48 : Cond.methodLink RJ2 48 yJ2_length_9d52b ∈ tG := tg_in 445 (by decide +kernel) rfl
theorem kst_J2_length_9d52b : Cond.static yJ2_length_9d52b ∈ tG := tg_in 446 (by decide +kernel) rfl
theorem kcode_J2_length_9d52b : Cond.code yJ2_length_9d52b cJ2_length_9d52b 1 (some .int) ∈ tG := tg_in 447 (by decide +kernel) rfl
theorem kml_J2_241 : Cond.methodLink RJ2 241 yJ0_checkBoundsBeginEnd_23922 ∈ tG := tg_in 448 (by decide +kernel) rfl
theorem kst_J0_checkBoundsBeginEnd_23922 : Cond.static yJ0_checkBoundsBeginEnd_23922 ∈ tG := tg_in 449 (by decide +kernel) rfl
theorem kcode_J0_checkBoundsBeginEnd_23922 : Cond.code yJ0_checkBoundsBeginEnd_23922 cJ0_checkBoundsBeginEnd_23922 3 none ∈ tG := tg_in 450 (by decide +kernel) rfl
theorem kfl_J0_1053 : Cond.fieldLink RJ0 1053 "jdk/internal/util/Preconditions" "SIOOBE_FORMATTER" "Ljava/util/function/BiFunction;" ∈ tG := tg_in 451 (by decide +kernel) rfl
theorem kml_J0_1062 : Cond.methodLink RJ0 1062 yJ3_checkFromToIndex_8c36e ∈ tG := tg_in 453 (by decide +kernel) rfl
theorem kst_J3_checkFromToIndex_8c36e : Cond.static yJ3_checkFromToIndex_8c36e ∈ tG := tg_in 454 (by decide +kernel) rfl
theorem kcode_J3_checkFromToIndex_8c36e : Cond.code yJ3_checkFromToIndex_8c36e cJ3_checkFromToIndex_8c36e 4 (some .int) ∈ tG := tg_in 455 (by decide +kernel) rfl
theorem kml_J2_244 : Cond.methodLink RJ2 244 yJ2_indexOfCharUnsafe_4cfef ∈ tG := tg_in 456 (by decide +kernel) rfl
theorem kst_J2_indexOfCharUnsafe_4cfef : Cond.static yJ2_indexOfCharUnsafe_4cfef ∈ tG := tg_in 457 (by decide +kernel) rfl
theorem kcode_J2_indexOfCharUnsafe_4cfef : Cond.code yJ2_indexOfCharUnsafe_4cfef cJ2_indexOfCharUnsafe_4cfef 5 (some .int) ∈ tG := tg_in 458 (by decide +kernel) rfl
theorem kml_J2_71 : Cond.methodLink RJ2 71 yJ2_getChar_3b067 ∈ tG := tg_in 459 (by decide +kernel) rfl
theorem kst_J2_getChar_3b067 : Cond.static yJ2_getChar_3b067 ∈ tG := tg_in 460 (by decide +kernel) rfl
theorem kcode_J2_getChar_3b067 : Cond.code yJ2_getChar_3b067 cJ2_getChar_3b067 2 (some .char) ∈ tG := tg_in 461 (by decide +kernel) rfl
theorem kfl_J2_44 : Cond.fieldLink RJ2 44 "java/lang/StringUTF16" "$assertionsDisabled" "Z" ∈ tG := tg_in 462 (by decide +kernel) rfl
theorem kfl_J2_59 : Cond.fieldLink RJ2 59 "java/lang/StringUTF16" "HI_BYTE_SHIFT" "I" ∈ tG := tg_in 464 (by decide +kernel) rfl
theorem kfl_J2_63 : Cond.fieldLink RJ2 63 "java/lang/StringUTF16" "LO_BYTE_SHIFT" "I" ∈ tG := tg_in 466 (by decide +kernel) rfl
theorem kml_J2_232 : Cond.methodLink RJ2 232 yJ2_indexOfSupplementary_4cfef ∈ tG := tg_in 468 (by decide +kernel) rfl
theorem kst_J2_indexOfSupplementary_4cfef : Cond.static yJ2_indexOfSupplementary_4cfef ∈ tG := tg_in 469 (by decide +kernel) rfl
theorem kcode_J2_indexOfSupplementary_4cfef : Cond.code yJ2_indexOfSupplementary_4cfef cJ2_indexOfSupplementary_4cfef 7 (some .int) ∈ tG := tg_in 470 (by decide +kernel) rfl
theorem kml_J2_164 : Cond.methodLink RJ2 164 yJ11_isValidCodePoint_9a6ad ∈ tG := tg_in 471 (by decide +kernel) rfl
theorem kst_J11_isValidCodePoint_9a6ad : Cond.static yJ11_isValidCodePoint_9a6ad ∈ tG := tg_in 472 (by decide +kernel) rfl
theorem kcode_J11_isValidCodePoint_9a6ad : Cond.code yJ11_isValidCodePoint_9a6ad cJ11_isValidCodePoint_9a6ad 2 (some .boolean) ∈ tG := tg_in 473 (by decide +kernel) rfl
theorem kml_J2_157 : Cond.methodLink RJ2 157 yJ11_highSurrogate_5068e ∈ tG := tg_in 474 (by decide +kernel) rfl
theorem kst_J11_highSurrogate_5068e : Cond.static yJ11_highSurrogate_5068e ∈ tG := tg_in 475 (by decide +kernel) rfl
theorem kcode_J11_highSurrogate_5068e : Cond.code yJ11_highSurrogate_5068e cJ11_highSurrogate_5068e 1 (some .char) ∈ tG := tg_in 476 (by decide +kernel) rfl
theorem kcI_J11_110 : Cond.constant RJ11 110 (55232) ∈ tG := tg_in 477 (by decide +kernel) rfl
theorem kml_J2_161 : Cond.methodLink RJ2 161 yJ11_lowSurrogate_5068e ∈ tG := tg_in 478 (by decide +kernel) rfl
theorem kst_J11_lowSurrogate_5068e : Cond.static yJ11_lowSurrogate_5068e ∈ tG := tg_in 479 (by decide +kernel) rfl
theorem kcode_J11_lowSurrogate_5068e : Cond.code yJ11_lowSurrogate_5068e cJ11_lowSurrogate_5068e 1 (some .char) ∈ tG := tg_in 480 (by decide +kernel) rfl
theorem kcI_J11_76 : Cond.constant RJ11 76 (56320) ∈ tG := tg_in 481 (by decide +kernel) rfl
theorem karr_byte : Cond.arrayClass .byte ∈ tG := tg_in 482 (by decide +kernel) rfl
theorem kml_L_30 : Cond.methodLink RL 30 yX10_law ∈ tG := tg_in 483 (by decide +kernel) rfl
theorem kim_X10_law : Cond.instanceMethod yX10_law ∈ tG := tg_in 484 (by decide +kernel) rfl
theorem ksel_X10_law : Cond.selects RX10 yX10_law yX10_law ∈ tG := tg_in 485 (by decide +kernel) rfl
theorem kcode_X10_law : Cond.code yX10_law cX10_law 1 (some .int) ∈ tG := tg_in 486 (by decide +kernel) rfl
theorem kml_X10_104 : Cond.methodLink RX10 104 yX6_giveTo ∈ tG := tg_in 487 (by decide +kernel) rfl
theorem kim_X6_giveTo : Cond.instanceMethod yX6_giveTo ∈ tG := tg_in 488 (by decide +kernel) rfl
theorem ksel_X6_giveTo : Cond.selects RX6 yX6_giveTo yX6_giveTo ∈ tG := tg_in 489 (by decide +kernel) rfl
theorem kcode_X6_giveTo : Cond.code yX6_giveTo cX6_giveTo 3 none ∈ tG := tg_in 490 (by decide +kernel) rfl
theorem kml_X6_43 : Cond.methodLink RX6 43 Lib.Math.max.name ∈ tG := tg_in 491 (by decide +kernel) rfl
theorem kml_L_34 : Cond.methodLink RL 34 yX10_lawful ∈ tG := tg_in 492 (by decide +kernel) rfl
theorem kim_X10_lawful : Cond.instanceMethod yX10_lawful ∈ tG := tg_in 493 (by decide +kernel) rfl
theorem ksel_X10_lawful : Cond.selects RX10 yX10_lawful yX10_lawful ∈ tG := tg_in 494 (by decide +kernel) rfl
theorem kcode_X10_lawful : Cond.code yX10_lawful cX10_lawful 2 (some .int) ∈ tG := tg_in 495 (by decide +kernel) rfl
theorem kml_L_39 : Cond.methodLink RL 39 yX10_story ∈ tG := tg_in 496 (by decide +kernel) rfl
theorem kim_X10_story : Cond.instanceMethod yX10_story ∈ tG := tg_in 497 (by decide +kernel) rfl
theorem ksel_X10_story : Cond.selects RX10 yX10_story yX10_story ∈ tG := tg_in 498 (by decide +kernel) rfl
theorem kcode_X10_story : Cond.code yX10_story cX10_story 2 (some .int) ∈ tG := tg_in 499 (by decide +kernel) rfl
theorem kml_X10_115 : Cond.methodLink RX10 115 yX10_isStory ∈ tG := tg_in 500 (by decide +kernel) rfl
theorem kst_X10_isStory : Cond.static yX10_isStory ∈ tG := tg_in 501 (by decide +kernel) rfl
theorem kcode_X10_isStory : Cond.code yX10_isStory cX10_isStory 1 (some .boolean) ∈ tG := tg_in 502 (by decide +kernel) rfl
theorem kml_X10_118 : Cond.methodLink RX10 118 yX8_giveTo ∈ tG := tg_in 503 (by decide +kernel) rfl
theorem kim_X8_giveTo : Cond.instanceMethod yX8_giveTo ∈ tG := tg_in 504 (by decide +kernel) rfl
theorem ksel_X8_giveTo : Cond.selects RX8 yX8_giveTo yX8_giveTo ∈ tG := tg_in 505 (by decide +kernel) rfl
theorem kcode_X8_giveTo : Cond.code yX8_giveTo cX8_giveTo 5 none ∈ tG := tg_in 506 (by decide +kernel) rfl
theorem kml_X8_34 : Cond.methodLink RX8 34 yX0_tell ∈ tG := tg_in 507 (by decide +kernel) rfl
theorem kim_X0_tell : Cond.instanceMethod yX0_tell ∈ tG := tg_in 508 (by decide +kernel) rfl
theorem ksel_X0_tell : Cond.selects RX0 yX0_tell yX0_tell ∈ tG := tg_in 509 (by decide +kernel) rfl
theorem kcode_X0_tell : Cond.code yX0_tell cX0_tell 4 none ∈ tG := tg_in 510 (by decide +kernel) rfl
theorem kml_L_43 : Cond.methodLink RL 43 yX10_lived ∈ tG := tg_in 513 (by decide +kernel) rfl
theorem kim_X10_lived : Cond.instanceMethod yX10_lived ∈ tG := tg_in 514 (by decide +kernel) rfl
theorem ksel_X10_lived : Cond.selects RX10 yX10_lived yX10_lived ∈ tG := tg_in 515 (by decide +kernel) rfl
theorem kcode_X10_lived : Cond.code yX10_lived cX10_lived 8 (some .int) ∈ tG := tg_in 516 (by decide +kernel) rfl
theorem kml_X10_124 : Cond.methodLink RX10 124 yX10_isIce ∈ tG := tg_in 517 (by decide +kernel) rfl
theorem kst_X10_isIce : Cond.static yX10_isIce ∈ tG := tg_in 518 (by decide +kernel) rfl
theorem kcode_X10_isIce : Cond.code yX10_isIce cX10_isIce 1 (some .boolean) ∈ tG := tg_in 519 (by decide +kernel) rfl
theorem kml_X10_127 : Cond.methodLink RX10 127 yX10_isAir ∈ tG := tg_in 520 (by decide +kernel) rfl
theorem kst_X10_isAir : Cond.static yX10_isAir ∈ tG := tg_in 521 (by decide +kernel) rfl
theorem kcode_X10_isAir : Cond.code yX10_isAir cX10_isAir 1 (some .boolean) ∈ tG := tg_in 522 (by decide +kernel) rfl
theorem kml_X10_130 : Cond.methodLink RX10 130 yX3_stateOf ∈ tG := tg_in 523 (by decide +kernel) rfl
theorem kst_X3_stateOf : Cond.static yX3_stateOf ∈ tG := tg_in 524 (by decide +kernel) rfl
theorem kcode_X3_stateOf : Cond.code yX3_stateOf cX3_stateOf 2 (some .int) ∈ tG := tg_in 525 (by decide +kernel) rfl
theorem kml_X10_134 : Cond.methodLink RX10 134 yX3_iceIn ∈ tG := tg_in 526 (by decide +kernel) rfl
theorem kst_X3_iceIn : Cond.static yX3_iceIn ∈ tG := tg_in 527 (by decide +kernel) rfl
theorem kcode_X3_iceIn : Cond.code yX3_iceIn cX3_iceIn 1 (some .int) ∈ tG := tg_in 528 (by decide +kernel) rfl
theorem kml_X10_138 : Cond.methodLink RX10 138 yX0_tell ∈ tG := tg_in 529 (by decide +kernel) rfl
theorem kml_X10_142 : Cond.methodLink RX10 142 yX3_stateAfter ∈ tG := tg_in 530 (by decide +kernel) rfl
theorem kim_X3_stateAfter : Cond.instanceMethod yX3_stateAfter ∈ tG := tg_in 531 (by decide +kernel) rfl
theorem ksel_X3_stateAfter : Cond.selects RX3 yX3_stateAfter yX3_stateAfter ∈ tG := tg_in 532 (by decide +kernel) rfl
theorem kcode_X3_stateAfter : Cond.code yX3_stateAfter cX3_stateAfter 4 (some .int) ∈ tG := tg_in 533 (by decide +kernel) rfl
theorem kml_X3_41 : Cond.methodLink RX3 41 yX3_iceIn ∈ tG := tg_in 534 (by decide +kernel) rfl
theorem kml_X3_44 : Cond.methodLink RX3 44 yX3_airIn ∈ tG := tg_in 535 (by decide +kernel) rfl
theorem kst_X3_airIn : Cond.static yX3_airIn ∈ tG := tg_in 536 (by decide +kernel) rfl
theorem kcode_X3_airIn : Cond.code yX3_airIn cX3_airIn 1 (some .int) ∈ tG := tg_in 537 (by decide +kernel) rfl
theorem kml_X3_47 : Cond.methodLink RX3 47 yX3_iceAfter ∈ tG := tg_in 538 (by decide +kernel) rfl
theorem kim_X3_iceAfter : Cond.instanceMethod yX3_iceAfter ∈ tG := tg_in 539 (by decide +kernel) rfl
theorem ksel_X3_iceAfter : Cond.selects RX3 yX3_iceAfter yX3_iceAfter ∈ tG := tg_in 540 (by decide +kernel) rfl
theorem kcode_X3_iceAfter : Cond.code yX3_iceAfter cX3_iceAfter 8 (some .int) ∈ tG := tg_in 541 (by decide +kernel) rfl
theorem kml_X3_31 : Cond.methodLink RX3 31 yX3_fortyWarmth ∈ tG := tg_in 542 (by decide +kernel) rfl
theorem kim_X3_fortyWarmth : Cond.instanceMethod yX3_fortyWarmth ∈ tG := tg_in 543 (by decide +kernel) rfl
theorem ksel_X3_fortyWarmth : Cond.selects RX3 yX3_fortyWarmth yX3_fortyWarmth ∈ tG := tg_in 544 (by decide +kernel) rfl
theorem kcode_X3_fortyWarmth : Cond.code yX3_fortyWarmth cX3_fortyWarmth 7 (some .int) ∈ tG := tg_in 545 (by decide +kernel) rfl
theorem kml_X3_19 : Cond.methodLink RX3 19 Lib.Math.max.name ∈ tG := tg_in 546 (by decide +kernel) rfl
theorem kml_X3_25 : Cond.methodLink RX3 25 Lib.Math.min.name ∈ tG := tg_in 547 (by decide +kernel) rfl
theorem kml_X3_28 : Cond.methodLink RX3 28 yX3_takenBy ∈ tG := tg_in 548 (by decide +kernel) rfl
theorem kim_X3_takenBy : Cond.instanceMethod yX3_takenBy ∈ tG := tg_in 549 (by decide +kernel) rfl
theorem ksel_X3_takenBy : Cond.selects RX3 yX3_takenBy yX3_takenBy ∈ tG := tg_in 550 (by decide +kernel) rfl
theorem kcode_X3_takenBy : Cond.code yX3_takenBy cX3_takenBy 3 (some .int) ∈ tG := tg_in 551 (by decide +kernel) rfl
theorem kst_X10_hasIce : Cond.static yX10_hasIce ∈ tG := tg_in 553 (by decide +kernel) rfl
theorem kcode_X10_hasIce : Cond.code yX10_hasIce cX10_hasIce 2 (some .boolean) ∈ tG := tg_in 554 (by decide +kernel) rfl
theorem kml_X3_50 : Cond.methodLink RX3 50 yX3_airAfter ∈ tG := tg_in 555 (by decide +kernel) rfl
theorem kim_X3_airAfter : Cond.instanceMethod yX3_airAfter ∈ tG := tg_in 556 (by decide +kernel) rfl
theorem ksel_X3_airAfter : Cond.selects RX3 yX3_airAfter yX3_airAfter ∈ tG := tg_in 557 (by decide +kernel) rfl
theorem kcode_X3_airAfter : Cond.code yX3_airAfter cX3_airAfter 5 (some .int) ∈ tG := tg_in 558 (by decide +kernel) rfl
theorem kml_X3_35 : Cond.methodLink RX3 35 yJ6_bitCount_0f7a4 ∈ tG := tg_in 559 (by decide +kernel) rfl
theorem kst_J6_bitCount_0f7a4 : Cond.static yJ6_bitCount_0f7a4 ∈ tG := tg_in 560 (by decide +kernel) rfl
theorem kcode_J6_bitCount_0f7a4 : Cond.code yJ6_bitCount_0f7a4 cJ6_bitCount_0f7a4 1 (some .int) ∈ tG := tg_in 561 (by decide +kernel) rfl
theorem kcI_J6_265 : Cond.constant RJ6 265 (1431655765) ∈ tG := tg_in 562 (by decide +kernel) rfl
theorem kcI_J6_266 : Cond.constant RJ6 266 (858993459) ∈ tG := tg_in 563 (by decide +kernel) rfl
theorem kcI_J6_267 : Cond.constant RJ6 267 (252645135) ∈ tG := tg_in 564 (by decide +kernel) rfl
theorem kml_X3_53 : Cond.methodLink RX3 53 yX3_stateOf ∈ tG := tg_in 565 (by decide +kernel) rfl
theorem kml_L_48 : Cond.methodLink RL 48 yX10_at ∈ tG := tg_in 566 (by decide +kernel) rfl
theorem kim_X10_at : Cond.instanceMethod yX10_at ∈ tG := tg_in 567 (by decide +kernel) rfl
theorem ksel_X10_at : Cond.selects RX10 yX10_at yX10_at ∈ tG := tg_in 568 (by decide +kernel) rfl
theorem kcode_X10_at : Cond.code yX10_at cX10_at 3 (some .int) ∈ tG := tg_in 569 (by decide +kernel) rfl
theorem kml_X10_145 : Cond.methodLink RX10 145 yX10_isRound ∈ tG := tg_in 570 (by decide +kernel) rfl
theorem kml_X10_148 : Cond.methodLink RX10 148 yX0_iceOf ∈ tG := tg_in 571 (by decide +kernel) rfl
theorem kim_X0_iceOf : Cond.instanceMethod yX0_iceOf ∈ tG := tg_in 572 (by decide +kernel) rfl
theorem ksel_X0_iceOf : Cond.selects RX0 yX0_iceOf yX0_iceOf ∈ tG := tg_in 573 (by decide +kernel) rfl
theorem kcode_X0_iceOf : Cond.code yX0_iceOf cX0_iceOf 3 (some .int) ∈ tG := tg_in 574 (by decide +kernel) rfl
theorem kml_L_53 : Cond.methodLink RL 53 yX10_warmth ∈ tG := tg_in 575 (by decide +kernel) rfl
theorem kim_X10_warmth : Cond.instanceMethod yX10_warmth ∈ tG := tg_in 576 (by decide +kernel) rfl
theorem ksel_X10_warmth : Cond.selects RX10 yX10_warmth yX10_warmth ∈ tG := tg_in 577 (by decide +kernel) rfl
theorem kcode_X10_warmth : Cond.code yX10_warmth cX10_warmth 4 (some .int) ∈ tG := tg_in 578 (by decide +kernel) rfl
theorem kml_X10_151 : Cond.methodLink RX10 151 yX10_isBand ∈ tG := tg_in 579 (by decide +kernel) rfl
theorem kml_X10_154 : Cond.methodLink RX10 154 yX3_fortyWarmth ∈ tG := tg_in 580 (by decide +kernel) rfl
theorem kml_L_57 : Cond.methodLink RL 57 yX10_round ∈ tG := tg_in 581 (by decide +kernel) rfl
theorem kim_X10_round : Cond.instanceMethod yX10_round ∈ tG := tg_in 582 (by decide +kernel) rfl
theorem ksel_X10_round : Cond.selects RX10 yX10_round yX10_round ∈ tG := tg_in 583 (by decide +kernel) rfl
theorem kcode_X10_round : Cond.code yX10_round cX10_round 3 (some .int) ∈ tG := tg_in 584 (by decide +kernel) rfl
theorem kml_L_61 : Cond.methodLink RL 61 yX10_after ∈ tG := tg_in 585 (by decide +kernel) rfl
theorem kim_X10_after : Cond.instanceMethod yX10_after ∈ tG := tg_in 586 (by decide +kernel) rfl
theorem ksel_X10_after : Cond.selects RX10 yX10_after yX10_after ∈ tG := tg_in 587 (by decide +kernel) rfl
theorem kcode_X10_after : Cond.code yX10_after cX10_after 4 (some .int) ∈ tG := tg_in 588 (by decide +kernel) rfl
theorem kcI_X10_158 : Cond.constant RX10 158 (100000) ∈ tG := tg_in 589 (by decide +kernel) rfl
theorem kml_X10_159 : Cond.methodLink RX10 159 yX7_follow ∈ tG := tg_in 590 (by decide +kernel) rfl
theorem kim_X7_follow : Cond.instanceMethod yX7_follow ∈ tG := tg_in 591 (by decide +kernel) rfl
theorem ksel_X7_follow : Cond.selects RX7 yX7_follow yX7_follow ∈ tG := tg_in 592 (by decide +kernel) rfl
theorem kcode_X7_follow : Cond.code yX7_follow cX7_follow 6 none ∈ tG := tg_in 593 (by decide +kernel) rfl
theorem kml_X7_20 : Cond.methodLink RX7 20 yX3_stateOf ∈ tG := tg_in 594 (by decide +kernel) rfl
theorem kml_X7_28 : Cond.methodLink RX7 28 yX7_isNew ∈ tG := tg_in 595 (by decide +kernel) rfl
theorem kim_X7_isNew : Cond.instanceMethod yX7_isNew ∈ tG := tg_in 597 (by decide +kernel) rfl
theorem kcode_X7_isNew : Cond.code yX7_isNew cX7_isNew 2 (some .boolean) ∈ tG := tg_in 598 (by decide +kernel) rfl
theorem kml_X7_32 : Cond.methodLink RX7 32 yX3_stateAfter ∈ tG := tg_in 600 (by decide +kernel) rfl
theorem kml_X7_40 : Cond.methodLink RX7 40 Lib.Math.max.name ∈ tG := tg_in 601 (by decide +kernel) rfl
theorem kml_X10_163 : Cond.methodLink RX10 163 yX7_stateAt ∈ tG := tg_in 602 (by decide +kernel) rfl
theorem kim_X7_stateAt : Cond.instanceMethod yX7_stateAt ∈ tG := tg_in 603 (by decide +kernel) rfl
theorem ksel_X7_stateAt : Cond.selects RX7 yX7_stateAt yX7_stateAt ∈ tG := tg_in 604 (by decide +kernel) rfl
theorem kcode_X7_stateAt : Cond.code yX7_stateAt cX7_stateAt 3 (some .int) ∈ tG := tg_in 605 (by decide +kernel) rfl
theorem kml_X7_48 : Cond.methodLink RX7 48 yX7_ring ∈ tG := tg_in 606 (by decide +kernel) rfl
theorem kim_X7_ring : Cond.instanceMethod yX7_ring ∈ tG := tg_in 607 (by decide +kernel) rfl
theorem ksel_X7_ring : Cond.selects RX7 yX7_ring yX7_ring ∈ tG := tg_in 608 (by decide +kernel) rfl
theorem kcode_X7_ring : Cond.code yX7_ring cX7_ring 1 (some .int) ∈ tG := tg_in 609 (by decide +kernel) rfl
theorem kml_L_65 : Cond.methodLink RL 65 yX10_run ∈ tG := tg_in 610 (by decide +kernel) rfl
theorem kim_X10_run : Cond.instanceMethod yX10_run ∈ tG := tg_in 611 (by decide +kernel) rfl
theorem ksel_X10_run : Cond.selects RX10 yX10_run yX10_run ∈ tG := tg_in 612 (by decide +kernel) rfl
theorem kcode_X10_run : Cond.code yX10_run cX10_run 4 (some .int) ∈ tG := tg_in 613 (by decide +kernel) rfl
theorem kml_X10_169 : Cond.methodLink RX10 169 yX7_ring ∈ tG := tg_in 614 (by decide +kernel) rfl
theorem kml_X10_173 : Cond.methodLink RX10 173 yX7_whiteInRing ∈ tG := tg_in 615 (by decide +kernel) rfl
theorem kim_X7_whiteInRing : Cond.instanceMethod yX7_whiteInRing ∈ tG := tg_in 616 (by decide +kernel) rfl
theorem ksel_X7_whiteInRing : Cond.selects RX7 yX7_whiteInRing yX7_whiteInRing ∈ tG := tg_in 617 (by decide +kernel) rfl
theorem kcode_X7_whiteInRing : Cond.code yX7_whiteInRing cX7_whiteInRing 3 (some .int) ∈ tG := tg_in 618 (by decide +kernel) rfl
theorem kml_X7_52 : Cond.methodLink RX7 52 yX3_iceIn ∈ tG := tg_in 619 (by decide +kernel) rfl
theorem kml_X10_176 : Cond.methodLink RX10 176 yX7_leastAirInRing ∈ tG := tg_in 620 (by decide +kernel) rfl
theorem kim_X7_leastAirInRing : Cond.instanceMethod yX7_leastAirInRing ∈ tG := tg_in 621 (by decide +kernel) rfl
theorem ksel_X7_leastAirInRing : Cond.selects RX7 yX7_leastAirInRing yX7_leastAirInRing ∈ tG := tg_in 622 (by decide +kernel) rfl
theorem kcode_X7_leastAirInRing : Cond.code yX7_leastAirInRing cX7_leastAirInRing 3 (some .int) ∈ tG := tg_in 623 (by decide +kernel) rfl
theorem kml_X7_55 : Cond.methodLink RX7 55 yX3_airIn ∈ tG := tg_in 624 (by decide +kernel) rfl
theorem kml_X7_58 : Cond.methodLink RX7 58 Lib.Math.min.name ∈ tG := tg_in 625 (by decide +kernel) rfl
theorem kml_X10_179 : Cond.methodLink RX10 179 yX7_greatestAirInRing ∈ tG := tg_in 626 (by decide +kernel) rfl
theorem kim_X7_greatestAirInRing : Cond.instanceMethod yX7_greatestAirInRing ∈ tG := tg_in 627 (by decide +kernel) rfl
theorem ksel_X7_greatestAirInRing : Cond.selects RX7 yX7_greatestAirInRing yX7_greatestAirInRing ∈ tG := tg_in 628 (by decide +kernel) rfl
theorem kcode_X7_greatestAirInRing : Cond.code yX7_greatestAirInRing cX7_greatestAirInRing 3 (some .int) ∈ tG := tg_in 629 (by decide +kernel) rfl
theorem kml_L_69 : Cond.methodLink RL 69 yX10_till ∈ tG := tg_in 630 (by decide +kernel) rfl
theorem kim_X10_till : Cond.instanceMethod yX10_till ∈ tG := tg_in 631 (by decide +kernel) rfl
theorem ksel_X10_till : Cond.selects RX10 yX10_till yX10_till ∈ tG := tg_in 632 (by decide +kernel) rfl
theorem kcode_X10_till : Cond.code yX10_till cX10_till 4 (some .int) ∈ tG := tg_in 633 (by decide +kernel) rfl
theorem kml_X10_182 : Cond.methodLink RX10 182 yX7_firstWhite ∈ tG := tg_in 634 (by decide +kernel) rfl
theorem kim_X7_firstWhite : Cond.instanceMethod yX7_firstWhite ∈ tG := tg_in 635 (by decide +kernel) rfl
theorem ksel_X7_firstWhite : Cond.selects RX7 yX7_firstWhite yX7_firstWhite ∈ tG := tg_in 636 (by decide +kernel) rfl
theorem kcode_X7_firstWhite : Cond.code yX7_firstWhite cX7_firstWhite 3 (some .int) ∈ tG := tg_in 637 (by decide +kernel) rfl
theorem kml_L_74 : Cond.methodLink RL 74 yX10_rests ∈ tG := tg_in 638 (by decide +kernel) rfl
theorem kim_X10_rests : Cond.instanceMethod yX10_rests ∈ tG := tg_in 639 (by decide +kernel) rfl
theorem ksel_X10_rests : Cond.selects RX10 yX10_rests yX10_rests ∈ tG := tg_in 640 (by decide +kernel) rfl
theorem kcode_X10_rests : Cond.code yX10_rests cX10_rests 4 (some .int) ∈ tG := tg_in 641 (by decide +kernel) rfl
theorem kml_X10_186 : Cond.methodLink RX10 186 yX3_isRest ∈ tG := tg_in 642 (by decide +kernel) rfl
theorem kim_X3_isRest : Cond.instanceMethod yX3_isRest ∈ tG := tg_in 643 (by decide +kernel) rfl
theorem ksel_X3_isRest : Cond.selects RX3 yX3_isRest yX3_isRest ∈ tG := tg_in 644 (by decide +kernel) rfl
theorem kcode_X3_isRest : Cond.code yX3_isRest cX3_isRest 3 (some .boolean) ∈ tG := tg_in 645 (by decide +kernel) rfl
theorem kml_L_78 : Cond.methodLink RL 78 yX10_rest ∈ tG := tg_in 646 (by decide +kernel) rfl
theorem kim_X10_rest : Cond.instanceMethod yX10_rest ∈ tG := tg_in 647 (by decide +kernel) rfl
theorem ksel_X10_rest : Cond.selects RX10 yX10_rest yX10_rest ∈ tG := tg_in 648 (by decide +kernel) rfl
theorem kcode_X10_rest : Cond.code yX10_rest cX10_rest 5 (some .int) ∈ tG := tg_in 649 (by decide +kernel) rfl
theorem kml_L_82 : Cond.methodLink RL 82 yX10_settle ∈ tG := tg_in 650 (by decide +kernel) rfl
theorem kim_X10_settle : Cond.instanceMethod yX10_settle ∈ tG := tg_in 651 (by decide +kernel) rfl
theorem ksel_X10_settle : Cond.selects RX10 yX10_settle yX10_settle ∈ tG := tg_in 652 (by decide +kernel) rfl
theorem kcode_X10_settle : Cond.code yX10_settle cX10_settle 3 (some .int) ∈ tG := tg_in 653 (by decide +kernel) rfl
theorem kml_X10_190 : Cond.methodLink RX10 190 yX3_settled ∈ tG := tg_in 654 (by decide +kernel) rfl
theorem kim_X3_settled : Cond.instanceMethod yX3_settled ∈ tG := tg_in 655 (by decide +kernel) rfl
theorem ksel_X3_settled : Cond.selects RX3 yX3_settled yX3_settled ∈ tG := tg_in 656 (by decide +kernel) rfl
theorem kcode_X3_settled : Cond.code yX3_settled cX3_settled 6 (some .int) ∈ tG := tg_in 657 (by decide +kernel) rfl
theorem kml_L_86 : Cond.methodLink RL 86 yX10_jumps ∈ tG := tg_in 658 (by decide +kernel) rfl
theorem kim_X10_jumps : Cond.instanceMethod yX10_jumps ∈ tG := tg_in 659 (by decide +kernel) rfl
theorem ksel_X10_jumps : Cond.selects RX10 yX10_jumps yX10_jumps ∈ tG := tg_in 660 (by decide +kernel) rfl
theorem kcode_X10_jumps : Cond.code yX10_jumps cX10_jumps 4 (some .int) ∈ tG := tg_in 661 (by decide +kernel) rfl
theorem kml_X10_193 : Cond.methodLink RX10 193 yX1_follow ∈ tG := tg_in 662 (by decide +kernel) rfl
theorem kim_X1_follow : Cond.instanceMethod yX1_follow ∈ tG := tg_in 663 (by decide +kernel) rfl
theorem ksel_X1_follow : Cond.selects RX1 yX1_follow yX1_follow ∈ tG := tg_in 664 (by decide +kernel) rfl
theorem kcode_X1_follow : Cond.code yX1_follow cX1_follow 9 none ∈ tG := tg_in 665 (by decide +kernel) rfl
theorem kml_X1_15 : Cond.methodLink RX1 15 Lib.Math.abs.name ∈ tG := tg_in 666 (by decide +kernel) rfl
theorem kst_J9_abs_0f7a4 : Cond.static Lib.Math.abs.name ∈ tG := tg_in 667 (by decide +kernel) rfl
theorem kcode_J9_abs_0f7a4 : Cond.code Lib.Math.abs.name Lib.Math.abs.code 1 (some .int) ∈ tG := tg_in 668 (by decide +kernel) rfl
theorem kml_X1_28 : Cond.methodLink RX1 28 yX3_settled ∈ tG := tg_in 669 (by decide +kernel) rfl
theorem kml_X1_34 : Cond.methodLink RX1 34 yX1_isJump ∈ tG := tg_in 670 (by decide +kernel) rfl
theorem kst_X1_isJump : Cond.static yX1_isJump ∈ tG := tg_in 671 (by decide +kernel) rfl
theorem kcode_X1_isJump : Cond.code yX1_isJump cX1_isJump 2 (some .boolean) ∈ tG := tg_in 672 (by decide +kernel) rfl
theorem kml_X1_46 : Cond.methodLink RX1 46 yJ6_bitCount_0f7a4 ∈ tG := tg_in 673 (by decide +kernel) rfl
theorem kml_X1_38 : Cond.methodLink RX1 38 yX1_add ∈ tG := tg_in 674 (by decide +kernel) rfl
theorem kim_X1_add : Cond.instanceMethod yX1_add ∈ tG := tg_in 676 (by decide +kernel) rfl
theorem kcode_X1_add : Cond.code yX1_add cX1_add 2 none ∈ tG := tg_in 677 (by decide +kernel) rfl
theorem kml_L_90 : Cond.methodLink RL 90 yX10_jump ∈ tG := tg_in 678 (by decide +kernel) rfl
theorem kim_X10_jump : Cond.instanceMethod yX10_jump ∈ tG := tg_in 679 (by decide +kernel) rfl
theorem ksel_X10_jump : Cond.selects RX10 yX10_jump yX10_jump ∈ tG := tg_in 680 (by decide +kernel) rfl
theorem kcode_X10_jump : Cond.code yX10_jump cX10_jump 5 (some .int) ∈ tG := tg_in 681 (by decide +kernel) rfl
theorem kml_X10_199 : Cond.methodLink RX10 199 yX1_airOf ∈ tG := tg_in 682 (by decide +kernel) rfl
theorem kim_X1_airOf : Cond.instanceMethod yX1_airOf ∈ tG := tg_in 683 (by decide +kernel) rfl
theorem ksel_X1_airOf : Cond.selects RX1 yX1_airOf yX1_airOf ∈ tG := tg_in 684 (by decide +kernel) rfl
theorem kcode_X1_airOf : Cond.code yX1_airOf cX1_airOf 2 (some .int) ∈ tG := tg_in 685 (by decide +kernel) rfl
theorem kml_L_95 : Cond.methodLink RL 95 yX10_curve ∈ tG := tg_in 687 (by decide +kernel) rfl
theorem kim_X10_curve : Cond.instanceMethod yX10_curve ∈ tG := tg_in 688 (by decide +kernel) rfl
theorem ksel_X10_curve : Cond.selects RX10 yX10_curve yX10_curve ∈ tG := tg_in 689 (by decide +kernel) rfl
theorem kcode_X10_curve : Cond.code yX10_curve cX10_curve 4 (some .int) ∈ tG := tg_in 690 (by decide +kernel) rfl
theorem kml_L_99 : Cond.methodLink RL 99 yX10_least ∈ tG := tg_in 691 (by decide +kernel) rfl
theorem kim_X10_least : Cond.instanceMethod yX10_least ∈ tG := tg_in 692 (by decide +kernel) rfl
theorem ksel_X10_least : Cond.selects RX10 yX10_least yX10_least ∈ tG := tg_in 693 (by decide +kernel) rfl
theorem kcode_X10_least : Cond.code yX10_least cX10_least 4 (some .int) ∈ tG := tg_in 694 (by decide +kernel) rfl
theorem kml_L_103 : Cond.methodLink RL 103 yX10_bed ∈ tG := tg_in 695 (by decide +kernel) rfl
theorem kim_X10_bed : Cond.instanceMethod yX10_bed ∈ tG := tg_in 696 (by decide +kernel) rfl
theorem ksel_X10_bed : Cond.selects RX10 yX10_bed yX10_bed ∈ tG := tg_in 697 (by decide +kernel) rfl
theorem kcode_X10_bed : Cond.code yX10_bed cX10_bed 8 (some .int) ∈ tG := tg_in 698 (by decide +kernel) rfl
theorem kml_X10_205 : Cond.methodLink RX10 205 yX10_isLand ∈ tG := tg_in 699 (by decide +kernel) rfl
theorem kst_X10_isLand : Cond.static yX10_isLand ∈ tG := tg_in 700 (by decide +kernel) rfl
theorem kcode_X10_isLand : Cond.code yX10_isLand cX10_isLand 1 (some .boolean) ∈ tG := tg_in 701 (by decide +kernel) rfl
theorem kml_X10_211 : Cond.methodLink RX10 211 yX4_mark ∈ tG := tg_in 702 (by decide +kernel) rfl
theorem kim_X4_mark : Cond.instanceMethod yX4_mark ∈ tG := tg_in 703 (by decide +kernel) rfl
theorem ksel_X4_mark : Cond.selects RX4 yX4_mark yX4_mark ∈ tG := tg_in 704 (by decide +kernel) rfl
theorem kcode_X4_mark : Cond.code yX4_mark cX4_mark 4 none ∈ tG := tg_in 705 (by decide +kernel) rfl
theorem kml_L_108 : Cond.methodLink RL 108 yX10_forget ∈ tG := tg_in 707 (by decide +kernel) rfl
theorem kim_X10_forget : Cond.instanceMethod yX10_forget ∈ tG := tg_in 708 (by decide +kernel) rfl
theorem ksel_X10_forget : Cond.selects RX10 yX10_forget yX10_forget ∈ tG := tg_in 709 (by decide +kernel) rfl
theorem kcode_X10_forget : Cond.code yX10_forget cX10_forget 1 (some .int) ∈ tG := tg_in 710 (by decide +kernel) rfl
theorem kml_L_112 : Cond.methodLink RL 112 yX10_about ∈ tG := tg_in 711 (by decide +kernel) rfl
theorem kim_X10_about : Cond.instanceMethod yX10_about ∈ tG := tg_in 712 (by decide +kernel) rfl
theorem ksel_X10_about : Cond.selects RX10 yX10_about yX10_about ∈ tG := tg_in 713 (by decide +kernel) rfl
theorem kcode_X10_about : Cond.code yX10_about cX10_about 3 (some .int) ∈ tG := tg_in 714 (by decide +kernel) rfl
theorem kml_X10_214 : Cond.methodLink RX10 214 yX10_isBed ∈ tG := tg_in 715 (by decide +kernel) rfl
theorem kim_X10_isBed : Cond.instanceMethod yX10_isBed ∈ tG := tg_in 717 (by decide +kernel) rfl
theorem kcode_X10_isBed : Cond.code yX10_isBed cX10_isBed 2 (some .boolean) ∈ tG := tg_in 718 (by decide +kernel) rfl
theorem kml_X10_217 : Cond.methodLink RX10 217 yX4_slideTenths ∈ tG := tg_in 719 (by decide +kernel) rfl
theorem kim_X4_slideTenths : Cond.instanceMethod yX4_slideTenths ∈ tG := tg_in 720 (by decide +kernel) rfl
theorem ksel_X4_slideTenths : Cond.selects RX4 yX4_slideTenths yX4_slideTenths ∈ tG := tg_in 721 (by decide +kernel) rfl
theorem kcode_X4_slideTenths : Cond.code yX4_slideTenths cX4_slideTenths 3 (some .int) ∈ tG := tg_in 722 (by decide +kernel) rfl
theorem kml_X4_26 : Cond.methodLink RX4 26 yX4_hasSign ∈ tG := tg_in 723 (by decide +kernel) rfl
theorem kim_X4_hasSign : Cond.instanceMethod yX4_hasSign ∈ tG := tg_in 724 (by decide +kernel) rfl
theorem ksel_X4_hasSign : Cond.selects RX4 yX4_hasSign yX4_hasSign ∈ tG := tg_in 725 (by decide +kernel) rfl
theorem kcode_X4_hasSign : Cond.code yX4_hasSign cX4_hasSign 3 (some .boolean) ∈ tG := tg_in 726 (by decide +kernel) rfl
theorem kml_X4_22 : Cond.methodLink RX4 22 yX4_markOf ∈ tG := tg_in 727 (by decide +kernel) rfl
theorem kim_X4_markOf : Cond.instanceMethod yX4_markOf ∈ tG := tg_in 728 (by decide +kernel) rfl
theorem ksel_X4_markOf : Cond.selects RX4 yX4_markOf yX4_markOf ∈ tG := tg_in 729 (by decide +kernel) rfl
theorem kcode_X4_markOf : Cond.code yX4_markOf cX4_markOf 4 (some .int) ∈ tG := tg_in 730 (by decide +kernel) rfl
theorem kml_X10_220 : Cond.methodLink RX10 220 yX4_isIcy ∈ tG := tg_in 731 (by decide +kernel) rfl
theorem kim_X4_isIcy : Cond.instanceMethod yX4_isIcy ∈ tG := tg_in 732 (by decide +kernel) rfl
theorem ksel_X4_isIcy : Cond.selects RX4 yX4_isIcy yX4_isIcy ∈ tG := tg_in 733 (by decide +kernel) rfl
theorem kcode_X4_isIcy : Cond.code yX4_isIcy cX4_isIcy 2 (some .boolean) ∈ tG := tg_in 734 (by decide +kernel) rfl
theorem kml_X10_223 : Cond.methodLink RX10 223 yX4_markOf ∈ tG := tg_in 735 (by decide +kernel) rfl
theorem kml_L_116 : Cond.methodLink RL 116 yX10_explains ∈ tG := tg_in 736 (by decide +kernel) rfl
theorem kim_X10_explains : Cond.instanceMethod yX10_explains ∈ tG := tg_in 737 (by decide +kernel) rfl
theorem ksel_X10_explains : Cond.selects RX10 yX10_explains yX10_explains ∈ tG := tg_in 738 (by decide +kernel) rfl
theorem kcode_X10_explains : Cond.code yX10_explains cX10_explains 4 (some .int) ∈ tG := tg_in 739 (by decide +kernel) rfl
theorem kml_X10_226 : Cond.methodLink RX10 226 yX0_someIce ∈ tG := tg_in 740 (by decide +kernel) rfl
theorem kim_X0_someIce : Cond.instanceMethod yX0_someIce ∈ tG := tg_in 741 (by decide +kernel) rfl
theorem ksel_X0_someIce : Cond.selects RX0 yX0_someIce yX0_someIce ∈ tG := tg_in 742 (by decide +kernel) rfl
theorem kcode_X0_someIce : Cond.code yX0_someIce cX0_someIce 6 (some .int) ∈ tG := tg_in 743 (by decide +kernel) rfl
theorem kml_X0_22 : Cond.methodLink RX0 22 yX0_iceOf ∈ tG := tg_in 744 (by decide +kernel) rfl
theorem kml_X10_229 : Cond.methodLink RX10 229 yX10_hasIce ∈ tG := tg_in 745 (by decide +kernel) rfl
theorem kml_L_120 : Cond.methodLink RL 120 yX10_chance ∈ tG := tg_in 746 (by decide +kernel) rfl
theorem kim_X10_chance : Cond.instanceMethod yX10_chance ∈ tG := tg_in 747 (by decide +kernel) rfl
theorem ksel_X10_chance : Cond.selects RX10 yX10_chance yX10_chance ∈ tG := tg_in 748 (by decide +kernel) rfl
theorem kcode_X10_chance : Cond.code yX10_chance cX10_chance 4 (some .long) ∈ tG := tg_in 749 (by decide +kernel) rfl
theorem kcL_X10_232 : Cond.constantLong RX10 232 (-1) ∈ tG := tg_in 750 (by decide +kernel) rfl
theorem kml_X10_234 : Cond.methodLink RX10 234 yX5_hundredths ∈ tG := tg_in 751 (by decide +kernel) rfl
theorem kst_X5_hundredths : Cond.static yX5_hundredths ∈ tG := tg_in 752 (by decide +kernel) rfl
theorem kcode_X5_hundredths : Cond.code yX5_hundredths cX5_hundredths 10 (some .int) ∈ tG := tg_in 753 (by decide +kernel) rfl
theorem kml_X5_21 : Cond.methodLink RX5 21 yX4_markOf ∈ tG := tg_in 754 (by decide +kernel) rfl
theorem kml_X5_25 : Cond.methodLink RX5 25 yX4_isIcy ∈ tG := tg_in 755 (by decide +kernel) rfl
theorem kml_X5_29 : Cond.methodLink RX5 29 yX0_lastingIce ∈ tG := tg_in 756 (by decide +kernel) rfl
theorem kim_X0_lastingIce : Cond.instanceMethod yX0_lastingIce ∈ tG := tg_in 757 (by decide +kernel) rfl
theorem ksel_X0_lastingIce : Cond.selects RX0 yX0_lastingIce yX0_lastingIce ∈ tG := tg_in 758 (by decide +kernel) rfl
theorem kcode_X0_lastingIce : Cond.code yX0_lastingIce cX0_lastingIce 6 (some .int) ∈ tG := tg_in 759 (by decide +kernel) rfl
theorem kml_X5_39 : Cond.methodLink RX5 39 yX0_someIce ∈ tG := tg_in 761 (by decide +kernel) rfl
theorem kml_X5_42 : Cond.methodLink RX5 42 yX4_slideTenths ∈ tG := tg_in 762 (by decide +kernel) rfl
theorem kcL_X10_238 : Cond.constantLong RX10 238 (100) ∈ tG := tg_in 763 (by decide +kernel) rfl
theorem kml_X10_240 : Cond.methodLink RX10 240 yX10_told ∈ tG := tg_in 764 (by decide +kernel) rfl
theorem kst_X10_told : Cond.static yX10_told ∈ tG := tg_in 765 (by decide +kernel) rfl
theorem kcode_X10_told : Cond.code yX10_told cX10_told 7 (some .long) ∈ tG := tg_in 766 (by decide +kernel) rfl
theorem kml_X10_313 : Cond.methodLink RX10 313 yX10_greatestCommon ∈ tG := tg_in 767 (by decide +kernel) rfl
theorem kst_X10_greatestCommon : Cond.static yX10_greatestCommon ∈ tG := tg_in 768 (by decide +kernel) rfl
theorem kcode_X10_greatestCommon : Cond.code yX10_greatestCommon cX10_greatestCommon 11 (some .long) ∈ tG := tg_in 769 (by decide +kernel) rfl
theorem kcL_X10_317 : Cond.constantLong RX10 317 (-9) ∈ tG := tg_in 770 (by decide +kernel) rfl
theorem kml_L_125 : Cond.methodLink RL 125 yX10_weight ∈ tG := tg_in 771 (by decide +kernel) rfl
theorem kim_X10_weight : Cond.instanceMethod yX10_weight ∈ tG := tg_in 772 (by decide +kernel) rfl
theorem ksel_X10_weight : Cond.selects RX10 yX10_weight yX10_weight ∈ tG := tg_in 773 (by decide +kernel) rfl
theorem kcode_X10_weight : Cond.code yX10_weight cX10_weight 4 (some .int) ∈ tG := tg_in 774 (by decide +kernel) rfl
theorem kml_L_129 : Cond.methodLink RL 129 yX10_odds ∈ tG := tg_in 775 (by decide +kernel) rfl
theorem kim_X10_odds : Cond.instanceMethod yX10_odds ∈ tG := tg_in 776 (by decide +kernel) rfl
theorem ksel_X10_odds : Cond.selects RX10 yX10_odds yX10_odds ∈ tG := tg_in 777 (by decide +kernel) rfl
theorem kcode_X10_odds : Cond.code yX10_odds cX10_odds 3 (some .long) ∈ tG := tg_in 778 (by decide +kernel) rfl
theorem kml_X10_247 : Cond.methodLink RX10 247 yX5_weigh ∈ tG := tg_in 779 (by decide +kernel) rfl
theorem kim_X5_weigh : Cond.instanceMethod yX5_weigh ∈ tG := tg_in 780 (by decide +kernel) rfl
theorem ksel_X5_weigh : Cond.selects RX5 yX5_weigh yX5_weigh ∈ tG := tg_in 781 (by decide +kernel) rfl
theorem kcode_X5_weigh : Cond.code yX5_weigh cX5_weigh 5 none ∈ tG := tg_in 782 (by decide +kernel) rfl
theorem kml_X5_55 : Cond.methodLink RX5 55 yX5_hundredths ∈ tG := tg_in 783 (by decide +kernel) rfl
theorem kml_X5_59 : Cond.methodLink RX5 59 yX5_weighWithout ∈ tG := tg_in 784 (by decide +kernel) rfl
theorem kim_X5_weighWithout : Cond.instanceMethod yX5_weighWithout ∈ tG := tg_in 786 (by decide +kernel) rfl
theorem kcode_X5_weighWithout : Cond.code yX5_weighWithout cX5_weighWithout 7 none ∈ tG := tg_in 787 (by decide +kernel) rfl
theorem kcL_X10_255 : Cond.constantLong RX10 255 (-3) ∈ tG := tg_in 788 (by decide +kernel) rfl
theorem kml_L_134 : Cond.methodLink RL 134 yX10_best ∈ tG := tg_in 789 (by decide +kernel) rfl
theorem kim_X10_best : Cond.instanceMethod yX10_best ∈ tG := tg_in 790 (by decide +kernel) rfl
theorem ksel_X10_best : Cond.selects RX10 yX10_best yX10_best ∈ tG := tg_in 791 (by decide +kernel) rfl
theorem kcode_X10_best : Cond.code yX10_best cX10_best 1 (some .int) ∈ tG := tg_in 792 (by decide +kernel) rfl
theorem kml_X10_261 : Cond.methodLink RX10 261 yX5_greatest ∈ tG := tg_in 793 (by decide +kernel) rfl
theorem kim_X5_greatest : Cond.instanceMethod yX5_greatest ∈ tG := tg_in 794 (by decide +kernel) rfl
theorem ksel_X5_greatest : Cond.selects RX5 yX5_greatest yX5_greatest ∈ tG := tg_in 795 (by decide +kernel) rfl
theorem kcode_X5_greatest : Cond.code yX5_greatest cX5_greatest 3 (some .int) ∈ tG := tg_in 796 (by decide +kernel) rfl
theorem kml_L_138 : Cond.methodLink RL 138 yX10_mover ∈ tG := tg_in 797 (by decide +kernel) rfl
theorem kim_X10_mover : Cond.instanceMethod yX10_mover ∈ tG := tg_in 798 (by decide +kernel) rfl
theorem ksel_X10_mover : Cond.selects RX10 yX10_mover yX10_mover ∈ tG := tg_in 799 (by decide +kernel) rfl
theorem kcode_X10_mover : Cond.code yX10_mover cX10_mover 1 (some .int) ∈ tG := tg_in 800 (by decide +kernel) rfl
theorem kml_X10_264 : Cond.methodLink RX10 264 yX5_bedThatMovesMost ∈ tG := tg_in 801 (by decide +kernel) rfl
theorem kim_X5_bedThatMovesMost : Cond.instanceMethod yX5_bedThatMovesMost ∈ tG := tg_in 802 (by decide +kernel) rfl
theorem ksel_X5_bedThatMovesMost : Cond.selects RX5 yX5_bedThatMovesMost yX5_bedThatMovesMost ∈ tG := tg_in 803 (by decide +kernel) rfl
theorem kcode_X5_bedThatMovesMost : Cond.code yX5_bedThatMovesMost cX5_bedThatMovesMost 8 (some .int) ∈ tG := tg_in 804 (by decide +kernel) rfl
theorem kml_X5_70 : Cond.methodLink RX5 70 yX5_greatest ∈ tG := tg_in 805 (by decide +kernel) rfl
theorem kml_X5_74 : Cond.methodLink RX5 74 yX5_millionths ∈ tG := tg_in 806 (by decide +kernel) rfl
theorem kst_X5_millionths : Cond.static yX5_millionths ∈ tG := tg_in 807 (by decide +kernel) rfl
theorem kcode_X5_millionths : Cond.code yX5_millionths cX5_millionths 8 (some .int) ∈ tG := tg_in 808 (by decide +kernel) rfl
theorem kcL_X5_78 : Cond.constantLong RX5 78 (10) ∈ tG := tg_in 809 (by decide +kernel) rfl
theorem kml_X5_50 : Cond.methodLink RX5 50 Lib.Math.abs.name ∈ tG := tg_in 810 (by decide +kernel) rfl
theorem kml_L_142 : Cond.methodLink RL 142 yX10_next ∈ tG := tg_in 811 (by decide +kernel) rfl
theorem kim_X10_next : Cond.instanceMethod yX10_next ∈ tG := tg_in 812 (by decide +kernel) rfl
theorem ksel_X10_next : Cond.selects RX10 yX10_next yX10_next ∈ tG := tg_in 813 (by decide +kernel) rfl
theorem kcode_X10_next : Cond.code yX10_next cX10_next 1 (some .int) ∈ tG := tg_in 814 (by decide +kernel) rfl
theorem kml_X10_268 : Cond.methodLink RX10 268 yX5_whereToGo ∈ tG := tg_in 815 (by decide +kernel) rfl
theorem kim_X5_whereToGo : Cond.instanceMethod yX5_whereToGo ∈ tG := tg_in 816 (by decide +kernel) rfl
theorem ksel_X5_whereToGo : Cond.selects RX5 yX5_whereToGo yX5_whereToGo ∈ tG := tg_in 817 (by decide +kernel) rfl
theorem kcode_X5_whereToGo : Cond.code yX5_whereToGo cX5_whereToGo 9 (some .int) ∈ tG := tg_in 818 (by decide +kernel) rfl
theorem kcL_X5_80 : Cond.constantLong RX5 80 (2) ∈ tG := tg_in 819 (by decide +kernel) rfl
theorem kml_X5_82 : Cond.methodLink RX5 82 yX5_shareWithIce ∈ tG := tg_in 820 (by decide +kernel) rfl
theorem kim_X5_shareWithIce : Cond.instanceMethod yX5_shareWithIce ∈ tG := tg_in 822 (by decide +kernel) rfl
theorem kcode_X5_shareWithIce : Cond.code yX5_shareWithIce cX5_shareWithIce 7 (some .long) ∈ tG := tg_in 823 (by decide +kernel) rfl
theorem kml_X5_89 : Cond.methodLink RX5 89 yX0_iceOf ∈ tG := tg_in 824 (by decide +kernel) rfl
theorem kml_X5_86 : Cond.methodLink RX5 86 Lib.MathLoose.abs_long.x ∈ tG := tg_in 825 (by decide +kernel) rfl
theorem kst_J9_abs_067f4 : Cond.static Lib.MathLoose.abs_long.x ∈ tG := tg_in 826 (by decide +kernel) rfl
theorem kcode_J9_abs_067f4 : Cond.code Lib.MathLoose.abs_long.x Lib.MathLoose.abs_long.code 2 (some .long) ∈ tG := tg_in 827 (by decide +kernel) rfl
theorem kml_L_146 : Cond.methodLink RL 146 yX10_once ∈ tG := tg_in 828 (by decide +kernel) rfl
theorem kim_X10_once : Cond.instanceMethod yX10_once ∈ tG := tg_in 829 (by decide +kernel) rfl
theorem ksel_X10_once : Cond.selects RX10 yX10_once yX10_once ∈ tG := tg_in 830 (by decide +kernel) rfl
theorem kcode_X10_once : Cond.code yX10_once cX10_once 1 (some .int) ∈ tG := tg_in 831 (by decide +kernel) rfl
theorem kml_X10_272 : Cond.methodLink RX10 272 yX2_firstCommonRound ∈ tG := tg_in 832 (by decide +kernel) rfl
theorem kst_X2_firstCommonRound : Cond.static yX2_firstCommonRound ∈ tG := tg_in 833 (by decide +kernel) rfl
theorem kcode_X2_firstCommonRound : Cond.code yX2_firstCommonRound cX2_firstCommonRound 4 (some .int) ∈ tG := tg_in 834 (by decide +kernel) rfl
theorem kml_X2_21 : Cond.methodLink RX2 21 yX4_isIcy ∈ tG := tg_in 835 (by decide +kernel) rfl
theorem kml_X2_25 : Cond.methodLink RX2 25 yX4_markOf ∈ tG := tg_in 836 (by decide +kernel) rfl
theorem kml_X2_29 : Cond.methodLink RX2 29 Lib.Math.max.name ∈ tG := tg_in 837 (by decide +kernel) rfl
theorem kml_X2_34 : Cond.methodLink RX2 34 Lib.Math.min.name ∈ tG := tg_in 838 (by decide +kernel) rfl
theorem kml_L_150 : Cond.methodLink RL 150 yX10_times ∈ tG := tg_in 839 (by decide +kernel) rfl
theorem kim_X10_times : Cond.instanceMethod yX10_times ∈ tG := tg_in 840 (by decide +kernel) rfl
theorem ksel_X10_times : Cond.selects RX10 yX10_times yX10_times ∈ tG := tg_in 841 (by decide +kernel) rfl
theorem kcode_X10_times : Cond.code yX10_times cX10_times 1 (some .int) ∈ tG := tg_in 842 (by decide +kernel) rfl
theorem kml_X10_275 : Cond.methodLink RX10 275 yX2_part ∈ tG := tg_in 843 (by decide +kernel) rfl
theorem kim_X2_part : Cond.instanceMethod yX2_part ∈ tG := tg_in 844 (by decide +kernel) rfl
theorem ksel_X2_part : Cond.selects RX2 yX2_part yX2_part ∈ tG := tg_in 845 (by decide +kernel) rfl
theorem kcode_X2_part : Cond.code yX2_part cX2_part 5 none ∈ tG := tg_in 846 (by decide +kernel) rfl
theorem kml_X2_40 : Cond.methodLink RX2 40 yX2_firstEndBehind ∈ tG := tg_in 847 (by decide +kernel) rfl
theorem kst_X2_firstEndBehind : Cond.static yX2_firstEndBehind ∈ tG := tg_in 848 (by decide +kernel) rfl
theorem kcode_X2_firstEndBehind : Cond.code yX2_firstEndBehind cX2_firstEndBehind 6 (some .int) ∈ tG := tg_in 849 (by decide +kernel) rfl
theorem kml_L_154 : Cond.methodLink RL 154 yX10_time ∈ tG := tg_in 850 (by decide +kernel) rfl
theorem kim_X10_time : Cond.instanceMethod yX10_time ∈ tG := tg_in 851 (by decide +kernel) rfl
theorem ksel_X10_time : Cond.selects RX10 yX10_time yX10_time ∈ tG := tg_in 852 (by decide +kernel) rfl
theorem kcode_X10_time : Cond.code yX10_time cX10_time 2 (some .int) ∈ tG := tg_in 853 (by decide +kernel) rfl
theorem kml_X10_280 : Cond.methodLink RX10 280 yX2_roundOf ∈ tG := tg_in 854 (by decide +kernel) rfl
theorem kim_X2_roundOf : Cond.instanceMethod yX2_roundOf ∈ tG := tg_in 855 (by decide +kernel) rfl
theorem ksel_X2_roundOf : Cond.selects RX2 yX2_roundOf yX2_roundOf ∈ tG := tg_in 856 (by decide +kernel) rfl
theorem kcode_X2_roundOf : Cond.code yX2_roundOf cX2_roundOf 2 (some .int) ∈ tG := tg_in 857 (by decide +kernel) rfl
theorem kml_L_158 : Cond.methodLink RL 158 yX10_order ∈ tG := tg_in 859 (by decide +kernel) rfl
theorem kim_X10_order : Cond.instanceMethod yX10_order ∈ tG := tg_in 860 (by decide +kernel) rfl
theorem ksel_X10_order : Cond.selects RX10 yX10_order yX10_order ∈ tG := tg_in 861 (by decide +kernel) rfl
theorem kcode_X10_order : Cond.code yX10_order cX10_order 2 (some .int) ∈ tG := tg_in 862 (by decide +kernel) rfl
theorem kml_X10_283 : Cond.methodLink RX10 283 yX2_isInOrder ∈ tG := tg_in 863 (by decide +kernel) rfl
theorem kst_X2_isInOrder : Cond.static yX2_isInOrder ∈ tG := tg_in 864 (by decide +kernel) rfl
theorem kcode_X2_isInOrder : Cond.code yX2_isInOrder cX2_isInOrder 4 (some .boolean) ∈ tG := tg_in 865 (by decide +kernel) rfl
theorem kml_X2_48 : Cond.methodLink RX2 48 yX4_liesIn ∈ tG := tg_in 866 (by decide +kernel) rfl
theorem kim_X4_liesIn : Cond.instanceMethod yX4_liesIn ∈ tG := tg_in 867 (by decide +kernel) rfl
theorem ksel_X4_liesIn : Cond.selects RX4 yX4_liesIn yX4_liesIn ∈ tG := tg_in 868 (by decide +kernel) rfl
theorem kcode_X4_liesIn : Cond.code yX4_liesIn cX4_liesIn 3 (some .boolean) ∈ tG := tg_in 869 (by decide +kernel) rfl
theorem kml_L_162 : Cond.methodLink RL 162 yX10_gap ∈ tG := tg_in 870 (by decide +kernel) rfl
theorem kim_X10_gap : Cond.instanceMethod yX10_gap ∈ tG := tg_in 871 (by decide +kernel) rfl
theorem ksel_X10_gap : Cond.selects RX10 yX10_gap yX10_gap ∈ tG := tg_in 872 (by decide +kernel) rfl
theorem kcode_X10_gap : Cond.code yX10_gap cX10_gap 4 (some .int) ∈ tG := tg_in 873 (by decide +kernel) rfl
theorem kml_X10_287 : Cond.methodLink RX10 287 yX2_earliestBelow ∈ tG := tg_in 874 (by decide +kernel) rfl
theorem kst_X2_earliestBelow : Cond.static yX2_earliestBelow ∈ tG := tg_in 875 (by decide +kernel) rfl
theorem kcode_X2_earliestBelow : Cond.code yX2_earliestBelow cX2_earliestBelow 5 (some .int) ∈ tG := tg_in 876 (by decide +kernel) rfl
theorem kml_X10_291 : Cond.methodLink RX10 291 yX2_latestFrom ∈ tG := tg_in 877 (by decide +kernel) rfl
theorem kst_X2_latestFrom : Cond.static yX2_latestFrom ∈ tG := tg_in 878 (by decide +kernel) rfl
theorem kcode_X2_latestFrom : Cond.code yX2_latestFrom cX2_latestFrom 5 (some .int) ∈ tG := tg_in 879 (by decide +kernel) rfl
theorem kml_L_166 : Cond.methodLink RL 166 yX10_pole ∈ tG := tg_in 880 (by decide +kernel) rfl
theorem kim_X10_pole : Cond.instanceMethod yX10_pole ∈ tG := tg_in 881 (by decide +kernel) rfl
theorem ksel_X10_pole : Cond.selects RX10 yX10_pole yX10_pole ∈ tG := tg_in 882 (by decide +kernel) rfl
theorem kcode_X10_pole : Cond.code yX10_pole cX10_pole 3 (some .int) ∈ tG := tg_in 883 (by decide +kernel) rfl
theorem kml_X10_294 : Cond.methodLink RX10 294 yX5_explainedBy ∈ tG := tg_in 884 (by decide +kernel) rfl
theorem kst_X5_explainedBy : Cond.static yX5_explainedBy ∈ tG := tg_in 885 (by decide +kernel) rfl
theorem kcode_X5_explainedBy : Cond.code yX5_explainedBy cX5_explainedBy 8 (some .int) ∈ tG := tg_in 886 (by decide +kernel) rfl
theorem kml_L_170 : Cond.methodLink RL 170 yX10_elsewhere ∈ tG := tg_in 887 (by decide +kernel) rfl
theorem kim_X10_elsewhere : Cond.instanceMethod yX10_elsewhere ∈ tG := tg_in 888 (by decide +kernel) rfl
theorem ksel_X10_elsewhere : Cond.selects RX10 yX10_elsewhere yX10_elsewhere ∈ tG := tg_in 889 (by decide +kernel) rfl
theorem kcode_X10_elsewhere : Cond.code yX10_elsewhere cX10_elsewhere 6 (some .int) ∈ tG := tg_in 890 (by decide +kernel) rfl
theorem kml_L_174 : Cond.methodLink RL 174 yX10_keep ∈ tG := tg_in 891 (by decide +kernel) rfl
theorem kim_X10_keep : Cond.instanceMethod yX10_keep ∈ tG := tg_in 892 (by decide +kernel) rfl
theorem ksel_X10_keep : Cond.selects RX10 yX10_keep yX10_keep ∈ tG := tg_in 893 (by decide +kernel) rfl
theorem kcode_X10_keep : Cond.code yX10_keep cX10_keep 2 (some .int) ∈ tG := tg_in 894 (by decide +kernel) rfl
theorem kml_X10_297 : Cond.methodLink RX10 297 yX10_isSlot ∈ tG := tg_in 895 (by decide +kernel) rfl
theorem kst_X10_isSlot : Cond.static yX10_isSlot ∈ tG := tg_in 896 (by decide +kernel) rfl
theorem kcode_X10_isSlot : Cond.code yX10_isSlot cX10_isSlot 1 (some .boolean) ∈ tG := tg_in 897 (by decide +kernel) rfl
theorem kml_X10_300 : Cond.methodLink RX10 300 yX4_copyFrom ∈ tG := tg_in 898 (by decide +kernel) rfl
theorem kim_X4_copyFrom : Cond.instanceMethod yX4_copyFrom ∈ tG := tg_in 899 (by decide +kernel) rfl
theorem ksel_X4_copyFrom : Cond.selects RX4 yX4_copyFrom yX4_copyFrom ∈ tG := tg_in 900 (by decide +kernel) rfl
theorem kcode_X4_copyFrom : Cond.code yX4_copyFrom cX4_copyFrom 2 none ∈ tG := tg_in 901 (by decide +kernel) rfl
theorem kml_X4_38 : Cond.methodLink RX4 38 arraycopyName ∈ tG := tg_in 902 (by decide +kernel) rfl
theorem kst_java_lang_System_arraycopy__Ljava_lang_Object_ILjava_lang_Object_II_V : Cond.static arraycopyName ∈ tG := tg_in 903 (by decide +kernel) rfl
theorem knat_java_lang_System_arraycopy__Ljava_lang_Object_ILjava_lang_Object_II_V : Cond.native arraycopyName ∈ tG := tg_in 904 (by decide +kernel) rfl
theorem kml_L_178 : Cond.methodLink RL 178 yX10_again ∈ tG := tg_in 905 (by decide +kernel) rfl
theorem kim_X10_again : Cond.instanceMethod yX10_again ∈ tG := tg_in 906 (by decide +kernel) rfl
theorem ksel_X10_again : Cond.selects RX10 yX10_again yX10_again ∈ tG := tg_in 907 (by decide +kernel) rfl
theorem kcode_X10_again : Cond.code yX10_again cX10_again 2 (some .int) ∈ tG := tg_in 908 (by decide +kernel) rfl
theorem kml_L_182 : Cond.methodLink RL 182 yX10_count ∈ tG := tg_in 909 (by decide +kernel) rfl
theorem kim_X10_count : Cond.instanceMethod yX10_count ∈ tG := tg_in 910 (by decide +kernel) rfl
theorem ksel_X10_count : Cond.selects RX10 yX10_count yX10_count ∈ tG := tg_in 911 (by decide +kernel) rfl
theorem kcode_X10_count : Cond.code yX10_count cX10_count 2 (some .int) ∈ tG := tg_in 912 (by decide +kernel) rfl
theorem kml_X10_307 : Cond.methodLink RX10 307 yX4_icyBeds ∈ tG := tg_in 913 (by decide +kernel) rfl
theorem kim_X4_icyBeds : Cond.instanceMethod yX4_icyBeds ∈ tG := tg_in 914 (by decide +kernel) rfl
theorem ksel_X4_icyBeds : Cond.selects RX4 yX4_icyBeds yX4_icyBeds ∈ tG := tg_in 915 (by decide +kernel) rfl
theorem kcode_X4_icyBeds : Cond.code yX4_icyBeds cX4_icyBeds 3 (some .int) ∈ tG := tg_in 916 (by decide +kernel) rfl
theorem kml_X4_34 : Cond.methodLink RX4 34 yX4_isIcy ∈ tG := tg_in 917 (by decide +kernel) rfl
theorem kml_X10_310 : Cond.methodLink RX10 310 yX4_weightsTogether ∈ tG := tg_in 918 (by decide +kernel) rfl
theorem kim_X4_weightsTogether : Cond.instanceMethod yX4_weightsTogether ∈ tG := tg_in 919 (by decide +kernel) rfl
theorem ksel_X4_weightsTogether : Cond.selects RX4 yX4_weightsTogether yX4_weightsTogether ∈ tG := tg_in 920 (by decide +kernel) rfl
theorem kcode_X4_weightsTogether : Cond.code yX4_weightsTogether cX4_weightsTogether 3 (some .int) ∈ tG := tg_in 921 (by decide +kernel) rfl
theorem kcl_L_10 : Cond.classLink RL 10 RX11 ∈ tG := tg_in 922 (by decide +kernel) rfl
theorem kins_X11 : Cond.instantiable RX11 29 ∈ tG := tg_in 923 (by decide +kernel) rfl
theorem kml_L_12 : Cond.methodLink RL 12 yX11_init ∈ tG := tg_in 924 (by decide +kernel) rfl
theorem kim_X11_init : Cond.instanceMethod yX11_init ∈ tG := tg_in 925 (by decide +kernel) rfl
theorem kcode_X11_init : Cond.code yX11_init cX11_init 2 none ∈ tG := tg_in 926 (by decide +kernel) rfl
theorem kml_X11_1 : Cond.methodLink RX11 1 Lib.objectInit ∈ tG := tg_in 927 (by decide +kernel) rfl
theorem kfl_X11_7 : Cond.fieldLink RX11 7 "IceAtTheMiddleModel" "read" "[I" ∈ tG := tg_in 928 (by decide +kernel) rfl
theorem kfl_X11_13 : Cond.fieldLink RX11 13 "IceAtTheMiddleModel" "laws" "[I" ∈ tG := tg_in 929 (by decide +kernel) rfl
theorem kfl_X11_16 : Cond.fieldLink RX11 16 "IceAtTheMiddleModel" "text" "[I" ∈ tG := tg_in 930 (by decide +kernel) rfl
theorem kfl_X11_69 : Cond.fieldLink RX11 69 "IceAtTheMiddleModel" "length" "I" ∈ tG := tg_in 931 (by decide +kernel) rfl
theorem kfl_X11_78 : Cond.fieldLink RX11 78 "IceAtTheMiddleModel" "at" "I" ∈ tG := tg_in 932 (by decide +kernel) rfl
theorem kfl_X11_75 : Cond.fieldLink RX11 75 "IceAtTheMiddleModel" "faultAt" "I" ∈ tG := tg_in 933 (by decide +kernel) rfl
theorem kfl_X11_86 : Cond.fieldLink RX11 86 "IceAtTheMiddleModel" "parts" "I" ∈ tG := tg_in 934 (by decide +kernel) rfl
theorem kfl_X11_19 : Cond.fieldLink RX11 19 "IceAtTheMiddleModel" "entryRound" "[I" ∈ tG := tg_in 935 (by decide +kernel) rfl
theorem kfl_X11_22 : Cond.fieldLink RX11 22 "IceAtTheMiddleModel" "entryIce" "[I" ∈ tG := tg_in 936 (by decide +kernel) rfl
theorem kfl_X11_100 : Cond.fieldLink RX11 100 "IceAtTheMiddleModel" "entries" "I" ∈ tG := tg_in 937 (by decide +kernel) rfl
theorem kfl_X11_25 : Cond.fieldLink RX11 25 "IceAtTheMiddleModel" "stories" "[I" ∈ tG := tg_in 938 (by decide +kernel) rfl
theorem kfl_X11_28 : Cond.fieldLink RX11 28 "IceAtTheMiddleModel" "weights" "[I" ∈ tG := tg_in 939 (by decide +kernel) rfl
theorem kfl_X11_31 : Cond.fieldLink RX11 31 "IceAtTheMiddleModel" "metAt" "[I" ∈ tG := tg_in 940 (by decide +kernel) rfl
theorem kfl_X11_149 : Cond.fieldLink RX11 149 "IceAtTheMiddleModel" "ringEarth" "I" ∈ tG := tg_in 941 (by decide +kernel) rfl
theorem kfl_X11_152 : Cond.fieldLink RX11 152 "IceAtTheMiddleModel" "lead" "I" ∈ tG := tg_in 942 (by decide +kernel) rfl
theorem kfl_X11_155 : Cond.fieldLink RX11 155 "IceAtTheMiddleModel" "ring" "I" ∈ tG := tg_in 943 (by decide +kernel) rfl
theorem kfl_X11_34 : Cond.fieldLink RX11 34 "IceAtTheMiddleModel" "jumpAir" "[I" ∈ tG := tg_in 944 (by decide +kernel) rfl
theorem kfl_X11_170 : Cond.fieldLink RX11 170 "IceAtTheMiddleModel" "jumpMany" "I" ∈ tG := tg_in 945 (by decide +kernel) rfl
theorem kfl_X11_173 : Cond.fieldLink RX11 173 "IceAtTheMiddleModel" "curveEnd" "I" ∈ tG := tg_in 946 (by decide +kernel) rfl
theorem kfl_X11_180 : Cond.fieldLink RX11 180 "IceAtTheMiddleModel" "beds" "I" ∈ tG := tg_in 947 (by decide +kernel) rfl
theorem kfl_X11_37 : Cond.fieldLink RX11 37 "IceAtTheMiddleModel" "bed" "[I" ∈ tG := tg_in 948 (by decide +kernel) rfl
theorem kfl_X11_40 : Cond.fieldLink RX11 40 "IceAtTheMiddleModel" "lots" "[J" ∈ tG := tg_in 949 (by decide +kernel) rfl
theorem kfl_X11_212 : Cond.fieldLink RX11 212 "IceAtTheMiddleModel" "all" "J" ∈ tG := tg_in 950 (by decide +kernel) rfl
theorem kfl_X11_44 : Cond.fieldLink RX11 44 "IceAtTheMiddleModel" "early" "[I" ∈ tG := tg_in 951 (by decide +kernel) rfl
theorem kfl_X11_47 : Cond.fieldLink RX11 47 "IceAtTheMiddleModel" "late" "[I" ∈ tG := tg_in 952 (by decide +kernel) rfl
theorem kfl_X11_50 : Cond.fieldLink RX11 50 "IceAtTheMiddleModel" "isKept" "[Z" ∈ tG := tg_in 953 (by decide +kernel) rfl
theorem kfl_X11_54 : Cond.fieldLink RX11 54 "IceAtTheMiddleModel" "keptBeds" "[I" ∈ tG := tg_in 954 (by decide +kernel) rfl
theorem kfl_X11_57 : Cond.fieldLink RX11 57 "IceAtTheMiddleModel" "keptBed" "[I" ∈ tG := tg_in 955 (by decide +kernel) rfl
theorem kfl_X11_60 : Cond.fieldLink RX11 60 "IceAtTheMiddleModel" "keptWeights" "[I" ∈ tG := tg_in 956 (by decide +kernel) rfl
theorem karr_boolean : Cond.arrayClass .boolean ∈ tG := tg_in 1016 (by decide +kernel) rfl
theorem kml_L_19 : Cond.methodLink RL 19 yX11_write ∈ tG := tg_in 1017 (by decide +kernel) rfl
theorem kim_X11_write : Cond.instanceMethod yX11_write ∈ tG := tg_in 1018 (by decide +kernel) rfl
theorem ksel_X11_write : Cond.selects RX11 yX11_write yX11_write ∈ tG := tg_in 1019 (by decide +kernel) rfl
theorem kcode_X11_write : Cond.code yX11_write cX11_write 5 (some .int) ∈ tG := tg_in 1020 (by decide +kernel) rfl
theorem kcL_X11_63 : Cond.constantLong RX11 63 (8) ∈ tG := tg_in 1021 (by decide +kernel) rfl
theorem kml_X11_65 : Cond.methodLink RX11 65 yX11_in ∈ tG := tg_in 1022 (by decide +kernel) rfl
theorem kst_X11_in : Cond.static yX11_in ∈ tG := tg_in 1023 (by decide +kernel) rfl
theorem kcode_X11_in : Cond.code yX11_in cX11_in 6 (some .boolean) ∈ tG := tg_in 1024 (by decide +kernel) rfl
theorem kcL_X11_73 : Cond.constantLong RX11 73 (255) ∈ tG := tg_in 1025 (by decide +kernel) rfl
theorem kml_L_24 : Cond.methodLink RL 24 yX11_wipe ∈ tG := tg_in 1026 (by decide +kernel) rfl
theorem kim_X11_wipe : Cond.instanceMethod yX11_wipe ∈ tG := tg_in 1027 (by decide +kernel) rfl
theorem ksel_X11_wipe : Cond.selects RX11 yX11_wipe yX11_wipe ∈ tG := tg_in 1028 (by decide +kernel) rfl
theorem kcode_X11_wipe : Cond.code yX11_wipe cX11_wipe 2 (some .int) ∈ tG := tg_in 1029 (by decide +kernel) rfl
theorem kml_L_29 : Cond.methodLink RL 29 yX11_fault ∈ tG := tg_in 1030 (by decide +kernel) rfl
theorem kim_X11_fault : Cond.instanceMethod yX11_fault ∈ tG := tg_in 1031 (by decide +kernel) rfl
theorem ksel_X11_fault : Cond.selects RX11 yX11_fault yX11_fault ∈ tG := tg_in 1032 (by decide +kernel) rfl
theorem kcode_X11_fault : Cond.code yX11_fault cX11_fault 2 (some .int) ∈ tG := tg_in 1033 (by decide +kernel) rfl
theorem kml_X11_106 : Cond.methodLink RX11 106 yX11_readStory ∈ tG := tg_in 1034 (by decide +kernel) rfl
theorem kim_X11_readStory : Cond.instanceMethod yX11_readStory ∈ tG := tg_in 1036 (by decide +kernel) rfl
theorem kcode_X11_readStory : Cond.code yX11_readStory cX11_readStory 3 (some .int) ∈ tG := tg_in 1037 (by decide +kernel) rfl
theorem kml_X11_103 : Cond.methodLink RX11 103 yX11_readEntry ∈ tG := tg_in 1038 (by decide +kernel) rfl
theorem kim_X11_readEntry : Cond.instanceMethod yX11_readEntry ∈ tG := tg_in 1040 (by decide +kernel) rfl
theorem kcode_X11_readEntry : Cond.code yX11_readEntry cX11_readEntry 9 (some .int) ∈ tG := tg_in 1041 (by decide +kernel) rfl
theorem kml_X11_97 : Cond.methodLink RX11 97 yX11_figure ∈ tG := tg_in 1042 (by decide +kernel) rfl
theorem kim_X11_figure : Cond.instanceMethod yX11_figure ∈ tG := tg_in 1044 (by decide +kernel) rfl
theorem kcode_X11_figure : Cond.code yX11_figure cX11_figure 3 (some .int) ∈ tG := tg_in 1045 (by decide +kernel) rfl
theorem kcL_X11_81 : Cond.constantLong RX11 81 (9) ∈ tG := tg_in 1046 (by decide +kernel) rfl
theorem kml_X11_83 : Cond.methodLink RX11 83 yX11_fail ∈ tG := tg_in 1047 (by decide +kernel) rfl
theorem kim_X11_fail : Cond.instanceMethod yX11_fail ∈ tG := tg_in 1049 (by decide +kernel) rfl
theorem kcode_X11_fail : Cond.code yX11_fail cX11_fail 1 none ∈ tG := tg_in 1050 (by decide +kernel) rfl
theorem kml_X11_93 : Cond.methodLink RX11 93 yX11_isNext ∈ tG := tg_in 1051 (by decide +kernel) rfl
theorem kim_X11_isNext : Cond.instanceMethod yX11_isNext ∈ tG := tg_in 1053 (by decide +kernel) rfl
theorem kcode_X11_isNext : Cond.code yX11_isNext cX11_isNext 2 (some .boolean) ∈ tG := tg_in 1054 (by decide +kernel) rfl
theorem kml_X11_110 : Cond.methodLink RX11 110 yX11_readLaw ∈ tG := tg_in 1055 (by decide +kernel) rfl
theorem kim_X11_readLaw : Cond.instanceMethod yX11_readLaw ∈ tG := tg_in 1057 (by decide +kernel) rfl
theorem kcode_X11_readLaw : Cond.code yX11_readLaw cX11_readLaw 4 (some .int) ∈ tG := tg_in 1058 (by decide +kernel) rfl
theorem kml_X11_89 : Cond.methodLink RX11 89 yX11_placeOf ∈ tG := tg_in 1059 (by decide +kernel) rfl
theorem kst_X11_placeOf : Cond.static yX11_placeOf ∈ tG := tg_in 1060 (by decide +kernel) rfl
theorem kcode_X11_placeOf : Cond.code yX11_placeOf cX11_placeOf 1 (some .int) ∈ tG := tg_in 1061 (by decide +kernel) rfl
theorem kml_L_33 : Cond.methodLink RL 33 yX11_law ∈ tG := tg_in 1062 (by decide +kernel) rfl
theorem kim_X11_law : Cond.instanceMethod yX11_law ∈ tG := tg_in 1063 (by decide +kernel) rfl
theorem ksel_X11_law : Cond.selects RX11 yX11_law yX11_law ∈ tG := tg_in 1064 (by decide +kernel) rfl
theorem kcode_X11_law : Cond.code yX11_law cX11_law 2 (some .int) ∈ tG := tg_in 1065 (by decide +kernel) rfl
theorem kml_L_38 : Cond.methodLink RL 38 yX11_lawful ∈ tG := tg_in 1066 (by decide +kernel) rfl
theorem kim_X11_lawful : Cond.instanceMethod yX11_lawful ∈ tG := tg_in 1067 (by decide +kernel) rfl
theorem ksel_X11_lawful : Cond.selects RX11 yX11_lawful yX11_lawful ∈ tG := tg_in 1068 (by decide +kernel) rfl
theorem kcode_X11_lawful : Cond.code yX11_lawful cX11_lawful 2 (some .int) ∈ tG := tg_in 1069 (by decide +kernel) rfl
theorem kcL_X11_113 : Cond.constantLong RX11 113 (11) ∈ tG := tg_in 1070 (by decide +kernel) rfl
theorem kml_L_42 : Cond.methodLink RL 42 yX11_story ∈ tG := tg_in 1071 (by decide +kernel) rfl
theorem kim_X11_story : Cond.instanceMethod yX11_story ∈ tG := tg_in 1072 (by decide +kernel) rfl
theorem ksel_X11_story : Cond.selects RX11 yX11_story yX11_story ∈ tG := tg_in 1073 (by decide +kernel) rfl
theorem kcode_X11_story : Cond.code yX11_story cX11_story 5 (some .int) ∈ tG := tg_in 1074 (by decide +kernel) rfl
theorem kml_X11_117 : Cond.methodLink RX11 117 yX11_isStory ∈ tG := tg_in 1075 (by decide +kernel) rfl
theorem kst_X11_isStory : Cond.static yX11_isStory ∈ tG := tg_in 1076 (by decide +kernel) rfl
theorem kcode_X11_isStory : Cond.code yX11_isStory cX11_isStory 1 (some .boolean) ∈ tG := tg_in 1077 (by decide +kernel) rfl
theorem kcL_X11_115 : Cond.constantLong RX11 115 (3) ∈ tG := tg_in 1078 (by decide +kernel) rfl
theorem kml_L_47 : Cond.methodLink RL 47 yX11_lived ∈ tG := tg_in 1079 (by decide +kernel) rfl
theorem kim_X11_lived : Cond.instanceMethod yX11_lived ∈ tG := tg_in 1080 (by decide +kernel) rfl
theorem ksel_X11_lived : Cond.selects RX11 yX11_lived yX11_lived ∈ tG := tg_in 1081 (by decide +kernel) rfl
theorem kcode_X11_lived : Cond.code yX11_lived cX11_lived 7 (some .int) ∈ tG := tg_in 1082 (by decide +kernel) rfl
theorem kml_X11_124 : Cond.methodLink RX11 124 yX11_isEarth ∈ tG := tg_in 1083 (by decide +kernel) rfl
theorem kst_X11_isEarth : Cond.static yX11_isEarth ∈ tG := tg_in 1084 (by decide +kernel) rfl
theorem kcode_X11_isEarth : Cond.code yX11_isEarth cX11_isEarth 2 (some .boolean) ∈ tG := tg_in 1085 (by decide +kernel) rfl
theorem kcL_X11_120 : Cond.constantLong RX11 120 (63) ∈ tG := tg_in 1086 (by decide +kernel) rfl
theorem kcL_X11_122 : Cond.constantLong RX11 122 (99) ∈ tG := tg_in 1087 (by decide +kernel) rfl
theorem kml_X11_128 : Cond.methodLink RX11 128 yX11_roundOf ∈ tG := tg_in 1088 (by decide +kernel) rfl
theorem kim_X11_roundOf : Cond.instanceMethod yX11_roundOf ∈ tG := tg_in 1090 (by decide +kernel) rfl
theorem kcode_X11_roundOf : Cond.code yX11_roundOf cX11_roundOf 5 (some .int) ∈ tG := tg_in 1091 (by decide +kernel) rfl
theorem kml_X11_139 : Cond.methodLink RX11 139 yX11_ones ∈ tG := tg_in 1092 (by decide +kernel) rfl
theorem kst_X11_ones : Cond.static yX11_ones ∈ tG := tg_in 1093 (by decide +kernel) rfl
theorem kcode_X11_ones : Cond.code yX11_ones cX11_ones 3 (some .int) ∈ tG := tg_in 1094 (by decide +kernel) rfl
theorem kml_X11_142 : Cond.methodLink RX11 142 yX11_iceThen ∈ tG := tg_in 1095 (by decide +kernel) rfl
theorem kim_X11_iceThen : Cond.instanceMethod yX11_iceThen ∈ tG := tg_in 1097 (by decide +kernel) rfl
theorem kcode_X11_iceThen : Cond.code yX11_iceThen cX11_iceThen 7 (some .int) ∈ tG := tg_in 1098 (by decide +kernel) rfl
theorem kml_X11_135 : Cond.methodLink RX11 135 yX11_warmthOf ∈ tG := tg_in 1099 (by decide +kernel) rfl
theorem kim_X11_warmthOf : Cond.instanceMethod yX11_warmthOf ∈ tG := tg_in 1101 (by decide +kernel) rfl
theorem kcode_X11_warmthOf : Cond.code yX11_warmthOf cX11_warmthOf 4 (some .int) ∈ tG := tg_in 1102 (by decide +kernel) rfl
theorem kml_X11_131 : Cond.methodLink RX11 131 yX11_taken ∈ tG := tg_in 1103 (by decide +kernel) rfl
theorem kim_X11_taken : Cond.instanceMethod yX11_taken ∈ tG := tg_in 1105 (by decide +kernel) rfl
theorem kcode_X11_taken : Cond.code yX11_taken cX11_taken 4 (some .int) ∈ tG := tg_in 1106 (by decide +kernel) rfl
theorem kml_L_52 : Cond.methodLink RL 52 yX11_at ∈ tG := tg_in 1107 (by decide +kernel) rfl
theorem kim_X11_at : Cond.instanceMethod yX11_at ∈ tG := tg_in 1108 (by decide +kernel) rfl
theorem ksel_X11_at : Cond.selects RX11 yX11_at yX11_at ∈ tG := tg_in 1109 (by decide +kernel) rfl
theorem kcode_X11_at : Cond.code yX11_at cX11_at 3 (some .int) ∈ tG := tg_in 1110 (by decide +kernel) rfl
theorem kml_L_56 : Cond.methodLink RL 56 yX11_warmth ∈ tG := tg_in 1111 (by decide +kernel) rfl
theorem kim_X11_warmth : Cond.instanceMethod yX11_warmth ∈ tG := tg_in 1112 (by decide +kernel) rfl
theorem ksel_X11_warmth : Cond.selects RX11 yX11_warmth yX11_warmth ∈ tG := tg_in 1113 (by decide +kernel) rfl
theorem kcode_X11_warmth : Cond.code yX11_warmth cX11_warmth 4 (some .int) ∈ tG := tg_in 1114 (by decide +kernel) rfl
theorem kcL_X11_145 : Cond.constantLong RX11 145 (5) ∈ tG := tg_in 1115 (by decide +kernel) rfl
theorem kml_L_60 : Cond.methodLink RL 60 yX11_round ∈ tG := tg_in 1116 (by decide +kernel) rfl
theorem kim_X11_round : Cond.instanceMethod yX11_round ∈ tG := tg_in 1117 (by decide +kernel) rfl
theorem ksel_X11_round : Cond.selects RX11 yX11_round yX11_round ∈ tG := tg_in 1118 (by decide +kernel) rfl
theorem kcode_X11_round : Cond.code yX11_round cX11_round 3 (some .int) ∈ tG := tg_in 1119 (by decide +kernel) rfl
theorem kml_L_64 : Cond.methodLink RL 64 yX11_after ∈ tG := tg_in 1120 (by decide +kernel) rfl
theorem kim_X11_after : Cond.instanceMethod yX11_after ∈ tG := tg_in 1121 (by decide +kernel) rfl
theorem ksel_X11_after : Cond.selects RX11 yX11_after yX11_after ∈ tG := tg_in 1122 (by decide +kernel) rfl
theorem kcode_X11_after : Cond.code yX11_after cX11_after 6 (some .int) ∈ tG := tg_in 1123 (by decide +kernel) rfl
theorem kcL_X11_147 : Cond.constantLong RX11 147 (100000) ∈ tG := tg_in 1124 (by decide +kernel) rfl
theorem kml_L_68 : Cond.methodLink RL 68 yX11_run ∈ tG := tg_in 1125 (by decide +kernel) rfl
theorem kim_X11_run : Cond.instanceMethod yX11_run ∈ tG := tg_in 1126 (by decide +kernel) rfl
theorem ksel_X11_run : Cond.selects RX11 yX11_run yX11_run ∈ tG := tg_in 1127 (by decide +kernel) rfl
theorem kcode_X11_run : Cond.code yX11_run cX11_run 9 (some .int) ∈ tG := tg_in 1128 (by decide +kernel) rfl
theorem kcL_X11_158 : Cond.constantLong RX11 158 (4) ∈ tG := tg_in 1129 (by decide +kernel) rfl
theorem kml_X11_160 : Cond.methodLink RX11 160 yX11_layRun ∈ tG := tg_in 1130 (by decide +kernel) rfl
theorem kim_X11_layRun : Cond.instanceMethod yX11_layRun ∈ tG := tg_in 1132 (by decide +kernel) rfl
theorem kcode_X11_layRun : Cond.code yX11_layRun cX11_layRun 5 none ∈ tG := tg_in 1133 (by decide +kernel) rfl
theorem kml_L_73 : Cond.methodLink RL 73 yX11_till ∈ tG := tg_in 1134 (by decide +kernel) rfl
theorem kim_X11_till : Cond.instanceMethod yX11_till ∈ tG := tg_in 1135 (by decide +kernel) rfl
theorem ksel_X11_till : Cond.selects RX11 yX11_till yX11_till ∈ tG := tg_in 1136 (by decide +kernel) rfl
theorem kcode_X11_till : Cond.code yX11_till cX11_till 6 (some .int) ∈ tG := tg_in 1137 (by decide +kernel) rfl
theorem kml_L_77 : Cond.methodLink RL 77 yX11_rests ∈ tG := tg_in 1138 (by decide +kernel) rfl
theorem kim_X11_rests : Cond.instanceMethod yX11_rests ∈ tG := tg_in 1139 (by decide +kernel) rfl
theorem ksel_X11_rests : Cond.selects RX11 yX11_rests yX11_rests ∈ tG := tg_in 1140 (by decide +kernel) rfl
theorem kcode_X11_rests : Cond.code yX11_rests cX11_rests 4 (some .int) ∈ tG := tg_in 1141 (by decide +kernel) rfl
theorem kml_X11_164 : Cond.methodLink RX11 164 yX11_isRest ∈ tG := tg_in 1142 (by decide +kernel) rfl
theorem kim_X11_isRest : Cond.instanceMethod yX11_isRest ∈ tG := tg_in 1144 (by decide +kernel) rfl
theorem kcode_X11_isRest : Cond.code yX11_isRest cX11_isRest 3 (some .boolean) ∈ tG := tg_in 1145 (by decide +kernel) rfl
theorem kml_L_81 : Cond.methodLink RL 81 yX11_rest ∈ tG := tg_in 1146 (by decide +kernel) rfl
theorem kim_X11_rest : Cond.instanceMethod yX11_rest ∈ tG := tg_in 1147 (by decide +kernel) rfl
theorem ksel_X11_rest : Cond.selects RX11 yX11_rest yX11_rest ∈ tG := tg_in 1148 (by decide +kernel) rfl
theorem kcode_X11_rest : Cond.code yX11_rest cX11_rest 5 (some .int) ∈ tG := tg_in 1149 (by decide +kernel) rfl
theorem kml_L_85 : Cond.methodLink RL 85 yX11_settle ∈ tG := tg_in 1150 (by decide +kernel) rfl
theorem kim_X11_settle : Cond.instanceMethod yX11_settle ∈ tG := tg_in 1151 (by decide +kernel) rfl
theorem ksel_X11_settle : Cond.selects RX11 yX11_settle yX11_settle ∈ tG := tg_in 1152 (by decide +kernel) rfl
theorem kcode_X11_settle : Cond.code yX11_settle cX11_settle 3 (some .int) ∈ tG := tg_in 1153 (by decide +kernel) rfl
theorem kml_X11_167 : Cond.methodLink RX11 167 yX11_settleOf ∈ tG := tg_in 1154 (by decide +kernel) rfl
theorem kim_X11_settleOf : Cond.instanceMethod yX11_settleOf ∈ tG := tg_in 1156 (by decide +kernel) rfl
theorem kcode_X11_settleOf : Cond.code yX11_settleOf cX11_settleOf 5 (some .int) ∈ tG := tg_in 1157 (by decide +kernel) rfl
theorem kml_L_89 : Cond.methodLink RL 89 yX11_jumps ∈ tG := tg_in 1158 (by decide +kernel) rfl
theorem kim_X11_jumps : Cond.instanceMethod yX11_jumps ∈ tG := tg_in 1159 (by decide +kernel) rfl
theorem ksel_X11_jumps : Cond.selects RX11 yX11_jumps yX11_jumps ∈ tG := tg_in 1160 (by decide +kernel) rfl
theorem kcode_X11_jumps : Cond.code yX11_jumps cX11_jumps 4 (some .int) ∈ tG := tg_in 1161 (by decide +kernel) rfl
theorem kml_X11_176 : Cond.methodLink RX11 176 yX11_layCurve ∈ tG := tg_in 1162 (by decide +kernel) rfl
theorem kim_X11_layCurve : Cond.instanceMethod yX11_layCurve ∈ tG := tg_in 1164 (by decide +kernel) rfl
theorem kcode_X11_layCurve : Cond.code yX11_layCurve cX11_layCurve 9 none ∈ tG := tg_in 1165 (by decide +kernel) rfl
theorem kml_L_94 : Cond.methodLink RL 94 yX11_jump ∈ tG := tg_in 1166 (by decide +kernel) rfl
theorem kim_X11_jump : Cond.instanceMethod yX11_jump ∈ tG := tg_in 1167 (by decide +kernel) rfl
theorem ksel_X11_jump : Cond.selects RX11 yX11_jump yX11_jump ∈ tG := tg_in 1168 (by decide +kernel) rfl
theorem kcode_X11_jump : Cond.code yX11_jump cX11_jump 5 (some .int) ∈ tG := tg_in 1169 (by decide +kernel) rfl
theorem kml_L_98 : Cond.methodLink RL 98 yX11_curve ∈ tG := tg_in 1170 (by decide +kernel) rfl
theorem kim_X11_curve : Cond.instanceMethod yX11_curve ∈ tG := tg_in 1171 (by decide +kernel) rfl
theorem ksel_X11_curve : Cond.selects RX11 yX11_curve yX11_curve ∈ tG := tg_in 1172 (by decide +kernel) rfl
theorem kcode_X11_curve : Cond.code yX11_curve cX11_curve 4 (some .int) ∈ tG := tg_in 1173 (by decide +kernel) rfl
theorem kml_L_102 : Cond.methodLink RL 102 yX11_least ∈ tG := tg_in 1174 (by decide +kernel) rfl
theorem kim_X11_least : Cond.instanceMethod yX11_least ∈ tG := tg_in 1175 (by decide +kernel) rfl
theorem ksel_X11_least : Cond.selects RX11 yX11_least yX11_least ∈ tG := tg_in 1176 (by decide +kernel) rfl
theorem kcode_X11_least : Cond.code yX11_least cX11_least 3 (some .int) ∈ tG := tg_in 1177 (by decide +kernel) rfl
theorem kml_L_107 : Cond.methodLink RL 107 yX11_bed ∈ tG := tg_in 1178 (by decide +kernel) rfl
theorem kim_X11_bed : Cond.instanceMethod yX11_bed ∈ tG := tg_in 1179 (by decide +kernel) rfl
theorem ksel_X11_bed : Cond.selects RX11 yX11_bed yX11_bed ∈ tG := tg_in 1180 (by decide +kernel) rfl
theorem kcode_X11_bed : Cond.code yX11_bed cX11_bed 8 (some .int) ∈ tG := tg_in 1181 (by decide +kernel) rfl
theorem kcL_X11_183 : Cond.constantLong RX11 183 (15) ∈ tG := tg_in 1182 (by decide +kernel) rfl
theorem kcL_X11_185 : Cond.constantLong RX11 185 (10) ∈ tG := tg_in 1183 (by decide +kernel) rfl
theorem kml_L_111 : Cond.methodLink RL 111 yX11_forget ∈ tG := tg_in 1184 (by decide +kernel) rfl
theorem kim_X11_forget : Cond.instanceMethod yX11_forget ∈ tG := tg_in 1185 (by decide +kernel) rfl
theorem ksel_X11_forget : Cond.selects RX11 yX11_forget yX11_forget ∈ tG := tg_in 1186 (by decide +kernel) rfl
theorem kcode_X11_forget : Cond.code yX11_forget cX11_forget 1 (some .int) ∈ tG := tg_in 1187 (by decide +kernel) rfl
theorem kml_L_115 : Cond.methodLink RL 115 yX11_about ∈ tG := tg_in 1188 (by decide +kernel) rfl
theorem kim_X11_about : Cond.instanceMethod yX11_about ∈ tG := tg_in 1189 (by decide +kernel) rfl
theorem ksel_X11_about : Cond.selects RX11 yX11_about yX11_about ∈ tG := tg_in 1190 (by decide +kernel) rfl
theorem kcode_X11_about : Cond.code yX11_about cX11_about 3 (some .int) ∈ tG := tg_in 1191 (by decide +kernel) rfl
theorem kml_X11_187 : Cond.methodLink RX11 187 yX11_isBed ∈ tG := tg_in 1192 (by decide +kernel) rfl
theorem kim_X11_isBed : Cond.instanceMethod yX11_isBed ∈ tG := tg_in 1194 (by decide +kernel) rfl
theorem kcode_X11_isBed : Cond.code yX11_isBed cX11_isBed 2 (some .boolean) ∈ tG := tg_in 1195 (by decide +kernel) rfl
theorem kcL_X11_190 : Cond.constantLong RX11 190 (7) ∈ tG := tg_in 1196 (by decide +kernel) rfl
theorem kml_X11_192 : Cond.methodLink RX11 192 yX11_slide ∈ tG := tg_in 1197 (by decide +kernel) rfl
theorem kim_X11_slide : Cond.instanceMethod yX11_slide ∈ tG := tg_in 1199 (by decide +kernel) rfl
theorem kcode_X11_slide : Cond.code yX11_slide cX11_slide 3 (some .int) ∈ tG := tg_in 1200 (by decide +kernel) rfl
theorem kml_X11_195 : Cond.methodLink RX11 195 yX11_isIcy ∈ tG := tg_in 1201 (by decide +kernel) rfl
theorem kim_X11_isIcy : Cond.instanceMethod yX11_isIcy ∈ tG := tg_in 1203 (by decide +kernel) rfl
theorem kcode_X11_isIcy : Cond.code yX11_isIcy cX11_isIcy 2 (some .boolean) ∈ tG := tg_in 1204 (by decide +kernel) rfl
theorem kml_L_119 : Cond.methodLink RL 119 yX11_explains ∈ tG := tg_in 1205 (by decide +kernel) rfl
theorem kim_X11_explains : Cond.instanceMethod yX11_explains ∈ tG := tg_in 1206 (by decide +kernel) rfl
theorem ksel_X11_explains : Cond.selects RX11 yX11_explains yX11_explains ∈ tG := tg_in 1207 (by decide +kernel) rfl
theorem kcode_X11_explains : Cond.code yX11_explains cX11_explains 3 (some .int) ∈ tG := tg_in 1208 (by decide +kernel) rfl
theorem kml_X11_198 : Cond.methodLink RX11 198 yX11_rounds ∈ tG := tg_in 1209 (by decide +kernel) rfl
theorem kim_X11_rounds : Cond.instanceMethod yX11_rounds ∈ tG := tg_in 1211 (by decide +kernel) rfl
theorem kcode_X11_rounds : Cond.code yX11_rounds cX11_rounds 7 (some .int) ∈ tG := tg_in 1212 (by decide +kernel) rfl
theorem kml_L_124 : Cond.methodLink RL 124 yX11_chance ∈ tG := tg_in 1213 (by decide +kernel) rfl
theorem kim_X11_chance : Cond.instanceMethod yX11_chance ∈ tG := tg_in 1214 (by decide +kernel) rfl
theorem ksel_X11_chance : Cond.selects RX11 yX11_chance yX11_chance ∈ tG := tg_in 1215 (by decide +kernel) rfl
theorem kcode_X11_chance : Cond.code yX11_chance cX11_chance 4 (some .long) ∈ tG := tg_in 1216 (by decide +kernel) rfl
theorem kml_X11_201 : Cond.methodLink RX11 201 yX11_chanceOf ∈ tG := tg_in 1217 (by decide +kernel) rfl
theorem kim_X11_chanceOf : Cond.instanceMethod yX11_chanceOf ∈ tG := tg_in 1219 (by decide +kernel) rfl
theorem kcode_X11_chanceOf : Cond.code yX11_chanceOf cX11_chanceOf 6 (some .int) ∈ tG := tg_in 1220 (by decide +kernel) rfl
theorem kcL_X11_204 : Cond.constantLong RX11 204 (100) ∈ tG := tg_in 1221 (by decide +kernel) rfl
theorem kml_X11_206 : Cond.methodLink RX11 206 yX11_told ∈ tG := tg_in 1222 (by decide +kernel) rfl
theorem kst_X11_told : Cond.static yX11_told ∈ tG := tg_in 1223 (by decide +kernel) rfl
theorem kcode_X11_told : Cond.code yX11_told cX11_told 11 (some .long) ∈ tG := tg_in 1224 (by decide +kernel) rfl
theorem kcL_X11_210 : Cond.constantLong RX11 210 (-1) ∈ tG := tg_in 1225 (by decide +kernel) rfl
theorem kml_L_128 : Cond.methodLink RL 128 yX11_weight ∈ tG := tg_in 1226 (by decide +kernel) rfl
theorem kim_X11_weight : Cond.instanceMethod yX11_weight ∈ tG := tg_in 1227 (by decide +kernel) rfl
theorem ksel_X11_weight : Cond.selects RX11 yX11_weight yX11_weight ∈ tG := tg_in 1228 (by decide +kernel) rfl
theorem kcode_X11_weight : Cond.code yX11_weight cX11_weight 4 (some .int) ∈ tG := tg_in 1229 (by decide +kernel) rfl
theorem kml_L_133 : Cond.methodLink RL 133 yX11_odds ∈ tG := tg_in 1230 (by decide +kernel) rfl
theorem kim_X11_odds : Cond.instanceMethod yX11_odds ∈ tG := tg_in 1231 (by decide +kernel) rfl
theorem ksel_X11_odds : Cond.selects RX11 yX11_odds yX11_odds ∈ tG := tg_in 1232 (by decide +kernel) rfl
theorem kcode_X11_odds : Cond.code yX11_odds cX11_odds 3 (some .long) ∈ tG := tg_in 1233 (by decide +kernel) rfl
theorem kml_X11_216 : Cond.methodLink RX11 216 yX11_layLots ∈ tG := tg_in 1234 (by decide +kernel) rfl
theorem kim_X11_layLots : Cond.instanceMethod yX11_layLots ∈ tG := tg_in 1236 (by decide +kernel) rfl
theorem kcode_X11_layLots : Cond.code yX11_layLots cX11_layLots 4 none ∈ tG := tg_in 1237 (by decide +kernel) rfl
theorem kcL_X11_220 : Cond.constantLong RX11 220 (-3) ∈ tG := tg_in 1238 (by decide +kernel) rfl
theorem kml_L_137 : Cond.methodLink RL 137 yX11_best ∈ tG := tg_in 1239 (by decide +kernel) rfl
theorem kim_X11_best : Cond.instanceMethod yX11_best ∈ tG := tg_in 1240 (by decide +kernel) rfl
theorem ksel_X11_best : Cond.selects RX11 yX11_best yX11_best ∈ tG := tg_in 1241 (by decide +kernel) rfl
theorem kcode_X11_best : Cond.code yX11_best cX11_best 1 (some .int) ∈ tG := tg_in 1242 (by decide +kernel) rfl
theorem kml_X11_222 : Cond.methodLink RX11 222 yX11_bestOf ∈ tG := tg_in 1243 (by decide +kernel) rfl
theorem kim_X11_bestOf : Cond.instanceMethod yX11_bestOf ∈ tG := tg_in 1245 (by decide +kernel) rfl
theorem kcode_X11_bestOf : Cond.code yX11_bestOf cX11_bestOf 3 (some .int) ∈ tG := tg_in 1246 (by decide +kernel) rfl
theorem kml_L_141 : Cond.methodLink RL 141 yX11_mover ∈ tG := tg_in 1247 (by decide +kernel) rfl
theorem kim_X11_mover : Cond.instanceMethod yX11_mover ∈ tG := tg_in 1248 (by decide +kernel) rfl
theorem ksel_X11_mover : Cond.selects RX11 yX11_mover yX11_mover ∈ tG := tg_in 1249 (by decide +kernel) rfl
theorem kcode_X11_mover : Cond.code yX11_mover cX11_mover 7 (some .int) ∈ tG := tg_in 1250 (by decide +kernel) rfl
theorem kml_X11_225 : Cond.methodLink RX11 225 yX11_millionths ∈ tG := tg_in 1251 (by decide +kernel) rfl
theorem kim_X11_millionths : Cond.instanceMethod yX11_millionths ∈ tG := tg_in 1253 (by decide +kernel) rfl
theorem kcode_X11_millionths : Cond.code yX11_millionths cX11_millionths 6 (some .int) ∈ tG := tg_in 1254 (by decide +kernel) rfl
theorem kml_L_145 : Cond.methodLink RL 145 yX11_next ∈ tG := tg_in 1255 (by decide +kernel) rfl
theorem kim_X11_next : Cond.instanceMethod yX11_next ∈ tG := tg_in 1256 (by decide +kernel) rfl
theorem ksel_X11_next : Cond.selects RX11 yX11_next yX11_next ∈ tG := tg_in 1257 (by decide +kernel) rfl
theorem kcode_X11_next : Cond.code yX11_next cX11_next 9 (some .int) ∈ tG := tg_in 1258 (by decide +kernel) rfl
theorem kcL_X11_228 : Cond.constantLong RX11 228 (2) ∈ tG := tg_in 1259 (by decide +kernel) rfl
theorem kml_L_149 : Cond.methodLink RL 149 yX11_once ∈ tG := tg_in 1260 (by decide +kernel) rfl
theorem kim_X11_once : Cond.instanceMethod yX11_once ∈ tG := tg_in 1261 (by decide +kernel) rfl
theorem ksel_X11_once : Cond.selects RX11 yX11_once yX11_once ∈ tG := tg_in 1262 (by decide +kernel) rfl
theorem kcode_X11_once : Cond.code yX11_once cX11_once 5 (some .int) ∈ tG := tg_in 1263 (by decide +kernel) rfl
theorem kml_L_153 : Cond.methodLink RL 153 yX11_times ∈ tG := tg_in 1264 (by decide +kernel) rfl
theorem kim_X11_times : Cond.instanceMethod yX11_times ∈ tG := tg_in 1265 (by decide +kernel) rfl
theorem ksel_X11_times : Cond.selects RX11 yX11_times yX11_times ∈ tG := tg_in 1266 (by decide +kernel) rfl
theorem kcode_X11_times : Cond.code yX11_times cX11_times 3 (some .int) ∈ tG := tg_in 1267 (by decide +kernel) rfl
theorem kml_X11_230 : Cond.methodLink RX11 230 yX11_firstEnd ∈ tG := tg_in 1268 (by decide +kernel) rfl
theorem kim_X11_firstEnd : Cond.instanceMethod yX11_firstEnd ∈ tG := tg_in 1270 (by decide +kernel) rfl
theorem kcode_X11_firstEnd : Cond.code yX11_firstEnd cX11_firstEnd 5 (some .int) ∈ tG := tg_in 1271 (by decide +kernel) rfl
theorem kml_L_157 : Cond.methodLink RL 157 yX11_time ∈ tG := tg_in 1272 (by decide +kernel) rfl
theorem kim_X11_time : Cond.instanceMethod yX11_time ∈ tG := tg_in 1273 (by decide +kernel) rfl
theorem ksel_X11_time : Cond.selects RX11 yX11_time yX11_time ∈ tG := tg_in 1274 (by decide +kernel) rfl
theorem kcode_X11_time : Cond.code yX11_time cX11_time 4 (some .int) ∈ tG := tg_in 1275 (by decide +kernel) rfl
theorem kml_L_161 : Cond.methodLink RL 161 yX11_order ∈ tG := tg_in 1276 (by decide +kernel) rfl
theorem kim_X11_order : Cond.instanceMethod yX11_order ∈ tG := tg_in 1277 (by decide +kernel) rfl
theorem ksel_X11_order : Cond.selects RX11 yX11_order yX11_order ∈ tG := tg_in 1278 (by decide +kernel) rfl
theorem kcode_X11_order : Cond.code yX11_order cX11_order 2 (some .int) ∈ tG := tg_in 1279 (by decide +kernel) rfl
theorem kml_X11_233 : Cond.methodLink RX11 233 yX11_layOrder ∈ tG := tg_in 1280 (by decide +kernel) rfl
theorem kim_X11_layOrder : Cond.instanceMethod yX11_layOrder ∈ tG := tg_in 1282 (by decide +kernel) rfl
theorem kcode_X11_layOrder : Cond.code yX11_layOrder cX11_layOrder 6 (some .boolean) ∈ tG := tg_in 1283 (by decide +kernel) rfl
theorem kml_L_165 : Cond.methodLink RL 165 yX11_gap ∈ tG := tg_in 1284 (by decide +kernel) rfl
theorem kim_X11_gap : Cond.instanceMethod yX11_gap ∈ tG := tg_in 1285 (by decide +kernel) rfl
theorem ksel_X11_gap : Cond.selects RX11 yX11_gap yX11_gap ∈ tG := tg_in 1286 (by decide +kernel) rfl
theorem kcode_X11_gap : Cond.code yX11_gap cX11_gap 3 (some .int) ∈ tG := tg_in 1287 (by decide +kernel) rfl
theorem kml_L_169 : Cond.methodLink RL 169 yX11_pole ∈ tG := tg_in 1288 (by decide +kernel) rfl
theorem kim_X11_pole : Cond.instanceMethod yX11_pole ∈ tG := tg_in 1289 (by decide +kernel) rfl
theorem ksel_X11_pole : Cond.selects RX11 yX11_pole yX11_pole ∈ tG := tg_in 1290 (by decide +kernel) rfl
theorem kcode_X11_pole : Cond.code yX11_pole cX11_pole 3 (some .int) ∈ tG := tg_in 1291 (by decide +kernel) rfl
theorem kml_X11_236 : Cond.methodLink RX11 236 yX11_poleOf ∈ tG := tg_in 1292 (by decide +kernel) rfl
theorem kim_X11_poleOf : Cond.instanceMethod yX11_poleOf ∈ tG := tg_in 1294 (by decide +kernel) rfl
theorem kcode_X11_poleOf : Cond.code yX11_poleOf cX11_poleOf 6 (some .int) ∈ tG := tg_in 1295 (by decide +kernel) rfl
theorem kml_L_173 : Cond.methodLink RL 173 yX11_elsewhere ∈ tG := tg_in 1296 (by decide +kernel) rfl
theorem kim_X11_elsewhere : Cond.instanceMethod yX11_elsewhere ∈ tG := tg_in 1297 (by decide +kernel) rfl
theorem ksel_X11_elsewhere : Cond.selects RX11 yX11_elsewhere yX11_elsewhere ∈ tG := tg_in 1298 (by decide +kernel) rfl
theorem kcode_X11_elsewhere : Cond.code yX11_elsewhere cX11_elsewhere 4 (some .int) ∈ tG := tg_in 1299 (by decide +kernel) rfl
theorem kml_L_177 : Cond.methodLink RL 177 yX11_keep ∈ tG := tg_in 1300 (by decide +kernel) rfl
theorem kim_X11_keep : Cond.instanceMethod yX11_keep ∈ tG := tg_in 1301 (by decide +kernel) rfl
theorem ksel_X11_keep : Cond.selects RX11 yX11_keep yX11_keep ∈ tG := tg_in 1302 (by decide +kernel) rfl
theorem kcode_X11_keep : Cond.code yX11_keep cX11_keep 3 (some .int) ∈ tG := tg_in 1303 (by decide +kernel) rfl
theorem kml_L_181 : Cond.methodLink RL 181 yX11_again ∈ tG := tg_in 1304 (by decide +kernel) rfl
theorem kim_X11_again : Cond.instanceMethod yX11_again ∈ tG := tg_in 1305 (by decide +kernel) rfl
theorem ksel_X11_again : Cond.selects RX11 yX11_again yX11_again ∈ tG := tg_in 1306 (by decide +kernel) rfl
theorem kcode_X11_again : Cond.code yX11_again cX11_again 3 (some .int) ∈ tG := tg_in 1307 (by decide +kernel) rfl
theorem kml_L_185 : Cond.methodLink RL 185 yX11_count ∈ tG := tg_in 1308 (by decide +kernel) rfl
theorem kim_X11_count : Cond.instanceMethod yX11_count ∈ tG := tg_in 1309 (by decide +kernel) rfl
theorem ksel_X11_count : Cond.selects RX11 yX11_count yX11_count ∈ tG := tg_in 1310 (by decide +kernel) rfl
theorem kcode_X11_count : Cond.code yX11_count cX11_count 5 (some .int) ∈ tG := tg_in 1311 (by decide +kernel) rfl
theorem kcL_L_13 : Cond.constantLong RL 13 (4294967295) ∈ tG := tg_in 1312 (by decide +kernel) rfl
theorem kfl_J0_15 : Cond.fieldLink RJ0 15 "java/lang/String" "coder" "B" ∈ tG := tg_in 1313 (by decide +kernel) rfl
theorem kfl_J0_9 : Cond.fieldLink RJ0 9 "java/lang/String" "value" "[B" ∈ tG := tg_in 1314 (by decide +kernel) rfl
/-- the nest words -/
def nW : List Cond := [Cond.methodLinkNest RX10 9 yX9_init RX10, Cond.methodLinkNest RX10 18 yX6_init RX10, Cond.methodLinkNest RX10 25 yX8_init RX10, Cond.methodLinkNest RX10 32 yX3_init RX10, Cond.methodLinkNest RX10 39 yX7_init RX10, Cond.methodLinkNest RX10 46 yX1_init RX10, Cond.methodLinkNest RX10 53 yX0_init RX10, Cond.methodLinkNest RX10 60 yX4_init RX10, Cond.methodLinkNest RX10 67 yX5_init RX10, Cond.methodLinkNest RX10 74 yX2_init RX10, Cond.methodLinkNest RX8 71 yX10_figure RX10, Cond.methodLinkNest RX8 75 yX10_isRound RX10, Cond.methodLinkNest RX8 78 yX10_isBand RX10, Cond.methodLinkNest RX6 79 yX10_figure RX10, Cond.methodLinkNest RX6 85 yX10_within RX10, Cond.methodLinkNest RX6 82 yX10_isBand RX10, Cond.methodLinkNest RX0 15 yX10_isStory RX10, Cond.methodLinkNest RX0 19 yX10_isRound RX10, Cond.methodLinkNest RX3 15 yX10_hasIce RX10, Cond.methodLinkNest RX7 36 yX10_within RX10, Cond.methodLinkNest RX1 42 yX10_within RX10, Cond.methodLinkNest RX4 18 yX10_within RX10, Cond.methodLinkNest RX5 35 yX10_hasIce RX10, Cond.methodLinkNest RX2 44 yX10_within RX10]
theorem kmln_X10_9 : Cond.methodLinkNest RX10 9 yX9_init RX10 ∈ nW := List.mem_of_getElem? (i := 0) rfl
theorem kmln_X10_18 : Cond.methodLinkNest RX10 18 yX6_init RX10 ∈ nW := List.mem_of_getElem? (i := 1) rfl
theorem kmln_X10_25 : Cond.methodLinkNest RX10 25 yX8_init RX10 ∈ nW := List.mem_of_getElem? (i := 2) rfl
theorem kmln_X10_32 : Cond.methodLinkNest RX10 32 yX3_init RX10 ∈ nW := List.mem_of_getElem? (i := 3) rfl
theorem kmln_X10_39 : Cond.methodLinkNest RX10 39 yX7_init RX10 ∈ nW := List.mem_of_getElem? (i := 4) rfl
theorem kmln_X10_46 : Cond.methodLinkNest RX10 46 yX1_init RX10 ∈ nW := List.mem_of_getElem? (i := 5) rfl
theorem kmln_X10_53 : Cond.methodLinkNest RX10 53 yX0_init RX10 ∈ nW := List.mem_of_getElem? (i := 6) rfl
theorem kmln_X10_60 : Cond.methodLinkNest RX10 60 yX4_init RX10 ∈ nW := List.mem_of_getElem? (i := 7) rfl
theorem kmln_X10_67 : Cond.methodLinkNest RX10 67 yX5_init RX10 ∈ nW := List.mem_of_getElem? (i := 8) rfl
theorem kmln_X10_74 : Cond.methodLinkNest RX10 74 yX2_init RX10 ∈ nW := List.mem_of_getElem? (i := 9) rfl
theorem kmln_X8_71 : Cond.methodLinkNest RX8 71 yX10_figure RX10 ∈ nW := List.mem_of_getElem? (i := 10) rfl
theorem kmln_X8_75 : Cond.methodLinkNest RX8 75 yX10_isRound RX10 ∈ nW := List.mem_of_getElem? (i := 11) rfl
theorem kmln_X8_78 : Cond.methodLinkNest RX8 78 yX10_isBand RX10 ∈ nW := List.mem_of_getElem? (i := 12) rfl
theorem kmln_X6_79 : Cond.methodLinkNest RX6 79 yX10_figure RX10 ∈ nW := List.mem_of_getElem? (i := 13) rfl
theorem kmln_X6_85 : Cond.methodLinkNest RX6 85 yX10_within RX10 ∈ nW := List.mem_of_getElem? (i := 14) rfl
theorem kmln_X6_82 : Cond.methodLinkNest RX6 82 yX10_isBand RX10 ∈ nW := List.mem_of_getElem? (i := 15) rfl
theorem kmln_X0_15 : Cond.methodLinkNest RX0 15 yX10_isStory RX10 ∈ nW := List.mem_of_getElem? (i := 16) rfl
theorem kmln_X0_19 : Cond.methodLinkNest RX0 19 yX10_isRound RX10 ∈ nW := List.mem_of_getElem? (i := 17) rfl
theorem kmln_X3_15 : Cond.methodLinkNest RX3 15 yX10_hasIce RX10 ∈ nW := List.mem_of_getElem? (i := 18) rfl
theorem kmln_X7_36 : Cond.methodLinkNest RX7 36 yX10_within RX10 ∈ nW := List.mem_of_getElem? (i := 19) rfl
theorem kmln_X1_42 : Cond.methodLinkNest RX1 42 yX10_within RX10 ∈ nW := List.mem_of_getElem? (i := 20) rfl
theorem kmln_X4_18 : Cond.methodLinkNest RX4 18 yX10_within RX10 ∈ nW := List.mem_of_getElem? (i := 21) rfl
theorem kmln_X5_35 : Cond.methodLinkNest RX5 35 yX10_hasIce RX10 ∈ nW := List.mem_of_getElem? (i := 22) rfl
theorem kmln_X2_44 : Cond.methodLinkNest RX2 44 yX10_within RX10 ∈ nW := List.mem_of_getElem? (i := 23) rfl
theorem twX0 : ∀ w ∈ u_ws RX0 TX0 1, w ∈ tG := fun w h => List.mem_filter.mpr ⟨(by decide +kernel : ∀ w ∈ u_ws RX0 TX0 1, w ∈ lw_tbl) w h, (by decide +kernel : ∀ w ∈ u_ws RX0 TX0 1, goodWord w = true) w h⟩
theorem twX1 : ∀ w ∈ u_ws RX1 TX1 3, w ∈ tG := fun w h => List.mem_filter.mpr ⟨(by decide +kernel : ∀ w ∈ u_ws RX1 TX1 3, w ∈ lw_tbl) w h, (by decide +kernel : ∀ w ∈ u_ws RX1 TX1 3, goodWord w = true) w h⟩
theorem twX2 : ∀ w ∈ u_ws RX2 TX2 2, w ∈ tG := fun w h => List.mem_filter.mpr ⟨(by decide +kernel : ∀ w ∈ u_ws RX2 TX2 2, w ∈ lw_tbl) w h, (by decide +kernel : ∀ w ∈ u_ws RX2 TX2 2, goodWord w = true) w h⟩
theorem twX3 : ∀ w ∈ u_ws RX3 TX3 1, w ∈ tG := fun w h => List.mem_filter.mpr ⟨(by decide +kernel : ∀ w ∈ u_ws RX3 TX3 1, w ∈ lw_tbl) w h, (by decide +kernel : ∀ w ∈ u_ws RX3 TX3 1, goodWord w = true) w h⟩
theorem twX4 : ∀ w ∈ u_ws RX4 TX4 4, w ∈ tG := fun w h => List.mem_filter.mpr ⟨(by decide +kernel : ∀ w ∈ u_ws RX4 TX4 4, w ∈ lw_tbl) w h, (by decide +kernel : ∀ w ∈ u_ws RX4 TX4 4, goodWord w = true) w h⟩
theorem twX5 : ∀ w ∈ u_ws RX5 TX5 3, w ∈ tG := fun w h => List.mem_filter.mpr ⟨(by decide +kernel : ∀ w ∈ u_ws RX5 TX5 3, w ∈ lw_tbl) w h, (by decide +kernel : ∀ w ∈ u_ws RX5 TX5 3, goodWord w = true) w h⟩
theorem twX6 : ∀ w ∈ u_ws RX6 TX6 5, w ∈ tG := fun w h => List.mem_filter.mpr ⟨(by decide +kernel : ∀ w ∈ u_ws RX6 TX6 5, w ∈ lw_tbl) w h, (by decide +kernel : ∀ w ∈ u_ws RX6 TX6 5, goodWord w = true) w h⟩
theorem twX7 : ∀ w ∈ u_ws RX7 TX7 4, w ∈ tG := fun w h => List.mem_filter.mpr ⟨(by decide +kernel : ∀ w ∈ u_ws RX7 TX7 4, w ∈ lw_tbl) w h, (by decide +kernel : ∀ w ∈ u_ws RX7 TX7 4, goodWord w = true) w h⟩
theorem twX8 : ∀ w ∈ u_ws RX8 TX8 7, w ∈ tG := fun w h => List.mem_filter.mpr ⟨(by decide +kernel : ∀ w ∈ u_ws RX8 TX8 7, w ∈ lw_tbl) w h, (by decide +kernel : ∀ w ∈ u_ws RX8 TX8 7, goodWord w = true) w h⟩
theorem twX9 : ∀ w ∈ u_ws RX9 TX9 2, w ∈ tG := fun w h => List.mem_filter.mpr ⟨(by decide +kernel : ∀ w ∈ u_ws RX9 TX9 2, w ∈ lw_tbl) w h, (by decide +kernel : ∀ w ∈ u_ws RX9 TX9 2, goodWord w = true) w h⟩
theorem twX10 : ∀ w ∈ u_ws RX10 TX10 11, w ∈ tG := fun w h => List.mem_filter.mpr ⟨(by decide +kernel : ∀ w ∈ u_ws RX10 TX10 11, w ∈ lw_tbl) w h, (by decide +kernel : ∀ w ∈ u_ws RX10 TX10 11, goodWord w = true) w h⟩
theorem twX11 : ∀ w ∈ u_ws RX11 TX11 29, w ∈ tG := fun w h => List.mem_filter.mpr ⟨(by decide +kernel : ∀ w ∈ u_ws RX11 TX11 29, w ∈ lw_tbl) w h, (by decide +kernel : ∀ w ∈ u_ws RX11 TX11 29, goodWord w = true) w h⟩
end
section
/-! ===== the frame of all contracts: worlds' environment, contracts that only read (RO), contracts that write (RW), calls, loops ===== -/
def nst_is : Cond → Bool
  | .methodLinkNest .. => true
  | _ => false
theorem nW_is : nW.all nst_is = true := by decide +kernel
def Nst (U : State) : Prop := ∀ w ∈ nW, va_Nw w U
theorem Nst.warm {s U : State} (hW : s.WarmedH U.vm) (h : Nst s) : Nst U := by
  intro w hw
  have h1 := List.all_eq_true.mp nW_is w hw
  have h2 := h w hw
  cases w <;> first | exact va_Nw.warmM hW h2 | (simp [nst_is] at h1; done)
theorem Nst.same {u U : State} (hv : u.vm = U.vm) (h : Nst u) : Nst U := by
  intro w hw
  have h1 := List.all_eq_true.mp nW_is w hw
  have h2 := h w hw
  cases w <;> first | exact va_Nw.same rfl hv h2 | (simp [nst_is] at h1; done)
/-- D; the classes of int, long, boolean and Ground rows; where the made cells begin; the text constant and its bytes -/
abbrev TG : Type := va_G × (ClassId × ClassId × ClassId × ClassId) × (Nat × Nat × Nat)
abbrev tyG (G : TG) : List (ClassId × FieldType) := [(G.2.1.1, .int), (G.2.1.2.1, .long), (G.2.1.2.2.1, .boolean), (G.2.1.2.2.2, .object RX4)]
def SX (G : TG) (U : State) (H : Heap) : Prop := vk_S 1 [6] [[82, 71, 70, 77, 86, 87]] (fun _ => G.2.2.2.1) (fun _ => G.2.2.2.2) (fun q => G.2.2.1 ≤ q) U H ∧ va_Z "java/lang/String" "COMPACT_STRINGS" "Z" (.int 1) (fun q => G.2.2.1 ≤ q) U H ∧ vk_R RX6 68 "RGFMVW" G.2.2.2.1 U
def Kt (G : TG) (U : State) (H : Heap) : Prop := va_K G.1 vwCl (tyG G) U ∧ Nst U ∧ SX G U H
theorem Kt.vm {G : TG} {s U : State} {H : Heap} (hW : s.WarmedH U.vm) (h : Kt G s H) : Kt G U H :=
  ⟨va_K.moved hW.alike h.1, h.2.1.warm hW, vk_S.moved hW.alike h.2.2.1, va_Z.moved hW.alike h.2.2.2.1, vk_R.warm hW h.2.2.2.2⟩
theorem Kt.call {G : TG} {U : State} {H : Heap} {g : JFrame} {mk : MethodId} {a : Array Value} (h : Kt G U H) : Kt G (U.calling g mk a) H :=
  ⟨va_K.moved (u := U) (U := U.calling g mk a) (Vm.Alike.refl U.vm) h.1, Nst.same (u := U) (U := U.calling g mk a) rfl h.2.1, vk_S.moved (u := U) (U := U.calling g mk a) (Vm.Alike.refl U.vm) h.2.2.1, va_Z.moved (u := U) (U := U.calling g mk a) (Vm.Alike.refl U.vm) h.2.2.2.1, vk_R.same (u := U) (U := U.calling g mk a) rfl h.2.2.2.2⟩
theorem Kt.heap {G : TG} {U : State} {H H1 : Heap} (h : Kt G U H) (hq : ∀ a : Nat, a < H.size → ¬ G.2.2.1 ≤ a → H1[a]? = H[a]?) : Kt G U H1 :=
  ⟨h.1, h.2.1, vk_S.kept h.2.2.1 hq, va_Z.kept h.2.2.2.1 hq, h.2.2.2.2⟩
theorem Kt.at {G : TG} {A : Nat → Prop} {U : State} {H0 H : Heap} {locs : List Loc} (h : Kt G U H0) (hS : va_S A H0 H locs) (hz : ∀ q, A q → G.2.2.1 ≤ q) : Kt G U H :=
  h.heap (fun a h1 h2 => hS.2.1 a h1 (fun h3 => h2 (hz a h3)))
/-- what a method's body has at its entry -/
def Cx (p : Program) (s : State) (m : MethodId) (args : Array Value) (meth : Method) (c : Code) (cc : ByteArray) (n : Nat) (rt : Option FieldType) (own : String) : Prop :=
  p.tables.exec = Jvm.exec ∧ c.code = cc ∧ c.maxLocals = n ∧ meth.sig.returnType = rt ∧ meth.locks = false ∧ s.vm.findClass own = some m.cls ∧ ∀ w ∈ tG, w.before args s = true
def roP (G : TG) (av : List Value) (ws : va_W) : Array Value → State → Prop := fun a U => a = av.toArray ∧ va_P G.1 vwCl ws U.heap ∧ Kt G U U.heap
def roQ (v : Option Value) : Array Value → State → Outcome → State → Prop := fun _ st o t => o = .returned v ∧ t.heap = st.heap
/-- a contract that only reads -/
def RO (l : Launch) (y : MethodName) (c : ByteArray) (n : Nat) (rt : Option FieldType) (rm : Room) (G : TG) (av : List Value) (ws : va_W) (v : Option Value) : Prop :=
  Met l y (Cond.code y c n rt :: tG) rm (roP G av ws) (roQ v) 0 0 (fun _ => False)
theorem RO.mk {l : Launch} {y : MethodName} {c : ByteArray} {n : Nat} {rt : Option FieldType} {rm : Room} {G : TG} {av : List Value} {ws : va_W} {v : Option Value} (hy : plainName y.cls = true) (hlen : (lg_sl av).length ≤ n)
    (h : ∀ (p : Program) (e : Env) (s : State) (m : MethodId) (below : List Frame) (meth : Method) (cd : Code) (ls : Array Slot), Cx p s m av.toArray meth cd c n rt y.cls → va_P G.1 vwCl ws s.heap → Kt G s s.heap → lv_has ls n (lv_args 0 av) →
      W p l e rm s m av.toArray below meth cd s.heap [] 0 0 (MQ below (roQ v) av.toArray s 0 0 (fun _ => False)) (F0 m 0 ls [])) : RO l y c n rt rm G av ws v := by
  refine Met.ofW (cc := c) (maxL := n) (ret := rt) hy rfl ?_
  intro p e s m args below meth cd s₁ B hml hv
  obtain ⟨rfl, hP, hK⟩ := hv
  have hl := lv_entry av (n := n) hlen
  rw [lg_entry_eq]
  exact h p e s m below meth cd _ ⟨B.exec, B.bytes, hml, B.returns, B.notSynchronized, findClass_of_methodNamed B.named, fun w hw => atoms_spec (ws := Cond.code y c n rt :: tG) B.pre w (List.mem_cons_of_mem _ hw)⟩ hP hK hl
def rwP (G : TG) (av : List Value) (ws : va_W) (sz : Nat) : Array Value → State → Prop := fun a U => a = av.toArray ∧ U.heap.size = sz ∧ va_P G.1 vwCl ws U.heap ∧ Kt G U U.heap ∧ va_D (fun q => G.2.2.1 ≤ q) ws
def rwQ (G : TG) (v : Option Value) (ws' : va_W) (A : Nat → Prop) : Array Value → State → Outcome → State → Prop := fun _ st o t => o = .returned v ∧ va_P G.1 vwCl ws' t.heap ∧ va_D A ws' ∧ va_F A st t
/-- a contract that writes, and makes nothing -/
def RW (l : Launch) (y : MethodName) (c : ByteArray) (n : Nat) (rt : Option FieldType) (rm : Room) (G : TG) (av : List Value) (ws : va_W) (v : Option Value) (ws' : va_W) : Prop :=
  ∀ sz : Nat, G.2.2.1 ≤ sz → Met l y (Cond.code y c n rt :: tG) rm (rwP G av ws sz) (rwQ G v ws' (va_A ws sz)) 0 0 (va_A ws sz)
theorem RW.mk {l : Launch} {y : MethodName} {c : ByteArray} {n : Nat} {rt : Option FieldType} {rm : Room} {G : TG} {av : List Value} {ws ws' : va_W} {v : Option Value} (hy : plainName y.cls = true) (hlen : (lg_sl av).length ≤ n)
    (h : ∀ (p : Program) (e : Env) (s : State) (m : MethodId) (below : List Frame) (meth : Method) (cd : Code) (ls : Array Slot) (A : Nat → Prop), Cx p s m av.toArray meth cd c n rt y.cls → va_P G.1 vwCl ws s.heap → va_D A ws → (∀ q, s.heap.size ≤ q → A q) → (∀ q, A q → G.2.2.1 ≤ q) → Kt G s s.heap → lv_has ls n (lv_args 0 av) → va_S A s.heap s.heap [] →
      W p l e rm s m av.toArray below meth cd s.heap [] 0 0 (MQ below (rwQ G v ws' A) av.toArray s 0 0 A) (F0 m 0 ls [])) : RW l y c n rt rm G av ws v ws' := by
  intro sz hz
  refine Met.ofW (cc := c) (maxL := n) (ret := rt) hy rfl ?_
  intro p e s m args below meth cd s₁ B hml hv
  obtain ⟨rfl, hsz, hP, hK, hD⟩ := hv
  subst hsz
  have hl := lv_entry av (n := n) hlen
  rw [lg_entry_eq]
  refine h p e s m below meth cd _ (va_A ws s.heap.size) ⟨B.exec, B.bytes, hml, B.returns, B.notSynchronized, findClass_of_methodNamed B.named, fun w hw => atoms_spec (ws := Cond.code y c n rt :: tG) B.pre w (List.mem_cons_of_mem _ hw)⟩ hP hD.self (fun q h => Or.inr h) (fun q h => ?_) hK hl va_S.rf
  rcases h with ⟨k, e, h⟩ | h
  · exact hD.2 k _ h
  · exact Nat.le_trans hz h
/-- the pieces of functions: an index, a divisor, a truth value, a loop -/
def gd {α : Type} (i : Int32) (n : Nat) (k : Option α) : Option α := if i < 0 ∨ n ≤ i.toNatClampNeg then none else k
theorem gd_s {α : Type} {i : Int32} {n : Nat} {k : Option α} {r : α} (h : gd i n k = some r) : vp_in i n ∧ k = some r := by
  unfold gd at h
  split at h
  · cases h
  · exact ⟨by assumption, h⟩
def dz {α : Type} (y : Int32) (k : Option α) : Option α := if y = 0 then none else k
theorem dz_s {α : Type} {y : Int32} {k : Option α} {r : α} (h : dz y k = some r) : ¬ y = 0 ∧ k = some r := by
  unfold dz at h
  split at h
  · cases h
  · exact ⟨by assumption, h⟩
def dzL {α : Type} (y : Int64) (k : Option α) : Option α := if y = 0 then none else k
theorem dzL_s {α : Type} {y : Int64} {k : Option α} {r : α} (h : dzL y k = some r) : ¬ y = 0 ∧ k = some r := by
  unfold dzL at h
  split at h
  · cases h
  · exact ⟨by assumption, h⟩
def zb {α : Type} (v : Int32) (k : Option α) : Option α := if v = 0 ∨ v = 1 then k else none
theorem zb_s {α : Type} {v : Int32} {k : Option α} {r : α} (h : zb v k = some r) : (v = 0 ∨ v = 1) ∧ k = some r := by
  unfold zb at h
  split at h
  · exact ⟨by assumption, h⟩
  · cases h
theorem zb_n {v : Int32} (h : v = 0 ∨ v = 1) : narrow .boolean (.int v) = .int v := by
  rcases h with rfl | rfl <;> decide +kernel
theorem zb_f {v : Int32} (h : v = 0 ∨ v = 1) : fits .boolean (.int v) = true := by
  rcases h with rfl | rfl <;> decide +kernel
theorem bd_s {α β : Type} {x : Option α} {f : α → Option β} {r : β} (h : x.bind f = some r) : ∃ a, x = some a ∧ f a = some r := by
  cases x with
  | none => cases h
  | some a => exact ⟨a, rfl, h⟩
theorem o_t {c : Prop} {dc : Decidable c} {α : Type} {A B : Option α} {r : α} (hc : c) (h : (@ite _ c dc A B) = some r) : A = some r := by rw [if_pos hc] at h; exact h
theorem o_f {c : Prop} {dc : Decidable c} {α : Type} {A B : Option α} {r : α} (hc : ¬ c) (h : (@ite _ c dc A B) = some r) : B = some r := by rw [if_neg hc] at h; exact h
def lpM {σ ρ : Type} (b : σ → Option (σ ⊕ ρ)) : Nat → σ → Option ρ
  | 0, _ => none
  | n + 1, s => match b s with
    | none => none
    | some (.inl s') => lpM b n s'
    | some (.inr r) => some r
theorem lp_W {σ ρ : Type} {b : σ → Option (σ ⊕ ρ)} {r : ρ} (P : σ → Prop) (h : ∀ (s : σ) (o : σ ⊕ ρ), b s = some o → (∀ s', o = .inl s' → P s') → (∀ r', o = .inr r' → r' = r) → P s) : ∀ (n : Nat) (s : σ), lpM b n s = some r → P s := by
  intro n
  induction n with
  | zero => intro s h1; cases h1
  | succ n ih =>
    intro s h1
    unfold lpM at h1
    cases hb : b s with
    | none => rw [hb] at h1; cases h1
    | some o =>
      rw [hb] at h1
      cases o with
      | inl s' => exact h s _ hb (fun s2 e => by cases e; exact ih s' h1) (fun r' e => by cases e)
      | inr r' => exact h s _ hb (fun s2 e => by cases e) (fun r2 e => by cases e; exact Option.some.inj h1)
def FU : Nat := 200000
section CALLS
variable {p : Program} {l : Launch} {e : Env} {R : Room} {s : State} {m : MethodId} {args : Array Value} {below : List Frame} {meth : Method} {c : Code} {H : Heap} {locs : List Loc} {cells slots : Nat} {Q : State → Prop}
variable {cc bytes : ByteArray} {nL maxL index n pc : Nat} {own : String} {y : MethodName} {rt rt0 : Option FieldType} {rm : Room} {G : TG} {ls : Array Slot} {lv : List (Nat × Value)} {As rest st0 st1 : List Value} {wc ws : va_W} {v : Option Value} {b : Addr} {aa : Array Value}
theorem lv_re {x z : Int32} (h : z = x) (k : W p l e R s m args below meth c H locs cells slots Q (F0 m pc ls (.int z :: rest))) : W p l e R s m args below meth c H locs cells slots Q (F0 m pc ls (.int x :: rest)) := h ▸ k
theorem lv_reL {x z : Int64} (h : z = x) (k : W p l e R s m args below meth c H locs cells slots Q (F0 m pc ls (.long z :: rest))) : W p l e R s m args below meth c H locs cells slots Q (F0 m pc ls (.long x :: rest)) := h ▸ k
/-- what a call needs of the tables -/
abbrev okR (R rm : Room) (maxL : Nat) : Prop := (rm.cells = 0 ∧ rm.slots = 0) ∧ rm.frames + 1 ≤ R.frames ∧ 8 + (maxL + 11) + rm.locals ≤ R.locals
abbrev okY (y : MethodName) (n : Nat) : Prop := y.cls ≠ "java/lang/invoke/MethodHandle" ∧ y.cls ≠ "java/lang/invoke/VarHandle" ∧ (parseMethodDescriptor y.desc).map (fun d => d.parameters.length) = some n
theorem roP_blind {av : List Value} : FrameBlind (roP G av ws) := fun a U g mk q => ⟨q.1, q.2.1, Kt.call q.2.2⟩
theorem rwP_blind {av : List Value} {sz : Nat} : FrameBlind (rwP G av ws sz) := fun a U g mk q => ⟨q.1, q.2.1, q.2.2.1, Kt.call q.2.2.2.1, q.2.2.2.2⟩
theorem ro_after (hr : va_Run p l e R s m args below meth c H locs cells slots 0 0 (F0 m pc ls st0) rest (roQ v aa) (fun _ => False)) (h1 : v.toList ++ rest = st1)
    (kk : W p l e R s m args below meth c H locs cells slots Q (F0 m (pc + 3) ls st1)) : W p l e R s m args below meth c H locs cells slots Q (F0 m pc ls st0) := by
  subst h1
  intro T hT X
  obtain ⟨w, st₀, t, T', L, h0, X', hL, e1, e2, ⟨hv, hh⟩, st⟩ := hr T hT X
  cases hv
  obtain ⟨t2, a1, b1⟩ := kk T' (by rw [e1, hh, h0]) (Stand.forget X' (fun q h => (hL q h).elim))
  exact ⟨t2, st t2 a1, b1⟩
/-- a call of a method of an object of ours that only reads -/
theorem ro_V (hM : RO l y bytes maxL rt rm G (.ref b :: As) wc v) (C : Cx p s m args meth c cc nL rt0 own) (hK : Kt G s H) (hP : va_P G.1 vwCl wc H) (hl : lv_has ls nL lv)
    (k1 : Cond.code y bytes maxL rt ∈ tG) (k2 : Cond.methodLink own index y ∈ tG) (k3 : Cond.instanceMethod y ∈ tG) (k4 : Cond.selects y.cls y y ∈ tG) (k5 : Cond.initialized y.cls ∈ tG) (hy : okY y n) (hR : okR R rm maxL) (hc : cells ≤ R.cells ∧ slots ≤ R.slots)
    {ci : Nat} {fs : List Value} {q : vw_C} (h0 : wc[0]? = some (b, .inr (ci, fs))) (hcl : vwCl[ci]? = some q) (hq : q.1 = y.cls) (hn : As.length = n) (hst : st0 = As.reverse ++ .ref b :: rest) (h8 : (rest.map fun v => v.category).sum ≤ 8) (hdg : decode cc pc = .ok (.invokevirtual index, 3)) (h1 : v.toList ++ rest = st1)
    (kk : W p l e R s m args below meth c H locs cells slots Q (F0 m (pc + 3) ls st1)) : W p l e R s m args below meth c H locs cells slots Q (F0 m pc ls st0) := by
  obtain ⟨hx, hb, hml, hr, hlk, hown, ht⟩ := C
  refine ro_after (va_runV (As := As) (rest := rest) (Ts := tG) (C := y.cls) ⟨hx, hb, hml, hown, ht⟩ hM ⟨callB_of n ht (tg_call k1) rfl hR.1.1 hR.1.2 (ht _ k5) (ht _ k2) hy ⟨hR.2.1, hR.2.2⟩, ht _ k3, ht _ k4⟩ ⟨roP_blind, ?_, ?_⟩ rfl hn hl.1 hst (lv_room h8) hdg ⟨hc.1, hc.2⟩) h1 kk
  · obtain ⟨cell, q1, q2, q3⟩ := va_recv hK.1 hP hcl h0
    exact ⟨cell, q1, q2, by rw [← hq]; exact q3⟩
  · intro U hU hW
    exact ⟨rfl, by rw [hU]; exact hP, by rw [hU]; exact hK.vm hW⟩
/-- a call of a static method that only reads -/
theorem ro_S (hM : RO l y bytes maxL rt rm G As wc v) (C : Cx p s m args meth c cc nL rt0 own) (hK : Kt G s H) (hP : va_P G.1 vwCl wc H) (hl : lv_has ls nL lv)
    (k1 : Cond.code y bytes maxL rt ∈ tG) (k2 : Cond.methodLink own index y ∈ tG) (k3 : Cond.static y ∈ tG) (k5 : Cond.initialized y.cls ∈ tG) (hy : okY y n) (hR : okR R rm maxL) (hc : cells ≤ R.cells ∧ slots ≤ R.slots)
    (hn : As.length = n) (hst : st0 = As.reverse ++ rest) (h8 : (rest.map fun v => v.category).sum ≤ 8) (hdg : decode cc pc = .ok (.invokestatic index, 3)) (h1 : v.toList ++ rest = st1)
    (kk : W p l e R s m args below meth c H locs cells slots Q (F0 m (pc + 3) ls st1)) : W p l e R s m args below meth c H locs cells slots Q (F0 m pc ls st0) := by
  obtain ⟨hx, hb, hml, hr, hlk, hown, ht⟩ := C
  exact ro_after (va_runS (As := As) (rest := rest) (Ts := tG) ⟨hx, hb, hml, hown, ht⟩ hM ⟨callB_of n ht (tg_call k1) rfl hR.1.1 hR.1.2 (ht _ k5) (ht _ k2) hy ⟨hR.2.1, hR.2.2⟩, ht _ k3⟩ ⟨roP_blind, fun U hU hW => ⟨rfl, by rw [hU]; exact hP, by rw [hU]; exact hK.vm hW⟩⟩ rfl hn hl.1 hst (lv_room h8) hdg ⟨hc.1, hc.2⟩) h1 kk
/-- a call of a nest mate's private static method that only reads -/
theorem ro_SN {host : String} (hM : RO l y bytes maxL rt rm G As wc v) (C : Cx p s m args meth c cc nL rt0 own) (hK : Kt G s H) (hP : va_P G.1 vwCl wc H) (hl : lv_has ls nL lv)
    (k1 : Cond.code y bytes maxL rt ∈ tG) (k2 : Cond.methodLinkNest own index y host ∈ nW) (k3 : Cond.static y ∈ tG) (k5 : Cond.initialized y.cls ∈ tG) (hy : okY y n) (hR : okR R rm maxL) (hc : cells ≤ R.cells ∧ slots ≤ R.slots)
    (hn : As.length = n) (hst : st0 = As.reverse ++ rest) (h8 : (rest.map fun v => v.category).sum ≤ 8) (hdg : decode cc pc = .ok (.invokestatic index, 3)) (h1 : v.toList ++ rest = st1)
    (kk : W p l e R s m args below meth c H locs cells slots Q (F0 m (pc + 3) ls st1)) : W p l e R s m args below meth c H locs cells slots Q (F0 m pc ls st0) := by
  obtain ⟨hx, hb, hml, hr, hlk, hown, ht⟩ := C
  exact ro_after (va_runSN (As := As) (rest := rest) (Ts := tG) ⟨hx, hb, hml, hown, ht⟩ hM ⟨va_cnB n ht (tg_call k1) rfl hR.1.1 hR.1.2 (hK.2.1 _ k2) (ht _ k5) hy ⟨hR.2.1, hR.2.2⟩, ht _ k3, trivial⟩ ⟨roP_blind, fun U hU hW => ⟨rfl, by rw [hU]; exact hP, by rw [hU]; exact hK.vm hW⟩⟩ rfl hn hl.1 hst (lv_room h8) hdg ⟨hc.1, hc.2⟩) h1 kk
/-- behind a call that writes: the caller's world, in an order of its own -/
theorem rw_after {A : Nat → Prop} {wc' wr ws2 : va_W} (hr : va_Run p l e R s m args below meth c H locs cells slots 0 0 (F0 m pc ls st0) rest (rwQ G v wc' (va_A wc H.size) aa) (va_A wc H.size)) (h1 : v.toList ++ rest = st1)
    (hP : va_P G.1 vwCl ws H) (hD : va_D A ws) (hS : va_S A s.heap H locs) (hA : ∀ q, s.heap.size ≤ q → A q) (isC isR pm : List Nat) (hC : isC.map (fun i => ws[i]?) = wc.map some) (hR : isR.map (fun i => ws[i]?) = wr.map some) (hn : va_nd isR = true) (hdis : ∀ i ∈ isR, i ∉ isC)
    (hp1 : pm.filterMap (fun i => (wr ++ wc')[i]?) = ws2) (hp2 : va_nd pm = true) (hp3 : pm.map (fun i => (wr ++ wc')[i]?) = ws2.map some)
    (kk : ∀ (H1 : Heap) (locs1 : List Loc), va_P G.1 vwCl ws2 H1 → va_D A ws2 → va_S A s.heap H1 locs1 → W p l e R s m args below meth c H1 locs1 cells slots Q (F0 m (pc + 3) ls st1)) : W p l e R s m args below meth c H locs cells slots Q (F0 m pc ls st0) := by
  subst h1
  intro T hT X
  obtain ⟨w, st₀, t, T', L, h0, X', hL, e1, e2, ⟨hv, hP1, hD1, hz, hk⟩, st⟩ := hr T hT X
  cases hv
  have hF := va_free hD hS hA isC hC
  rw [h0] at hz hk
  obtain ⟨hP2, hD2⟩ := va_join (H1 := t.heap) hP hD isC isR hC hR hn hdis hk hF hP1 hD1
  have hS1 : va_S A s.heap t.heap (locs ++ L) := ⟨Nat.le_trans hS.1 hz, fun q h1 h2 => by rw [hk q (Nat.lt_of_lt_of_le h1 hS.1) (fun z => h2 (hF q z))]; exact hS.2.1 q h1 h2, fun q hq => by
      rcases List.mem_append.mp hq with h | h
      · exact hS.2.2 q h
      · exact hF _ (hL q h)⟩
  obtain ⟨t2, a1, b1⟩ := kk t.heap (locs ++ L) (hP2.sub pm hp1) (hD2.sub pm hp2 hp3) hS1 T' e1 X'
  exact ⟨t2, st t2 a1, b1⟩
theorem rw_D {A : Nat → Prop} (hD : va_D A ws) (hz : ∀ q, A q → G.2.2.1 ≤ q) (isC : List Nat) (hn : va_nd isC = true) (hC : isC.map (fun i => ws[i]?) = wc.map some) : va_D (fun q => G.2.2.1 ≤ q) wc :=
  (hD.sub isC hn hC).weaken (fun _ q _ h => hz q.1 h)
theorem Kt.size {U : State} {H0 : Heap} {A : Nat → Prop} (h0 : ∀ q, H0.size ≤ q → A q) (hz : ∀ q, A q → G.2.2.1 ≤ q) (hS : va_S A H0 H locs) : G.2.2.1 ≤ H.size := Nat.le_trans (hz _ (h0 _ (Nat.le_refl _))) hS.1
/-- a call of a method of an object of ours that writes -/
theorem rw_V {A : Nat → Prop} {wc' wr ws2 : va_W} (hM : RW l y bytes maxL rt rm G (.ref b :: As) wc v wc') (C : Cx p s m args meth c cc nL rt0 own) (hK : Kt G s s.heap) (hP : va_P G.1 vwCl ws H) (hD : va_D A ws) (hS : va_S A s.heap H locs) (hA : ∀ q, s.heap.size ≤ q → A q) (hz : ∀ q, A q → G.2.2.1 ≤ q) (hl : lv_has ls nL lv)
    (isC isR pm : List Nat) (hw : isC.filterMap (fun i => ws[i]?) = wc) (hnC : va_nd isC = true) (hC : isC.map (fun i => ws[i]?) = wc.map some) (hRr : isR.map (fun i => ws[i]?) = wr.map some) (hnr : va_nd isR = true) (hdis : ∀ i ∈ isR, i ∉ isC)
    (hp1 : pm.filterMap (fun i => (wr ++ wc')[i]?) = ws2) (hp2 : va_nd pm = true) (hp3 : pm.map (fun i => (wr ++ wc')[i]?) = ws2.map some)
    (k1 : Cond.code y bytes maxL rt ∈ tG) (k2 : Cond.methodLink own index y ∈ tG) (k3 : Cond.instanceMethod y ∈ tG) (k4 : Cond.selects y.cls y y ∈ tG) (k5 : Cond.initialized y.cls ∈ tG) (hy : okY y n) (hR : okR R rm maxL) (hc : cells ≤ R.cells ∧ slots ≤ R.slots)
    {ci : Nat} {fs : List Value} {q : vw_C} (h0 : wc[0]? = some (b, .inr (ci, fs))) (hcl : vwCl[ci]? = some q) (hq : q.1 = y.cls) (hn : As.length = n) (hst : st0 = As.reverse ++ .ref b :: rest) (h8 : (rest.map fun v => v.category).sum ≤ 8) (hdg : decode cc pc = .ok (.invokevirtual index, 3)) (h1 : v.toList ++ rest = st1)
    (kk : ∀ (H1 : Heap) (locs1 : List Loc), va_P G.1 vwCl ws2 H1 → va_D A ws2 → va_S A s.heap H1 locs1 → W p l e R s m args below meth c H1 locs1 cells slots Q (F0 m (pc + 3) ls st1)) : W p l e R s m args below meth c H locs cells slots Q (F0 m pc ls st0) := by
  obtain ⟨hx, hb, hml, hr, hlk, hown, ht⟩ := C
  have hKH := hK.at hS hz
  have hPc := hP.sub isC hw
  have hDc := rw_D hD hz isC hnC hC
  refine rw_after (va_runV (As := As) (rest := rest) (Ts := tG) (C := y.cls) ⟨hx, hb, hml, hown, ht⟩ (hM H.size (Kt.size (U := s) hA hz hS)) ⟨callB_of n ht (tg_call k1) rfl hR.1.1 hR.1.2 (ht _ k5) (ht _ k2) hy ⟨hR.2.1, hR.2.2⟩, ht _ k3, ht _ k4⟩ ⟨rwP_blind, ?_, ?_⟩ rfl hn hl.1 hst (lv_room h8) hdg ⟨hc.1, hc.2⟩) h1 hP hD hS hA isC isR pm hC hRr hnr hdis hp1 hp2 hp3 kk
  · obtain ⟨cell, q1, q2, q3⟩ := va_recv hKH.1 hPc hcl h0
    exact ⟨cell, q1, q2, by rw [← hq]; exact q3⟩
  · intro U hU hW
    exact ⟨rfl, by rw [hU], by rw [hU]; exact hPc, by rw [hU]; exact hKH.vm hW, hDc⟩
/-- ends -/
theorem ro_iret {x r : Int32} (C : Cx p s m args meth c cc nL (some .int) own) (h : x = r) (hdg : decode cc pc = .ok (.ireturn, 1)) : W p l e R s m args below meth c s.heap [] 0 0 (MQ below (roQ (some (.int r))) args s 0 0 (fun _ => False)) (F0 m pc ls [.int x]) :=
  W.iret C.1 C.2.1 C.2.2.2.1 (fun t ht hW => ⟨by rw [h], ht⟩) (fun q h => by cases h) hdg C.2.2.2.2.1
theorem ro_zret {x r : Int32} (C : Cx p s m args meth c cc nL (some .boolean) own) (hz : x = 0 ∨ x = 1) (h : x = r) (hdg : decode cc pc = .ok (.ireturn, 1)) : W p l e R s m args below meth c s.heap [] 0 0 (MQ below (roQ (some (.int r))) args s 0 0 (fun _ => False)) (F0 m pc ls [.int x]) :=
  W.zret C.1 C.2.1 C.2.2.2.1 (zb_n hz) (fun t ht hW => ⟨by rw [h], ht⟩) (fun q h => by cases h) hdg C.2.2.2.2.1
theorem ro_lret {x r : Int64} (C : Cx p s m args meth c cc nL (some .long) own) (h : x = r) (hdg : decode cc pc = .ok (.lreturn, 1)) : W p l e R s m args below meth c s.heap [] 0 0 (MQ below (roQ (some (.long r))) args s 0 0 (fun _ => False)) (F0 m pc ls [.long x]) :=
  W.lret C.1 C.2.1 C.2.2.2.1 (fun t ht hW => ⟨by rw [h], ht⟩) (fun q h => by cases h) hdg C.2.2.2.2.1
theorem rw_iret {A : Nat → Prop} {x r : Int32} (C : Cx p s m args meth c cc nL (some .int) own) (h : x = r) (hP : va_P G.1 vwCl ws H) (hD : va_D A ws) (hS : va_S A s.heap H locs) (hdg : decode cc pc = .ok (.ireturn, 1)) : W p l e R s m args below meth c H locs 0 0 (MQ below (rwQ G (some (.int r)) ws A) args s 0 0 A) (F0 m pc ls [.int x]) :=
  W.iret C.1 C.2.1 C.2.2.2.1 (fun t ht hW => ⟨by rw [h], by rw [ht]; exact hP, hD, hS.F ht⟩) hS.2.2 hdg C.2.2.2.2.1
theorem rw_zret {A : Nat → Prop} {x r : Int32} (C : Cx p s m args meth c cc nL (some .boolean) own) (hz : x = 0 ∨ x = 1) (h : x = r) (hP : va_P G.1 vwCl ws H) (hD : va_D A ws) (hS : va_S A s.heap H locs) (hdg : decode cc pc = .ok (.ireturn, 1)) : W p l e R s m args below meth c H locs 0 0 (MQ below (rwQ G (some (.int r)) ws A) args s 0 0 A) (F0 m pc ls [.int x]) :=
  W.zret C.1 C.2.1 C.2.2.2.1 (zb_n hz) (fun t ht hW => ⟨by rw [h], by rw [ht]; exact hP, hD, hS.F ht⟩) hS.2.2 hdg C.2.2.2.2.1
theorem rw_lret {A : Nat → Prop} {x r : Int64} (C : Cx p s m args meth c cc nL (some .long) own) (h : x = r) (hP : va_P G.1 vwCl ws H) (hD : va_D A ws) (hS : va_S A s.heap H locs) (hdg : decode cc pc = .ok (.lreturn, 1)) : W p l e R s m args below meth c H locs 0 0 (MQ below (rwQ G (some (.long r)) ws A) args s 0 0 A) (F0 m pc ls [.long x]) :=
  W.lret C.1 C.2.1 C.2.2.2.1 (fun t ht hW => ⟨by rw [h], by rw [ht]; exact hP, hD, hS.F ht⟩) hS.2.2 hdg C.2.2.2.2.1
theorem rw_vret {A : Nat → Prop} (C : Cx p s m args meth c cc nL none own) (hP : va_P G.1 vwCl ws H) (hD : va_D A ws) (hS : va_S A s.heap H locs) (hdg : decode cc pc = .ok (.return_, 1)) : W p l e R s m args below meth c H locs 0 0 (MQ below (rwQ G none ws A) args s 0 0 A) (F0 m pc ls []) :=
  W.vret C.1 C.2.1 C.2.2.2.1 (fun t ht hW => ⟨rfl, by rw [ht]; exact hP, hD, hS.F ht⟩) hS.2.2 hdg C.2.2.2.2.1
theorem ts2 {x : Int32} (h0 : ¬ x = 0) (h1 : ¬ x = 1) (h2 : ¬ x = 2) : x.toInt < 0 ∨ 2 < x.toInt := by
  have e0 := lv_neT h0 (a := 0) rfl
  have e1 := lv_neT h1 (a := 1) rfl
  have e2 := lv_neT h2 (a := 2) rfl
  omega
theorem ts3 {x : Int32} (h0 : ¬ x = 0) (h1 : ¬ x = 1) (h2 : ¬ x = 2) (h3 : ¬ x = 3) : x.toInt < 0 ∨ 3 < x.toInt := by
  have e0 := lv_neT h0 (a := 0) rfl
  have e1 := lv_neT h1 (a := 1) rfl
  have e2 := lv_neT h2 (a := 2) rfl
  have e3 := lv_neT h3 (a := 3) rfl
  omega
theorem lv_tsI {dflt lo hi : Int} {offs : Array Int} {len : Nat} {x k : Int32} {off : Int} {tgt : Nat} (hexec : p.tables.exec = Jvm.exec) (hb : c.code = cc) (hdg : decode cc pc = .ok (.tableswitch dflt lo hi offs, len)) (hk : x = k) (h1 : ¬ k.toInt < lo) (h2 : ¬ hi < k.toInt) (ho : offs[(k.toInt - lo).toNat]? = some off) (ht : (pc : Int) + off = (tgt : Int))
    (kk : W p l e R s m args below meth c H locs cells slots Q (F0 m tgt ls rest)) : W p l e R s m args below meth c H locs cells slots Q (F0 m pc ls (.int x :: rest)) := by
  subst hk
  exact lv_tableIn hexec hb hdg h1 h2 ho ht kk
end CALLS
end
section
abbrev wI (G : TG) (a n : Nat) (f : Nat → Int32) : Nat × va_E := (a, .inl (G.2.1.1, n, .inl f))
abbrev wJ (G : TG) (a n : Nat) (f : Nat → Int64) : Nat × va_E := (a, .inl (G.2.1.2.1, n, .inr (.inl f)))
abbrev wZ (G : TG) (a n : Nat) (f : Nat → Int32) : Nat × va_E := (a, .inl (G.2.1.2.2.1, n, .inl f))
abbrev oX0 (o : Nat → Nat) : Nat × va_E := (o 0, .inr (0, [.ref (o 1)]))
abbrev oX1 (o : Nat → Nat) (f_found : Int32) (f_end : Int32) : Nat × va_E := (o 0, .inr (1, [.ref (o 1), .int f_found, .int f_end]))
abbrev oX2 (o : Nat → Nat) (f_found : Int32) : Nat × va_E := (o 0, .inr (2, [.ref (o 1), .int f_found]))
abbrev oX3 (o : Nat → Nat) : Nat × va_E := (o 0, .inr (3, [.ref (o 1)]))
abbrev oX4 (o : Nat → Nat) (f_beds : Int32) (f_isKept : Int32) : Nat × va_E := (o 0, .inr (4, [.ref (o 1), .ref (o 2), .int f_beds, .int f_isKept]))
abbrev oX5 (o : Nat → Nat) (f_all : Int64) : Nat × va_E := (o 0, .inr (5, [.ref (o 1), .ref (o 2), .long f_all]))
abbrev oX6 (o : Nat → Nat) (f_parts : Int32) (f_figuresDue : Int32) (f_place : Int32) (f_bandDue : Int32) : Nat × va_E := (o 0, .inr (6, [.ref (o 1), .int f_parts, .int f_figuresDue, .int f_place, .int f_bandDue]))
abbrev oX7 (o : Nat → Nat) (f_length : Int32) (f_lead : Int32) : Nat × va_E := (o 0, .inr (7, [.ref (o 1), .ref (o 2), .int f_length, .int f_lead]))
abbrev oX8 (o : Nat → Nat) (f_entries : Int32) (f_due : Int32) (f_roundAhead : Int32) (f_tens : Int32) (f_roundNow : Int32) (f_bandAhead : Int32) : Nat × va_E := (o 0, .inr (8, [.ref (o 1), .int f_entries, .int f_due, .int f_roundAhead, .int f_tens, .int f_roundNow, .int f_bandAhead]))
abbrev oX9 (o : Nat → Nat) (f_length : Int32) : Nat × va_E := (o 0, .inr (9, [.ref (o 1), .int f_length]))
abbrev oX10 (x t9 t6 t8 t3 t7 t1 t0 t4 t5 t2 : Nat → Nat) : Nat × va_E := (x 0, .inr (10, [.ref (t9 0), .ref (t6 0), .ref (t8 0), .ref (t3 0), .ref (t7 0), .ref (t1 0), .ref (t0 0), .ref (t4 0), .ref (t5 0), .ref (t2 0), .ref (x 1)]))
abbrev oX11 (o : Nat → Nat) (f_length : Int32) (f_at : Int32) (f_faultAt : Int32) (f_parts : Int32) (f_entries : Int32) (f_ringEarth : Int32) (f_lead : Int32) (f_ring : Int32) (f_jumpMany : Int32) (f_curveEnd : Int32) (f_beds : Int32) (f_all : Int64) : Nat × va_E := (o 0, .inr (11, [.ref (o 1), .ref (o 2), .ref (o 3), .int f_length, .int f_at, .int f_faultAt, .int f_parts, .ref (o 4), .ref (o 5), .int f_entries, .ref (o 6), .ref (o 7), .ref (o 8), .int f_ringEarth, .int f_lead, .int f_ring, .ref (o 9), .int f_jumpMany, .int f_curveEnd, .int f_beds, .ref (o 10), .ref (o 11), .long f_all, .ref (o 12), .ref (o 13), .ref (o 14), .ref (o 15), .ref (o 16), .ref (o 17)]))
def f_X10_within (a0 : Int32) (a1 : Int32) (a2 : Int32) : Option (Int32) :=
  (if a0 < a1 then some (0 : Int32) else (if a2 < a0 then some (0 : Int32) else some (1 : Int32)))
def f_X10_isStory (a0 : Int32) : Option (Int32) :=
  (f_X10_within a0 (0 : Int32) (3 : Int32)).bind (fun q1 => zb q1 (some q1))
def f_X10_isRound (a0 : Int32) : Option (Int32) :=
  (f_X10_within a0 (0 : Int32) (99 : Int32)).bind (fun q1 => zb q1 (some q1))
def f_X0_tell (o_ice : Nat → Int32) (a1 : Int32) (a2 : Int32) (a3 : Int32) : Option ((Nat → Int32)) :=
  (f_X10_isStory a1).bind (fun q1 => (if q1 = (0 : Int32) then some o_ice else (f_X10_isRound a2).bind (fun q4 => (if q4 = (0 : Int32) then some o_ice else gd ((a1 * (100 : Int32)) + a2) 400 (some (upd o_ice ((a1 * (100 : Int32)) + a2).toNatClampNeg a3))))))
def f_X0_iceOf (o_ice : Nat → Int32) (a1 : Int32) (a2 : Int32) : Option (Int32) :=
  (f_X10_isStory a1).bind (fun q1 => (if q1 = (0 : Int32) then some (0 : Int32) else (f_X10_isRound a2).bind (fun q4 => (if q4 = (0 : Int32) then some (0 : Int32) else gd ((a1 * (100 : Int32)) + a2) 400 (some (o_ice ((a1 * (100 : Int32)) + a2).toNatClampNeg))))))
def f_X0_someIce_x30_1 (v4 : Int32) : Option (Int32) :=
  some v4
def f_X0_someIce_b6 (o_ice : Nat → Int32) (a1 : Int32) (a3 : Int32) (v4 : Int32) (v5 : Int32) : Option ((Int32 × Int32) ⊕ (Int32)) :=
  (if a3 < v5 then some (.inr v4) else (f_X0_iceOf o_ice a1 v5).bind (fun q4 => some (.inl ((v4 ||| q4), (v5 + (1 : Int32))))))
def f_X0_someIce (o_ice : Nat → Int32) (a1 : Int32) (a2 : Int32) (a3 : Int32) : Option (Int32) :=
  (lpM (σ := Int32 × Int32) (ρ := Int32) (fun st => f_X0_someIce_b6 o_ice a1 a3 st.1 st.2) FU ((0 : Int32), a2)).bind (fun sx => f_X0_someIce_x30_1 sx)
def f_X0_lastingIce_x31_1 (v4 : Int32) : Option (Int32) :=
  some v4
def f_X0_lastingIce_b7 (o_ice : Nat → Int32) (a1 : Int32) (a3 : Int32) (v4 : Int32) (v5 : Int32) : Option ((Int32 × Int32) ⊕ (Int32)) :=
  (if a3 < v5 then some (.inr v4) else (f_X0_iceOf o_ice a1 v5).bind (fun q4 => some (.inl ((v4 &&& q4), (v5 + (1 : Int32))))))
def f_X0_lastingIce (o_ice : Nat → Int32) (a1 : Int32) (a2 : Int32) (a3 : Int32) : Option (Int32) :=
  (lpM (σ := Int32 × Int32) (ρ := Int32) (fun st => f_X0_lastingIce_b7 o_ice a1 a3 st.1 st.2) FU ((63 : Int32), a2)).bind (fun sx => f_X0_lastingIce_x31_1 sx)
def f_X9_hasRoomFor (o_length : Int32) (a1 : Int32) : Option (Int32) :=
  (if ((48 : Int32) - o_length) < a1 then some (0 : Int32) else some (1 : Int32))
def f_X9_put_x56_1 (o_signs : Nat → Int32) (o_length : Int32) : Option ((Nat → Int32) × Int32) :=
  some (o_signs, o_length)
def f_X9_put_b5 (a2 : Int64) (v4 : Int32) (o_signs : Nat → Int32) (o_length : Int32) : Option ((Int32 × (Nat → Int32) × Int32) ⊕ ((Nat → Int32) × Int32)) :=
  (if v4 < (0 : Int32) then some (.inr (o_signs, o_length)) else (if (48 : Int32) ≤ o_length then some (.inr (o_signs, o_length)) else gd o_length 48 (some (.inl ((v4 + (-1 : Int32)), (upd o_signs o_length.toNatClampNeg ((((a2.toUInt64 >>> (((8 : Int32) * v4).toInt64.toUInt64 &&& Int64.toUInt64 63)).toInt64).toInt32) &&& (255 : Int32))), (o_length + (1 : Int32)))))))
def f_X9_put (o_signs : Nat → Int32) (o_length : Int32) (a1 : Int32) (a2 : Int64) : Option ((Nat → Int32) × Int32) :=
  (lpM (σ := Int32 × (Nat → Int32) × Int32) (ρ := (Nat → Int32) × Int32) (fun st => f_X9_put_b5 a2 st.1 st.2.1 st.2.2) FU ((a1 - (1 : Int32)), o_signs, o_length)).bind (fun sx => f_X9_put_x56_1 sx.1 sx.2)
abbrev Wc_X10_within (l : Launch) (G : TG) (a0 : Int32) (a1 : Int32) (a2 : Int32) (R : Int32) (p : Program) (e : Env) (s : State) (m : MethodId) (below : List Frame) (meth : Method) (c : Code) (H : Heap) (locs : List Loc) (g : JFrame) : Prop := W p l e ({ frames := 0, cells := 0, slots := 0, locals := 0 }) s m ([.int a0, .int a1, .int a2] : List Value).toArray below meth c H locs 0 0 (MQ below (roQ (some (.int R))) ([.int a0, .int a1, .int a2] : List Value).toArray s 0 0 (fun _ => False)) g
set_option maxHeartbeats 4000000 in
set_option maxRecDepth 100000 in
theorem c_X10_within (l : Launch) (G : TG) (a0 : Int32) (a1 : Int32) (a2 : Int32) (R : Int32) (hf : f_X10_within a0 a1 a2 = some R) : RO l yX10_within cX10_within 3 (some .boolean) ({ frames := 0, cells := 0, slots := 0, locals := 0 }) G [.int a0, .int a1, .int a2] [] (some (.int R)) := by
  refine RO.mk (by decide +kernel) (Nat.le_of_ble_eq_true rfl) ?_
  intro p e s m below meth c ls C hP hK hl
  have hx := C.1
  have hb := C.2.1
  have hown : s.vm.findClass RX10 = some m.cls := C.2.2.2.2.2.1
  have ht := C.2.2.2.2.2.2
  have hl : lv_has ls 3 [(0, .int a0), (1, .int a1), (2, .int a2)] := hl
  show Wc_X10_within l G a0 a1 a2 R p e s m below meth c s.heap [] (F0 m 0 ls [])
  refine lv_iload_n hx hb dX10_within_0 rfl (lv_at hl 0 rfl) ?_
  refine lv_iload_n hx hb dX10_within_1 rfl (lv_at hl 1 rfl) ?_
  refine lv_icmp_lt (tgt := 14) hx hb dX10_within_2 (by decide) (fun c1 => ?_) (fun c1 => ?_)
  · have hf := o_t c1 hf
    refine lv_iconst (v := 0) hx hb dX10_within_14 (by decide) ?_
    have h9 := Option.some.inj hf
    subst h9
    exact ro_zret C (Or.inl rfl) rfl dX10_within_15
  · have hf := o_f c1 hf
    refine lv_iload_n hx hb dX10_within_5 rfl (lv_at hl 0 rfl) ?_
    refine lv_iload_n hx hb dX10_within_6 rfl (lv_at hl 2 rfl) ?_
    refine lv_icmp_gt (tgt := 14) hx hb dX10_within_7 (by decide) (fun c3 => ?_) (fun c3 => ?_)
    · have hf := o_t c3 hf
      refine lv_iconst (v := 0) hx hb dX10_within_14 (by decide) ?_
      have h9 := Option.some.inj hf
      subst h9
      exact ro_zret C (Or.inl rfl) rfl dX10_within_15
    · have hf := o_f c3 hf
      refine lv_iconst (v := 1) hx hb dX10_within_10 (by decide) ?_
      refine lv_goto (tgt := 15) hx hb dX10_within_11 (by decide) ?_
      have h9 := Option.some.inj hf
      subst h9
      exact ro_zret C (Or.inr rfl) rfl dX10_within_15
abbrev Wc_X10_isStory (l : Launch) (G : TG) (a0 : Int32) (R : Int32) (p : Program) (e : Env) (s : State) (m : MethodId) (below : List Frame) (meth : Method) (c : Code) (H : Heap) (locs : List Loc) (g : JFrame) : Prop := W p l e ({ frames := 1, cells := 0, slots := 0, locals := 22 }) s m ([.int a0] : List Value).toArray below meth c H locs 0 0 (MQ below (roQ (some (.int R))) ([.int a0] : List Value).toArray s 0 0 (fun _ => False)) g
set_option maxHeartbeats 4000000 in
set_option maxRecDepth 100000 in
theorem c_X10_isStory (l : Launch) (G : TG) (a0 : Int32) (R : Int32) (hf : f_X10_isStory a0 = some R) : RO l yX10_isStory cX10_isStory 1 (some .boolean) ({ frames := 1, cells := 0, slots := 0, locals := 22 }) G [.int a0] [] (some (.int R)) := by
  refine RO.mk (by decide +kernel) (Nat.le_of_ble_eq_true rfl) ?_
  intro p e s m below meth c ls C hP hK hl
  have hx := C.1
  have hb := C.2.1
  have hown : s.vm.findClass RX10 = some m.cls := C.2.2.2.2.2.1
  have ht := C.2.2.2.2.2.2
  have hl : lv_has ls 1 [(0, .int a0)] := hl
  show Wc_X10_isStory l G a0 R p e s m below meth c s.heap [] (F0 m 0 ls [])
  refine lv_iload_n hx hb dX10_isStory_0 rfl (lv_at hl 0 rfl) ?_
  refine lv_iconst (v := 0) hx hb dX10_isStory_1 (by decide) ?_
  refine lv_iconst (v := 3) hx hb dX10_isStory_2 (by decide) ?_
  obtain ⟨q1, r1, hf⟩ := bd_s hf
  refine ro_S (n := 3) (As := [.int a0, .int (0 : Int32), .int (3 : Int32)]) (rest := []) (c_X10_within l G a0 (0 : Int32) (3 : Int32) q1 r1) C hK (hP.sub [] rfl) hl kcode_X10_within kml_X10_83 kst_X10_within kini_X10 (by decide +kernel) ⟨⟨rfl, rfl⟩, Nat.le_of_ble_eq_true rfl, Nat.le_of_ble_eq_true rfl⟩ ⟨Nat.zero_le _, Nat.zero_le _⟩ rfl rfl (Nat.le_of_ble_eq_true rfl) dX10_isStory_3 rfl ?_
  obtain ⟨z2, hf⟩ := zb_s hf
  have h9 := Option.some.inj hf
  subst h9
  exact ro_zret C z2 rfl dX10_isStory_6
abbrev Wc_X10_isRound (l : Launch) (G : TG) (a0 : Int32) (R : Int32) (p : Program) (e : Env) (s : State) (m : MethodId) (below : List Frame) (meth : Method) (c : Code) (H : Heap) (locs : List Loc) (g : JFrame) : Prop := W p l e ({ frames := 1, cells := 0, slots := 0, locals := 22 }) s m ([.int a0] : List Value).toArray below meth c H locs 0 0 (MQ below (roQ (some (.int R))) ([.int a0] : List Value).toArray s 0 0 (fun _ => False)) g
set_option maxHeartbeats 4000000 in
set_option maxRecDepth 100000 in
theorem c_X10_isRound (l : Launch) (G : TG) (a0 : Int32) (R : Int32) (hf : f_X10_isRound a0 = some R) : RO l yX10_isRound cX10_isRound 1 (some .boolean) ({ frames := 1, cells := 0, slots := 0, locals := 22 }) G [.int a0] [] (some (.int R)) := by
  refine RO.mk (by decide +kernel) (Nat.le_of_ble_eq_true rfl) ?_
  intro p e s m below meth c ls C hP hK hl
  have hx := C.1
  have hb := C.2.1
  have hown : s.vm.findClass RX10 = some m.cls := C.2.2.2.2.2.1
  have ht := C.2.2.2.2.2.2
  have hl : lv_has ls 1 [(0, .int a0)] := hl
  show Wc_X10_isRound l G a0 R p e s m below meth c s.heap [] (F0 m 0 ls [])
  refine lv_iload_n hx hb dX10_isRound_0 rfl (lv_at hl 0 rfl) ?_
  refine lv_iconst (v := 0) hx hb dX10_isRound_1 (by decide) ?_
  refine lv_bipush (v := 99) hx hb dX10_isRound_2 (by decide) ?_
  obtain ⟨q1, r1, hf⟩ := bd_s hf
  refine ro_S (n := 3) (As := [.int a0, .int (0 : Int32), .int (99 : Int32)]) (rest := []) (c_X10_within l G a0 (0 : Int32) (99 : Int32) q1 r1) C hK (hP.sub [] rfl) hl kcode_X10_within kml_X10_83 kst_X10_within kini_X10 (by decide +kernel) ⟨⟨rfl, rfl⟩, Nat.le_of_ble_eq_true rfl, Nat.le_of_ble_eq_true rfl⟩ ⟨Nat.zero_le _, Nat.zero_le _⟩ rfl rfl (Nat.le_of_ble_eq_true rfl) dX10_isRound_4 rfl ?_
  obtain ⟨z2, hf⟩ := zb_s hf
  have h9 := Option.some.inj hf
  subst h9
  exact ro_zret C z2 rfl dX10_isRound_7
abbrev Wc_X0_tell (l : Launch) (G : TG) (o : Nat → Nat) (o_ice : Nat → Int32) (a1 : Int32) (a2 : Int32) (a3 : Int32) (R : (Nat → Int32)) (p : Program) (e : Env) (s : State) (m : MethodId) (below : List Frame) (meth : Method) (c : Code) (A : Nat → Prop) (H : Heap) (locs : List Loc) (g : JFrame) : Prop := W p l e ({ frames := 2, cells := 0, slots := 0, locals := 42 }) s m ([.ref (o 0), .int a1, .int a2, .int a3] : List Value).toArray below meth c H locs 0 0 (MQ below (rwQ G none [(oX0 o), (wI G (o 1) 400 R)] A) ([.ref (o 0), .int a1, .int a2, .int a3] : List Value).toArray s 0 0 A) g
set_option maxHeartbeats 4000000 in
set_option maxRecDepth 100000 in
theorem c_X0_tell (l : Launch) (G : TG) (o : Nat → Nat) (o_ice : Nat → Int32) (a1 : Int32) (a2 : Int32) (a3 : Int32) (R : (Nat → Int32)) (hf : f_X0_tell o_ice a1 a2 a3 = some R) : RW l yX0_tell cX0_tell 4 none ({ frames := 2, cells := 0, slots := 0, locals := 42 }) G [.ref (o 0), .int a1, .int a2, .int a3] [(oX0 o), (wI G (o 1) 400 o_ice)] none [(oX0 o), (wI G (o 1) 400 R)] := by
  refine RW.mk (by decide +kernel) (Nat.le_of_ble_eq_true rfl) ?_
  intro p e s m below meth c ls A C hP hD hA hz hK hl hS
  have hx := C.1
  have hb := C.2.1
  have hown : s.vm.findClass RX0 = some m.cls := C.2.2.2.2.2.1
  have ht := C.2.2.2.2.2.2
  have hl : lv_has ls 4 [(0, .ref (o 0)), (1, .int a1), (2, .int a2), (3, .int a3)] := hl
  show Wc_X0_tell l G o o_ice a1 a2 a3 R p e s m below meth c A s.heap [] (F0 m 0 ls [])
  obtain ⟨H, eH, hP, hS⟩ : ∃ H, H = s.heap ∧ va_P G.1 vwCl [(oX0 o), (wI G (o 1) 400 o_ice)] H ∧ va_S A s.heap H [] := ⟨_, rfl, hP, hS⟩
  obtain ⟨locs, el, hS⟩ : ∃ locs : List Loc, locs = [] ∧ va_S A s.heap H locs := ⟨_, rfl, hS⟩
  have key : Wc_X0_tell l G o o_ice a1 a2 a3 R p e s m below meth c A H locs (F0 m 0 ls []) := by
    refine lv_iload_n hx hb dX0_tell_0 rfl (lv_at hl 1 rfl) ?_
    obtain ⟨q1, r1, hf⟩ := bd_s hf
    refine ro_SN (n := 1) (As := [.int a1]) (rest := []) (c_X10_isStory l G a1 q1 r1) C (hK.at hS hz) (hP.sub [] rfl) hl kcode_X10_isStory kmln_X0_15 kst_X10_isStory kini_X10 (by decide +kernel) ⟨⟨rfl, rfl⟩, Nat.le_of_ble_eq_true rfl, Nat.le_of_ble_eq_true rfl⟩ ⟨Nat.zero_le _, Nat.zero_le _⟩ rfl rfl (Nat.le_of_ble_eq_true rfl) dX0_tell_1 rfl ?_
    refine lv_if_eq (tgt := 26) hx hb dX0_tell_4 (by decide) (fun c2 => ?_) (fun c2 => ?_)
    · have hf := o_t c2 hf
      have h9 := Option.some.inj hf
      subst h9
      exact rw_vret C hP hD hS dX0_tell_26
    · have hf := o_f c2 hf
      refine lv_iload_n hx hb dX0_tell_7 rfl (lv_at hl 2 rfl) ?_
      obtain ⟨q4, r4, hf⟩ := bd_s hf
      refine ro_SN (n := 1) (As := [.int a2]) (rest := []) (c_X10_isRound l G a2 q4 r4) C (hK.at hS hz) (hP.sub [] rfl) hl kcode_X10_isRound kmln_X0_19 kst_X10_isRound kini_X10 (by decide +kernel) ⟨⟨rfl, rfl⟩, Nat.le_of_ble_eq_true rfl, Nat.le_of_ble_eq_true rfl⟩ ⟨Nat.zero_le _, Nat.zero_le _⟩ rfl rfl (Nat.le_of_ble_eq_true rfl) dX0_tell_8 rfl ?_
      refine lv_if_eq (tgt := 26) hx hb dX0_tell_11 (by decide) (fun c5 => ?_) (fun c5 => ?_)
      · have hf := o_t c5 hf
        have h9 := Option.some.inj hf
        subst h9
        exact rw_vret C hP hD hS dX0_tell_26
      · have hf := o_f c5 hf
        refine lv_aload_n hx hb dX0_tell_14 rfl (lv_at hl 0 rfl) ?_
        refine va_get (D := G.1) (ci := 0) (v := .ref (o 1)) (C := RX0) (T := TX0) (N := 1) hx hb ht twX0 hown hK.1 hP 0 rfl rfl 0 (by decide) (ht _ kfl_X0_9) (fun _ h9 => h9) rfl dX0_tell_15 ?_
        refine lv_iload_n hx hb dX0_tell_18 rfl (lv_at hl 1 rfl) ?_
        refine lv_bipush (v := 100) hx hb dX0_tell_19 (by decide) ?_
        refine lv_imul hx hb dX0_tell_21 ?_
        refine lv_iload_n hx hb dX0_tell_22 rfl (lv_at hl 2 rfl) ?_
        refine lv_iadd hx hb dX0_tell_23 ?_
        refine lv_iload_n hx hb dX0_tell_24 rfl (lv_at hl 3 rfl) ?_
        obtain ⟨g7, hf⟩ := gd_s hf
        refine va_iast hx hb hK.1 hP hD hS 1 0 rfl rfl g7 dX0_tell_25 (fun H locs hP hD hS => ?_)
        have hP : va_P G.1 vwCl [(oX0 o), (wI G (o 1) 400 (upd o_ice ((a1 * (100 : Int32)) + a2).toNatClampNeg a3))] H := hP
        have hD : va_D A [(oX0 o), (wI G (o 1) 400 (upd o_ice ((a1 * (100 : Int32)) + a2).toNatClampNeg a3))] := hD
        have h9 := Option.some.inj hf
        subst h9
        exact rw_vret C hP hD hS dX0_tell_26
  rw [eH, el] at key
  exact key
abbrev Wc_X0_iceOf (l : Launch) (G : TG) (o : Nat → Nat) (o_ice : Nat → Int32) (a1 : Int32) (a2 : Int32) (R : Int32) (p : Program) (e : Env) (s : State) (m : MethodId) (below : List Frame) (meth : Method) (c : Code) (H : Heap) (locs : List Loc) (g : JFrame) : Prop := W p l e ({ frames := 2, cells := 0, slots := 0, locals := 42 }) s m ([.ref (o 0), .int a1, .int a2] : List Value).toArray below meth c H locs 0 0 (MQ below (roQ (some (.int R))) ([.ref (o 0), .int a1, .int a2] : List Value).toArray s 0 0 (fun _ => False)) g
set_option maxHeartbeats 4000000 in
set_option maxRecDepth 100000 in
theorem c_X0_iceOf (l : Launch) (G : TG) (o : Nat → Nat) (o_ice : Nat → Int32) (a1 : Int32) (a2 : Int32) (R : Int32) (hf : f_X0_iceOf o_ice a1 a2 = some R) : RO l yX0_iceOf cX0_iceOf 3 (some .int) ({ frames := 2, cells := 0, slots := 0, locals := 42 }) G [.ref (o 0), .int a1, .int a2] [(oX0 o), (wI G (o 1) 400 o_ice)] (some (.int R)) := by
  refine RO.mk (by decide +kernel) (Nat.le_of_ble_eq_true rfl) ?_
  intro p e s m below meth c ls C hP hK hl
  have hx := C.1
  have hb := C.2.1
  have hown : s.vm.findClass RX0 = some m.cls := C.2.2.2.2.2.1
  have ht := C.2.2.2.2.2.2
  have hl : lv_has ls 3 [(0, .ref (o 0)), (1, .int a1), (2, .int a2)] := hl
  show Wc_X0_iceOf l G o o_ice a1 a2 R p e s m below meth c s.heap [] (F0 m 0 ls [])
  refine lv_iload_n hx hb dX0_iceOf_0 rfl (lv_at hl 1 rfl) ?_
  obtain ⟨q1, r1, hf⟩ := bd_s hf
  refine ro_SN (n := 1) (As := [.int a1]) (rest := []) (c_X10_isStory l G a1 q1 r1) C hK (hP.sub [] rfl) hl kcode_X10_isStory kmln_X0_15 kst_X10_isStory kini_X10 (by decide +kernel) ⟨⟨rfl, rfl⟩, Nat.le_of_ble_eq_true rfl, Nat.le_of_ble_eq_true rfl⟩ ⟨Nat.zero_le _, Nat.zero_le _⟩ rfl rfl (Nat.le_of_ble_eq_true rfl) dX0_iceOf_1 rfl ?_
  refine lv_if_eq (tgt := 28) hx hb dX0_iceOf_4 (by decide) (fun c2 => ?_) (fun c2 => ?_)
  · have hf := o_t c2 hf
    refine lv_iconst (v := 0) hx hb dX0_iceOf_28 (by decide) ?_
    have h9 := Option.some.inj hf
    subst h9
    exact ro_iret C rfl dX0_iceOf_29
  · have hf := o_f c2 hf
    refine lv_iload_n hx hb dX0_iceOf_7 rfl (lv_at hl 2 rfl) ?_
    obtain ⟨q4, r4, hf⟩ := bd_s hf
    refine ro_SN (n := 1) (As := [.int a2]) (rest := []) (c_X10_isRound l G a2 q4 r4) C hK (hP.sub [] rfl) hl kcode_X10_isRound kmln_X0_19 kst_X10_isRound kini_X10 (by decide +kernel) ⟨⟨rfl, rfl⟩, Nat.le_of_ble_eq_true rfl, Nat.le_of_ble_eq_true rfl⟩ ⟨Nat.zero_le _, Nat.zero_le _⟩ rfl rfl (Nat.le_of_ble_eq_true rfl) dX0_iceOf_8 rfl ?_
    refine lv_if_eq (tgt := 28) hx hb dX0_iceOf_11 (by decide) (fun c5 => ?_) (fun c5 => ?_)
    · have hf := o_t c5 hf
      refine lv_iconst (v := 0) hx hb dX0_iceOf_28 (by decide) ?_
      have h9 := Option.some.inj hf
      subst h9
      exact ro_iret C rfl dX0_iceOf_29
    · have hf := o_f c5 hf
      refine lv_aload_n hx hb dX0_iceOf_14 rfl (lv_at hl 0 rfl) ?_
      refine va_get (D := G.1) (ci := 0) (v := .ref (o 1)) (C := RX0) (T := TX0) (N := 1) hx hb ht twX0 hown hK.1 hP 0 rfl rfl 0 (by decide) (ht _ kfl_X0_9) (fun _ h9 => h9) rfl dX0_iceOf_15 ?_
      refine lv_iload_n hx hb dX0_iceOf_18 rfl (lv_at hl 1 rfl) ?_
      refine lv_bipush (v := 100) hx hb dX0_iceOf_19 (by decide) ?_
      refine lv_imul hx hb dX0_iceOf_21 ?_
      refine lv_iload_n hx hb dX0_iceOf_22 rfl (lv_at hl 2 rfl) ?_
      refine lv_iadd hx hb dX0_iceOf_23 ?_
      obtain ⟨g7, hf⟩ := gd_s hf
      refine va_iald hx hb hK.1 hP 1 0 rfl rfl g7 dX0_iceOf_24 ?_
      refine lv_goto (tgt := 29) hx hb dX0_iceOf_25 (by decide) ?_
      have h9 := Option.some.inj hf
      subst h9
      exact ro_iret C rfl dX0_iceOf_29
abbrev Wc_X0_someIce (l : Launch) (G : TG) (o : Nat → Nat) (o_ice : Nat → Int32) (a1 : Int32) (a2 : Int32) (a3 : Int32) (R : Int32) (p : Program) (e : Env) (s : State) (m : MethodId) (below : List Frame) (meth : Method) (c : Code) (H : Heap) (locs : List Loc) (g : JFrame) : Prop := W p l e ({ frames := 3, cells := 0, slots := 0, locals := 64 }) s m ([.ref (o 0), .int a1, .int a2, .int a3] : List Value).toArray below meth c H locs 0 0 (MQ below (roQ (some (.int R))) ([.ref (o 0), .int a1, .int a2, .int a3] : List Value).toArray s 0 0 (fun _ => False)) g
set_option maxHeartbeats 4000000 in
set_option maxRecDepth 100000 in
theorem c_X0_someIce (l : Launch) (G : TG) (o : Nat → Nat) (o_ice : Nat → Int32) (a1 : Int32) (a2 : Int32) (a3 : Int32) (R : Int32) (hf : f_X0_someIce o_ice a1 a2 a3 = some R) : RO l yX0_someIce cX0_someIce 6 (some .int) ({ frames := 3, cells := 0, slots := 0, locals := 64 }) G [.ref (o 0), .int a1, .int a2, .int a3] [(oX0 o), (wI G (o 1) 400 o_ice)] (some (.int R)) := by
  refine RO.mk (by decide +kernel) (Nat.le_of_ble_eq_true rfl) ?_
  intro p e s m below meth c ls C hP hK hl
  have hx := C.1
  have hb := C.2.1
  have hown : s.vm.findClass RX0 = some m.cls := C.2.2.2.2.2.1
  have ht := C.2.2.2.2.2.2
  have hl : lv_has ls 6 [(0, .ref (o 0)), (1, .int a1), (2, .int a2), (3, .int a3)] := hl
  show Wc_X0_someIce l G o o_ice a1 a2 a3 R p e s m below meth c s.heap [] (F0 m 0 ls [])
  refine lv_iconst (v := 0) hx hb dX0_someIce_0 (by decide) ?_
  refine lv_istore (lv' := [(4, .int (0 : Int32)), (0, .ref (o 0)), (1, .int a1), (2, .int a2), (3, .int a3)]) hx hb dX0_someIce_1 hl (by decide) rfl (fun ls hl => ?_)
  refine lv_iload_n hx hb dX0_someIce_3 rfl (lv_at hl 3 rfl) ?_
  refine lv_istore (lv' := [(5, .int a2), (4, .int (0 : Int32)), (0, .ref (o 0)), (1, .int a1), (2, .int a2), (3, .int a3)]) hx hb dX0_someIce_4 hl (by decide) rfl (fun ls hl => ?_)
  have hx30_1 : ∀ (v4 : Int32) (ls : Array Slot), f_X0_someIce_x30_1 v4 = some R → lv_has ls 6 [(4, .int v4)] → Wc_X0_someIce l G o o_ice a1 a2 a3 R p e s m below meth c s.heap [] (F0 m 30 ls []) := by
    intro v4 ls hf hl
    refine lv_iload hx hb dX0_someIce_30 (lv_at hl 0 rfl) ?_
    have h9 := Option.some.inj hf
    subst h9
    exact ro_iret C rfl dX0_someIce_32
  obtain ⟨rL1, hL1, hk1⟩ := bd_s hf
  refine lp_W (P := fun st => ∀ (ls : Array Slot), lv_has ls 6 [(0, .ref (o 0)), (1, .int a1), (3, .int a3), (4, .int st.1), (5, .int st.2)] → Wc_X0_someIce l G o o_ice a1 a2 a3 R p e s m below meth c s.heap [] (F0 m 6 ls [])) ?_ FU ((0 : Int32), a2) hL1 ls (lv_sub hl [2, 3, 5, 1, 0] rfl)
  intro ⟨v4, v5⟩ oc1 hf hI hE ls hl
  have hl : lv_has ls 6 [(0, .ref (o 0)), (1, .int a1), (3, .int a3), (4, .int v4), (5, .int v5)] := hl
  have hf : f_X0_someIce_b6 o_ice a1 a3 v4 v5 = some oc1 := hf
  refine lv_iload hx hb dX0_someIce_6 (lv_at hl 4 rfl) ?_
  refine lv_iload_n hx hb dX0_someIce_8 rfl (lv_at hl 2 rfl) ?_
  refine lv_icmp_gt (tgt := 30) hx hb dX0_someIce_9 (by decide) (fun c3 => ?_) (fun c3 => ?_)
  · have hf := o_t c3 hf
    cases hf
    have hf : f_X0_someIce_x30_1 v4 = some R := by have h9 := hk1; rw [← hE _ rfl] at h9; exact h9
    exact hx30_1 v4 ls hf (lv_sub hl [3] rfl)
  · have hf := o_f c3 hf
    refine lv_iload hx hb dX0_someIce_12 (lv_at hl 3 rfl) ?_
    refine lv_aload_n hx hb dX0_someIce_14 rfl (lv_at hl 0 rfl) ?_
    refine lv_iload_n hx hb dX0_someIce_15 rfl (lv_at hl 1 rfl) ?_
    refine lv_iload hx hb dX0_someIce_16 (lv_at hl 4 rfl) ?_
    obtain ⟨q4, r4, hf⟩ := bd_s hf
    refine ro_V (n := 2) (As := [.int a1, .int v5]) (rest := [.int v4]) (c_X0_iceOf l G o o_ice a1 v5 q4 r4) C hK (hP.sub [0, 1] rfl) hl kcode_X0_iceOf kml_X0_22 kim_X0_iceOf ksel_X0_iceOf kini_X0 (by decide +kernel) ⟨⟨rfl, rfl⟩, Nat.le_of_ble_eq_true rfl, Nat.le_of_ble_eq_true rfl⟩ ⟨Nat.zero_le _, Nat.zero_le _⟩ rfl rfl rfl rfl rfl (Nat.le_of_ble_eq_true rfl) dX0_someIce_18 rfl ?_
    refine lv_ior hx hb dX0_someIce_21 ?_
    refine lv_istore (lv' := [(4, .int (v4 ||| q4)), (0, .ref (o 0)), (1, .int a1), (3, .int a3), (5, .int v5)]) hx hb dX0_someIce_22 hl (by decide) rfl (fun ls hl => ?_)
    refine lv_iinc (v := (v5 + (1 : Int32))) (lv' := [(5, .int (v5 + (1 : Int32))), (4, .int (v4 ||| q4)), (0, .ref (o 0)), (1, .int a1), (3, .int a3)]) hx hb dX0_someIce_24 hl (k := 4) rfl (by rfl) (by decide) rfl (fun ls hl => ?_)
    refine lv_goto (tgt := 6) hx hb dX0_someIce_27 (by decide) ?_
    cases hf
    exact hI _ rfl ls (lv_sub hl [2, 3, 4, 1, 0] rfl)
abbrev Wc_X0_lastingIce (l : Launch) (G : TG) (o : Nat → Nat) (o_ice : Nat → Int32) (a1 : Int32) (a2 : Int32) (a3 : Int32) (R : Int32) (p : Program) (e : Env) (s : State) (m : MethodId) (below : List Frame) (meth : Method) (c : Code) (H : Heap) (locs : List Loc) (g : JFrame) : Prop := W p l e ({ frames := 3, cells := 0, slots := 0, locals := 64 }) s m ([.ref (o 0), .int a1, .int a2, .int a3] : List Value).toArray below meth c H locs 0 0 (MQ below (roQ (some (.int R))) ([.ref (o 0), .int a1, .int a2, .int a3] : List Value).toArray s 0 0 (fun _ => False)) g
set_option maxHeartbeats 4000000 in
set_option maxRecDepth 100000 in
theorem c_X0_lastingIce (l : Launch) (G : TG) (o : Nat → Nat) (o_ice : Nat → Int32) (a1 : Int32) (a2 : Int32) (a3 : Int32) (R : Int32) (hf : f_X0_lastingIce o_ice a1 a2 a3 = some R) : RO l yX0_lastingIce cX0_lastingIce 6 (some .int) ({ frames := 3, cells := 0, slots := 0, locals := 64 }) G [.ref (o 0), .int a1, .int a2, .int a3] [(oX0 o), (wI G (o 1) 400 o_ice)] (some (.int R)) := by
  refine RO.mk (by decide +kernel) (Nat.le_of_ble_eq_true rfl) ?_
  intro p e s m below meth c ls C hP hK hl
  have hx := C.1
  have hb := C.2.1
  have hown : s.vm.findClass RX0 = some m.cls := C.2.2.2.2.2.1
  have ht := C.2.2.2.2.2.2
  have hl : lv_has ls 6 [(0, .ref (o 0)), (1, .int a1), (2, .int a2), (3, .int a3)] := hl
  show Wc_X0_lastingIce l G o o_ice a1 a2 a3 R p e s m below meth c s.heap [] (F0 m 0 ls [])
  refine lv_bipush (v := 63) hx hb dX0_lastingIce_0 (by decide) ?_
  refine lv_istore (lv' := [(4, .int (63 : Int32)), (0, .ref (o 0)), (1, .int a1), (2, .int a2), (3, .int a3)]) hx hb dX0_lastingIce_2 hl (by decide) rfl (fun ls hl => ?_)
  refine lv_iload_n hx hb dX0_lastingIce_4 rfl (lv_at hl 3 rfl) ?_
  refine lv_istore (lv' := [(5, .int a2), (4, .int (63 : Int32)), (0, .ref (o 0)), (1, .int a1), (2, .int a2), (3, .int a3)]) hx hb dX0_lastingIce_5 hl (by decide) rfl (fun ls hl => ?_)
  have hx31_1 : ∀ (v4 : Int32) (ls : Array Slot), f_X0_lastingIce_x31_1 v4 = some R → lv_has ls 6 [(4, .int v4)] → Wc_X0_lastingIce l G o o_ice a1 a2 a3 R p e s m below meth c s.heap [] (F0 m 31 ls []) := by
    intro v4 ls hf hl
    refine lv_iload hx hb dX0_lastingIce_31 (lv_at hl 0 rfl) ?_
    have h9 := Option.some.inj hf
    subst h9
    exact ro_iret C rfl dX0_lastingIce_33
  obtain ⟨rL1, hL1, hk1⟩ := bd_s hf
  refine lp_W (P := fun st => ∀ (ls : Array Slot), lv_has ls 6 [(0, .ref (o 0)), (1, .int a1), (3, .int a3), (4, .int st.1), (5, .int st.2)] → Wc_X0_lastingIce l G o o_ice a1 a2 a3 R p e s m below meth c s.heap [] (F0 m 7 ls [])) ?_ FU ((63 : Int32), a2) hL1 ls (lv_sub hl [2, 3, 5, 1, 0] rfl)
  intro ⟨v4, v5⟩ oc1 hf hI hE ls hl
  have hl : lv_has ls 6 [(0, .ref (o 0)), (1, .int a1), (3, .int a3), (4, .int v4), (5, .int v5)] := hl
  have hf : f_X0_lastingIce_b7 o_ice a1 a3 v4 v5 = some oc1 := hf
  refine lv_iload hx hb dX0_lastingIce_7 (lv_at hl 4 rfl) ?_
  refine lv_iload_n hx hb dX0_lastingIce_9 rfl (lv_at hl 2 rfl) ?_
  refine lv_icmp_gt (tgt := 31) hx hb dX0_lastingIce_10 (by decide) (fun c3 => ?_) (fun c3 => ?_)
  · have hf := o_t c3 hf
    cases hf
    have hf : f_X0_lastingIce_x31_1 v4 = some R := by have h9 := hk1; rw [← hE _ rfl] at h9; exact h9
    exact hx31_1 v4 ls hf (lv_sub hl [3] rfl)
  · have hf := o_f c3 hf
    refine lv_iload hx hb dX0_lastingIce_13 (lv_at hl 3 rfl) ?_
    refine lv_aload_n hx hb dX0_lastingIce_15 rfl (lv_at hl 0 rfl) ?_
    refine lv_iload_n hx hb dX0_lastingIce_16 rfl (lv_at hl 1 rfl) ?_
    refine lv_iload hx hb dX0_lastingIce_17 (lv_at hl 4 rfl) ?_
    obtain ⟨q4, r4, hf⟩ := bd_s hf
    refine ro_V (n := 2) (As := [.int a1, .int v5]) (rest := [.int v4]) (c_X0_iceOf l G o o_ice a1 v5 q4 r4) C hK (hP.sub [0, 1] rfl) hl kcode_X0_iceOf kml_X0_22 kim_X0_iceOf ksel_X0_iceOf kini_X0 (by decide +kernel) ⟨⟨rfl, rfl⟩, Nat.le_of_ble_eq_true rfl, Nat.le_of_ble_eq_true rfl⟩ ⟨Nat.zero_le _, Nat.zero_le _⟩ rfl rfl rfl rfl rfl (Nat.le_of_ble_eq_true rfl) dX0_lastingIce_19 rfl ?_
    refine lv_iand hx hb dX0_lastingIce_22 ?_
    refine lv_istore (lv' := [(4, .int (v4 &&& q4)), (0, .ref (o 0)), (1, .int a1), (3, .int a3), (5, .int v5)]) hx hb dX0_lastingIce_23 hl (by decide) rfl (fun ls hl => ?_)
    refine lv_iinc (v := (v5 + (1 : Int32))) (lv' := [(5, .int (v5 + (1 : Int32))), (4, .int (v4 &&& q4)), (0, .ref (o 0)), (1, .int a1), (3, .int a3)]) hx hb dX0_lastingIce_25 hl (k := 4) rfl (by rfl) (by decide) rfl (fun ls hl => ?_)
    refine lv_goto (tgt := 7) hx hb dX0_lastingIce_28 (by decide) ?_
    cases hf
    exact hI _ rfl ls (lv_sub hl [2, 3, 4, 1, 0] rfl)
abbrev Wc_X9_hasRoomFor (l : Launch) (G : TG) (o : Nat → Nat) (o_length : Int32) (a1 : Int32) (R : Int32) (p : Program) (e : Env) (s : State) (m : MethodId) (below : List Frame) (meth : Method) (c : Code) (H : Heap) (locs : List Loc) (g : JFrame) : Prop := W p l e ({ frames := 0, cells := 0, slots := 0, locals := 0 }) s m ([.ref (o 0), .int a1] : List Value).toArray below meth c H locs 0 0 (MQ below (roQ (some (.int R))) ([.ref (o 0), .int a1] : List Value).toArray s 0 0 (fun _ => False)) g
set_option maxHeartbeats 4000000 in
set_option maxRecDepth 100000 in
theorem c_X9_hasRoomFor (l : Launch) (G : TG) (o : Nat → Nat) (o_length : Int32) (a1 : Int32) (R : Int32) (hf : f_X9_hasRoomFor o_length a1 = some R) : RO l yX9_hasRoomFor cX9_hasRoomFor 2 (some .boolean) ({ frames := 0, cells := 0, slots := 0, locals := 0 }) G [.ref (o 0), .int a1] [(oX9 o o_length)] (some (.int R)) := by
  refine RO.mk (by decide +kernel) (Nat.le_of_ble_eq_true rfl) ?_
  intro p e s m below meth c ls C hP hK hl
  have hx := C.1
  have hb := C.2.1
  have hown : s.vm.findClass RX9 = some m.cls := C.2.2.2.2.2.1
  have ht := C.2.2.2.2.2.2
  have hl : lv_has ls 2 [(0, .ref (o 0)), (1, .int a1)] := hl
  show Wc_X9_hasRoomFor l G o o_length a1 R p e s m below meth c s.heap [] (F0 m 0 ls [])
  refine lv_iload_n hx hb dX9_hasRoomFor_0 rfl (lv_at hl 1 rfl) ?_
  refine lv_bipush (v := 48) hx hb dX9_hasRoomFor_1 (by decide) ?_
  refine lv_aload_n hx hb dX9_hasRoomFor_3 rfl (lv_at hl 0 rfl) ?_
  refine va_get (D := G.1) (ci := 9) (v := .int o_length) (C := RX9) (T := TX9) (N := 2) hx hb ht twX9 hown hK.1 hP 0 rfl rfl 1 (by decide) (ht _ kfl_X9_13) (fun _ h9 => h9) rfl dX9_hasRoomFor_4 ?_
  refine lv_isub hx hb dX9_hasRoomFor_7 ?_
  refine lv_icmp_gt (tgt := 15) hx hb dX9_hasRoomFor_8 (by decide) (fun c1 => ?_) (fun c1 => ?_)
  · have hf := o_t c1 hf
    refine lv_iconst (v := 0) hx hb dX9_hasRoomFor_15 (by decide) ?_
    have h9 := Option.some.inj hf
    subst h9
    exact ro_zret C (Or.inl rfl) rfl dX9_hasRoomFor_16
  · have hf := o_f c1 hf
    refine lv_iconst (v := 1) hx hb dX9_hasRoomFor_11 (by decide) ?_
    refine lv_goto (tgt := 16) hx hb dX9_hasRoomFor_12 (by decide) ?_
    have h9 := Option.some.inj hf
    subst h9
    exact ro_zret C (Or.inr rfl) rfl dX9_hasRoomFor_16
abbrev Wc_X9_put (l : Launch) (G : TG) (o : Nat → Nat) (o_signs : Nat → Int32) (o_length : Int32) (a1 : Int32) (a2 : Int64) (R : (Nat → Int32) × Int32) (p : Program) (e : Env) (s : State) (m : MethodId) (below : List Frame) (meth : Method) (c : Code) (A : Nat → Prop) (H : Heap) (locs : List Loc) (g : JFrame) : Prop := W p l e ({ frames := 0, cells := 0, slots := 0, locals := 0 }) s m ([.ref (o 0), .int a1, .long a2] : List Value).toArray below meth c H locs 0 0 (MQ below (rwQ G none [(oX9 o R.2), (wI G (o 1) 48 R.1)] A) ([.ref (o 0), .int a1, .long a2] : List Value).toArray s 0 0 A) g
set_option maxHeartbeats 4000000 in
set_option maxRecDepth 100000 in
theorem c_X9_put (l : Launch) (G : TG) (o : Nat → Nat) (o_signs : Nat → Int32) (o_length : Int32) (a1 : Int32) (a2 : Int64) (R : (Nat → Int32) × Int32) (hf : f_X9_put o_signs o_length a1 a2 = some R) : RW l yX9_put cX9_put 5 none ({ frames := 0, cells := 0, slots := 0, locals := 0 }) G [.ref (o 0), .int a1, .long a2] [(oX9 o o_length), (wI G (o 1) 48 o_signs)] none [(oX9 o R.2), (wI G (o 1) 48 R.1)] := by
  refine RW.mk (by decide +kernel) (Nat.le_of_ble_eq_true rfl) ?_
  intro p e s m below meth c ls A C hP hD hA hz hK hl hS
  have hx := C.1
  have hb := C.2.1
  have hown : s.vm.findClass RX9 = some m.cls := C.2.2.2.2.2.1
  have ht := C.2.2.2.2.2.2
  have hl : lv_has ls 5 [(0, .ref (o 0)), (1, .int a1), (2, .long a2)] := hl
  show Wc_X9_put l G o o_signs o_length a1 a2 R p e s m below meth c A s.heap [] (F0 m 0 ls [])
  obtain ⟨H, eH, hP, hS⟩ : ∃ H, H = s.heap ∧ va_P G.1 vwCl [(oX9 o o_length), (wI G (o 1) 48 o_signs)] H ∧ va_S A s.heap H [] := ⟨_, rfl, hP, hS⟩
  obtain ⟨locs, el, hS⟩ : ∃ locs : List Loc, locs = [] ∧ va_S A s.heap H locs := ⟨_, rfl, hS⟩
  have key : Wc_X9_put l G o o_signs o_length a1 a2 R p e s m below meth c A H locs (F0 m 0 ls []) := by
    refine lv_iload_n hx hb dX9_put_0 rfl (lv_at hl 1 rfl) ?_
    refine lv_iconst (v := 1) hx hb dX9_put_1 (by decide) ?_
    refine lv_isub hx hb dX9_put_2 ?_
    refine lv_istore (lv' := [(4, .int (a1 - (1 : Int32))), (0, .ref (o 0)), (1, .int a1), (2, .long a2)]) hx hb dX9_put_3 hl (by decide) rfl (fun ls hl => ?_)
    have hx56_1 : ∀ (o_signs : Nat → Int32) (o_length : Int32) (H : Heap) (locs : List Loc) (ls : Array Slot), f_X9_put_x56_1 o_signs o_length = some R → va_P G.1 vwCl [(oX9 o o_length), (wI G (o 1) 48 o_signs)] H → va_D A [(oX9 o o_length), (wI G (o 1) 48 o_signs)] → va_S A s.heap H locs → lv_has ls 5 [] → Wc_X9_put l G o o_signs o_length a1 a2 R p e s m below meth c A H locs (F0 m 56 ls []) := by
      intro o_signs o_length H locs ls hf hP hD hS hl
      have h9 := Option.some.inj hf
      subst h9
      exact rw_vret C hP hD hS dX9_put_56
    obtain ⟨rL1, hL1, hk1⟩ := bd_s hf
    refine lp_W (P := fun st => ∀ (H : Heap) (locs : List Loc) (ls : Array Slot), va_P G.1 vwCl [(oX9 o st.2.2), (wI G (o 1) 48 st.2.1)] H → va_D A [(oX9 o st.2.2), (wI G (o 1) 48 st.2.1)] → va_S A s.heap H locs → lv_has ls 5 [(0, .ref (o 0)), (2, .long a2), (4, .int st.1)] → Wc_X9_put l G o o_signs o_length a1 a2 R p e s m below meth c A H locs (F0 m 5 ls [])) ?_ FU ((a1 - (1 : Int32)), o_signs, o_length) hL1 H locs ls hP hD hS (lv_sub hl [1, 3, 0] rfl)
    intro ⟨v4, o_signs, o_length⟩ oc1 hf hI hE H locs ls hP hD hS hl
    have hP : va_P G.1 vwCl [(oX9 o o_length), (wI G (o 1) 48 o_signs)] H := hP
    have hD : va_D A [(oX9 o o_length), (wI G (o 1) 48 o_signs)] := hD
    have hl : lv_has ls 5 [(0, .ref (o 0)), (2, .long a2), (4, .int v4)] := hl
    have hf : f_X9_put_b5 a2 v4 o_signs o_length = some oc1 := hf
    refine lv_iload hx hb dX9_put_5 (lv_at hl 2 rfl) ?_
    refine lv_if_lt (tgt := 56) hx hb dX9_put_7 (by decide) (fun c3 => ?_) (fun c3 => ?_)
    · have hf := o_t c3 hf
      cases hf
      have hf : f_X9_put_x56_1 o_signs o_length = some R := by have h9 := hk1; rw [← hE _ rfl] at h9; exact h9
      exact hx56_1 o_signs o_length H locs ls hf hP hD hS (lv_sub hl [] rfl)
    · have hf := o_f c3 hf
      refine lv_aload_n hx hb dX9_put_10 rfl (lv_at hl 0 rfl) ?_
      refine va_get (D := G.1) (ci := 9) (v := .int o_length) (C := RX9) (T := TX9) (N := 2) hx hb ht twX9 hown hK.1 hP 0 rfl rfl 1 (by decide) (ht _ kfl_X9_13) (fun _ h9 => h9) rfl dX9_put_11 ?_
      refine lv_bipush (v := 48) hx hb dX9_put_14 (by decide) ?_
      refine lv_icmp_ge (tgt := 56) hx hb dX9_put_16 (by decide) (fun c4 => ?_) (fun c4 => ?_)
      · have hf := o_t c4 hf
        cases hf
        have hf : f_X9_put_x56_1 o_signs o_length = some R := by have h9 := hk1; rw [← hE _ rfl] at h9; exact h9
        exact hx56_1 o_signs o_length H locs ls hf hP hD hS (lv_sub hl [] rfl)
      · have hf := o_f c4 hf
        refine lv_aload_n hx hb dX9_put_19 rfl (lv_at hl 0 rfl) ?_
        refine va_get (D := G.1) (ci := 9) (v := .ref (o 1)) (C := RX9) (T := TX9) (N := 2) hx hb ht twX9 hown hK.1 hP 0 rfl rfl 0 (by decide) (ht _ kfl_X9_9) (fun _ h9 => h9) rfl dX9_put_20 ?_
        refine lv_aload_n hx hb dX9_put_23 rfl (lv_at hl 0 rfl) ?_
        refine va_get (D := G.1) (ci := 9) (v := .int o_length) (C := RX9) (T := TX9) (N := 2) hx hb ht twX9 hown hK.1 hP 0 rfl rfl 1 (by decide) (ht _ kfl_X9_13) (fun _ h9 => h9) rfl dX9_put_24 ?_
        refine lv_lload_n hx hb dX9_put_27 rfl (lv_at hl 1 rfl) ?_
        refine lv_bipush (v := 8) hx hb dX9_put_28 (by decide) ?_
        refine lv_iload hx hb dX9_put_30 (lv_at hl 2 rfl) ?_
        refine lv_imul hx hb dX9_put_32 ?_
        refine lv_lushr (v := ((a2.toUInt64 >>> (((8 : Int32) * v4).toInt64.toUInt64 &&& Int64.toUInt64 63)).toInt64)) hx hb dX9_put_33 rfl ?_
        refine lv_l2i (v := (((a2.toUInt64 >>> (((8 : Int32) * v4).toInt64.toUInt64 &&& Int64.toUInt64 63)).toInt64).toInt32)) hx hb dX9_put_34 rfl ?_
        refine lv_sipush (v := 255) hx hb dX9_put_35 (by decide) ?_
        refine lv_iand hx hb dX9_put_38 ?_
        obtain ⟨g5, hf⟩ := gd_s hf
        refine va_iast hx hb hK.1 hP hD hS 1 0 rfl rfl g5 dX9_put_39 (fun H locs hP hD hS => ?_)
        have hP : va_P G.1 vwCl [(oX9 o o_length), (wI G (o 1) 48 (upd o_signs o_length.toNatClampNeg ((((a2.toUInt64 >>> (((8 : Int32) * v4).toInt64.toUInt64 &&& Int64.toUInt64 63)).toInt64).toInt32) &&& (255 : Int32))))] H := hP
        have hD : va_D A [(oX9 o o_length), (wI G (o 1) 48 (upd o_signs o_length.toNatClampNeg ((((a2.toUInt64 >>> (((8 : Int32) * v4).toInt64.toUInt64 &&& Int64.toUInt64 63)).toInt64).toInt32) &&& (255 : Int32))))] := hD
        refine lv_aload_n hx hb dX9_put_40 rfl (lv_at hl 0 rfl) ?_
        refine lv_dup hx hb dX9_put_41 rfl ?_
        refine va_get (D := G.1) (ci := 9) (v := .int o_length) (C := RX9) (T := TX9) (N := 2) hx hb ht twX9 hown hK.1 hP 0 rfl rfl 1 (by decide) (ht _ kfl_X9_13) (fun _ h9 => h9) rfl dX9_put_42 ?_
        refine lv_iconst (v := 1) hx hb dX9_put_45 (by decide) ?_
        refine lv_iadd hx hb dX9_put_46 ?_
        refine va_put (D := G.1) (ci := 9) (v := .int (o_length + (1 : Int32))) (ty := .int) (C := RX9) (T := TX9) (N := 2) hx hb ht twX9 tyX9 tyX9_ok nmX9 hown hK.1 hP hD hS 0 rfl rfl 1 (by decide) (ht _ kfl_X9_13) (fun _ h9 => h9) rfl (by decide +kernel) rfl rfl (Nat.le_of_ble_eq_true rfl) dX9_put_47 (fun H locs hP hD hS => ?_)
        have hP : va_P G.1 vwCl [(oX9 o (o_length + (1 : Int32))), (wI G (o 1) 48 (upd o_signs o_length.toNatClampNeg ((((a2.toUInt64 >>> (((8 : Int32) * v4).toInt64.toUInt64 &&& Int64.toUInt64 63)).toInt64).toInt32) &&& (255 : Int32))))] H := hP
        have hD : va_D A [(oX9 o (o_length + (1 : Int32))), (wI G (o 1) 48 (upd o_signs o_length.toNatClampNeg ((((a2.toUInt64 >>> (((8 : Int32) * v4).toInt64.toUInt64 &&& Int64.toUInt64 63)).toInt64).toInt32) &&& (255 : Int32))))] := hD
        refine lv_iinc (v := (v4 + (-1 : Int32))) (lv' := [(4, .int (v4 + (-1 : Int32))), (0, .ref (o 0)), (2, .long a2)]) hx hb dX9_put_50 hl (k := 2) rfl (by rfl) (by decide) rfl (fun ls hl => ?_)
        refine lv_goto (tgt := 5) hx hb dX9_put_53 (by decide) ?_
        cases hf
        exact hI _ rfl H locs ls hP hD hS (lv_sub hl [1, 2, 0] rfl)
  rw [eH, el] at key
  exact key
end
