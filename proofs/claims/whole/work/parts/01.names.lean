-- ===== PART A: goes FIRST, ahead of the names: the tables' words, and 'selects' of the private methods out of them =====
/-- a private method of a class that the tables say can be made, by its rows of tables_1 -/
def lw_okq (q : MethodName × Nat) : Prop := (q.1.cls ≠ "java/lang/invoke/MethodHandle" ∧ q.1.cls ≠ "java/lang/invoke/VarHandle") ∧ Cond.instantiable q.1.cls q.2 ∈ tables_1 ∧ Cond.privateMethod q.1 ∈ tables_1 ∧ Cond.instanceMethod q.1 ∈ tables_1
theorem lw_p0 : lw_okq (⟨"StoneRound$Pad", "signAt", "(I)I"⟩, 4) := ⟨⟨by decide +kernel, by decide +kernel⟩, List.mem_of_getElem? (i := 183) (by decide +kernel), List.mem_of_getElem? (i := 399) (by decide +kernel), List.mem_of_getElem? (i := 400) (by decide +kernel)⟩
theorem lw_p1 : lw_okq (⟨"StoneRound", "tryDay", "()Z"⟩, 10) := ⟨⟨by decide +kernel, by decide +kernel⟩, List.mem_of_getElem? (i := 17) (by decide +kernel), List.mem_of_getElem? (i := 414) (by decide +kernel), List.mem_of_getElem? (i := 415) (by decide +kernel)⟩
theorem lw_p2 : lw_okq (⟨"StoneRound$Pad", "playEvent", "(LStoneRound$World;I)I"⟩, 4) := ⟨⟨by decide +kernel, by decide +kernel⟩, List.mem_of_getElem? (i := 183) (by decide +kernel), List.mem_of_getElem? (i := 434) (by decide +kernel), List.mem_of_getElem? (i := 435) (by decide +kernel)⟩
theorem lw_p3 : lw_okq (⟨"StoneRound$World", "endInHedgesAndHands", "()I"⟩, 10) := ⟨⟨by decide +kernel, by decide +kernel⟩, List.mem_of_getElem? (i := 31) (by decide +kernel), List.mem_of_getElem? (i := 455) (by decide +kernel), List.mem_of_getElem? (i := 456) (by decide +kernel)⟩
theorem lw_p4 : lw_okq (⟨"StoneRound$World", "fallDown", "()V"⟩, 10) := ⟨⟨by decide +kernel, by decide +kernel⟩, List.mem_of_getElem? (i := 31) (by decide +kernel), List.mem_of_getElem? (i := 470) (by decide +kernel), List.mem_of_getElem? (i := 471) (by decide +kernel)⟩
theorem lw_p5 : lw_okq (⟨"StoneRound$Pad", "eventLength", "(I)I"⟩, 4) := ⟨⟨by decide +kernel, by decide +kernel⟩, List.mem_of_getElem? (i := 183) (by decide +kernel), List.mem_of_getElem? (i := 500) (by decide +kernel), List.mem_of_getElem? (i := 501) (by decide +kernel)⟩
theorem lw_p6 : lw_okq (⟨"StoneRound$Aims", "noteThrow", "(IIII)V"⟩, 5) := ⟨⟨by decide +kernel, by decide +kernel⟩, List.mem_of_getElem? (i := 257) (by decide +kernel), List.mem_of_getElem? (i := 573) (by decide +kernel), List.mem_of_getElem? (i := 574) (by decide +kernel)⟩
theorem lw_p7 : lw_okq (⟨"StoneRound$Aims", "noteHedges", "(LStoneRound$Flight;)V"⟩, 5) := ⟨⟨by decide +kernel, by decide +kernel⟩, List.mem_of_getElem? (i := 257) (by decide +kernel), List.mem_of_getElem? (i := 578) (by decide +kernel), List.mem_of_getElem? (i := 579) (by decide +kernel)⟩
theorem lw_p8 : lw_okq (⟨"StoneRound", "comesRound", "(II)Z"⟩, 10) := ⟨⟨by decide +kernel, by decide +kernel⟩, List.mem_of_getElem? (i := 17) (by decide +kernel), List.mem_of_getElem? (i := 596) (by decide +kernel), List.mem_of_getElem? (i := 597) (by decide +kernel)⟩
theorem lw_p9 : lw_okq (⟨"StoneRound", "goesTo", "(IIIII)Z"⟩, 10) := ⟨⟨by decide +kernel, by decide +kernel⟩, List.mem_of_getElem? (i := 17) (by decide +kernel), List.mem_of_getElem? (i := 600) (by decide +kernel), List.mem_of_getElem? (i := 601) (by decide +kernel)⟩
theorem lw_p10 : lw_okq (⟨"StoneRound", "offerStone", "(II)V"⟩, 10) := ⟨⟨by decide +kernel, by decide +kernel⟩, List.mem_of_getElem? (i := 17) (by decide +kernel), List.mem_of_getElem? (i := 622) (by decide +kernel), List.mem_of_getElem? (i := 623) (by decide +kernel)⟩
theorem lw_p11 : lw_okq (⟨"StoneRound$Meetings", "noteMeetings", "(LStoneRound$Throws;LStoneRound$Scene;)V"⟩, 4) := ⟨⟨by decide +kernel, by decide +kernel⟩, List.mem_of_getElem? (i := 281) (by decide +kernel), List.mem_of_getElem? (i := 684) (by decide +kernel), List.mem_of_getElem? (i := 685) (by decide +kernel)⟩
theorem lw_p12 : lw_okq (⟨"StoneRound$Meetings", "keepsApart", "(I)Z"⟩, 4) := ⟨⟨by decide +kernel, by decide +kernel⟩, List.mem_of_getElem? (i := 281) (by decide +kernel), List.mem_of_getElem? (i := 691) (by decide +kernel), List.mem_of_getElem? (i := 692) (by decide +kernel)⟩
theorem lw_p13 : lw_okq (⟨"StoneRound$Meetings", "markRow", "(IIII)V"⟩, 4) := ⟨⟨by decide +kernel, by decide +kernel⟩, List.mem_of_getElem? (i := 281) (by decide +kernel), List.mem_of_getElem? (i := 707) (by decide +kernel), List.mem_of_getElem? (i := 708) (by decide +kernel)⟩
theorem lw_p14 : lw_okq (⟨"StoneRound$Meetings", "catchPlaces", "(LStoneRound$Throws;LStoneRound$Scene;I)I"⟩, 4) := ⟨⟨by decide +kernel, by decide +kernel⟩, List.mem_of_getElem? (i := 281) (by decide +kernel), List.mem_of_getElem? (i := 727) (by decide +kernel), List.mem_of_getElem? (i := 728) (by decide +kernel)⟩
theorem lw_p15 : lw_okq (⟨"StoneRound$Meetings", "catchesAll", "(II)Z"⟩, 4) := ⟨⟨by decide +kernel, by decide +kernel⟩, List.mem_of_getElem? (i := 281) (by decide +kernel), List.mem_of_getElem? (i := 732) (by decide +kernel), List.mem_of_getElem? (i := 733) (by decide +kernel)⟩
def lw_privs_1 : List (MethodName × Nat) := [(⟨"StoneRound$Pad", "signAt", "(I)I"⟩, 4), (⟨"StoneRound", "tryDay", "()Z"⟩, 10), (⟨"StoneRound$Pad", "playEvent", "(LStoneRound$World;I)I"⟩, 4), (⟨"StoneRound$World", "endInHedgesAndHands", "()I"⟩, 10), (⟨"StoneRound$World", "fallDown", "()V"⟩, 10), (⟨"StoneRound$Pad", "eventLength", "(I)I"⟩, 4), (⟨"StoneRound$Aims", "noteThrow", "(IIII)V"⟩, 5), (⟨"StoneRound$Aims", "noteHedges", "(LStoneRound$Flight;)V"⟩, 5), (⟨"StoneRound", "comesRound", "(II)Z"⟩, 10), (⟨"StoneRound", "goesTo", "(IIIII)Z"⟩, 10), (⟨"StoneRound", "offerStone", "(II)V"⟩, 10), (⟨"StoneRound$Meetings", "noteMeetings", "(LStoneRound$Throws;LStoneRound$Scene;)V"⟩, 4), (⟨"StoneRound$Meetings", "keepsApart", "(I)Z"⟩, 4), (⟨"StoneRound$Meetings", "markRow", "(IIII)V"⟩, 4), (⟨"StoneRound$Meetings", "catchPlaces", "(LStoneRound$Throws;LStoneRound$Scene;I)I"⟩, 4), (⟨"StoneRound$Meetings", "catchesAll", "(II)Z"⟩, 4)]
theorem lw_r1 : ∀ q ∈ lw_privs_1, lw_okq q := List.forall_mem_cons.mpr ⟨lw_p0, List.forall_mem_cons.mpr ⟨lw_p1, List.forall_mem_cons.mpr ⟨lw_p2, List.forall_mem_cons.mpr ⟨lw_p3, List.forall_mem_cons.mpr ⟨lw_p4, List.forall_mem_cons.mpr ⟨lw_p5, List.forall_mem_cons.mpr ⟨lw_p6, List.forall_mem_cons.mpr ⟨lw_p7, List.forall_mem_cons.mpr ⟨lw_p8, List.forall_mem_cons.mpr ⟨lw_p9, List.forall_mem_cons.mpr ⟨lw_p10, List.forall_mem_cons.mpr ⟨lw_p11, List.forall_mem_cons.mpr ⟨lw_p12, List.forall_mem_cons.mpr ⟨lw_p13, List.forall_mem_cons.mpr ⟨lw_p14, List.forall_mem_cons.mpr ⟨lw_p15, fun _ h => absurd h List.not_mem_nil⟩⟩⟩⟩⟩⟩⟩⟩⟩⟩⟩⟩⟩⟩⟩⟩
theorem lw_p16 : lw_okq (⟨"StoneRound", "fittingThrows", "(I)I"⟩, 10) := ⟨⟨by decide +kernel, by decide +kernel⟩, List.mem_of_getElem? (i := 17) (by decide +kernel), List.mem_of_getElem? (i := 752) (by decide +kernel), List.mem_of_getElem? (i := 753) (by decide +kernel)⟩
theorem lw_p17 : lw_okq (⟨"StoneRound", "fitsSights", "(IIII)Z"⟩, 10) := ⟨⟨by decide +kernel, by decide +kernel⟩, List.mem_of_getElem? (i := 17) (by decide +kernel), List.mem_of_getElem? (i := 761) (by decide +kernel), List.mem_of_getElem? (i := 762) (by decide +kernel)⟩
theorem lw_p18 : lw_okq (⟨"StoneRound", "imageOf", "(I)LStoneRound$Kept;"⟩, 10) := ⟨⟨by decide +kernel, by decide +kernel⟩, List.mem_of_getElem? (i := 17) (by decide +kernel), List.mem_of_getElem? (i := 798) (by decide +kernel), List.mem_of_getElem? (i := 799) (by decide +kernel)⟩
theorem lw_p19 : lw_okq (⟨"StoneRoundModel", "isPlace", "(I)Z"⟩, 35) := ⟨⟨by decide +kernel, by decide +kernel⟩, List.mem_of_getElem? (i := 825) (by decide +kernel), List.mem_of_getElem? (i := 949) (by decide +kernel), List.mem_of_getElem? (i := 950) (by decide +kernel)⟩
theorem lw_p20 : lw_okq (⟨"StoneRoundModel", "isThere", "(I)Z"⟩, 35) := ⟨⟨by decide +kernel, by decide +kernel⟩, List.mem_of_getElem? (i := 825) (by decide +kernel), List.mem_of_getElem? (i := 968) (by decide +kernel), List.mem_of_getElem? (i := 969) (by decide +kernel)⟩
theorem lw_p21 : lw_okq (⟨"StoneRoundModel", "faultOf", "()I"⟩, 35) := ⟨⟨by decide +kernel, by decide +kernel⟩, List.mem_of_getElem? (i := 825) (by decide +kernel), List.mem_of_getElem? (i := 987) (by decide +kernel), List.mem_of_getElem? (i := 988) (by decide +kernel)⟩
theorem lw_p22 : lw_okq (⟨"StoneRoundModel", "goDay", "()I"⟩, 35) := ⟨⟨by decide +kernel, by decide +kernel⟩, List.mem_of_getElem? (i := 825) (by decide +kernel), List.mem_of_getElem? (i := 995) (by decide +kernel), List.mem_of_getElem? (i := 996) (by decide +kernel)⟩
theorem lw_p23 : lw_okq (⟨"StoneRoundModel", "asNow", "()V"⟩, 35) := ⟨⟨by decide +kernel, by decide +kernel⟩, List.mem_of_getElem? (i := 825) (by decide +kernel), List.mem_of_getElem? (i := 999) (by decide +kernel), List.mem_of_getElem? (i := 1000) (by decide +kernel)⟩
theorem lw_p24 : lw_okq (⟨"StoneRoundModel", "pass", "()V"⟩, 35) := ⟨⟨by decide +kernel, by decide +kernel⟩, List.mem_of_getElem? (i := 825) (by decide +kernel), List.mem_of_getElem? (i := 1003) (by decide +kernel), List.mem_of_getElem? (i := 1004) (by decide +kernel)⟩
theorem lw_p25 : lw_okq (⟨"StoneRoundModel", "step", "(II)I"⟩, 35) := ⟨⟨by decide +kernel, by decide +kernel⟩, List.mem_of_getElem? (i := 825) (by decide +kernel), List.mem_of_getElem? (i := 1007) (by decide +kernel), List.mem_of_getElem? (i := 1008) (by decide +kernel)⟩
theorem lw_p26 : lw_okq (⟨"StoneRoundModel", "heightNow", "(I)I"⟩, 35) := ⟨⟨by decide +kernel, by decide +kernel⟩, List.mem_of_getElem? (i := 825) (by decide +kernel), List.mem_of_getElem? (i := 1011) (by decide +kernel), List.mem_of_getElem? (i := 1012) (by decide +kernel)⟩
theorem lw_p27 : lw_okq (⟨"StoneRoundModel", "firstAt", "(I)I"⟩, 35) := ⟨⟨by decide +kernel, by decide +kernel⟩, List.mem_of_getElem? (i := 825) (by decide +kernel), List.mem_of_getElem? (i := 1018) (by decide +kernel), List.mem_of_getElem? (i := 1019) (by decide +kernel)⟩
theorem lw_p28 : lw_okq (⟨"StoneRoundModel", "fall", "()V"⟩, 35) := ⟨⟨by decide +kernel, by decide +kernel⟩, List.mem_of_getElem? (i := 825) (by decide +kernel), List.mem_of_getElem? (i := 1022) (by decide +kernel), List.mem_of_getElem? (i := 1023) (by decide +kernel)⟩
theorem lw_p29 : lw_okq (⟨"StoneRoundModel", "whyNot", "(II)I"⟩, 35) := ⟨⟨by decide +kernel, by decide +kernel⟩, List.mem_of_getElem? (i := 825) (by decide +kernel), List.mem_of_getElem? (i := 1026) (by decide +kernel), List.mem_of_getElem? (i := 1027) (by decide +kernel)⟩
theorem lw_p30 : lw_okq (⟨"StoneRoundModel", "fling", "(IIII)V"⟩, 35) := ⟨⟨by decide +kernel, by decide +kernel⟩, List.mem_of_getElem? (i := 825) (by decide +kernel), List.mem_of_getElem? (i := 1030) (by decide +kernel), List.mem_of_getElem? (i := 1031) (by decide +kernel)⟩
theorem lw_p31 : lw_okq (⟨"StoneRoundModel", "go", "(II)V"⟩, 35) := ⟨⟨by decide +kernel, by decide +kernel⟩, List.mem_of_getElem? (i := 825) (by decide +kernel), List.mem_of_getElem? (i := 1034) (by decide +kernel), List.mem_of_getElem? (i := 1035) (by decide +kernel)⟩
def lw_privs_2 : List (MethodName × Nat) := [(⟨"StoneRound", "fittingThrows", "(I)I"⟩, 10), (⟨"StoneRound", "fitsSights", "(IIII)Z"⟩, 10), (⟨"StoneRound", "imageOf", "(I)LStoneRound$Kept;"⟩, 10), (⟨"StoneRoundModel", "isPlace", "(I)Z"⟩, 35), (⟨"StoneRoundModel", "isThere", "(I)Z"⟩, 35), (⟨"StoneRoundModel", "faultOf", "()I"⟩, 35), (⟨"StoneRoundModel", "goDay", "()I"⟩, 35), (⟨"StoneRoundModel", "asNow", "()V"⟩, 35), (⟨"StoneRoundModel", "pass", "()V"⟩, 35), (⟨"StoneRoundModel", "step", "(II)I"⟩, 35), (⟨"StoneRoundModel", "heightNow", "(I)I"⟩, 35), (⟨"StoneRoundModel", "firstAt", "(I)I"⟩, 35), (⟨"StoneRoundModel", "fall", "()V"⟩, 35), (⟨"StoneRoundModel", "whyNot", "(II)I"⟩, 35), (⟨"StoneRoundModel", "fling", "(IIII)V"⟩, 35), (⟨"StoneRoundModel", "go", "(II)V"⟩, 35)]
theorem lw_r2 : ∀ q ∈ lw_privs_2, lw_okq q := List.forall_mem_cons.mpr ⟨lw_p16, List.forall_mem_cons.mpr ⟨lw_p17, List.forall_mem_cons.mpr ⟨lw_p18, List.forall_mem_cons.mpr ⟨lw_p19, List.forall_mem_cons.mpr ⟨lw_p20, List.forall_mem_cons.mpr ⟨lw_p21, List.forall_mem_cons.mpr ⟨lw_p22, List.forall_mem_cons.mpr ⟨lw_p23, List.forall_mem_cons.mpr ⟨lw_p24, List.forall_mem_cons.mpr ⟨lw_p25, List.forall_mem_cons.mpr ⟨lw_p26, List.forall_mem_cons.mpr ⟨lw_p27, List.forall_mem_cons.mpr ⟨lw_p28, List.forall_mem_cons.mpr ⟨lw_p29, List.forall_mem_cons.mpr ⟨lw_p30, List.forall_mem_cons.mpr ⟨lw_p31, fun _ h => absurd h List.not_mem_nil⟩⟩⟩⟩⟩⟩⟩⟩⟩⟩⟩⟩⟩⟩⟩⟩
theorem lw_p32 : lw_okq (⟨"StoneRoundModel", "barOfDay", "()I"⟩, 35) := ⟨⟨by decide +kernel, by decide +kernel⟩, List.mem_of_getElem? (i := 825) (by decide +kernel), List.mem_of_getElem? (i := 1042) (by decide +kernel), List.mem_of_getElem? (i := 1043) (by decide +kernel)⟩
theorem lw_p33 : lw_okq (⟨"StoneRoundModel", "flyFrom", "(IIII)V"⟩, 35) := ⟨⟨by decide +kernel, by decide +kernel⟩, List.mem_of_getElem? (i := 825) (by decide +kernel), List.mem_of_getElem? (i := 1069) (by decide +kernel), List.mem_of_getElem? (i := 1070) (by decide +kernel)⟩
theorem lw_p34 : lw_okq (⟨"StoneRoundModel", "fly", "(IIIIIII)V"⟩, 35) := ⟨⟨by decide +kernel, by decide +kernel⟩, List.mem_of_getElem? (i := 825) (by decide +kernel), List.mem_of_getElem? (i := 1073) (by decide +kernel), List.mem_of_getElem? (i := 1074) (by decide +kernel)⟩
theorem lw_p35 : lw_okq (⟨"StoneRoundModel", "standsAt", "(I)I"⟩, 35) := ⟨⟨by decide +kernel, by decide +kernel⟩, List.mem_of_getElem? (i := 825) (by decide +kernel), List.mem_of_getElem? (i := 1077) (by decide +kernel), List.mem_of_getElem? (i := 1078) (by decide +kernel)⟩
theorem lw_p36 : lw_okq (⟨"StoneRoundModel", "isCaught", "(IIII)Z"⟩, 35) := ⟨⟨by decide +kernel, by decide +kernel⟩, List.mem_of_getElem? (i := 825) (by decide +kernel), List.mem_of_getElem? (i := 1094) (by decide +kernel), List.mem_of_getElem? (i := 1095) (by decide +kernel)⟩
theorem lw_p37 : lw_okq (⟨"StoneRoundModel", "isListed", "(I)Z"⟩, 35) := ⟨⟨by decide +kernel, by decide +kernel⟩, List.mem_of_getElem? (i := 825) (by decide +kernel), List.mem_of_getElem? (i := 1110) (by decide +kernel), List.mem_of_getElem? (i := 1111) (by decide +kernel)⟩
theorem lw_p38 : lw_okq (⟨"StoneRoundModel", "meetOf", "(II)I"⟩, 35) := ⟨⟨by decide +kernel, by decide +kernel⟩, List.mem_of_getElem? (i := 825) (by decide +kernel), List.mem_of_getElem? (i := 1118) (by decide +kernel), List.mem_of_getElem? (i := 1119) (by decide +kernel)⟩
theorem lw_p39 : lw_okq (⟨"StoneRoundModel", "flyListed", "(II)V"⟩, 35) := ⟨⟨by decide +kernel, by decide +kernel⟩, List.mem_of_getElem? (i := 825) (by decide +kernel), List.mem_of_getElem? (i := 1122) (by decide +kernel), List.mem_of_getElem? (i := 1123) (by decide +kernel)⟩
theorem lw_p40 : lw_okq (⟨"StoneRoundModel", "wasThrown", "(III)Z"⟩, 35) := ⟨⟨by decide +kernel, by decide +kernel⟩, List.mem_of_getElem? (i := 825) (by decide +kernel), List.mem_of_getElem? (i := 1126) (by decide +kernel), List.mem_of_getElem? (i := 1127) (by decide +kernel)⟩
theorem lw_p41 : lw_okq (⟨"StoneRoundModel", "placeBehind", "(II)I"⟩, 35) := ⟨⟨by decide +kernel, by decide +kernel⟩, List.mem_of_getElem? (i := 825) (by decide +kernel), List.mem_of_getElem? (i := 1130) (by decide +kernel), List.mem_of_getElem? (i := 1131) (by decide +kernel)⟩
theorem lw_p42 : lw_okq (⟨"StoneRoundModel", "heightBehind", "(II)I"⟩, 35) := ⟨⟨by decide +kernel, by decide +kernel⟩, List.mem_of_getElem? (i := 825) (by decide +kernel), List.mem_of_getElem? (i := 1134) (by decide +kernel), List.mem_of_getElem? (i := 1135) (by decide +kernel)⟩
theorem lw_p43 : lw_okq (⟨"StoneRoundModel", "goesBy", "(IIII)Z"⟩, 35) := ⟨⟨by decide +kernel, by decide +kernel⟩, List.mem_of_getElem? (i := 825) (by decide +kernel), List.mem_of_getElem? (i := 1162) (by decide +kernel), List.mem_of_getElem? (i := 1163) (by decide +kernel)⟩
def lw_privs_3 : List (MethodName × Nat) := [(⟨"StoneRoundModel", "barOfDay", "()I"⟩, 35), (⟨"StoneRoundModel", "flyFrom", "(IIII)V"⟩, 35), (⟨"StoneRoundModel", "fly", "(IIIIIII)V"⟩, 35), (⟨"StoneRoundModel", "standsAt", "(I)I"⟩, 35), (⟨"StoneRoundModel", "isCaught", "(IIII)Z"⟩, 35), (⟨"StoneRoundModel", "isListed", "(I)Z"⟩, 35), (⟨"StoneRoundModel", "meetOf", "(II)I"⟩, 35), (⟨"StoneRoundModel", "flyListed", "(II)V"⟩, 35), (⟨"StoneRoundModel", "wasThrown", "(III)Z"⟩, 35), (⟨"StoneRoundModel", "placeBehind", "(II)I"⟩, 35), (⟨"StoneRoundModel", "heightBehind", "(II)I"⟩, 35), (⟨"StoneRoundModel", "goesBy", "(IIII)Z"⟩, 35)]
theorem lw_r3 : ∀ q ∈ lw_privs_3, lw_okq q := List.forall_mem_cons.mpr ⟨lw_p32, List.forall_mem_cons.mpr ⟨lw_p33, List.forall_mem_cons.mpr ⟨lw_p34, List.forall_mem_cons.mpr ⟨lw_p35, List.forall_mem_cons.mpr ⟨lw_p36, List.forall_mem_cons.mpr ⟨lw_p37, List.forall_mem_cons.mpr ⟨lw_p38, List.forall_mem_cons.mpr ⟨lw_p39, List.forall_mem_cons.mpr ⟨lw_p40, List.forall_mem_cons.mpr ⟨lw_p41, List.forall_mem_cons.mpr ⟨lw_p42, List.forall_mem_cons.mpr ⟨lw_p43, fun _ h => absurd h List.not_mem_nil⟩⟩⟩⟩⟩⟩⟩⟩⟩⟩⟩⟩
def lw_privs : List (MethodName × Nat) := lw_privs_1 ++ (lw_privs_2 ++ (lw_privs_3))
def lw_tbl : List Cond := k2_sels lw_privs ++ tables_1
theorem lw_privs_ok : ∀ q ∈ lw_privs, lw_okq q := by
  show ∀ q ∈ lw_privs_1 ++ (lw_privs_2 ++ (lw_privs_3)), lw_okq q
  exact List.forall_mem_append.mpr ⟨lw_r1, List.forall_mem_append.mpr ⟨lw_r2, lw_r3⟩⟩
-- ===== end of PART A; then your names; then what follows =====
/-! ===== BEGIN words of one list among another's, by their places ===== -/
theorem goodIn_r {big : List Cond} (ws : List Cond) (ps : List Nat) (hp : ws = ps.filterMap (fun i => big[i]?)) (h : ws.all goodWord = true) : GoodIn big ws := by
  intro w hw
  have h1 := List.all_eq_true.mp h w hw
  rw [hp] at hw
  obtain ⟨i, -, hi⟩ := List.mem_filterMap.mp hw
  have hm : w ∈ big := by first | exact List.mem_of_getElem? hi | exact List.getElem?_mem hi
  exact ⟨hm, good_of_word h1⟩
theorem goodIn_app {big a b : List Cond} (ha : GoodIn big a) (hb : GoodIn big b) : GoodIn big (a ++ b) := fun w h => (List.mem_append.mp h).elim (ha w) (hb w)
theorem goodIn_ca {big a b : List Cond} {c : Cond} (ha : GoodIn big (c :: a)) (hb : GoodIn big b) : GoodIn big (c :: (a ++ b)) := fun w h => (List.mem_cons.mp h).elim (fun e => ha w (List.mem_cons.mpr (Or.inl e))) (fun h => (List.mem_append.mp h).elim (fun h => ha w (List.mem_cons.mpr (Or.inr h))) (hb w))
theorem goodIn_sub {big ws : List Cond} (hm : ∀ w ∈ ws, w ∈ big) (h : ws.all goodWord = true) : GoodIn big ws := fun w hw => ⟨hm w hw, good_of_word (List.all_eq_true.mp h w hw)⟩
/-! ===== END ===== -/

/-! ===== BEGIN printed: names, fields, word lists, decode rows ===== -/
def RX0 : String := "StoneRound$Aims"
def TX0 : u_T := fun k => match k with
  | 0 => ("StoneRound$Aims", "many", "I", false)
  | 1 => ("StoneRound$Aims", "need", "[I", true)
  | 2 => ("StoneRound$Aims", "low", "[I", true)
  | 3 => ("StoneRound$Aims", "soonest", "I", false)
  | _ => ("StoneRound$Aims", "softest", "I", false)
def tyX0 : Nat → FieldType := fun k => match k with
  | 0 => .int
  | 1 => .array .int
  | 2 => .array .int
  | 3 => .int
  | _ => .int
abbrev wsX00 : List Cond := u_ws RX0 TX0 5
theorem nmX0 : ∀ a, a < 5 → ∀ b, b < 5 → a ≠ b → (TX0 a).2.1 ≠ (TX0 b).2.1 := by decide +kernel
theorem tyX0_ok : ∀ k, k < 5 → parseFieldDescriptor (TX0 k).2.2.1 = some (tyX0 k) := by decide +kernel
abbrev cX0_init : ByteArray := prog_2_method_1_code
def yX0_init : MethodName := ⟨RX0, "<init>", "()V"⟩
abbrev cX0_search : ByteArray := prog_2_method_2_code
def yX0_search : MethodName := ⟨RX0, "search", "(LStoneRound$World;LStoneRound$Scene;LStoneRound$Flight;II)V"⟩
abbrev cX0_noteThrow : ByteArray := prog_2_method_3_code
def yX0_noteThrow : MethodName := ⟨RX0, "noteThrow", "(IIII)V"⟩
abbrev cX0_noteHedges : ByteArray := prog_2_method_4_code
def yX0_noteHedges : MethodName := ⟨RX0, "noteHedges", "(LStoneRound$Flight;)V"⟩
abbrev cX0_lowestNeed : ByteArray := prog_2_method_5_code
def yX0_lowestNeed : MethodName := ⟨RX0, "lowestNeed", "(I)I"⟩
abbrev cX0_tellBest : ByteArray := prog_2_method_6_code
def yX0_tellBest : MethodName := ⟨RX0, "tellBest", "(I)I"⟩
abbrev cX0_tellThrow : ByteArray := prog_2_method_7_code
def yX0_tellThrow : MethodName := ⟨RX0, "tellThrow", "(II)I"⟩
def RX1 : String := "StoneRound$Air"
def TX1 : u_T := fun k => match k with
  | 0 => ("StoneRound$Air", "count", "I", false)
  | 1 => ("StoneRound$Air", "place", "[I", true)
  | 2 => ("StoneRound$Air", "way", "[I", true)
  | 3 => ("StoneRound$Air", "reach", "[I", true)
  | 4 => ("StoneRound$Air", "top", "[I", true)
  | 5 => ("StoneRound$Air", "age", "[I", true)
  | _ => ("StoneRound$Air", "high", "[I", true)
def tyX1 : Nat → FieldType := fun k => match k with
  | 0 => .int
  | 1 => .array .int
  | 2 => .array .int
  | 3 => .array .int
  | 4 => .array .int
  | 5 => .array .int
  | _ => .array .int
abbrev wsX10 : List Cond := u_ws RX1 TX1 7
theorem nmX1 : ∀ a, a < 7 → ∀ b, b < 7 → a ≠ b → (TX1 a).2.1 ≠ (TX1 b).2.1 := by decide +kernel
theorem tyX1_ok : ∀ k, k < 7 → parseFieldDescriptor (TX1 k).2.2.1 = some (tyX1 k) := by decide +kernel
abbrev cX1_init : ByteArray := prog_3_method_1_code
def yX1_init : MethodName := ⟨RX1, "<init>", "()V"⟩
abbrev cX1_takeFrom : ByteArray := prog_3_method_2_code
def yX1_takeFrom : MethodName := ⟨RX1, "takeFrom", "(LStoneRound$Air;)V"⟩
abbrev cX1_add : ByteArray := prog_3_method_3_code
def yX1_add : MethodName := ⟨RX1, "add", "(IIII)V"⟩
abbrev cX1_moveOn : ByteArray := prog_3_method_4_code
def yX1_moveOn : MethodName := ⟨RX1, "moveOn", "(I)V"⟩
abbrev cX1_moveStone : ByteArray := prog_3_method_5_code
def yX1_moveStone : MethodName := ⟨RX1, "moveStone", "(II)V"⟩
abbrev cX1_countAt : ByteArray := prog_3_method_6_code
def yX1_countAt : MethodName := ⟨RX1, "countAt", "(I)I"⟩
abbrev cX1_tellStone : ByteArray := prog_3_method_7_code
def yX1_tellStone : MethodName := ⟨RX1, "tellStone", "(I)I"⟩
abbrev cX1_fallingBits : ByteArray := prog_3_method_8_code
def yX1_fallingBits : MethodName := ⟨RX1, "fallingBits", "()I"⟩
def RX2 : String := "StoneRound$Flight"
def TX2 : u_T := fun k => match k with
  | 0 => ("StoneRound$Flight", "ends", "I", false)
  | 1 => ("StoneRound$Flight", "minutes", "I", false)
  | 2 => ("StoneRound$Flight", "by", "I", false)
  | 3 => ("StoneRound$Flight", "spot", "[I", true)
  | _ => ("StoneRound$Flight", "high", "[I", true)
def tyX2 : Nat → FieldType := fun k => match k with
  | 0 => .int
  | 1 => .int
  | 2 => .int
  | 3 => .array .int
  | _ => .array .int
abbrev wsX20 : List Cond := u_ws RX2 TX2 5
theorem nmX2 : ∀ a, a < 5 → ∀ b, b < 5 → a ≠ b → (TX2 a).2.1 ≠ (TX2 b).2.1 := by decide +kernel
theorem tyX2_ok : ∀ k, k < 5 → parseFieldDescriptor (TX2 k).2.2.1 = some (tyX2 k) := by decide +kernel
abbrev cX2_init : ByteArray := prog_4_method_1_code
def yX2_init : MethodName := ⟨RX2, "<init>", "()V"⟩
abbrev cX2_go : ByteArray := prog_4_method_2_code
def yX2_go : MethodName := ⟨RX2, "go", "(LStoneRound$Scene;IIII)V"⟩
abbrev cX2_isCaughtBy : ByteArray := prog_4_method_3_code
def yX2_isCaughtBy : MethodName := ⟨RX2, "isCaughtBy", "(I)Z"⟩
abbrev cX2_isLowAt : ByteArray := prog_4_method_4_code
def yX2_isLowAt : MethodName := ⟨RX2, "isLowAt", "(II)Z"⟩
abbrev cX2_tellEnd : ByteArray := prog_4_method_5_code
def yX2_tellEnd : MethodName := ⟨RX2, "tellEnd", "(I)I"⟩
def RX3 : String := "StoneRound$Kept"
def TX3 : u_T := fun k => match k with
  | 0 => ("StoneRound$Kept", "world", "LStoneRound$World;", true)
  | 1 => ("StoneRound$Kept", "listed", "LStoneRound$Throws;", true)
  | 2 => ("StoneRound$Kept", "sights", "LStoneRound$Sights;", true)
  | _ => ("StoneRound$Kept", "filled", "Z", false)
def tyX3 : Nat → FieldType := fun k => match k with
  | 0 => .object "StoneRound$World"
  | 1 => .object "StoneRound$Throws"
  | 2 => .object "StoneRound$Sights"
  | _ => .boolean
abbrev wsX30 : List Cond := u_ws RX3 TX3 4
theorem nmX3 : ∀ a, a < 4 → ∀ b, b < 4 → a ≠ b → (TX3 a).2.1 ≠ (TX3 b).2.1 := by decide +kernel
theorem tyX3_ok : ∀ k, k < 4 → parseFieldDescriptor (TX3 k).2.2.1 = some (tyX3 k) := by decide +kernel
abbrev cX3_init : ByteArray := prog_5_method_1_code
def yX3_init : MethodName := ⟨RX3, "<init>", "()V"⟩
abbrev cX3_takeFrom : ByteArray := prog_5_method_2_code
def yX3_takeFrom : MethodName := ⟨RX3, "takeFrom", "(LStoneRound$Kept;)V"⟩
def RX4 : String := "StoneRound$Meetings"
def TX4 : u_T := fun k => match k with
  | 0 => ("StoneRound$Meetings", "one", "LStoneRound$Flight;", true)
  | 1 => ("StoneRound$Meetings", "two", "LStoneRound$Flight;", true)
  | 2 => ("StoneRound$Meetings", "sets", "[I", true)
  | _ => ("StoneRound$Meetings", "marks", "[I", true)
def tyX4 : Nat → FieldType := fun k => match k with
  | 0 => .object "StoneRound$Flight"
  | 1 => .object "StoneRound$Flight"
  | 2 => .array .int
  | _ => .array .int
abbrev wsX40 : List Cond := u_ws RX4 TX4 4
theorem nmX4 : ∀ a, a < 4 → ∀ b, b < 4 → a ≠ b → (TX4 a).2.1 ≠ (TX4 b).2.1 := by decide +kernel
theorem tyX4_ok : ∀ k, k < 4 → parseFieldDescriptor (TX4 k).2.2.1 = some (tyX4 k) := by decide +kernel
abbrev cX4_init : ByteArray := prog_6_method_1_code
def yX4_init : MethodName := ⟨RX4, "<init>", "()V"⟩
abbrev cX4_firstMeeting : ByteArray := prog_6_method_2_code
def yX4_firstMeeting : MethodName := ⟨RX4, "firstMeeting", "(LStoneRound$Throws;LStoneRound$Scene;II)I"⟩
abbrev cX4_firstCommon : ByteArray := prog_6_method_3_code
def yX4_firstCommon : MethodName := ⟨RX4, "firstCommon", "(IIII)I"⟩
abbrev cX4_isInRow : ByteArray := prog_6_method_4_code
def yX4_isInRow : MethodName := ⟨RX4, "isInRow", "(III)Z"⟩
abbrev cX4_fewestForbidden : ByteArray := prog_6_method_5_code
def yX4_fewestForbidden : MethodName := ⟨RX4, "fewestForbidden", "(LStoneRound$Throws;LStoneRound$Scene;)I"⟩
abbrev cX4_noteMeetings : ByteArray := prog_6_method_6_code
def yX4_noteMeetings : MethodName := ⟨RX4, "noteMeetings", "(LStoneRound$Throws;LStoneRound$Scene;)V"⟩
abbrev cX4_keepsApart : ByteArray := prog_6_method_7_code
def yX4_keepsApart : MethodName := ⟨RX4, "keepsApart", "(I)Z"⟩
abbrev cX4_markLow : ByteArray := prog_6_method_8_code
def yX4_markLow : MethodName := ⟨RX4, "markLow", "(LStoneRound$Throws;LStoneRound$Scene;II)V"⟩
abbrev cX4_markRow : ByteArray := prog_6_method_9_code
def yX4_markRow : MethodName := ⟨RX4, "markRow", "(IIII)V"⟩
abbrev cX4_countMarks : ByteArray := prog_6_method_10_code
def yX4_countMarks : MethodName := ⟨RX4, "countMarks", "(I)I"⟩
abbrev cX4_firstMark : ByteArray := prog_6_method_11_code
def yX4_firstMark : MethodName := ⟨RX4, "firstMark", "(I)I"⟩
abbrev cX4_fewestHands : ByteArray := prog_6_method_12_code
def yX4_fewestHands : MethodName := ⟨RX4, "fewestHands", "(LStoneRound$Throws;LStoneRound$Scene;)I"⟩
abbrev cX4_catchPlaces : ByteArray := prog_6_method_13_code
def yX4_catchPlaces : MethodName := ⟨RX4, "catchPlaces", "(LStoneRound$Throws;LStoneRound$Scene;I)I"⟩
abbrev cX4_catchesAll : ByteArray := prog_6_method_14_code
def yX4_catchesAll : MethodName := ⟨RX4, "catchesAll", "(II)Z"⟩
def RX5 : String := "StoneRound$Pad"
def TX5 : u_T := fun k => match k with
  | 0 => ("StoneRound$Pad", "count", "I", false)
  | 1 => ("StoneRound$Pad", "events", "I", false)
  | 2 => ("StoneRound$Pad", "why", "I", false)
  | _ => ("StoneRound$Pad", "signs", "[I", true)
def tyX5 : Nat → FieldType := fun k => match k with
  | 0 => .int
  | 1 => .int
  | 2 => .int
  | _ => .array .int
abbrev wsX50 : List Cond := u_ws RX5 TX5 4
theorem nmX5 : ∀ a, a < 4 → ∀ b, b < 4 → a ≠ b → (TX5 a).2.1 ≠ (TX5 b).2.1 := by decide +kernel
theorem tyX5_ok : ∀ k, k < 4 → parseFieldDescriptor (TX5 k).2.2.1 = some (tyX5 k) := by decide +kernel
abbrev cX5_init : ByteArray := prog_7_method_1_code
def yX5_init : MethodName := ⟨RX5, "<init>", "()V"⟩
abbrev cX5_write : ByteArray := prog_7_method_2_code
def yX5_write : MethodName := ⟨RX5, "write", "(I)Z"⟩
abbrev cX5_firstWrong : ByteArray := prog_7_method_3_code
def yX5_firstWrong : MethodName := ⟨RX5, "firstWrong", "()I"⟩
abbrev cX5_nextStage : ByteArray := prog_7_method_4_code
def yX5_nextStage : MethodName := ⟨RX5, "nextStage", "(III)I"⟩
abbrev cX5_number : ByteArray := prog_7_method_5_code
def yX5_number : MethodName := ⟨RX5, "number", "(II)I"⟩
abbrev cX5_signAt : ByteArray := prog_7_method_6_code
def yX5_signAt : MethodName := ⟨RX5, "signAt", "(I)I"⟩
abbrev cX5_play : ByteArray := prog_7_method_7_code
def yX5_play : MethodName := ⟨RX5, "play", "(LStoneRound$World;)Z"⟩
abbrev cX5_eventLength : ByteArray := prog_7_method_8_code
def yX5_eventLength : MethodName := ⟨RX5, "eventLength", "(I)I"⟩
abbrev cX5_playEvent : ByteArray := prog_7_method_9_code
def yX5_playEvent : MethodName := ⟨RX5, "playEvent", "(LStoneRound$World;I)I"⟩
def RX6 : String := "StoneRound$Scene"
def TX6 : u_T := fun k => match k with
  | 0 => ("StoneRound$Scene", "places", "I", false)
  | 1 => ("StoneRound$Scene", "hedges", "[I", true)
  | _ => ("StoneRound$Scene", "catcher", "[I", true)
def tyX6 : Nat → FieldType := fun k => match k with
  | 0 => .int
  | 1 => .array .int
  | _ => .array .int
abbrev wsX60 : List Cond := u_ws RX6 TX6 3
theorem nmX6 : ∀ a, a < 3 → ∀ b, b < 3 → a ≠ b → (TX6 a).2.1 ≠ (TX6 b).2.1 := by decide +kernel
theorem tyX6_ok : ∀ k, k < 3 → parseFieldDescriptor (TX6 k).2.2.1 = some (tyX6 k) := by decide +kernel
abbrev cX6_init : ByteArray := prog_8_method_1_code
def yX6_init : MethodName := ⟨RX6, "<init>", "()V"⟩
abbrev cX6_look : ByteArray := prog_8_method_2_code
def yX6_look : MethodName := ⟨RX6, "look", "(LStoneRound$World;Z)V"⟩
def RX7 : String := "StoneRound$Sights"
def TX7 : u_T := fun k => match k with
  | 0 => ("StoneRound$Sights", "count", "I", false)
  | 1 => ("StoneRound$Sights", "minute", "[I", true)
  | 2 => ("StoneRound$Sights", "place", "[I", true)
  | _ => ("StoneRound$Sights", "high", "[I", true)
def tyX7 : Nat → FieldType := fun k => match k with
  | 0 => .int
  | 1 => .array .int
  | 2 => .array .int
  | _ => .array .int
abbrev wsX70 : List Cond := u_ws RX7 TX7 4
theorem nmX7 : ∀ a, a < 4 → ∀ b, b < 4 → a ≠ b → (TX7 a).2.1 ≠ (TX7 b).2.1 := by decide +kernel
theorem tyX7_ok : ∀ k, k < 4 → parseFieldDescriptor (TX7 k).2.2.1 = some (tyX7 k) := by decide +kernel
abbrev cX7_init : ByteArray := prog_9_method_1_code
def yX7_init : MethodName := ⟨RX7, "<init>", "()V"⟩
abbrev cX7_takeFrom : ByteArray := prog_9_method_2_code
def yX7_takeFrom : MethodName := ⟨RX7, "takeFrom", "(LStoneRound$Sights;)V"⟩
abbrev cX7_note : ByteArray := prog_9_method_3_code
def yX7_note : MethodName := ⟨RX7, "note", "(III)Z"⟩
abbrev cX7_fitHeights : ByteArray := prog_9_method_4_code
def yX7_fitHeights : MethodName := ⟨RX7, "fitHeights", "(II)Z"⟩
abbrev cX7_fit : ByteArray := prog_9_method_5_code
def yX7_fit : MethodName := ⟨RX7, "fit", "(LStoneRound$Flight;)Z"⟩
def RX8 : String := "StoneRound$Throws"
def TX8 : u_T := fun k => match k with
  | 0 => ("StoneRound$Throws", "bits", "I", false)
  | 1 => ("StoneRound$Throws", "at", "[I", true)
  | 2 => ("StoneRound$Throws", "each", "[I", true)
  | 3 => ("StoneRound$Throws", "from", "[I", true)
  | 4 => ("StoneRound$Throws", "way", "[I", true)
  | 5 => ("StoneRound$Throws", "reach", "[I", true)
  | _ => ("StoneRound$Throws", "top", "[I", true)
def tyX8 : Nat → FieldType := fun k => match k with
  | 0 => .int
  | 1 => .array .int
  | 2 => .array .int
  | 3 => .array .int
  | 4 => .array .int
  | 5 => .array .int
  | _ => .array .int
abbrev wsX80 : List Cond := u_ws RX8 TX8 7
theorem nmX8 : ∀ a, a < 7 → ∀ b, b < 7 → a ≠ b → (TX8 a).2.1 ≠ (TX8 b).2.1 := by decide +kernel
theorem tyX8_ok : ∀ k, k < 7 → parseFieldDescriptor (TX8 k).2.2.1 = some (tyX8 k) := by decide +kernel
abbrev cX8_init : ByteArray := prog_10_method_1_code
def yX8_init : MethodName := ⟨RX8, "<init>", "()V"⟩
abbrev cX8_takeFrom : ByteArray := prog_10_method_2_code
def yX8_takeFrom : MethodName := ⟨RX8, "takeFrom", "(LStoneRound$Throws;)V"⟩
abbrev cX8_has : ByteArray := prog_10_method_3_code
def yX8_has : MethodName := ⟨RX8, "has", "(I)Z"⟩
abbrev cX8_setWay : ByteArray := prog_10_method_4_code
def yX8_setWay : MethodName := ⟨RX8, "setWay", "(IIIII)V"⟩
abbrev cX8_setTimes : ByteArray := prog_10_method_5_code
def yX8_setTimes : MethodName := ⟨RX8, "setTimes", "(III)V"⟩
abbrev cX8_fly : ByteArray := prog_10_method_6_code
def yX8_fly : MethodName := ⟨RX8, "fly", "(ILStoneRound$Scene;LStoneRound$Flight;)V"⟩
def RX9 : String := "StoneRound$World"
def TX9 : u_T := fun k => match k with
  | 0 => ("StoneRound$World", "places", "I", false)
  | 1 => ("StoneRound$World", "hedges", "[I", true)
  | 2 => ("StoneRound$World", "ground", "[I", true)
  | 3 => ("StoneRound$World", "lost", "[I", true)
  | 4 => ("StoneRound$World", "there", "I", false)
  | 5 => ("StoneRound$World", "at", "[I", true)
  | 6 => ("StoneRound$World", "arm", "[I", true)
  | 7 => ("StoneRound$World", "held", "[I", true)
  | 8 => ("StoneRound$World", "caught", "[I", true)
  | _ => ("StoneRound$World", "air", "LStoneRound$Air;", true)
def tyX9 : Nat → FieldType := fun k => match k with
  | 0 => .int
  | 1 => .array .int
  | 2 => .array .int
  | 3 => .array .int
  | 4 => .int
  | 5 => .array .int
  | 6 => .array .int
  | 7 => .array .int
  | 8 => .array .int
  | _ => .object "StoneRound$Air"
abbrev wsX90 : List Cond := u_ws RX9 TX9 10
theorem nmX9 : ∀ a, a < 10 → ∀ b, b < 10 → a ≠ b → (TX9 a).2.1 ≠ (TX9 b).2.1 := by decide +kernel
theorem tyX9_ok : ∀ k, k < 10 → parseFieldDescriptor (TX9 k).2.2.1 = some (tyX9 k) := by decide +kernel
abbrev cX9_init : ByteArray := prog_11_method_1_code
def yX9_init : MethodName := ⟨RX9, "<init>", "()V"⟩
abbrev cX9_begin : ByteArray := prog_11_method_2_code
def yX9_begin : MethodName := ⟨RX9, "begin", "(I)V"⟩
abbrev cX9_takeFrom : ByteArray := prog_11_method_3_code
def yX9_takeFrom : MethodName := ⟨RX9, "takeFrom", "(LStoneRound$World;)V"⟩
abbrev cX9_hasPlace : ByteArray := prog_11_method_4_code
def yX9_hasPlace : MethodName := ⟨RX9, "hasPlace", "(I)Z"⟩
abbrev cX9_hasPerson : ByteArray := prog_11_method_5_code
def yX9_hasPerson : MethodName := ⟨RX9, "hasPerson", "(I)Z"⟩
abbrev cX9_put : ByteArray := prog_11_method_6_code
def yX9_put : MethodName := ⟨RX9, "put", "(IIII)V"⟩
abbrev cX9_tellPerson : ByteArray := prog_11_method_7_code
def yX9_tellPerson : MethodName := ⟨RX9, "tellPerson", "(II)I"⟩
abbrev cX9_leastAt : ByteArray := prog_11_method_8_code
def yX9_leastAt : MethodName := ⟨RX9, "leastAt", "(I)I"⟩
abbrev cX9_emptyHands : ByteArray := prog_11_method_9_code
def yX9_emptyHands : MethodName := ⟨RX9, "emptyHands", "()I"⟩
abbrev cX9_distance : ByteArray := prog_11_method_10_code
def yX9_distance : MethodName := ⟨RX9, "distance", "(II)I"⟩
abbrev cX9_lostInAll : ByteArray := prog_11_method_11_code
def yX9_lostInAll : MethodName := ⟨RX9, "lostInAll", "()I"⟩
abbrev cX9_whyNoThrow : ByteArray := prog_11_method_12_code
def yX9_whyNoThrow : MethodName := ⟨RX9, "whyNoThrow", "(II)I"⟩
abbrev cX9_throwStone : ByteArray := prog_11_method_13_code
def yX9_throwStone : MethodName := ⟨RX9, "throwStone", "(IIII)I"⟩
abbrev cX9_pickUp : ByteArray := prog_11_method_14_code
def yX9_pickUp : MethodName := ⟨RX9, "pickUp", "(I)I"⟩
abbrev cX9_walk : ByteArray := prog_11_method_15_code
def yX9_walk : MethodName := ⟨RX9, "walk", "(II)I"⟩
abbrev cX9_drawThrow : ByteArray := prog_11_method_16_code
def yX9_drawThrow : MethodName := ⟨RX9, "drawThrow", "(I)Z"⟩
abbrev cX9_passMinute : ByteArray := prog_11_method_17_code
def yX9_passMinute : MethodName := ⟨RX9, "passMinute", "()I"⟩
abbrev cX9_endInHedgesAndHands : ByteArray := prog_11_method_18_code
def yX9_endInHedgesAndHands : MethodName := ⟨RX9, "endInHedgesAndHands", "()I"⟩
abbrev cX9_fallDown : ByteArray := prog_11_method_19_code
def yX9_fallDown : MethodName := ⟨RX9, "fallDown", "()V"⟩
def RX10 : String := "StoneRound"
def TX10 : u_T := fun k => match k with
  | 0 => ("StoneRound", "now", "LStoneRound$Kept;", true)
  | 1 => ("StoneRound", "firstImage", "LStoneRound$Kept;", true)
  | 2 => ("StoneRound", "secondImage", "LStoneRound$Kept;", true)
  | 3 => ("StoneRound", "trial", "LStoneRound$World;", true)
  | 4 => ("StoneRound", "pad", "LStoneRound$Pad;", true)
  | 5 => ("StoneRound", "scene", "LStoneRound$Scene;", true)
  | 6 => ("StoneRound", "trip", "LStoneRound$Flight;", true)
  | 7 => ("StoneRound", "aims", "LStoneRound$Aims;", true)
  | 8 => ("StoneRound", "meetings", "LStoneRound$Meetings;", true)
  | _ => ("StoneRound", "steps", "[I", true)
def tyX10 : Nat → FieldType := fun k => match k with
  | 0 => .object "StoneRound$Kept"
  | 1 => .object "StoneRound$Kept"
  | 2 => .object "StoneRound$Kept"
  | 3 => .object "StoneRound$World"
  | 4 => .object "StoneRound$Pad"
  | 5 => .object "StoneRound$Scene"
  | 6 => .object "StoneRound$Flight"
  | 7 => .object "StoneRound$Aims"
  | 8 => .object "StoneRound$Meetings"
  | _ => .array .int
abbrev wsX100 : List Cond := u_ws RX10 TX10 10
theorem nmX10 : ∀ a, a < 10 → ∀ b, b < 10 → a ≠ b → (TX10 a).2.1 ≠ (TX10 b).2.1 := by decide +kernel
theorem tyX10_ok : ∀ k, k < 10 → parseFieldDescriptor (TX10 k).2.2.1 = some (tyX10 k) := by decide +kernel
abbrev cX10_init : ByteArray := prog_1_method_1_code
def yX10_init : MethodName := ⟨RX10, "<init>", "()V"⟩
abbrev cX10_places : ByteArray := prog_1_method_2_code
def yX10_places : MethodName := ⟨RX10, "places", "(I)I"⟩
abbrev cX10_hedge : ByteArray := prog_1_method_3_code
def yX10_hedge : MethodName := ⟨RX10, "hedge", "(II)I"⟩
abbrev cX10_lay : ByteArray := prog_1_method_4_code
def yX10_lay : MethodName := ⟨RX10, "lay", "(II)I"⟩
abbrev cX10_person : ByteArray := prog_1_method_5_code
def yX10_person : MethodName := ⟨RX10, "person", "(IIII)I"⟩
abbrev cX10_leave : ByteArray := prog_1_method_6_code
def yX10_leave : MethodName := ⟨RX10, "leave", "(I)I"⟩
abbrev cX10_say : ByteArray := prog_1_method_7_code
def yX10_say : MethodName := ⟨RX10, "say", "(I)I"⟩
abbrev cX10_wipe : ByteArray := prog_1_method_8_code
def yX10_wipe : MethodName := ⟨RX10, "wipe", "()I"⟩
abbrev cX10_fault : ByteArray := prog_1_method_9_code
def yX10_fault : MethodName := ⟨RX10, "fault", "()I"⟩
abbrev cX10_judge : ByteArray := prog_1_method_10_code
def yX10_judge : MethodName := ⟨RX10, "judge", "(I)I"⟩
abbrev cX10_done : ByteArray := prog_1_method_11_code
def yX10_done : MethodName := ⟨RX10, "done", "()I"⟩
abbrev cX10_state : ByteArray := prog_1_method_12_code
def yX10_state : MethodName := ⟨RX10, "state", "(II)I"⟩
abbrev cX10_behind : ByteArray := prog_1_method_13_code
def yX10_behind : MethodName := ⟨RX10, "behind", "(II)I"⟩
abbrev cX10_stones : ByteArray := prog_1_method_14_code
def yX10_stones : MethodName := ⟨RX10, "stones", "(II)I"⟩
abbrev cX10_air : ByteArray := prog_1_method_15_code
def yX10_air : MethodName := ⟨RX10, "air", "(I)I"⟩
abbrev cX10_flight : ByteArray := prog_1_method_16_code
def yX10_flight : MethodName := ⟨RX10, "flight", "(IIIII)I"⟩
abbrev cX10_gets : ByteArray := prog_1_method_17_code
def yX10_gets : MethodName := ⟨RX10, "gets", "(III)I"⟩
abbrev cX10_round : ByteArray := prog_1_method_18_code
def yX10_round : MethodName := ⟨RX10, "round", "(I)I"⟩
abbrev cX10_keptOff : ByteArray := prog_1_method_19_code
def yX10_keptOff : MethodName := ⟨RX10, "keptOff", "(III)I"⟩
abbrev cX10_laid : ByteArray := prog_1_method_20_code
def yX10_laid : MethodName := ⟨RX10, "laid", "()I"⟩
abbrev cX10_list : ByteArray := prog_1_method_21_code
def yX10_list : MethodName := ⟨RX10, "list", "(IIIIIII)I"⟩
abbrev cX10_strike : ByteArray := prog_1_method_22_code
def yX10_strike : MethodName := ⟨RX10, "strike", "(I)I"⟩
abbrev cX10_meet : ByteArray := prog_1_method_23_code
def yX10_meet : MethodName := ⟨RX10, "meet", "(II)I"⟩
abbrev cX10_forbidden : ByteArray := prog_1_method_24_code
def yX10_forbidden : MethodName := ⟨RX10, "forbidden", "(I)I"⟩
abbrev cX10_duck : ByteArray := prog_1_method_25_code
def yX10_duck : MethodName := ⟨RX10, "duck", "(III)I"⟩
abbrev cX10_hands : ByteArray := prog_1_method_26_code
def yX10_hands : MethodName := ⟨RX10, "hands", "(I)I"⟩
abbrev cX10_seen : ByteArray := prog_1_method_27_code
def yX10_seen : MethodName := ⟨RX10, "seen", "(III)I"⟩
abbrev cX10_forget : ByteArray := prog_1_method_28_code
def yX10_forget : MethodName := ⟨RX10, "forget", "()I"⟩
abbrev cX10_who : ByteArray := prog_1_method_29_code
def yX10_who : MethodName := ⟨RX10, "who", "(I)I"⟩
abbrev cX10_slips : ByteArray := prog_1_method_30_code
def yX10_slips : MethodName := ⟨RX10, "slips", "(IIIIIII)J"⟩
abbrev cX10_year : ByteArray := prog_1_method_31_code
def yX10_year : MethodName := ⟨RX10, "year", "(III)I"⟩
abbrev cX10_image : ByteArray := prog_1_method_32_code
def yX10_image : MethodName := ⟨RX10, "image", "(I)I"⟩
abbrev cX10_restore : ByteArray := prog_1_method_33_code
def yX10_restore : MethodName := ⟨RX10, "restore", "(I)I"⟩
abbrev cX10_told : ByteArray := prog_1_method_34_code
def yX10_told : MethodName := ⟨RX10, "told", "(I)I"⟩
abbrev cX10_within : ByteArray := prog_1_method_35_code
def yX10_within : MethodName := ⟨RX10, "within", "(III)Z"⟩
abbrev cX10_isThrow : ByteArray := prog_1_method_36_code
def yX10_isThrow : MethodName := ⟨RX10, "isThrow", "(III)Z"⟩
abbrev cX10_nextPlace : ByteArray := prog_1_method_37_code
def yX10_nextPlace : MethodName := ⟨RX10, "nextPlace", "(III)I"⟩
abbrev cX10_heightBehind : ByteArray := prog_1_method_38_code
def yX10_heightBehind : MethodName := ⟨RX10, "heightBehind", "(III)I"⟩
abbrev cX10_isCatchable : ByteArray := prog_1_method_39_code
def yX10_isCatchable : MethodName := ⟨RX10, "isCatchable", "(I)Z"⟩
abbrev cX10_tryDay : ByteArray := prog_1_method_40_code
def yX10_tryDay : MethodName := ⟨RX10, "tryDay", "()Z"⟩
abbrev cX10_goesTo : ByteArray := prog_1_method_41_code
def yX10_goesTo : MethodName := ⟨RX10, "goesTo", "(IIIII)Z"⟩
abbrev cX10_comesRound : ByteArray := prog_1_method_42_code
def yX10_comesRound : MethodName := ⟨RX10, "comesRound", "(II)Z"⟩
abbrev cX10_offerStone : ByteArray := prog_1_method_43_code
def yX10_offerStone : MethodName := ⟨RX10, "offerStone", "(II)V"⟩
abbrev cX10_fittingThrows : ByteArray := prog_1_method_44_code
def yX10_fittingThrows : MethodName := ⟨RX10, "fittingThrows", "(I)I"⟩
abbrev cX10_fitsSights : ByteArray := prog_1_method_45_code
def yX10_fitsSights : MethodName := ⟨RX10, "fitsSights", "(IIII)Z"⟩
abbrev cX10_sharedWithTen : ByteArray := prog_1_method_46_code
def yX10_sharedWithTen : MethodName := ⟨RX10, "sharedWithTen", "(I)I"⟩
abbrev cX10_imageOf : ByteArray := prog_1_method_47_code
def yX10_imageOf : MethodName := ⟨RX10, "imageOf", "(I)LStoneRound$Kept;"⟩
def RX11 : String := "StoneRoundModel"
def TX11 : u_T := fun k => match k with
  | 0 => ("StoneRoundModel", "places", "I", false)
  | 1 => ("StoneRoundModel", "hedge", "[I", true)
  | 2 => ("StoneRoundModel", "there", "I", false)
  | 3 => ("StoneRoundModel", "arm", "[I", true)
  | 4 => ("StoneRoundModel", "at", "[I", true)
  | 5 => ("StoneRoundModel", "hand", "[I", true)
  | 6 => ("StoneRoundModel", "caught", "[I", true)
  | 7 => ("StoneRoundModel", "lies", "[I", true)
  | 8 => ("StoneRoundModel", "lost", "[I", true)
  | 9 => ("StoneRoundModel", "flying", "I", false)
  | 10 => ("StoneRoundModel", "air", "[I", true)
  | 11 => ("StoneRoundModel", "listed", "I", false)
  | 12 => ("StoneRoundModel", "throwOf", "[I", true)
  | 13 => ("StoneRoundModel", "sights", "I", false)
  | 14 => ("StoneRoundModel", "sight", "[I", true)
  | 15 => ("StoneRoundModel", "signs", "I", false)
  | 16 => ("StoneRoundModel", "pad", "[I", true)
  | 17 => ("StoneRoundModel", "atNow", "[I", true)
  | 18 => ("StoneRoundModel", "handNow", "[I", true)
  | 19 => ("StoneRoundModel", "caughtNow", "[I", true)
  | 20 => ("StoneRoundModel", "liesNow", "[I", true)
  | 21 => ("StoneRoundModel", "lostNow", "[I", true)
  | 22 => ("StoneRoundModel", "flyingNow", "I", false)
  | 23 => ("StoneRoundModel", "airNow", "[I", true)
  | 24 => ("StoneRoundModel", "catches", "I", false)
  | 25 => ("StoneRoundModel", "isGone", "[Z", true)
  | 26 => ("StoneRoundModel", "reason", "I", false)
  | 27 => ("StoneRoundModel", "events", "I", false)
  | 28 => ("StoneRoundModel", "endsHow", "I", false)
  | 29 => ("StoneRoundModel", "endsAfter", "I", false)
  | 30 => ("StoneRoundModel", "endsAt", "I", false)
  | 31 => ("StoneRoundModel", "endsBy", "I", false)
  | 32 => ("StoneRoundModel", "left", "[I", true)
  | 33 => ("StoneRoundModel", "image", "[I", true)
  | _ => ("StoneRoundModel", "isKept", "[Z", true)
def tyX11 : Nat → FieldType := fun k => match k with
  | 0 => .int
  | 1 => .array .int
  | 2 => .int
  | 3 => .array .int
  | 4 => .array .int
  | 5 => .array .int
  | 6 => .array .int
  | 7 => .array .int
  | 8 => .array .int
  | 9 => .int
  | 10 => .array .int
  | 11 => .int
  | 12 => .array .int
  | 13 => .int
  | 14 => .array .int
  | 15 => .int
  | 16 => .array .int
  | 17 => .array .int
  | 18 => .array .int
  | 19 => .array .int
  | 20 => .array .int
  | 21 => .array .int
  | 22 => .int
  | 23 => .array .int
  | 24 => .int
  | 25 => .array .boolean
  | 26 => .int
  | 27 => .int
  | 28 => .int
  | 29 => .int
  | 30 => .int
  | 31 => .int
  | 32 => .array .int
  | 33 => .array .int
  | _ => .array .boolean
abbrev wsX110 : List Cond := u_ws RX11 TX11 35
theorem nmX11 : ∀ a, a < 35 → ∀ b, b < 35 → a ≠ b → (TX11 a).2.1 ≠ (TX11 b).2.1 := by decide +kernel
theorem tyX11_ok : ∀ k, k < 35 → parseFieldDescriptor (TX11 k).2.2.1 = some (tyX11 k) := by decide +kernel
abbrev cX11_init : ByteArray := prog_13_method_1_code
def yX11_init : MethodName := ⟨RX11, "<init>", "()V"⟩
abbrev cX11_in : ByteArray := prog_13_method_2_code
def yX11_in : MethodName := ⟨RX11, "in", "(III)Z"⟩
abbrev cX11_has : ByteArray := prog_13_method_3_code
def yX11_has : MethodName := ⟨RX11, "has", "(II)Z"⟩
abbrev cX11_bits : ByteArray := prog_13_method_4_code
def yX11_bits : MethodName := ⟨RX11, "bits", "(I)I"⟩
abbrev cX11_isPlace : ByteArray := prog_13_method_5_code
def yX11_isPlace : MethodName := ⟨RX11, "isPlace", "(I)Z"⟩
abbrev cX11_isThere : ByteArray := prog_13_method_6_code
def yX11_isThere : MethodName := ⟨RX11, "isThere", "(I)Z"⟩
abbrev cX11_places : ByteArray := prog_13_method_7_code
def yX11_places : MethodName := ⟨RX11, "places", "(I)I"⟩
abbrev cX11_hedge : ByteArray := prog_13_method_8_code
def yX11_hedge : MethodName := ⟨RX11, "hedge", "(II)I"⟩
abbrev cX11_lay : ByteArray := prog_13_method_9_code
def yX11_lay : MethodName := ⟨RX11, "lay", "(II)I"⟩
abbrev cX11_person : ByteArray := prog_13_method_10_code
def yX11_person : MethodName := ⟨RX11, "person", "(IIII)I"⟩
abbrev cX11_leave : ByteArray := prog_13_method_11_code
def yX11_leave : MethodName := ⟨RX11, "leave", "(I)I"⟩
abbrev cX11_say : ByteArray := prog_13_method_12_code
def yX11_say : MethodName := ⟨RX11, "say", "(I)I"⟩
abbrev cX11_wipe : ByteArray := prog_13_method_13_code
def yX11_wipe : MethodName := ⟨RX11, "wipe", "()I"⟩
abbrev cX11_faultOf : ByteArray := prog_13_method_14_code
def yX11_faultOf : MethodName := ⟨RX11, "faultOf", "()I"⟩
abbrev cX11_fault : ByteArray := prog_13_method_15_code
def yX11_fault : MethodName := ⟨RX11, "fault", "()I"⟩
abbrev cX11_asNow : ByteArray := prog_13_method_16_code
def yX11_asNow : MethodName := ⟨RX11, "asNow", "()V"⟩
abbrev cX11_step : ByteArray := prog_13_method_17_code
def yX11_step : MethodName := ⟨RX11, "step", "(II)I"⟩
abbrev cX11_heightOf : ByteArray := prog_13_method_18_code
def yX11_heightOf : MethodName := ⟨RX11, "heightOf", "(III)I"⟩
abbrev cX11_heightNow : ByteArray := prog_13_method_19_code
def yX11_heightNow : MethodName := ⟨RX11, "heightNow", "(I)I"⟩
abbrev cX11_firstAt : ByteArray := prog_13_method_20_code
def yX11_firstAt : MethodName := ⟨RX11, "firstAt", "(I)I"⟩
abbrev cX11_pass : ByteArray := prog_13_method_21_code
def yX11_pass : MethodName := ⟨RX11, "pass", "()V"⟩
abbrev cX11_fall : ByteArray := prog_13_method_22_code
def yX11_fall : MethodName := ⟨RX11, "fall", "()V"⟩
abbrev cX11_whyNot : ByteArray := prog_13_method_23_code
def yX11_whyNot : MethodName := ⟨RX11, "whyNot", "(II)I"⟩
abbrev cX11_fling : ByteArray := prog_13_method_24_code
def yX11_fling : MethodName := ⟨RX11, "fling", "(IIII)V"⟩
abbrev cX11_goDay : ByteArray := prog_13_method_25_code
def yX11_goDay : MethodName := ⟨RX11, "goDay", "()I"⟩
abbrev cX11_go : ByteArray := prog_13_method_26_code
def yX11_go : MethodName := ⟨RX11, "go", "(II)V"⟩
abbrev cX11_judge : ByteArray := prog_13_method_27_code
def yX11_judge : MethodName := ⟨RX11, "judge", "(I)I"⟩
abbrev cX11_barOfDay : ByteArray := prog_13_method_28_code
def yX11_barOfDay : MethodName := ⟨RX11, "barOfDay", "()I"⟩
abbrev cX11_done : ByteArray := prog_13_method_29_code
def yX11_done : MethodName := ⟨RX11, "done", "()I"⟩
abbrev cX11_state : ByteArray := prog_13_method_30_code
def yX11_state : MethodName := ⟨RX11, "state", "(II)I"⟩
abbrev cX11_behind : ByteArray := prog_13_method_31_code
def yX11_behind : MethodName := ⟨RX11, "behind", "(II)I"⟩
abbrev cX11_stones : ByteArray := prog_13_method_32_code
def yX11_stones : MethodName := ⟨RX11, "stones", "(II)I"⟩
abbrev cX11_air : ByteArray := prog_13_method_33_code
def yX11_air : MethodName := ⟨RX11, "air", "(I)I"⟩
abbrev cX11_fly : ByteArray := prog_13_method_34_code
def yX11_fly : MethodName := ⟨RX11, "fly", "(IIIIIII)V"⟩
abbrev cX11_standsAt : ByteArray := prog_13_method_35_code
def yX11_standsAt : MethodName := ⟨RX11, "standsAt", "(I)I"⟩
abbrev cX11_isThrow : ByteArray := prog_13_method_36_code
def yX11_isThrow : MethodName := ⟨RX11, "isThrow", "(III)Z"⟩
abbrev cX11_flyFrom : ByteArray := prog_13_method_37_code
def yX11_flyFrom : MethodName := ⟨RX11, "flyFrom", "(IIII)V"⟩
abbrev cX11_flight : ByteArray := prog_13_method_38_code
def yX11_flight : MethodName := ⟨RX11, "flight", "(IIIII)I"⟩
abbrev cX11_gets : ByteArray := prog_13_method_39_code
def yX11_gets : MethodName := ⟨RX11, "gets", "(III)I"⟩
abbrev cX11_round : ByteArray := prog_13_method_40_code
def yX11_round : MethodName := ⟨RX11, "round", "(I)I"⟩
abbrev cX11_isCaught : ByteArray := prog_13_method_41_code
def yX11_isCaught : MethodName := ⟨RX11, "isCaught", "(IIII)Z"⟩
abbrev cX11_keptOff : ByteArray := prog_13_method_42_code
def yX11_keptOff : MethodName := ⟨RX11, "keptOff", "(III)I"⟩
abbrev cX11_laid : ByteArray := prog_13_method_43_code
def yX11_laid : MethodName := ⟨RX11, "laid", "()I"⟩
abbrev cX11_isListed : ByteArray := prog_13_method_44_code
def yX11_isListed : MethodName := ⟨RX11, "isListed", "(I)Z"⟩
abbrev cX11_list : ByteArray := prog_13_method_45_code
def yX11_list : MethodName := ⟨RX11, "list", "(IIIIIII)I"⟩
abbrev cX11_strike : ByteArray := prog_13_method_46_code
def yX11_strike : MethodName := ⟨RX11, "strike", "(I)I"⟩
abbrev cX11_flyListed : ByteArray := prog_13_method_47_code
def yX11_flyListed : MethodName := ⟨RX11, "flyListed", "(II)V"⟩
abbrev cX11_wasThrown : ByteArray := prog_13_method_48_code
def yX11_wasThrown : MethodName := ⟨RX11, "wasThrown", "(III)Z"⟩
abbrev cX11_placeBehind : ByteArray := prog_13_method_49_code
def yX11_placeBehind : MethodName := ⟨RX11, "placeBehind", "(II)I"⟩
abbrev cX11_heightBehind : ByteArray := prog_13_method_50_code
def yX11_heightBehind : MethodName := ⟨RX11, "heightBehind", "(II)I"⟩
abbrev cX11_meetOf : ByteArray := prog_13_method_51_code
def yX11_meetOf : MethodName := ⟨RX11, "meetOf", "(II)I"⟩
abbrev cX11_meet : ByteArray := prog_13_method_52_code
def yX11_meet : MethodName := ⟨RX11, "meet", "(II)I"⟩
abbrev cX11_forbidden : ByteArray := prog_13_method_53_code
def yX11_forbidden : MethodName := ⟨RX11, "forbidden", "(I)I"⟩
abbrev cX11_duck : ByteArray := prog_13_method_54_code
def yX11_duck : MethodName := ⟨RX11, "duck", "(III)I"⟩
abbrev cX11_hands : ByteArray := prog_13_method_55_code
def yX11_hands : MethodName := ⟨RX11, "hands", "(I)I"⟩
abbrev cX11_seen : ByteArray := prog_13_method_56_code
def yX11_seen : MethodName := ⟨RX11, "seen", "(III)I"⟩
abbrev cX11_forget : ByteArray := prog_13_method_57_code
def yX11_forget : MethodName := ⟨RX11, "forget", "()I"⟩
abbrev cX11_goesBy : ByteArray := prog_13_method_58_code
def yX11_goesBy : MethodName := ⟨RX11, "goesBy", "(IIII)Z"⟩
abbrev cX11_who : ByteArray := prog_13_method_59_code
def yX11_who : MethodName := ⟨RX11, "who", "(I)I"⟩
abbrev cX11_slips : ByteArray := prog_13_method_60_code
def yX11_slips : MethodName := ⟨RX11, "slips", "(IIIIIII)J"⟩
abbrev cX11_year : ByteArray := prog_13_method_61_code
def yX11_year : MethodName := ⟨RX11, "year", "(III)I"⟩
abbrev cX11_image : ByteArray := prog_13_method_62_code
def yX11_image : MethodName := ⟨RX11, "image", "(I)I"⟩
abbrev cX11_restore : ByteArray := prog_13_method_63_code
def yX11_restore : MethodName := ⟨RX11, "restore", "(I)I"⟩
abbrev cX11_told : ByteArray := prog_13_method_64_code
def yX11_told : MethodName := ⟨RX11, "told", "(I)I"⟩
def RJ6 : String := "java/lang/Integer"
def TJ6 : u_T := fun k => match k with
  | _ => ("", "", "", false)
def tyJ6 : Nat → FieldType := fun k => match k with
  | _ => .int
abbrev wsJ60 : List Cond := u_ws RJ6 TJ6 0
theorem nmJ6 : ∀ a, a < 0 → ∀ b, b < 0 → a ≠ b → (TJ6 a).2.1 ≠ (TJ6 b).2.1 := by decide +kernel
theorem tyJ6_ok : ∀ k, k < 0 → parseFieldDescriptor (TJ6 k).2.2.1 = some (tyJ6 k) := by decide +kernel
abbrev cJ6_bitCount_0f7a4 : ByteArray := prog_14_method_49_code
def yJ6_bitCount_0f7a4 : MethodName := ⟨RJ6, "bitCount", "(I)I"⟩
def RJ9 : String := "java/lang/Math"
def TJ9 : u_T := fun k => match k with
  | _ => ("", "", "", false)
def tyJ9 : Nat → FieldType := fun k => match k with
  | _ => .int
abbrev wsJ90 : List Cond := u_ws RJ9 TJ9 0
theorem nmJ9 : ∀ a, a < 0 → ∀ b, b < 0 → a ≠ b → (TJ9 a).2.1 ≠ (TJ9 b).2.1 := by decide +kernel
theorem tyJ9_ok : ∀ k, k < 0 → parseFieldDescriptor (TJ9 k).2.2.1 = some (tyJ9 k) := by decide +kernel
abbrev cJ9_abs_0f7a4 : ByteArray := prog_15_method_59_code
def yJ9_abs_0f7a4 : MethodName := ⟨RJ9, "abs", "(I)I"⟩
abbrev cJ9_max_7cf53 : ByteArray := prog_15_method_65_code
def yJ9_max_7cf53 : MethodName := ⟨RJ9, "max", "(II)I"⟩
abbrev cJ9_min_7cf53 : ByteArray := prog_15_method_69_code
def yJ9_min_7cf53 : MethodName := ⟨RJ9, "min", "(II)I"⟩
def RJ10 : String := "java/lang/System"
def TJ10 : u_T := fun k => match k with
  | _ => ("", "", "", false)
def tyJ10 : Nat → FieldType := fun k => match k with
  | _ => .int
abbrev wsJ100 : List Cond := u_ws RJ10 TJ10 0
theorem nmJ10 : ∀ a, a < 0 → ∀ b, b < 0 → a ≠ b → (TJ10 a).2.1 ≠ (TJ10 b).2.1 := by decide +kernel
theorem tyJ10_ok : ∀ k, k < 0 → parseFieldDescriptor (TJ10 k).2.2.1 = some (tyJ10 k) := by decide +kernel
def RL : String := "StoneRoundLaw"
abbrev cL_law : ByteArray := code
def yL_law : MethodName := ⟨RL, "law", "([I)Z"⟩
abbrev vwCl : List vw_C := [(RX0, TX0, 5), (RX1, TX1, 7), (RX2, TX2, 5), (RX3, TX3, 4), (RX4, TX4, 4), (RX5, TX5, 4), (RX6, TX6, 3), (RX7, TX7, 4), (RX8, TX8, 7), (RX9, TX9, 10), (RX10, TX10, 10), (RX11, TX11, 35)]
