section
-- ===== PART A: goes FIRST, ahead of the names: the tables' words, and 'selects' of the private methods out of them =====
/-- a private method of a class that the tables say can be made, by its rows of tables_1 -/
def lw_okq (q : MethodName × Nat) : Prop := (q.1.cls ≠ "java/lang/invoke/MethodHandle" ∧ q.1.cls ≠ "java/lang/invoke/VarHandle") ∧ Cond.instantiable q.1.cls q.2 ∈ tables_1 ∧ Cond.privateMethod q.1 ∈ tables_1 ∧ Cond.instanceMethod q.1 ∈ tables_1
theorem lw_p0 : lw_okq (⟨"StoneRound$Pad", "signAt", "(I)I"⟩, 4) := ⟨⟨by decide +kernel, by decide +kernel⟩, List.mem_of_getElem? (i := 179) (by decide +kernel), List.mem_of_getElem? (i := 395) (by decide +kernel), List.mem_of_getElem? (i := 396) (by decide +kernel)⟩
theorem lw_p1 : lw_okq (⟨"StoneRound", "tryDay", "()Z"⟩, 10) := ⟨⟨by decide +kernel, by decide +kernel⟩, List.mem_of_getElem? (i := 17) (by decide +kernel), List.mem_of_getElem? (i := 410) (by decide +kernel), List.mem_of_getElem? (i := 411) (by decide +kernel)⟩
theorem lw_p2 : lw_okq (⟨"StoneRound$Pad", "playEvent", "(LStoneRound$World;I)I"⟩, 4) := ⟨⟨by decide +kernel, by decide +kernel⟩, List.mem_of_getElem? (i := 179) (by decide +kernel), List.mem_of_getElem? (i := 430) (by decide +kernel), List.mem_of_getElem? (i := 431) (by decide +kernel)⟩
theorem lw_p3 : lw_okq (⟨"StoneRound$World", "endInHedgesAndHands", "()I"⟩, 10) := ⟨⟨by decide +kernel, by decide +kernel⟩, List.mem_of_getElem? (i := 31) (by decide +kernel), List.mem_of_getElem? (i := 445) (by decide +kernel), List.mem_of_getElem? (i := 446) (by decide +kernel)⟩
theorem lw_p4 : lw_okq (⟨"StoneRound$World", "fallDown", "()V"⟩, 10) := ⟨⟨by decide +kernel, by decide +kernel⟩, List.mem_of_getElem? (i := 31) (by decide +kernel), List.mem_of_getElem? (i := 471) (by decide +kernel), List.mem_of_getElem? (i := 472) (by decide +kernel)⟩
theorem lw_p5 : lw_okq (⟨"StoneRound$Pad", "eventLength", "(I)I"⟩, 4) := ⟨⟨by decide +kernel, by decide +kernel⟩, List.mem_of_getElem? (i := 179) (by decide +kernel), List.mem_of_getElem? (i := 501) (by decide +kernel), List.mem_of_getElem? (i := 502) (by decide +kernel)⟩
theorem lw_p6 : lw_okq (⟨"StoneRound$Aims", "noteThrow", "(IIII)V"⟩, 5) := ⟨⟨by decide +kernel, by decide +kernel⟩, List.mem_of_getElem? (i := 253) (by decide +kernel), List.mem_of_getElem? (i := 574) (by decide +kernel), List.mem_of_getElem? (i := 575) (by decide +kernel)⟩
theorem lw_p7 : lw_okq (⟨"StoneRound$Aims", "noteHedges", "(LStoneRound$Flight;)V"⟩, 5) := ⟨⟨by decide +kernel, by decide +kernel⟩, List.mem_of_getElem? (i := 253) (by decide +kernel), List.mem_of_getElem? (i := 579) (by decide +kernel), List.mem_of_getElem? (i := 580) (by decide +kernel)⟩
theorem lw_p8 : lw_okq (⟨"StoneRound", "comesRound", "(II)Z"⟩, 10) := ⟨⟨by decide +kernel, by decide +kernel⟩, List.mem_of_getElem? (i := 17) (by decide +kernel), List.mem_of_getElem? (i := 598) (by decide +kernel), List.mem_of_getElem? (i := 599) (by decide +kernel)⟩
theorem lw_p9 : lw_okq (⟨"StoneRound", "goesTo", "(IIIII)Z"⟩, 10) := ⟨⟨by decide +kernel, by decide +kernel⟩, List.mem_of_getElem? (i := 17) (by decide +kernel), List.mem_of_getElem? (i := 602) (by decide +kernel), List.mem_of_getElem? (i := 603) (by decide +kernel)⟩
theorem lw_p10 : lw_okq (⟨"StoneRound", "offerStone", "(II)V"⟩, 10) := ⟨⟨by decide +kernel, by decide +kernel⟩, List.mem_of_getElem? (i := 17) (by decide +kernel), List.mem_of_getElem? (i := 624) (by decide +kernel), List.mem_of_getElem? (i := 625) (by decide +kernel)⟩
theorem lw_p11 : lw_okq (⟨"StoneRound$Meetings", "noteMeetings", "(LStoneRound$Throws;LStoneRound$Scene;)V"⟩, 4) := ⟨⟨by decide +kernel, by decide +kernel⟩, List.mem_of_getElem? (i := 277) (by decide +kernel), List.mem_of_getElem? (i := 686) (by decide +kernel), List.mem_of_getElem? (i := 687) (by decide +kernel)⟩
theorem lw_p12 : lw_okq (⟨"StoneRound$Meetings", "keepsApart", "(I)Z"⟩, 4) := ⟨⟨by decide +kernel, by decide +kernel⟩, List.mem_of_getElem? (i := 277) (by decide +kernel), List.mem_of_getElem? (i := 693) (by decide +kernel), List.mem_of_getElem? (i := 694) (by decide +kernel)⟩
theorem lw_p13 : lw_okq (⟨"StoneRound$Meetings", "markRow", "(IIII)V"⟩, 4) := ⟨⟨by decide +kernel, by decide +kernel⟩, List.mem_of_getElem? (i := 277) (by decide +kernel), List.mem_of_getElem? (i := 709) (by decide +kernel), List.mem_of_getElem? (i := 710) (by decide +kernel)⟩
theorem lw_p14 : lw_okq (⟨"StoneRound$Meetings", "catchPlaces", "(LStoneRound$Throws;LStoneRound$Scene;I)I"⟩, 4) := ⟨⟨by decide +kernel, by decide +kernel⟩, List.mem_of_getElem? (i := 277) (by decide +kernel), List.mem_of_getElem? (i := 729) (by decide +kernel), List.mem_of_getElem? (i := 730) (by decide +kernel)⟩
theorem lw_p15 : lw_okq (⟨"StoneRound$Meetings", "catchesAll", "(II)Z"⟩, 4) := ⟨⟨by decide +kernel, by decide +kernel⟩, List.mem_of_getElem? (i := 277) (by decide +kernel), List.mem_of_getElem? (i := 734) (by decide +kernel), List.mem_of_getElem? (i := 735) (by decide +kernel)⟩
def lw_privs_1 : List (MethodName × Nat) := [(⟨"StoneRound$Pad", "signAt", "(I)I"⟩, 4), (⟨"StoneRound", "tryDay", "()Z"⟩, 10), (⟨"StoneRound$Pad", "playEvent", "(LStoneRound$World;I)I"⟩, 4), (⟨"StoneRound$World", "endInHedgesAndHands", "()I"⟩, 10), (⟨"StoneRound$World", "fallDown", "()V"⟩, 10), (⟨"StoneRound$Pad", "eventLength", "(I)I"⟩, 4), (⟨"StoneRound$Aims", "noteThrow", "(IIII)V"⟩, 5), (⟨"StoneRound$Aims", "noteHedges", "(LStoneRound$Flight;)V"⟩, 5), (⟨"StoneRound", "comesRound", "(II)Z"⟩, 10), (⟨"StoneRound", "goesTo", "(IIIII)Z"⟩, 10), (⟨"StoneRound", "offerStone", "(II)V"⟩, 10), (⟨"StoneRound$Meetings", "noteMeetings", "(LStoneRound$Throws;LStoneRound$Scene;)V"⟩, 4), (⟨"StoneRound$Meetings", "keepsApart", "(I)Z"⟩, 4), (⟨"StoneRound$Meetings", "markRow", "(IIII)V"⟩, 4), (⟨"StoneRound$Meetings", "catchPlaces", "(LStoneRound$Throws;LStoneRound$Scene;I)I"⟩, 4), (⟨"StoneRound$Meetings", "catchesAll", "(II)Z"⟩, 4)]
theorem lw_r1 : ∀ q ∈ lw_privs_1, lw_okq q := List.forall_mem_cons.mpr ⟨lw_p0, List.forall_mem_cons.mpr ⟨lw_p1, List.forall_mem_cons.mpr ⟨lw_p2, List.forall_mem_cons.mpr ⟨lw_p3, List.forall_mem_cons.mpr ⟨lw_p4, List.forall_mem_cons.mpr ⟨lw_p5, List.forall_mem_cons.mpr ⟨lw_p6, List.forall_mem_cons.mpr ⟨lw_p7, List.forall_mem_cons.mpr ⟨lw_p8, List.forall_mem_cons.mpr ⟨lw_p9, List.forall_mem_cons.mpr ⟨lw_p10, List.forall_mem_cons.mpr ⟨lw_p11, List.forall_mem_cons.mpr ⟨lw_p12, List.forall_mem_cons.mpr ⟨lw_p13, List.forall_mem_cons.mpr ⟨lw_p14, List.forall_mem_cons.mpr ⟨lw_p15, fun _ h => absurd h List.not_mem_nil⟩⟩⟩⟩⟩⟩⟩⟩⟩⟩⟩⟩⟩⟩⟩⟩
theorem lw_p16 : lw_okq (⟨"StoneRound", "fittingThrows", "(I)I"⟩, 10) := ⟨⟨by decide +kernel, by decide +kernel⟩, List.mem_of_getElem? (i := 17) (by decide +kernel), List.mem_of_getElem? (i := 754) (by decide +kernel), List.mem_of_getElem? (i := 755) (by decide +kernel)⟩
theorem lw_p17 : lw_okq (⟨"StoneRound", "fitsSights", "(IIII)Z"⟩, 10) := ⟨⟨by decide +kernel, by decide +kernel⟩, List.mem_of_getElem? (i := 17) (by decide +kernel), List.mem_of_getElem? (i := 763) (by decide +kernel), List.mem_of_getElem? (i := 764) (by decide +kernel)⟩
theorem lw_p18 : lw_okq (⟨"StoneRound", "imageOf", "(I)LStoneRound$Kept;"⟩, 10) := ⟨⟨by decide +kernel, by decide +kernel⟩, List.mem_of_getElem? (i := 17) (by decide +kernel), List.mem_of_getElem? (i := 800) (by decide +kernel), List.mem_of_getElem? (i := 801) (by decide +kernel)⟩
theorem lw_p19 : lw_okq (⟨"StoneRoundModel", "isPlace", "(I)Z"⟩, 35) := ⟨⟨by decide +kernel, by decide +kernel⟩, List.mem_of_getElem? (i := 827) (by decide +kernel), List.mem_of_getElem? (i := 951) (by decide +kernel), List.mem_of_getElem? (i := 952) (by decide +kernel)⟩
theorem lw_p20 : lw_okq (⟨"StoneRoundModel", "isThere", "(I)Z"⟩, 35) := ⟨⟨by decide +kernel, by decide +kernel⟩, List.mem_of_getElem? (i := 827) (by decide +kernel), List.mem_of_getElem? (i := 970) (by decide +kernel), List.mem_of_getElem? (i := 971) (by decide +kernel)⟩
theorem lw_p21 : lw_okq (⟨"StoneRoundModel", "faultOf", "()I"⟩, 35) := ⟨⟨by decide +kernel, by decide +kernel⟩, List.mem_of_getElem? (i := 827) (by decide +kernel), List.mem_of_getElem? (i := 989) (by decide +kernel), List.mem_of_getElem? (i := 990) (by decide +kernel)⟩
theorem lw_p22 : lw_okq (⟨"StoneRoundModel", "goDay", "()I"⟩, 35) := ⟨⟨by decide +kernel, by decide +kernel⟩, List.mem_of_getElem? (i := 827) (by decide +kernel), List.mem_of_getElem? (i := 997) (by decide +kernel), List.mem_of_getElem? (i := 998) (by decide +kernel)⟩
theorem lw_p23 : lw_okq (⟨"StoneRoundModel", "asNow", "()V"⟩, 35) := ⟨⟨by decide +kernel, by decide +kernel⟩, List.mem_of_getElem? (i := 827) (by decide +kernel), List.mem_of_getElem? (i := 1001) (by decide +kernel), List.mem_of_getElem? (i := 1002) (by decide +kernel)⟩
theorem lw_p24 : lw_okq (⟨"StoneRoundModel", "pass", "()V"⟩, 35) := ⟨⟨by decide +kernel, by decide +kernel⟩, List.mem_of_getElem? (i := 827) (by decide +kernel), List.mem_of_getElem? (i := 1005) (by decide +kernel), List.mem_of_getElem? (i := 1006) (by decide +kernel)⟩
theorem lw_p25 : lw_okq (⟨"StoneRoundModel", "step", "(II)I"⟩, 35) := ⟨⟨by decide +kernel, by decide +kernel⟩, List.mem_of_getElem? (i := 827) (by decide +kernel), List.mem_of_getElem? (i := 1009) (by decide +kernel), List.mem_of_getElem? (i := 1010) (by decide +kernel)⟩
theorem lw_p26 : lw_okq (⟨"StoneRoundModel", "heightNow", "(I)I"⟩, 35) := ⟨⟨by decide +kernel, by decide +kernel⟩, List.mem_of_getElem? (i := 827) (by decide +kernel), List.mem_of_getElem? (i := 1013) (by decide +kernel), List.mem_of_getElem? (i := 1014) (by decide +kernel)⟩
theorem lw_p27 : lw_okq (⟨"StoneRoundModel", "firstAt", "(I)I"⟩, 35) := ⟨⟨by decide +kernel, by decide +kernel⟩, List.mem_of_getElem? (i := 827) (by decide +kernel), List.mem_of_getElem? (i := 1020) (by decide +kernel), List.mem_of_getElem? (i := 1021) (by decide +kernel)⟩
theorem lw_p28 : lw_okq (⟨"StoneRoundModel", "fall", "()V"⟩, 35) := ⟨⟨by decide +kernel, by decide +kernel⟩, List.mem_of_getElem? (i := 827) (by decide +kernel), List.mem_of_getElem? (i := 1024) (by decide +kernel), List.mem_of_getElem? (i := 1025) (by decide +kernel)⟩
theorem lw_p29 : lw_okq (⟨"StoneRoundModel", "whyNot", "(II)I"⟩, 35) := ⟨⟨by decide +kernel, by decide +kernel⟩, List.mem_of_getElem? (i := 827) (by decide +kernel), List.mem_of_getElem? (i := 1028) (by decide +kernel), List.mem_of_getElem? (i := 1029) (by decide +kernel)⟩
theorem lw_p30 : lw_okq (⟨"StoneRoundModel", "fling", "(IIII)V"⟩, 35) := ⟨⟨by decide +kernel, by decide +kernel⟩, List.mem_of_getElem? (i := 827) (by decide +kernel), List.mem_of_getElem? (i := 1032) (by decide +kernel), List.mem_of_getElem? (i := 1033) (by decide +kernel)⟩
theorem lw_p31 : lw_okq (⟨"StoneRoundModel", "go", "(II)V"⟩, 35) := ⟨⟨by decide +kernel, by decide +kernel⟩, List.mem_of_getElem? (i := 827) (by decide +kernel), List.mem_of_getElem? (i := 1036) (by decide +kernel), List.mem_of_getElem? (i := 1037) (by decide +kernel)⟩
def lw_privs_2 : List (MethodName × Nat) := [(⟨"StoneRound", "fittingThrows", "(I)I"⟩, 10), (⟨"StoneRound", "fitsSights", "(IIII)Z"⟩, 10), (⟨"StoneRound", "imageOf", "(I)LStoneRound$Kept;"⟩, 10), (⟨"StoneRoundModel", "isPlace", "(I)Z"⟩, 35), (⟨"StoneRoundModel", "isThere", "(I)Z"⟩, 35), (⟨"StoneRoundModel", "faultOf", "()I"⟩, 35), (⟨"StoneRoundModel", "goDay", "()I"⟩, 35), (⟨"StoneRoundModel", "asNow", "()V"⟩, 35), (⟨"StoneRoundModel", "pass", "()V"⟩, 35), (⟨"StoneRoundModel", "step", "(II)I"⟩, 35), (⟨"StoneRoundModel", "heightNow", "(I)I"⟩, 35), (⟨"StoneRoundModel", "firstAt", "(I)I"⟩, 35), (⟨"StoneRoundModel", "fall", "()V"⟩, 35), (⟨"StoneRoundModel", "whyNot", "(II)I"⟩, 35), (⟨"StoneRoundModel", "fling", "(IIII)V"⟩, 35), (⟨"StoneRoundModel", "go", "(II)V"⟩, 35)]
theorem lw_r2 : ∀ q ∈ lw_privs_2, lw_okq q := List.forall_mem_cons.mpr ⟨lw_p16, List.forall_mem_cons.mpr ⟨lw_p17, List.forall_mem_cons.mpr ⟨lw_p18, List.forall_mem_cons.mpr ⟨lw_p19, List.forall_mem_cons.mpr ⟨lw_p20, List.forall_mem_cons.mpr ⟨lw_p21, List.forall_mem_cons.mpr ⟨lw_p22, List.forall_mem_cons.mpr ⟨lw_p23, List.forall_mem_cons.mpr ⟨lw_p24, List.forall_mem_cons.mpr ⟨lw_p25, List.forall_mem_cons.mpr ⟨lw_p26, List.forall_mem_cons.mpr ⟨lw_p27, List.forall_mem_cons.mpr ⟨lw_p28, List.forall_mem_cons.mpr ⟨lw_p29, List.forall_mem_cons.mpr ⟨lw_p30, List.forall_mem_cons.mpr ⟨lw_p31, fun _ h => absurd h List.not_mem_nil⟩⟩⟩⟩⟩⟩⟩⟩⟩⟩⟩⟩⟩⟩⟩⟩
theorem lw_p32 : lw_okq (⟨"StoneRoundModel", "barOfDay", "()I"⟩, 35) := ⟨⟨by decide +kernel, by decide +kernel⟩, List.mem_of_getElem? (i := 827) (by decide +kernel), List.mem_of_getElem? (i := 1044) (by decide +kernel), List.mem_of_getElem? (i := 1045) (by decide +kernel)⟩
theorem lw_p33 : lw_okq (⟨"StoneRoundModel", "flyFrom", "(IIII)V"⟩, 35) := ⟨⟨by decide +kernel, by decide +kernel⟩, List.mem_of_getElem? (i := 827) (by decide +kernel), List.mem_of_getElem? (i := 1071) (by decide +kernel), List.mem_of_getElem? (i := 1072) (by decide +kernel)⟩
theorem lw_p34 : lw_okq (⟨"StoneRoundModel", "fly", "(IIIIIII)V"⟩, 35) := ⟨⟨by decide +kernel, by decide +kernel⟩, List.mem_of_getElem? (i := 827) (by decide +kernel), List.mem_of_getElem? (i := 1075) (by decide +kernel), List.mem_of_getElem? (i := 1076) (by decide +kernel)⟩
theorem lw_p35 : lw_okq (⟨"StoneRoundModel", "standsAt", "(I)I"⟩, 35) := ⟨⟨by decide +kernel, by decide +kernel⟩, List.mem_of_getElem? (i := 827) (by decide +kernel), List.mem_of_getElem? (i := 1079) (by decide +kernel), List.mem_of_getElem? (i := 1080) (by decide +kernel)⟩
theorem lw_p36 : lw_okq (⟨"StoneRoundModel", "isCaught", "(IIII)Z"⟩, 35) := ⟨⟨by decide +kernel, by decide +kernel⟩, List.mem_of_getElem? (i := 827) (by decide +kernel), List.mem_of_getElem? (i := 1096) (by decide +kernel), List.mem_of_getElem? (i := 1097) (by decide +kernel)⟩
theorem lw_p37 : lw_okq (⟨"StoneRoundModel", "isListed", "(I)Z"⟩, 35) := ⟨⟨by decide +kernel, by decide +kernel⟩, List.mem_of_getElem? (i := 827) (by decide +kernel), List.mem_of_getElem? (i := 1112) (by decide +kernel), List.mem_of_getElem? (i := 1113) (by decide +kernel)⟩
theorem lw_p38 : lw_okq (⟨"StoneRoundModel", "meetOf", "(II)I"⟩, 35) := ⟨⟨by decide +kernel, by decide +kernel⟩, List.mem_of_getElem? (i := 827) (by decide +kernel), List.mem_of_getElem? (i := 1120) (by decide +kernel), List.mem_of_getElem? (i := 1121) (by decide +kernel)⟩
theorem lw_p39 : lw_okq (⟨"StoneRoundModel", "flyListed", "(II)V"⟩, 35) := ⟨⟨by decide +kernel, by decide +kernel⟩, List.mem_of_getElem? (i := 827) (by decide +kernel), List.mem_of_getElem? (i := 1124) (by decide +kernel), List.mem_of_getElem? (i := 1125) (by decide +kernel)⟩
theorem lw_p40 : lw_okq (⟨"StoneRoundModel", "wasThrown", "(III)Z"⟩, 35) := ⟨⟨by decide +kernel, by decide +kernel⟩, List.mem_of_getElem? (i := 827) (by decide +kernel), List.mem_of_getElem? (i := 1128) (by decide +kernel), List.mem_of_getElem? (i := 1129) (by decide +kernel)⟩
theorem lw_p41 : lw_okq (⟨"StoneRoundModel", "placeBehind", "(II)I"⟩, 35) := ⟨⟨by decide +kernel, by decide +kernel⟩, List.mem_of_getElem? (i := 827) (by decide +kernel), List.mem_of_getElem? (i := 1132) (by decide +kernel), List.mem_of_getElem? (i := 1133) (by decide +kernel)⟩
theorem lw_p42 : lw_okq (⟨"StoneRoundModel", "heightBehind", "(II)I"⟩, 35) := ⟨⟨by decide +kernel, by decide +kernel⟩, List.mem_of_getElem? (i := 827) (by decide +kernel), List.mem_of_getElem? (i := 1136) (by decide +kernel), List.mem_of_getElem? (i := 1137) (by decide +kernel)⟩
theorem lw_p43 : lw_okq (⟨"StoneRoundModel", "goesBy", "(IIII)Z"⟩, 35) := ⟨⟨by decide +kernel, by decide +kernel⟩, List.mem_of_getElem? (i := 827) (by decide +kernel), List.mem_of_getElem? (i := 1164) (by decide +kernel), List.mem_of_getElem? (i := 1165) (by decide +kernel)⟩
def lw_privs_3 : List (MethodName × Nat) := [(⟨"StoneRoundModel", "barOfDay", "()I"⟩, 35), (⟨"StoneRoundModel", "flyFrom", "(IIII)V"⟩, 35), (⟨"StoneRoundModel", "fly", "(IIIIIII)V"⟩, 35), (⟨"StoneRoundModel", "standsAt", "(I)I"⟩, 35), (⟨"StoneRoundModel", "isCaught", "(IIII)Z"⟩, 35), (⟨"StoneRoundModel", "isListed", "(I)Z"⟩, 35), (⟨"StoneRoundModel", "meetOf", "(II)I"⟩, 35), (⟨"StoneRoundModel", "flyListed", "(II)V"⟩, 35), (⟨"StoneRoundModel", "wasThrown", "(III)Z"⟩, 35), (⟨"StoneRoundModel", "placeBehind", "(II)I"⟩, 35), (⟨"StoneRoundModel", "heightBehind", "(II)I"⟩, 35), (⟨"StoneRoundModel", "goesBy", "(IIII)Z"⟩, 35)]
theorem lw_r3 : ∀ q ∈ lw_privs_3, lw_okq q := List.forall_mem_cons.mpr ⟨lw_p32, List.forall_mem_cons.mpr ⟨lw_p33, List.forall_mem_cons.mpr ⟨lw_p34, List.forall_mem_cons.mpr ⟨lw_p35, List.forall_mem_cons.mpr ⟨lw_p36, List.forall_mem_cons.mpr ⟨lw_p37, List.forall_mem_cons.mpr ⟨lw_p38, List.forall_mem_cons.mpr ⟨lw_p39, List.forall_mem_cons.mpr ⟨lw_p40, List.forall_mem_cons.mpr ⟨lw_p41, List.forall_mem_cons.mpr ⟨lw_p42, List.forall_mem_cons.mpr ⟨lw_p43, fun _ h => absurd h List.not_mem_nil⟩⟩⟩⟩⟩⟩⟩⟩⟩⟩⟩⟩
def lw_privs : List (MethodName × Nat) := lw_privs_1 ++ (lw_privs_2 ++ (lw_privs_3))
def lw_tbl : List Cond := k2_sels lw_privs ++ tables_1
theorem lw_privs_ok : ∀ q ∈ lw_privs, lw_okq q := by
  show ∀ q ∈ lw_privs_1 ++ (lw_privs_2 ++ (lw_privs_3)), lw_okq q
  exact List.forall_mem_append.mpr ⟨lw_r1, List.forall_mem_append.mpr ⟨lw_r2, lw_r3⟩⟩
-- ===== end of PART A; then your names; then what follows =====
/-! ===== BEGIN words of one list among another's, by their places ===== -/
theorem goodIn_r {big : List Cond} (ws : List Cond) (ps : List Nat) (hp : ws = ps.filterMap (fun i => big[i]?)) (h : ws.all goodWord = true) : GoodIn big ws := by
  intro w hw
  have h1 := List.all_eq_true.mp h w hw
  rw [hp] at hw
  obtain ⟨i, -, hi⟩ := List.mem_filterMap.mp hw
  have hm : w ∈ big := by first | exact List.mem_of_getElem? hi | exact List.getElem?_mem hi
  exact ⟨hm, good_of_word h1⟩
theorem goodIn_app {big a b : List Cond} (ha : GoodIn big a) (hb : GoodIn big b) : GoodIn big (a ++ b) := fun w h => (List.mem_append.mp h).elim (ha w) (hb w)
theorem goodIn_ca {big a b : List Cond} {c : Cond} (ha : GoodIn big (c :: a)) (hb : GoodIn big b) : GoodIn big (c :: (a ++ b)) := fun w h => (List.mem_cons.mp h).elim (fun e => ha w (List.mem_cons.mpr (Or.inl e))) (fun h => (List.mem_append.mp h).elim (fun h => ha w (List.mem_cons.mpr (Or.inr h))) (hb w))
theorem goodIn_sub {big ws : List Cond} (hm : ∀ w ∈ ws, w ∈ big) (h : ws.all goodWord = true) : GoodIn big ws := fun w hw => ⟨hm w hw, good_of_word (List.all_eq_true.mp h w hw)⟩
/-! ===== END ===== -/

/-! ===== BEGIN printed: names, fields, word lists, decode rows ===== -/
def RX0 : String := "StoneRound$Aims"
def TX0 : u_T := fun k => match k with
  | 0 => ("StoneRound$Aims", "many", "I", false)
  | 1 => ("StoneRound$Aims", "need", "[I", true)
  | 2 => ("StoneRound$Aims", "low", "[I", true)
  | 3 => ("StoneRound$Aims", "soonest", "I", false)
  | _ => ("StoneRound$Aims", "softest", "I", false)
def tyX0 : Nat → FieldType := fun k => match k with
  | 0 => .int
  | 1 => .array .int
  | 2 => .array .int
  | 3 => .int
  | _ => .int
abbrev wsX00 : List Cond := u_ws RX0 TX0 5
theorem nmX0 : ∀ a, a < 5 → ∀ b, b < 5 → a ≠ b → (TX0 a).2.1 ≠ (TX0 b).2.1 := by decide +kernel
theorem tyX0_ok : ∀ k, k < 5 → parseFieldDescriptor (TX0 k).2.2.1 = some (tyX0 k) := by decide +kernel
abbrev cX0_init : ByteArray := prog_2_method_1_code
def yX0_init : MethodName := ⟨RX0, "<init>", "()V"⟩
abbrev cX0_search : ByteArray := prog_2_method_2_code
def yX0_search : MethodName := ⟨RX0, "search", "(LStoneRound$World;LStoneRound$Scene;LStoneRound$Flight;II)V"⟩
abbrev cX0_noteThrow : ByteArray := prog_2_method_3_code
def yX0_noteThrow : MethodName := ⟨RX0, "noteThrow", "(IIII)V"⟩
abbrev cX0_noteHedges : ByteArray := prog_2_method_4_code
def yX0_noteHedges : MethodName := ⟨RX0, "noteHedges", "(LStoneRound$Flight;)V"⟩
abbrev cX0_lowestNeed : ByteArray := prog_2_method_5_code
def yX0_lowestNeed : MethodName := ⟨RX0, "lowestNeed", "(I)I"⟩
abbrev cX0_tellBest : ByteArray := prog_2_method_6_code
def yX0_tellBest : MethodName := ⟨RX0, "tellBest", "(I)I"⟩
abbrev cX0_tellThrow : ByteArray := prog_2_method_7_code
def yX0_tellThrow : MethodName := ⟨RX0, "tellThrow", "(II)I"⟩
def RX1 : String := "StoneRound$Air"
def TX1 : u_T := fun k => match k with
  | 0 => ("StoneRound$Air", "count", "I", false)
  | 1 => ("StoneRound$Air", "place", "[I", true)
  | 2 => ("StoneRound$Air", "way", "[I", true)
  | 3 => ("StoneRound$Air", "reach", "[I", true)
  | 4 => ("StoneRound$Air", "top", "[I", true)
  | _ => ("StoneRound$Air", "age", "[I", true)
def tyX1 : Nat → FieldType := fun k => match k with
  | 0 => .int
  | 1 => .array .int
  | 2 => .array .int
  | 3 => .array .int
  | 4 => .array .int
  | _ => .array .int
abbrev wsX10 : List Cond := u_ws RX1 TX1 6
theorem nmX1 : ∀ a, a < 6 → ∀ b, b < 6 → a ≠ b → (TX1 a).2.1 ≠ (TX1 b).2.1 := by decide +kernel
theorem tyX1_ok : ∀ k, k < 6 → parseFieldDescriptor (TX1 k).2.2.1 = some (tyX1 k) := by decide +kernel
abbrev cX1_init : ByteArray := prog_3_method_1_code
def yX1_init : MethodName := ⟨RX1, "<init>", "()V"⟩
abbrev cX1_takeFrom : ByteArray := prog_3_method_2_code
def yX1_takeFrom : MethodName := ⟨RX1, "takeFrom", "(LStoneRound$Air;)V"⟩
abbrev cX1_add : ByteArray := prog_3_method_3_code
def yX1_add : MethodName := ⟨RX1, "add", "(IIII)V"⟩
abbrev cX1_moveOn : ByteArray := prog_3_method_4_code
def yX1_moveOn : MethodName := ⟨RX1, "moveOn", "(I)V"⟩
abbrev cX1_moveStone : ByteArray := prog_3_method_5_code
def yX1_moveStone : MethodName := ⟨RX1, "moveStone", "(II)V"⟩
abbrev cX1_height : ByteArray := prog_3_method_6_code
def yX1_height : MethodName := ⟨RX1, "height", "(I)I"⟩
abbrev cX1_countAt : ByteArray := prog_3_method_7_code
def yX1_countAt : MethodName := ⟨RX1, "countAt", "(I)I"⟩
abbrev cX1_tellStone : ByteArray := prog_3_method_8_code
def yX1_tellStone : MethodName := ⟨RX1, "tellStone", "(I)I"⟩
abbrev cX1_fallingBits : ByteArray := prog_3_method_9_code
def yX1_fallingBits : MethodName := ⟨RX1, "fallingBits", "()I"⟩
def RX2 : String := "StoneRound$Flight"
def TX2 : u_T := fun k => match k with
  | 0 => ("StoneRound$Flight", "ends", "I", false)
  | 1 => ("StoneRound$Flight", "minutes", "I", false)
  | 2 => ("StoneRound$Flight", "by", "I", false)
  | 3 => ("StoneRound$Flight", "spot", "[I", true)
  | _ => ("StoneRound$Flight", "high", "[I", true)
def tyX2 : Nat → FieldType := fun k => match k with
  | 0 => .int
  | 1 => .int
  | 2 => .int
  | 3 => .array .int
  | _ => .array .int
abbrev wsX20 : List Cond := u_ws RX2 TX2 5
theorem nmX2 : ∀ a, a < 5 → ∀ b, b < 5 → a ≠ b → (TX2 a).2.1 ≠ (TX2 b).2.1 := by decide +kernel
theorem tyX2_ok : ∀ k, k < 5 → parseFieldDescriptor (TX2 k).2.2.1 = some (tyX2 k) := by decide +kernel
abbrev cX2_init : ByteArray := prog_4_method_1_code
def yX2_init : MethodName := ⟨RX2, "<init>", "()V"⟩
abbrev cX2_go : ByteArray := prog_4_method_2_code
def yX2_go : MethodName := ⟨RX2, "go", "(LStoneRound$Scene;IIII)V"⟩
abbrev cX2_isCaughtBy : ByteArray := prog_4_method_3_code
def yX2_isCaughtBy : MethodName := ⟨RX2, "isCaughtBy", "(I)Z"⟩
abbrev cX2_isLowAt : ByteArray := prog_4_method_4_code
def yX2_isLowAt : MethodName := ⟨RX2, "isLowAt", "(II)Z"⟩
abbrev cX2_tellEnd : ByteArray := prog_4_method_5_code
def yX2_tellEnd : MethodName := ⟨RX2, "tellEnd", "(I)I"⟩
def RX3 : String := "StoneRound$Kept"
def TX3 : u_T := fun k => match k with
  | 0 => ("StoneRound$Kept", "world", "LStoneRound$World;", true)
  | 1 => ("StoneRound$Kept", "listed", "LStoneRound$Throws;", true)
  | 2 => ("StoneRound$Kept", "sights", "LStoneRound$Sights;", true)
  | _ => ("StoneRound$Kept", "filled", "Z", false)
def tyX3 : Nat → FieldType := fun k => match k with
  | 0 => .object "StoneRound$World"
  | 1 => .object "StoneRound$Throws"
  | 2 => .object "StoneRound$Sights"
  | _ => .boolean
abbrev wsX30 : List Cond := u_ws RX3 TX3 4
theorem nmX3 : ∀ a, a < 4 → ∀ b, b < 4 → a ≠ b → (TX3 a).2.1 ≠ (TX3 b).2.1 := by decide +kernel
theorem tyX3_ok : ∀ k, k < 4 → parseFieldDescriptor (TX3 k).2.2.1 = some (tyX3 k) := by decide +kernel
abbrev cX3_init : ByteArray := prog_5_method_1_code
def yX3_init : MethodName := ⟨RX3, "<init>", "()V"⟩
abbrev cX3_takeFrom : ByteArray := prog_5_method_2_code
def yX3_takeFrom : MethodName := ⟨RX3, "takeFrom", "(LStoneRound$Kept;)V"⟩
def RX4 : String := "StoneRound$Meetings"
def TX4 : u_T := fun k => match k with
  | 0 => ("StoneRound$Meetings", "one", "LStoneRound$Flight;", true)
  | 1 => ("StoneRound$Meetings", "two", "LStoneRound$Flight;", true)
  | 2 => ("StoneRound$Meetings", "sets", "[I", true)
  | _ => ("StoneRound$Meetings", "marks", "[I", true)
def tyX4 : Nat → FieldType := fun k => match k with
  | 0 => .object "StoneRound$Flight"
  | 1 => .object "StoneRound$Flight"
  | 2 => .array .int
  | _ => .array .int
abbrev wsX40 : List Cond := u_ws RX4 TX4 4
theorem nmX4 : ∀ a, a < 4 → ∀ b, b < 4 → a ≠ b → (TX4 a).2.1 ≠ (TX4 b).2.1 := by decide +kernel
theorem tyX4_ok : ∀ k, k < 4 → parseFieldDescriptor (TX4 k).2.2.1 = some (tyX4 k) := by decide +kernel
abbrev cX4_init : ByteArray := prog_6_method_1_code
def yX4_init : MethodName := ⟨RX4, "<init>", "()V"⟩
abbrev cX4_firstMeeting : ByteArray := prog_6_method_2_code
def yX4_firstMeeting : MethodName := ⟨RX4, "firstMeeting", "(LStoneRound$Throws;LStoneRound$Scene;II)I"⟩
abbrev cX4_firstCommon : ByteArray := prog_6_method_3_code
def yX4_firstCommon : MethodName := ⟨RX4, "firstCommon", "(IIII)I"⟩
abbrev cX4_isInRow : ByteArray := prog_6_method_4_code
def yX4_isInRow : MethodName := ⟨RX4, "isInRow", "(III)Z"⟩
abbrev cX4_fewestForbidden : ByteArray := prog_6_method_5_code
def yX4_fewestForbidden : MethodName := ⟨RX4, "fewestForbidden", "(LStoneRound$Throws;LStoneRound$Scene;)I"⟩
abbrev cX4_noteMeetings : ByteArray := prog_6_method_6_code
def yX4_noteMeetings : MethodName := ⟨RX4, "noteMeetings", "(LStoneRound$Throws;LStoneRound$Scene;)V"⟩
abbrev cX4_keepsApart : ByteArray := prog_6_method_7_code
def yX4_keepsApart : MethodName := ⟨RX4, "keepsApart", "(I)Z"⟩
abbrev cX4_markLow : ByteArray := prog_6_method_8_code
def yX4_markLow : MethodName := ⟨RX4, "markLow", "(LStoneRound$Throws;LStoneRound$Scene;II)V"⟩
abbrev cX4_markRow : ByteArray := prog_6_method_9_code
def yX4_markRow : MethodName := ⟨RX4, "markRow", "(IIII)V"⟩
abbrev cX4_countMarks : ByteArray := prog_6_method_10_code
def yX4_countMarks : MethodName := ⟨RX4, "countMarks", "(I)I"⟩
abbrev cX4_firstMark : ByteArray := prog_6_method_11_code
def yX4_firstMark : MethodName := ⟨RX4, "firstMark", "(I)I"⟩
abbrev cX4_fewestHands : ByteArray := prog_6_method_12_code
def yX4_fewestHands : MethodName := ⟨RX4, "fewestHands", "(LStoneRound$Throws;LStoneRound$Scene;)I"⟩
abbrev cX4_catchPlaces : ByteArray := prog_6_method_13_code
def yX4_catchPlaces : MethodName := ⟨RX4, "catchPlaces", "(LStoneRound$Throws;LStoneRound$Scene;I)I"⟩
abbrev cX4_catchesAll : ByteArray := prog_6_method_14_code
def yX4_catchesAll : MethodName := ⟨RX4, "catchesAll", "(II)Z"⟩
def RX5 : String := "StoneRound$Pad"
def TX5 : u_T := fun k => match k with
  | 0 => ("StoneRound$Pad", "count", "I", false)
  | 1 => ("StoneRound$Pad", "events", "I", false)
  | 2 => ("StoneRound$Pad", "why", "I", false)
  | _ => ("StoneRound$Pad", "signs", "[I", true)
def tyX5 : Nat → FieldType := fun k => match k with
  | 0 => .int
  | 1 => .int
  | 2 => .int
  | _ => .array .int
abbrev wsX50 : List Cond := u_ws RX5 TX5 4
theorem nmX5 : ∀ a, a < 4 → ∀ b, b < 4 → a ≠ b → (TX5 a).2.1 ≠ (TX5 b).2.1 := by decide +kernel
theorem tyX5_ok : ∀ k, k < 4 → parseFieldDescriptor (TX5 k).2.2.1 = some (tyX5 k) := by decide +kernel
abbrev cX5_init : ByteArray := prog_7_method_1_code
def yX5_init : MethodName := ⟨RX5, "<init>", "()V"⟩
abbrev cX5_write : ByteArray := prog_7_method_2_code
def yX5_write : MethodName := ⟨RX5, "write", "(I)Z"⟩
abbrev cX5_firstWrong : ByteArray := prog_7_method_3_code
def yX5_firstWrong : MethodName := ⟨RX5, "firstWrong", "()I"⟩
abbrev cX5_nextStage : ByteArray := prog_7_method_4_code
def yX5_nextStage : MethodName := ⟨RX5, "nextStage", "(III)I"⟩
abbrev cX5_number : ByteArray := prog_7_method_5_code
def yX5_number : MethodName := ⟨RX5, "number", "(II)I"⟩
abbrev cX5_signAt : ByteArray := prog_7_method_6_code
def yX5_signAt : MethodName := ⟨RX5, "signAt", "(I)I"⟩
abbrev cX5_play : ByteArray := prog_7_method_7_code
def yX5_play : MethodName := ⟨RX5, "play", "(LStoneRound$World;)Z"⟩
abbrev cX5_eventLength : ByteArray := prog_7_method_8_code
def yX5_eventLength : MethodName := ⟨RX5, "eventLength", "(I)I"⟩
abbrev cX5_playEvent : ByteArray := prog_7_method_9_code
def yX5_playEvent : MethodName := ⟨RX5, "playEvent", "(LStoneRound$World;I)I"⟩
def RX6 : String := "StoneRound$Scene"
def TX6 : u_T := fun k => match k with
  | 0 => ("StoneRound$Scene", "places", "I", false)
  | 1 => ("StoneRound$Scene", "hedges", "[I", true)
  | _ => ("StoneRound$Scene", "catcher", "[I", true)
def tyX6 : Nat → FieldType := fun k => match k with
  | 0 => .int
  | 1 => .array .int
  | _ => .array .int
abbrev wsX60 : List Cond := u_ws RX6 TX6 3
theorem nmX6 : ∀ a, a < 3 → ∀ b, b < 3 → a ≠ b → (TX6 a).2.1 ≠ (TX6 b).2.1 := by decide +kernel
theorem tyX6_ok : ∀ k, k < 3 → parseFieldDescriptor (TX6 k).2.2.1 = some (tyX6 k) := by decide +kernel
abbrev cX6_init : ByteArray := prog_8_method_1_code
def yX6_init : MethodName := ⟨RX6, "<init>", "()V"⟩
abbrev cX6_look : ByteArray := prog_8_method_2_code
def yX6_look : MethodName := ⟨RX6, "look", "(LStoneRound$World;Z)V"⟩
def RX7 : String := "StoneRound$Sights"
def TX7 : u_T := fun k => match k with
  | 0 => ("StoneRound$Sights", "count", "I", false)
  | 1 => ("StoneRound$Sights", "minute", "[I", true)
  | 2 => ("StoneRound$Sights", "place", "[I", true)
  | _ => ("StoneRound$Sights", "high", "[I", true)
def tyX7 : Nat → FieldType := fun k => match k with
  | 0 => .int
  | 1 => .array .int
  | 2 => .array .int
  | _ => .array .int
abbrev wsX70 : List Cond := u_ws RX7 TX7 4
theorem nmX7 : ∀ a, a < 4 → ∀ b, b < 4 → a ≠ b → (TX7 a).2.1 ≠ (TX7 b).2.1 := by decide +kernel
theorem tyX7_ok : ∀ k, k < 4 → parseFieldDescriptor (TX7 k).2.2.1 = some (tyX7 k) := by decide +kernel
abbrev cX7_init : ByteArray := prog_9_method_1_code
def yX7_init : MethodName := ⟨RX7, "<init>", "()V"⟩
abbrev cX7_takeFrom : ByteArray := prog_9_method_2_code
def yX7_takeFrom : MethodName := ⟨RX7, "takeFrom", "(LStoneRound$Sights;)V"⟩
abbrev cX7_note : ByteArray := prog_9_method_3_code
def yX7_note : MethodName := ⟨RX7, "note", "(III)Z"⟩
abbrev cX7_fitHeights : ByteArray := prog_9_method_4_code
def yX7_fitHeights : MethodName := ⟨RX7, "fitHeights", "(II)Z"⟩
abbrev cX7_fit : ByteArray := prog_9_method_5_code
def yX7_fit : MethodName := ⟨RX7, "fit", "(LStoneRound$Flight;)Z"⟩
def RX8 : String := "StoneRound$Throws"
def TX8 : u_T := fun k => match k with
  | 0 => ("StoneRound$Throws", "bits", "I", false)
  | 1 => ("StoneRound$Throws", "at", "[I", true)
  | 2 => ("StoneRound$Throws", "each", "[I", true)
  | 3 => ("StoneRound$Throws", "from", "[I", true)
  | 4 => ("StoneRound$Throws", "way", "[I", true)
  | 5 => ("StoneRound$Throws", "reach", "[I", true)
  | _ => ("StoneRound$Throws", "top", "[I", true)
def tyX8 : Nat → FieldType := fun k => match k with
  | 0 => .int
  | 1 => .array .int
  | 2 => .array .int
  | 3 => .array .int
  | 4 => .array .int
  | 5 => .array .int
  | _ => .array .int
abbrev wsX80 : List Cond := u_ws RX8 TX8 7
theorem nmX8 : ∀ a, a < 7 → ∀ b, b < 7 → a ≠ b → (TX8 a).2.1 ≠ (TX8 b).2.1 := by decide +kernel
theorem tyX8_ok : ∀ k, k < 7 → parseFieldDescriptor (TX8 k).2.2.1 = some (tyX8 k) := by decide +kernel
abbrev cX8_init : ByteArray := prog_10_method_1_code
def yX8_init : MethodName := ⟨RX8, "<init>", "()V"⟩
abbrev cX8_takeFrom : ByteArray := prog_10_method_2_code
def yX8_takeFrom : MethodName := ⟨RX8, "takeFrom", "(LStoneRound$Throws;)V"⟩
abbrev cX8_has : ByteArray := prog_10_method_3_code
def yX8_has : MethodName := ⟨RX8, "has", "(I)Z"⟩
abbrev cX8_setWay : ByteArray := prog_10_method_4_code
def yX8_setWay : MethodName := ⟨RX8, "setWay", "(IIIII)V"⟩
abbrev cX8_setTimes : ByteArray := prog_10_method_5_code
def yX8_setTimes : MethodName := ⟨RX8, "setTimes", "(III)V"⟩
abbrev cX8_fly : ByteArray := prog_10_method_6_code
def yX8_fly : MethodName := ⟨RX8, "fly", "(ILStoneRound$Scene;LStoneRound$Flight;)V"⟩
def RX9 : String := "StoneRound$World"
def TX9 : u_T := fun k => match k with
  | 0 => ("StoneRound$World", "places", "I", false)
  | 1 => ("StoneRound$World", "hedges", "[I", true)
  | 2 => ("StoneRound$World", "ground", "[I", true)
  | 3 => ("StoneRound$World", "lost", "[I", true)
  | 4 => ("StoneRound$World", "there", "I", false)
  | 5 => ("StoneRound$World", "at", "[I", true)
  | 6 => ("StoneRound$World", "arm", "[I", true)
  | 7 => ("StoneRound$World", "held", "[I", true)
  | 8 => ("StoneRound$World", "caught", "[I", true)
  | _ => ("StoneRound$World", "air", "LStoneRound$Air;", true)
def tyX9 : Nat → FieldType := fun k => match k with
  | 0 => .int
  | 1 => .array .int
  | 2 => .array .int
  | 3 => .array .int
  | 4 => .int
  | 5 => .array .int
  | 6 => .array .int
  | 7 => .array .int
  | 8 => .array .int
  | _ => .object "StoneRound$Air"
abbrev wsX90 : List Cond := u_ws RX9 TX9 10
theorem nmX9 : ∀ a, a < 10 → ∀ b, b < 10 → a ≠ b → (TX9 a).2.1 ≠ (TX9 b).2.1 := by decide +kernel
theorem tyX9_ok : ∀ k, k < 10 → parseFieldDescriptor (TX9 k).2.2.1 = some (tyX9 k) := by decide +kernel
abbrev cX9_init : ByteArray := prog_11_method_1_code
def yX9_init : MethodName := ⟨RX9, "<init>", "()V"⟩
abbrev cX9_begin : ByteArray := prog_11_method_2_code
def yX9_begin : MethodName := ⟨RX9, "begin", "(I)V"⟩
abbrev cX9_takeFrom : ByteArray := prog_11_method_3_code
def yX9_takeFrom : MethodName := ⟨RX9, "takeFrom", "(LStoneRound$World;)V"⟩
abbrev cX9_hasPlace : ByteArray := prog_11_method_4_code
def yX9_hasPlace : MethodName := ⟨RX9, "hasPlace", "(I)Z"⟩
abbrev cX9_hasPerson : ByteArray := prog_11_method_5_code
def yX9_hasPerson : MethodName := ⟨RX9, "hasPerson", "(I)Z"⟩
abbrev cX9_put : ByteArray := prog_11_method_6_code
def yX9_put : MethodName := ⟨RX9, "put", "(IIII)V"⟩
abbrev cX9_tellPerson : ByteArray := prog_11_method_7_code
def yX9_tellPerson : MethodName := ⟨RX9, "tellPerson", "(II)I"⟩
abbrev cX9_leastAt : ByteArray := prog_11_method_8_code
def yX9_leastAt : MethodName := ⟨RX9, "leastAt", "(I)I"⟩
abbrev cX9_emptyHands : ByteArray := prog_11_method_9_code
def yX9_emptyHands : MethodName := ⟨RX9, "emptyHands", "()I"⟩
abbrev cX9_distance : ByteArray := prog_11_method_10_code
def yX9_distance : MethodName := ⟨RX9, "distance", "(II)I"⟩
abbrev cX9_lostInAll : ByteArray := prog_11_method_11_code
def yX9_lostInAll : MethodName := ⟨RX9, "lostInAll", "()I"⟩
abbrev cX9_whyNoThrow : ByteArray := prog_11_method_12_code
def yX9_whyNoThrow : MethodName := ⟨RX9, "whyNoThrow", "(II)I"⟩
abbrev cX9_throwStone : ByteArray := prog_11_method_13_code
def yX9_throwStone : MethodName := ⟨RX9, "throwStone", "(IIII)I"⟩
abbrev cX9_pickUp : ByteArray := prog_11_method_14_code
def yX9_pickUp : MethodName := ⟨RX9, "pickUp", "(I)I"⟩
abbrev cX9_walk : ByteArray := prog_11_method_15_code
def yX9_walk : MethodName := ⟨RX9, "walk", "(II)I"⟩
abbrev cX9_drawThrow : ByteArray := prog_11_method_16_code
def yX9_drawThrow : MethodName := ⟨RX9, "drawThrow", "(I)Z"⟩
abbrev cX9_passMinute : ByteArray := prog_11_method_17_code
def yX9_passMinute : MethodName := ⟨RX9, "passMinute", "()I"⟩
abbrev cX9_endInHedgesAndHands : ByteArray := prog_11_method_18_code
def yX9_endInHedgesAndHands : MethodName := ⟨RX9, "endInHedgesAndHands", "()I"⟩
abbrev cX9_fallDown : ByteArray := prog_11_method_19_code
def yX9_fallDown : MethodName := ⟨RX9, "fallDown", "()V"⟩
def RX10 : String := "StoneRound"
def TX10 : u_T := fun k => match k with
  | 0 => ("StoneRound", "now", "LStoneRound$Kept;", true)
  | 1 => ("StoneRound", "firstImage", "LStoneRound$Kept;", true)
  | 2 => ("StoneRound", "secondImage", "LStoneRound$Kept;", true)
  | 3 => ("StoneRound", "trial", "LStoneRound$World;", true)
  | 4 => ("StoneRound", "pad", "LStoneRound$Pad;", true)
  | 5 => ("StoneRound", "scene", "LStoneRound$Scene;", true)
  | 6 => ("StoneRound", "trip", "LStoneRound$Flight;", true)
  | 7 => ("StoneRound", "aims", "LStoneRound$Aims;", true)
  | 8 => ("StoneRound", "meetings", "LStoneRound$Meetings;", true)
  | _ => ("StoneRound", "steps", "[I", true)
def tyX10 : Nat → FieldType := fun k => match k with
  | 0 => .object "StoneRound$Kept"
  | 1 => .object "StoneRound$Kept"
  | 2 => .object "StoneRound$Kept"
  | 3 => .object "StoneRound$World"
  | 4 => .object "StoneRound$Pad"
  | 5 => .object "StoneRound$Scene"
  | 6 => .object "StoneRound$Flight"
  | 7 => .object "StoneRound$Aims"
  | 8 => .object "StoneRound$Meetings"
  | _ => .array .int
abbrev wsX100 : List Cond := u_ws RX10 TX10 10
theorem nmX10 : ∀ a, a < 10 → ∀ b, b < 10 → a ≠ b → (TX10 a).2.1 ≠ (TX10 b).2.1 := by decide +kernel
theorem tyX10_ok : ∀ k, k < 10 → parseFieldDescriptor (TX10 k).2.2.1 = some (tyX10 k) := by decide +kernel
abbrev cX10_init : ByteArray := prog_1_method_1_code
def yX10_init : MethodName := ⟨RX10, "<init>", "()V"⟩
abbrev cX10_places : ByteArray := prog_1_method_2_code
def yX10_places : MethodName := ⟨RX10, "places", "(I)I"⟩
abbrev cX10_hedge : ByteArray := prog_1_method_3_code
def yX10_hedge : MethodName := ⟨RX10, "hedge", "(II)I"⟩
abbrev cX10_lay : ByteArray := prog_1_method_4_code
def yX10_lay : MethodName := ⟨RX10, "lay", "(II)I"⟩
abbrev cX10_person : ByteArray := prog_1_method_5_code
def yX10_person : MethodName := ⟨RX10, "person", "(IIII)I"⟩
abbrev cX10_leave : ByteArray := prog_1_method_6_code
def yX10_leave : MethodName := ⟨RX10, "leave", "(I)I"⟩
abbrev cX10_say : ByteArray := prog_1_method_7_code
def yX10_say : MethodName := ⟨RX10, "say", "(I)I"⟩
abbrev cX10_wipe : ByteArray := prog_1_method_8_code
def yX10_wipe : MethodName := ⟨RX10, "wipe", "()I"⟩
abbrev cX10_fault : ByteArray := prog_1_method_9_code
def yX10_fault : MethodName := ⟨RX10, "fault", "()I"⟩
abbrev cX10_judge : ByteArray := prog_1_method_10_code
def yX10_judge : MethodName := ⟨RX10, "judge", "(I)I"⟩
abbrev cX10_done : ByteArray := prog_1_method_11_code
def yX10_done : MethodName := ⟨RX10, "done", "()I"⟩
abbrev cX10_state : ByteArray := prog_1_method_12_code
def yX10_state : MethodName := ⟨RX10, "state", "(II)I"⟩
abbrev cX10_behind : ByteArray := prog_1_method_13_code
def yX10_behind : MethodName := ⟨RX10, "behind", "(II)I"⟩
abbrev cX10_stones : ByteArray := prog_1_method_14_code
def yX10_stones : MethodName := ⟨RX10, "stones", "(II)I"⟩
abbrev cX10_air : ByteArray := prog_1_method_15_code
def yX10_air : MethodName := ⟨RX10, "air", "(I)I"⟩
abbrev cX10_flight : ByteArray := prog_1_method_16_code
def yX10_flight : MethodName := ⟨RX10, "flight", "(IIIII)I"⟩
abbrev cX10_gets : ByteArray := prog_1_method_17_code
def yX10_gets : MethodName := ⟨RX10, "gets", "(III)I"⟩
abbrev cX10_round : ByteArray := prog_1_method_18_code
def yX10_round : MethodName := ⟨RX10, "round", "(I)I"⟩
abbrev cX10_keptOff : ByteArray := prog_1_method_19_code
def yX10_keptOff : MethodName := ⟨RX10, "keptOff", "(III)I"⟩
abbrev cX10_laid : ByteArray := prog_1_method_20_code
def yX10_laid : MethodName := ⟨RX10, "laid", "()I"⟩
abbrev cX10_list : ByteArray := prog_1_method_21_code
def yX10_list : MethodName := ⟨RX10, "list", "(IIIIIII)I"⟩
abbrev cX10_strike : ByteArray := prog_1_method_22_code
def yX10_strike : MethodName := ⟨RX10, "strike", "(I)I"⟩
abbrev cX10_meet : ByteArray := prog_1_method_23_code
def yX10_meet : MethodName := ⟨RX10, "meet", "(II)I"⟩
abbrev cX10_forbidden : ByteArray := prog_1_method_24_code
def yX10_forbidden : MethodName := ⟨RX10, "forbidden", "(I)I"⟩
abbrev cX10_duck : ByteArray := prog_1_method_25_code
def yX10_duck : MethodName := ⟨RX10, "duck", "(III)I"⟩
abbrev cX10_hands : ByteArray := prog_1_method_26_code
def yX10_hands : MethodName := ⟨RX10, "hands", "(I)I"⟩
abbrev cX10_seen : ByteArray := prog_1_method_27_code
def yX10_seen : MethodName := ⟨RX10, "seen", "(III)I"⟩
abbrev cX10_forget : ByteArray := prog_1_method_28_code
def yX10_forget : MethodName := ⟨RX10, "forget", "()I"⟩
abbrev cX10_who : ByteArray := prog_1_method_29_code
def yX10_who : MethodName := ⟨RX10, "who", "(I)I"⟩
abbrev cX10_slips : ByteArray := prog_1_method_30_code
def yX10_slips : MethodName := ⟨RX10, "slips", "(IIIIIII)J"⟩
abbrev cX10_year : ByteArray := prog_1_method_31_code
def yX10_year : MethodName := ⟨RX10, "year", "(III)I"⟩
abbrev cX10_image : ByteArray := prog_1_method_32_code
def yX10_image : MethodName := ⟨RX10, "image", "(I)I"⟩
abbrev cX10_restore : ByteArray := prog_1_method_33_code
def yX10_restore : MethodName := ⟨RX10, "restore", "(I)I"⟩
abbrev cX10_told : ByteArray := prog_1_method_34_code
def yX10_told : MethodName := ⟨RX10, "told", "(I)I"⟩
abbrev cX10_within : ByteArray := prog_1_method_35_code
def yX10_within : MethodName := ⟨RX10, "within", "(III)Z"⟩
abbrev cX10_isThrow : ByteArray := prog_1_method_36_code
def yX10_isThrow : MethodName := ⟨RX10, "isThrow", "(III)Z"⟩
abbrev cX10_nextPlace : ByteArray := prog_1_method_37_code
def yX10_nextPlace : MethodName := ⟨RX10, "nextPlace", "(III)I"⟩
abbrev cX10_heightBehind : ByteArray := prog_1_method_38_code
def yX10_heightBehind : MethodName := ⟨RX10, "heightBehind", "(III)I"⟩
abbrev cX10_isCatchable : ByteArray := prog_1_method_39_code
def yX10_isCatchable : MethodName := ⟨RX10, "isCatchable", "(I)Z"⟩
abbrev cX10_tryDay : ByteArray := prog_1_method_40_code
def yX10_tryDay : MethodName := ⟨RX10, "tryDay", "()Z"⟩
abbrev cX10_goesTo : ByteArray := prog_1_method_41_code
def yX10_goesTo : MethodName := ⟨RX10, "goesTo", "(IIIII)Z"⟩
abbrev cX10_comesRound : ByteArray := prog_1_method_42_code
def yX10_comesRound : MethodName := ⟨RX10, "comesRound", "(II)Z"⟩
abbrev cX10_offerStone : ByteArray := prog_1_method_43_code
def yX10_offerStone : MethodName := ⟨RX10, "offerStone", "(II)V"⟩
abbrev cX10_fittingThrows : ByteArray := prog_1_method_44_code
def yX10_fittingThrows : MethodName := ⟨RX10, "fittingThrows", "(I)I"⟩
abbrev cX10_fitsSights : ByteArray := prog_1_method_45_code
def yX10_fitsSights : MethodName := ⟨RX10, "fitsSights", "(IIII)Z"⟩
abbrev cX10_sharedWithTen : ByteArray := prog_1_method_46_code
def yX10_sharedWithTen : MethodName := ⟨RX10, "sharedWithTen", "(I)I"⟩
abbrev cX10_imageOf : ByteArray := prog_1_method_47_code
def yX10_imageOf : MethodName := ⟨RX10, "imageOf", "(I)LStoneRound$Kept;"⟩
def RX11 : String := "StoneRoundModel"
def TX11 : u_T := fun k => match k with
  | 0 => ("StoneRoundModel", "places", "I", false)
  | 1 => ("StoneRoundModel", "hedge", "[I", true)
  | 2 => ("StoneRoundModel", "there", "I", false)
  | 3 => ("StoneRoundModel", "arm", "[I", true)
  | 4 => ("StoneRoundModel", "at", "[I", true)
  | 5 => ("StoneRoundModel", "hand", "[I", true)
  | 6 => ("StoneRoundModel", "caught", "[I", true)
  | 7 => ("StoneRoundModel", "lies", "[I", true)
  | 8 => ("StoneRoundModel", "lost", "[I", true)
  | 9 => ("StoneRoundModel", "flying", "I", false)
  | 10 => ("StoneRoundModel", "air", "[I", true)
  | 11 => ("StoneRoundModel", "listed", "I", false)
  | 12 => ("StoneRoundModel", "throwOf", "[I", true)
  | 13 => ("StoneRoundModel", "sights", "I", false)
  | 14 => ("StoneRoundModel", "sight", "[I", true)
  | 15 => ("StoneRoundModel", "signs", "I", false)
  | 16 => ("StoneRoundModel", "pad", "[I", true)
  | 17 => ("StoneRoundModel", "atNow", "[I", true)
  | 18 => ("StoneRoundModel", "handNow", "[I", true)
  | 19 => ("StoneRoundModel", "caughtNow", "[I", true)
  | 20 => ("StoneRoundModel", "liesNow", "[I", true)
  | 21 => ("StoneRoundModel", "lostNow", "[I", true)
  | 22 => ("StoneRoundModel", "flyingNow", "I", false)
  | 23 => ("StoneRoundModel", "airNow", "[I", true)
  | 24 => ("StoneRoundModel", "catches", "I", false)
  | 25 => ("StoneRoundModel", "isGone", "[Z", true)
  | 26 => ("StoneRoundModel", "reason", "I", false)
  | 27 => ("StoneRoundModel", "events", "I", false)
  | 28 => ("StoneRoundModel", "endsHow", "I", false)
  | 29 => ("StoneRoundModel", "endsAfter", "I", false)
  | 30 => ("StoneRoundModel", "endsAt", "I", false)
  | 31 => ("StoneRoundModel", "endsBy", "I", false)
  | 32 => ("StoneRoundModel", "left", "[I", true)
  | 33 => ("StoneRoundModel", "image", "[I", true)
  | _ => ("StoneRoundModel", "isKept", "[Z", true)
def tyX11 : Nat → FieldType := fun k => match k with
  | 0 => .int
  | 1 => .array .int
  | 2 => .int
  | 3 => .array .int
  | 4 => .array .int
  | 5 => .array .int
  | 6 => .array .int
  | 7 => .array .int
  | 8 => .array .int
  | 9 => .int
  | 10 => .array .int
  | 11 => .int
  | 12 => .array .int
  | 13 => .int
  | 14 => .array .int
  | 15 => .int
  | 16 => .array .int
  | 17 => .array .int
  | 18 => .array .int
  | 19 => .array .int
  | 20 => .array .int
  | 21 => .array .int
  | 22 => .int
  | 23 => .array .int
  | 24 => .int
  | 25 => .array .boolean
  | 26 => .int
  | 27 => .int
  | 28 => .int
  | 29 => .int
  | 30 => .int
  | 31 => .int
  | 32 => .array .int
  | 33 => .array .int
  | _ => .array .boolean
abbrev wsX110 : List Cond := u_ws RX11 TX11 35
theorem nmX11 : ∀ a, a < 35 → ∀ b, b < 35 → a ≠ b → (TX11 a).2.1 ≠ (TX11 b).2.1 := by decide +kernel
theorem tyX11_ok : ∀ k, k < 35 → parseFieldDescriptor (TX11 k).2.2.1 = some (tyX11 k) := by decide +kernel
abbrev cX11_init : ByteArray := prog_13_method_1_code
def yX11_init : MethodName := ⟨RX11, "<init>", "()V"⟩
abbrev cX11_in : ByteArray := prog_13_method_2_code
def yX11_in : MethodName := ⟨RX11, "in", "(III)Z"⟩
abbrev cX11_has : ByteArray := prog_13_method_3_code
def yX11_has : MethodName := ⟨RX11, "has", "(II)Z"⟩
abbrev cX11_bits : ByteArray := prog_13_method_4_code
def yX11_bits : MethodName := ⟨RX11, "bits", "(I)I"⟩
abbrev cX11_isPlace : ByteArray := prog_13_method_5_code
def yX11_isPlace : MethodName := ⟨RX11, "isPlace", "(I)Z"⟩
abbrev cX11_isThere : ByteArray := prog_13_method_6_code
def yX11_isThere : MethodName := ⟨RX11, "isThere", "(I)Z"⟩
abbrev cX11_places : ByteArray := prog_13_method_7_code
def yX11_places : MethodName := ⟨RX11, "places", "(I)I"⟩
abbrev cX11_hedge : ByteArray := prog_13_method_8_code
def yX11_hedge : MethodName := ⟨RX11, "hedge", "(II)I"⟩
abbrev cX11_lay : ByteArray := prog_13_method_9_code
def yX11_lay : MethodName := ⟨RX11, "lay", "(II)I"⟩
abbrev cX11_person : ByteArray := prog_13_method_10_code
def yX11_person : MethodName := ⟨RX11, "person", "(IIII)I"⟩
abbrev cX11_leave : ByteArray := prog_13_method_11_code
def yX11_leave : MethodName := ⟨RX11, "leave", "(I)I"⟩
abbrev cX11_say : ByteArray := prog_13_method_12_code
def yX11_say : MethodName := ⟨RX11, "say", "(I)I"⟩
abbrev cX11_wipe : ByteArray := prog_13_method_13_code
def yX11_wipe : MethodName := ⟨RX11, "wipe", "()I"⟩
abbrev cX11_faultOf : ByteArray := prog_13_method_14_code
def yX11_faultOf : MethodName := ⟨RX11, "faultOf", "()I"⟩
abbrev cX11_fault : ByteArray := prog_13_method_15_code
def yX11_fault : MethodName := ⟨RX11, "fault", "()I"⟩
abbrev cX11_asNow : ByteArray := prog_13_method_16_code
def yX11_asNow : MethodName := ⟨RX11, "asNow", "()V"⟩
abbrev cX11_step : ByteArray := prog_13_method_17_code
def yX11_step : MethodName := ⟨RX11, "step", "(II)I"⟩
abbrev cX11_heightOf : ByteArray := prog_13_method_18_code
def yX11_heightOf : MethodName := ⟨RX11, "heightOf", "(III)I"⟩
abbrev cX11_heightNow : ByteArray := prog_13_method_19_code
def yX11_heightNow : MethodName := ⟨RX11, "heightNow", "(I)I"⟩
abbrev cX11_firstAt : ByteArray := prog_13_method_20_code
def yX11_firstAt : MethodName := ⟨RX11, "firstAt", "(I)I"⟩
abbrev cX11_pass : ByteArray := prog_13_method_21_code
def yX11_pass : MethodName := ⟨RX11, "pass", "()V"⟩
abbrev cX11_fall : ByteArray := prog_13_method_22_code
def yX11_fall : MethodName := ⟨RX11, "fall", "()V"⟩
abbrev cX11_whyNot : ByteArray := prog_13_method_23_code
def yX11_whyNot : MethodName := ⟨RX11, "whyNot", "(II)I"⟩
abbrev cX11_fling : ByteArray := prog_13_method_24_code
def yX11_fling : MethodName := ⟨RX11, "fling", "(IIII)V"⟩
abbrev cX11_goDay : ByteArray := prog_13_method_25_code
def yX11_goDay : MethodName := ⟨RX11, "goDay", "()I"⟩
abbrev cX11_go : ByteArray := prog_13_method_26_code
def yX11_go : MethodName := ⟨RX11, "go", "(II)V"⟩
abbrev cX11_judge : ByteArray := prog_13_method_27_code
def yX11_judge : MethodName := ⟨RX11, "judge", "(I)I"⟩
abbrev cX11_barOfDay : ByteArray := prog_13_method_28_code
def yX11_barOfDay : MethodName := ⟨RX11, "barOfDay", "()I"⟩
abbrev cX11_done : ByteArray := prog_13_method_29_code
def yX11_done : MethodName := ⟨RX11, "done", "()I"⟩
abbrev cX11_state : ByteArray := prog_13_method_30_code
def yX11_state : MethodName := ⟨RX11, "state", "(II)I"⟩
abbrev cX11_behind : ByteArray := prog_13_method_31_code
def yX11_behind : MethodName := ⟨RX11, "behind", "(II)I"⟩
abbrev cX11_stones : ByteArray := prog_13_method_32_code
def yX11_stones : MethodName := ⟨RX11, "stones", "(II)I"⟩
abbrev cX11_air : ByteArray := prog_13_method_33_code
def yX11_air : MethodName := ⟨RX11, "air", "(I)I"⟩
abbrev cX11_fly : ByteArray := prog_13_method_34_code
def yX11_fly : MethodName := ⟨RX11, "fly", "(IIIIIII)V"⟩
abbrev cX11_standsAt : ByteArray := prog_13_method_35_code
def yX11_standsAt : MethodName := ⟨RX11, "standsAt", "(I)I"⟩
abbrev cX11_isThrow : ByteArray := prog_13_method_36_code
def yX11_isThrow : MethodName := ⟨RX11, "isThrow", "(III)Z"⟩
abbrev cX11_flyFrom : ByteArray := prog_13_method_37_code
def yX11_flyFrom : MethodName := ⟨RX11, "flyFrom", "(IIII)V"⟩
abbrev cX11_flight : ByteArray := prog_13_method_38_code
def yX11_flight : MethodName := ⟨RX11, "flight", "(IIIII)I"⟩
abbrev cX11_gets : ByteArray := prog_13_method_39_code
def yX11_gets : MethodName := ⟨RX11, "gets", "(III)I"⟩
abbrev cX11_round : ByteArray := prog_13_method_40_code
def yX11_round : MethodName := ⟨RX11, "round", "(I)I"⟩
abbrev cX11_isCaught : ByteArray := prog_13_method_41_code
def yX11_isCaught : MethodName := ⟨RX11, "isCaught", "(IIII)Z"⟩
abbrev cX11_keptOff : ByteArray := prog_13_method_42_code
def yX11_keptOff : MethodName := ⟨RX11, "keptOff", "(III)I"⟩
abbrev cX11_laid : ByteArray := prog_13_method_43_code
def yX11_laid : MethodName := ⟨RX11, "laid", "()I"⟩
abbrev cX11_isListed : ByteArray := prog_13_method_44_code
def yX11_isListed : MethodName := ⟨RX11, "isListed", "(I)Z"⟩
abbrev cX11_list : ByteArray := prog_13_method_45_code
def yX11_list : MethodName := ⟨RX11, "list", "(IIIIIII)I"⟩
abbrev cX11_strike : ByteArray := prog_13_method_46_code
def yX11_strike : MethodName := ⟨RX11, "strike", "(I)I"⟩
abbrev cX11_flyListed : ByteArray := prog_13_method_47_code
def yX11_flyListed : MethodName := ⟨RX11, "flyListed", "(II)V"⟩
abbrev cX11_wasThrown : ByteArray := prog_13_method_48_code
def yX11_wasThrown : MethodName := ⟨RX11, "wasThrown", "(III)Z"⟩
abbrev cX11_placeBehind : ByteArray := prog_13_method_49_code
def yX11_placeBehind : MethodName := ⟨RX11, "placeBehind", "(II)I"⟩
abbrev cX11_heightBehind : ByteArray := prog_13_method_50_code
def yX11_heightBehind : MethodName := ⟨RX11, "heightBehind", "(II)I"⟩
abbrev cX11_meetOf : ByteArray := prog_13_method_51_code
def yX11_meetOf : MethodName := ⟨RX11, "meetOf", "(II)I"⟩
abbrev cX11_meet : ByteArray := prog_13_method_52_code
def yX11_meet : MethodName := ⟨RX11, "meet", "(II)I"⟩
abbrev cX11_forbidden : ByteArray := prog_13_method_53_code
def yX11_forbidden : MethodName := ⟨RX11, "forbidden", "(I)I"⟩
abbrev cX11_duck : ByteArray := prog_13_method_54_code
def yX11_duck : MethodName := ⟨RX11, "duck", "(III)I"⟩
abbrev cX11_hands : ByteArray := prog_13_method_55_code
def yX11_hands : MethodName := ⟨RX11, "hands", "(I)I"⟩
abbrev cX11_seen : ByteArray := prog_13_method_56_code
def yX11_seen : MethodName := ⟨RX11, "seen", "(III)I"⟩
abbrev cX11_forget : ByteArray := prog_13_method_57_code
def yX11_forget : MethodName := ⟨RX11, "forget", "()I"⟩
abbrev cX11_goesBy : ByteArray := prog_13_method_58_code
def yX11_goesBy : MethodName := ⟨RX11, "goesBy", "(IIII)Z"⟩
abbrev cX11_who : ByteArray := prog_13_method_59_code
def yX11_who : MethodName := ⟨RX11, "who", "(I)I"⟩
abbrev cX11_slips : ByteArray := prog_13_method_60_code
def yX11_slips : MethodName := ⟨RX11, "slips", "(IIIIIII)J"⟩
abbrev cX11_year : ByteArray := prog_13_method_61_code
def yX11_year : MethodName := ⟨RX11, "year", "(III)I"⟩
abbrev cX11_image : ByteArray := prog_13_method_62_code
def yX11_image : MethodName := ⟨RX11, "image", "(I)I"⟩
abbrev cX11_restore : ByteArray := prog_13_method_63_code
def yX11_restore : MethodName := ⟨RX11, "restore", "(I)I"⟩
abbrev cX11_told : ByteArray := prog_13_method_64_code
def yX11_told : MethodName := ⟨RX11, "told", "(I)I"⟩
def RJ6 : String := "java/lang/Integer"
def TJ6 : u_T := fun k => match k with
  | _ => ("", "", "", false)
def tyJ6 : Nat → FieldType := fun k => match k with
  | _ => .int
abbrev wsJ60 : List Cond := u_ws RJ6 TJ6 0
theorem nmJ6 : ∀ a, a < 0 → ∀ b, b < 0 → a ≠ b → (TJ6 a).2.1 ≠ (TJ6 b).2.1 := by decide +kernel
theorem tyJ6_ok : ∀ k, k < 0 → parseFieldDescriptor (TJ6 k).2.2.1 = some (tyJ6 k) := by decide +kernel
abbrev cJ6_bitCount_0f7a4 : ByteArray := prog_14_method_49_code
def yJ6_bitCount_0f7a4 : MethodName := ⟨RJ6, "bitCount", "(I)I"⟩
def RJ9 : String := "java/lang/Math"
def TJ9 : u_T := fun k => match k with
  | _ => ("", "", "", false)
def tyJ9 : Nat → FieldType := fun k => match k with
  | _ => .int
abbrev wsJ90 : List Cond := u_ws RJ9 TJ9 0
theorem nmJ9 : ∀ a, a < 0 → ∀ b, b < 0 → a ≠ b → (TJ9 a).2.1 ≠ (TJ9 b).2.1 := by decide +kernel
theorem tyJ9_ok : ∀ k, k < 0 → parseFieldDescriptor (TJ9 k).2.2.1 = some (tyJ9 k) := by decide +kernel
abbrev cJ9_abs_0f7a4 : ByteArray := prog_15_method_59_code
def yJ9_abs_0f7a4 : MethodName := ⟨RJ9, "abs", "(I)I"⟩
abbrev cJ9_max_7cf53 : ByteArray := prog_15_method_65_code
def yJ9_max_7cf53 : MethodName := ⟨RJ9, "max", "(II)I"⟩
abbrev cJ9_min_7cf53 : ByteArray := prog_15_method_69_code
def yJ9_min_7cf53 : MethodName := ⟨RJ9, "min", "(II)I"⟩
def RJ10 : String := "java/lang/System"
def TJ10 : u_T := fun k => match k with
  | _ => ("", "", "", false)
def tyJ10 : Nat → FieldType := fun k => match k with
  | _ => .int
abbrev wsJ100 : List Cond := u_ws RJ10 TJ10 0
theorem nmJ10 : ∀ a, a < 0 → ∀ b, b < 0 → a ≠ b → (TJ10 a).2.1 ≠ (TJ10 b).2.1 := by decide +kernel
theorem tyJ10_ok : ∀ k, k < 0 → parseFieldDescriptor (TJ10 k).2.2.1 = some (tyJ10 k) := by decide +kernel
def RL : String := "StoneRoundLaw"
abbrev cL_law : ByteArray := code
def yL_law : MethodName := ⟨RL, "law", "([I)Z"⟩
abbrev vwCl : List vw_C := [(RX0, TX0, 5), (RX1, TX1, 6), (RX2, TX2, 5), (RX3, TX3, 4), (RX4, TX4, 4), (RX5, TX5, 4), (RX6, TX6, 3), (RX7, TX7, 4), (RX8, TX8, 7), (RX9, TX9, 10), (RX10, TX10, 10), (RX11, TX11, 35)]
end
section
/-! the cells of the world, the methods, their instructions, what they link: printed by wip/tools/mk02.py -/
abbrev smT : Type := Nat ⊕ (Bool × Nat)
abbrev smV : Type := Int ⊕ ((smT × Nat) ⊕ Int)
abbrev smM : Type := Nat → Int → Int
abbrev smI : Type := Nat × Instr × Nat × Nat × Nat × Int
abbrev smD : Type := Nat × MethodName × ByteArray × Nat × Option FieldType × (Nat × Bool) × (Nat × Nat) × List smI
def smLay : Nat → List (Nat ⊕ (smT × Nat))
  | 0 => [.inl 0, .inr (.inr (false, 9), 1), .inr (.inr (false, 9), 2), .inl 0, .inl 0]
  | 1 => [.inl 0, .inr (.inr (false, 12), 1), .inr (.inr (false, 12), 2), .inr (.inr (false, 12), 3), .inr (.inr (false, 12), 4), .inr (.inr (false, 12), 5)]
  | 2 => [.inl 0, .inl 0, .inl 0, .inr (.inr (false, 37), 1), .inr (.inr (false, 37), 2)]
  | 3 => [.inr (.inl 9, 1), .inr (.inl 8, 15), .inr (.inl 7, 22), .inl 1]
  | 4 => [.inr (.inl 2, 1), .inr (.inl 2, 4), .inr (.inr (false, 6), 7), .inr (.inr (false, 1000), 8)]
  | 5 => [.inl 0, .inl 0, .inl 0, .inr (.inr (false, 60), 1)]
  | 6 => [.inl 0, .inr (.inr (false, 9), 1), .inr (.inr (false, 9), 2)]
  | 7 => [.inl 0, .inr (.inr (false, 6), 1), .inr (.inr (false, 6), 2), .inr (.inr (false, 6), 3)]
  | 8 => [.inl 0, .inr (.inr (false, 6), 1), .inr (.inr (false, 6), 2), .inr (.inr (false, 6), 3), .inr (.inr (false, 6), 4), .inr (.inr (false, 6), 5), .inr (.inr (false, 6), 6)]
  | 9 => [.inl 0, .inr (.inr (false, 9), 1), .inr (.inr (false, 9), 2), .inr (.inr (false, 9), 3), .inl 0, .inr (.inr (false, 5), 4), .inr (.inr (false, 5), 5), .inr (.inr (false, 5), 6), .inr (.inr (false, 5), 7), .inr (.inl 1, 8)]
  | 10 => [.inr (.inl 3, 1), .inr (.inl 3, 27), .inr (.inl 3, 53), .inr (.inl 9, 79), .inr (.inl 5, 93), .inr (.inl 6, 95), .inr (.inl 2, 98), .inr (.inl 0, 101), .inr (.inl 4, 104), .inr (.inr (false, 32), 113)]
  | 11 => [.inl 0, .inr (.inr (false, 9), 1), .inl 0, .inr (.inr (false, 5), 2), .inr (.inr (false, 5), 3), .inr (.inr (false, 5), 4), .inr (.inr (false, 5), 5), .inr (.inr (false, 9), 6), .inr (.inr (false, 9), 7), .inl 0, .inr (.inr (false, 60), 8), .inl 0, .inr (.inr (false, 36), 9), .inl 0, .inr (.inr (false, 18), 10), .inl 0, .inr (.inr (false, 60), 11), .inr (.inr (false, 5), 12), .inr (.inr (false, 5), 13), .inr (.inr (false, 5), 14), .inr (.inr (false, 9), 15), .inr (.inr (false, 9), 16), .inl 0, .inr (.inr (false, 60), 17), .inl 0, .inr (.inr (true, 12), 18), .inl 0, .inl 0, .inl 0, .inl 0, .inl 0, .inl 0, .inr (.inr (false, 9), 19), .inr (.inr (false, 440), 20), .inr (.inr (true, 2), 21)]
  | _ => []
def smSh : List smT := [.inl 10, .inl 3, .inl 9, .inr (false, 9), .inr (false, 9), .inr (false, 9), .inr (false, 5), .inr (false, 5), .inr (false, 5), .inr (false, 5), .inl 1, .inr (false, 12), .inr (false, 12), .inr (false, 12), .inr (false, 12), .inr (false, 12), .inl 8, .inr (false, 6), .inr (false, 6), .inr (false, 6), .inr (false, 6), .inr (false, 6), .inr (false, 6), .inl 7, .inr (false, 6), .inr (false, 6), .inr (false, 6), .inl 3, .inl 9, .inr (false, 9), .inr (false, 9), .inr (false, 9), .inr (false, 5), .inr (false, 5), .inr (false, 5), .inr (false, 5), .inl 1, .inr (false, 12), .inr (false, 12), .inr (false, 12), .inr (false, 12), .inr (false, 12), .inl 8, .inr (false, 6), .inr (false, 6), .inr (false, 6), .inr (false, 6), .inr (false, 6), .inr (false, 6), .inl 7, .inr (false, 6), .inr (false, 6), .inr (false, 6), .inl 3, .inl 9, .inr (false, 9), .inr (false, 9), .inr (false, 9), .inr (false, 5), .inr (false, 5), .inr (false, 5), .inr (false, 5), .inl 1, .inr (false, 12), .inr (false, 12), .inr (false, 12), .inr (false, 12), .inr (false, 12), .inl 8, .inr (false, 6), .inr (false, 6), .inr (false, 6), .inr (false, 6), .inr (false, 6), .inr (false, 6), .inl 7, .inr (false, 6), .inr (false, 6), .inr (false, 6), .inl 9, .inr (false, 9), .inr (false, 9), .inr (false, 9), .inr (false, 5), .inr (false, 5), .inr (false, 5), .inr (false, 5), .inl 1, .inr (false, 12), .inr (false, 12), .inr (false, 12), .inr (false, 12), .inr (false, 12), .inl 5, .inr (false, 60), .inl 6, .inr (false, 9), .inr (false, 9), .inl 2, .inr (false, 37), .inr (false, 37), .inl 0, .inr (false, 9), .inr (false, 9), .inl 4, .inl 2, .inr (false, 37), .inr (false, 37), .inl 2, .inr (false, 37), .inr (false, 37), .inr (false, 6), .inr (false, 1000), .inr (false, 32), .inl 11, .inr (false, 9), .inr (false, 5), .inr (false, 5), .inr (false, 5), .inr (false, 5), .inr (false, 9), .inr (false, 9), .inr (false, 60), .inr (false, 36), .inr (false, 18), .inr (false, 60), .inr (false, 5), .inr (false, 5), .inr (false, 5), .inr (false, 9), .inr (false, 9), .inr (false, 60), .inr (true, 12), .inr (false, 9), .inr (false, 440), .inr (true, 2)]
def smRn : Nat → String
  | 0 => RX0
  | 1 => RX1
  | 2 => RX2
  | 3 => RX3
  | 4 => RX4
  | 5 => RX5
  | 6 => RX6
  | 7 => RX7
  | 8 => RX8
  | 9 => RX9
  | 10 => RX10
  | 11 => RX11
  | 13 => RJ6
  | _ => RL
/-- X10_nextPlace: method 0 -/
def smt_X10_nextPlace : List smI := [(0, .iload_n 1, 1, 0, 0, 0), (1, .ifCond .ne 18, 4, 19, 0, 0), (4, .iload_n 0, 5, 0, 0, 0), (5, .iconst 1, 6, 0, 0, 0), (6, .iadd, 7, 0, 0, 0), (7, .iload_n 2, 8, 0, 0, 0), (8, .if_icmp .ge 9, 11, 17, 0, 0), (11, .iload_n 0, 12, 0, 0, 0), (12, .iconst 1, 13, 0, 0, 0), (13, .iadd, 14, 0, 0, 0), (14, .goto 4, 17, 18, 0, 0), (17, .iconst 0, 18, 0, 0, 0), (18, .ireturn, 19, 0, 0, 0), (19, .iload_n 0, 20, 0, 0, 0), (20, .ifCond .le 9, 23, 29, 0, 0), (23, .iload_n 0, 24, 0, 0, 0), (24, .iconst 1, 25, 0, 0, 0), (25, .isub, 26, 0, 0, 0), (26, .goto 6, 29, 32, 0, 0), (29, .iload_n 2, 30, 0, 0, 0), (30, .iconst 1, 31, 0, 0, 0), (31, .isub, 32, 0, 0, 0), (32, .ireturn, 33, 0, 0, 0)]
def smd_X10_nextPlace : smD := (10, yX10_nextPlace, cX10_nextPlace, 3, (some .int), (3, true), (0, 0), smt_X10_nextPlace)
/-- X10_heightBehind: method 1 -/
def smt_X10_heightBehind : List smI := [(0, .iload_n 0, 1, 0, 0, 0), (1, .iload_n 1, 2, 0, 0, 0), (2, .iload_n 0, 3, 0, 0, 0), (3, .isub, 4, 0, 0, 0), (4, .invokestatic 210, 7, 0, 4, 0), (7, .iload_n 2, 8, 0, 0, 0), (8, .invokestatic 210, 11, 0, 4, 0), (11, .ireturn, 12, 0, 0, 0)]
def smd_X10_heightBehind : smD := (10, yX10_heightBehind, cX10_heightBehind, 3, (some .int), (3, true), (1, 38), smt_X10_heightBehind)
/-- X10_isCatchable: method 2 -/
def smt_X10_isCatchable : List smI := [(0, .iload_n 0, 1, 0, 0, 0), (1, .iconst 1, 2, 0, 0, 0), (2, .if_icmp .eq 8, 5, 10, 0, 0), (5, .iload_n 0, 6, 0, 0, 0), (6, .iconst 2, 7, 0, 0, 0), (7, .if_icmp .ne 7, 10, 14, 0, 0), (10, .iconst 1, 11, 0, 0, 0), (11, .goto 4, 14, 15, 0, 0), (14, .iconst 0, 15, 0, 0, 0), (15, .ireturn, 16, 0, 0, 0)]
def smd_X10_isCatchable : smD := (10, yX10_isCatchable, cX10_isCatchable, 1, (some .boolean), (1, true), (0, 0), smt_X10_isCatchable)
/-- X2_go: method 3 -/
def smt_X2_go : List smI := [(0, .iload_n 2, 1, 0, 0, 0), (1, .istore 6, 3, 0, 0, 0), (3, .aload_n 0, 4, 0, 0, 0), (4, .getfield 9, 7, 2, 3, 3), (7, .iconst 0, 8, 0, 0, 0), (8, .iload_n 2, 9, 0, 0, 0), (9, .iastore, 10, 0, 0, 0), (10, .aload_n 0, 11, 0, 0, 0), (11, .getfield 15, 14, 2, 4, 4), (14, .iconst 0, 15, 0, 0, 0), (15, .iconst 0, 16, 0, 0, 0), (16, .iastore, 17, 0, 0, 0), (17, .aload_n 0, 18, 0, 0, 0), (18, .iconst 0, 19, 0, 0, 0), (19, .putfield 18, 22, 2, 1, 1), (22, .aload_n 0, 23, 0, 0, 0), (23, .iconst 0, 24, 0, 0, 0), (24, .putfield 22, 27, 2, 0, 0), (27, .aload_n 0, 28, 0, 0, 0), (28, .bipush (-6), 30, 0, 0, 0), (30, .putfield 25, 33, 2, 2, 2), (33, .iconst 1, 34, 0, 0, 0), (34, .istore 7, 36, 0, 0, 0), (36, .iload 7, 38, 0, 0, 0), (38, .iload 4, 40, 0, 0, 0), (40, .if_icmp .gt 118, 43, 158, 0, 0), (43, .iload 7, 45, 0, 0, 0), (45, .bipush 36, 47, 0, 0, 0), (47, .if_icmp .gt 111, 50, 158, 0, 0), (50, .iload 6, 52, 0, 0, 0), (52, .iload_n 3, 53, 0, 0, 0), (53, .aload_n 1, 54, 0, 0, 0), (54, .getfield 28, 57, 6, 0, 0), (57, .invokestatic 33, 60, 0, 1, 0), (60, .istore 6, 62, 0, 0, 0), (62, .iload 7, 64, 0, 0, 0), (64, .iload 4, 66, 0, 0, 0), (66, .iload 5, 68, 0, 0, 0), (68, .invokestatic 37, 71, 1, 1, 0), (71, .istore 8, 73, 0, 0, 0), (73, .aload_n 0, 74, 0, 0, 0), (74, .getfield 9, 77, 2, 3, 3), (77, .iload 7, 79, 0, 0, 0), (79, .iload 6, 81, 0, 0, 0), (81, .iastore, 82, 0, 0, 0), (82, .aload_n 0, 83, 0, 0, 0), (83, .getfield 15, 86, 2, 4, 4), (86, .iload 7, 88, 0, 0, 0), (88, .iload 8, 90, 0, 0, 0), (90, .iastore, 91, 0, 0, 0), (91, .aload_n 0, 92, 0, 0, 0), (92, .iload 7, 94, 0, 0, 0), (94, .putfield 18, 97, 2, 1, 1), (97, .aload_n 1, 98, 0, 0, 0), (98, .getfield 40, 101, 6, 1, 1), (101, .iload 6, 103, 0, 0, 0), (103, .iaload, 104, 0, 0, 0), (104, .iload 8, 106, 0, 0, 0), (106, .if_icmp .le 9, 109, 115, 0, 0), (109, .aload_n 0, 110, 0, 0, 0), (110, .iconst 1, 111, 0, 0, 0), (111, .putfield 22, 114, 2, 0, 0), (114, .return_, 115, 0, 0, 0), (115, .iload 8, 117, 0, 0, 0), (117, .invokestatic 43, 120, 2, 1, 0), (120, .ifCond .eq 32, 123, 152, 0, 0), (123, .aload_n 1, 124, 0, 0, 0), (124, .getfield 47, 127, 6, 2, 2), (127, .iload 6, 129, 0, 0, 0), (129, .iaload, 130, 0, 0, 0), (130, .bipush (-6), 132, 0, 0, 0), (132, .if_icmp .eq 20, 135, 152, 0, 0), (135, .aload_n 0, 136, 0, 0, 0), (136, .iconst 2, 137, 0, 0, 0), (137, .putfield 22, 140, 2, 0, 0), (140, .aload_n 0, 141, 0, 0, 0), (141, .aload_n 1, 142, 0, 0, 0), (142, .getfield 47, 145, 6, 2, 2), (145, .iload 6, 147, 0, 0, 0), (147, .iaload, 148, 0, 0, 0), (148, .putfield 25, 151, 2, 2, 2), (151, .return_, 152, 0, 0, 0), (152, .iinc 7 1, 155, 0, 0, 0), (155, .goto (-119), 158, 36, 0, 0), (158, .return_, 159, 0, 0, 0)]
def smd_X2_go : smD := (2, yX2_go, cX2_go, 9, none, (6, false), (2, 60), smt_X2_go)
/-- X2_isCaughtBy: method 4 -/
def smt_X2_isCaughtBy : List smI := [(0, .aload_n 0, 1, 0, 0, 0), (1, .getfield 22, 4, 2, 0, 0), (4, .iconst 2, 5, 0, 0, 0), (5, .if_icmp .ne 15, 8, 20, 0, 0), (8, .aload_n 0, 9, 0, 0, 0), (9, .getfield 25, 12, 2, 2, 2), (12, .iload_n 1, 13, 0, 0, 0), (13, .if_icmp .ne 7, 16, 20, 0, 0), (16, .iconst 1, 17, 0, 0, 0), (17, .goto 4, 20, 21, 0, 0), (20, .iconst 0, 21, 0, 0, 0), (21, .ireturn, 22, 0, 0, 0)]
def smd_X2_isCaughtBy : smD := (2, yX2_isCaughtBy, cX2_isCaughtBy, 2, (some .boolean), (2, false), (0, 0), smt_X2_isCaughtBy)
/-- X0_noteThrow: method 5 -/
def smt_X0_noteThrow : List smI := [(0, .iload_n 3, 1, 0, 0, 0), (1, .iconst 1, 2, 0, 0, 0), (2, .ishl, 3, 0, 0, 0), (3, .iload_n 2, 4, 0, 0, 0), (4, .ior, 5, 0, 0, 0), (5, .istore 5, 7, 0, 0, 0), (7, .aload_n 0, 8, 0, 0, 0), (8, .dup, 9, 0, 0, 0), (9, .getfield 18, 12, 0, 0, 0), (12, .iconst 1, 13, 0, 0, 0), (13, .iadd, 14, 0, 0, 0), (14, .putfield 18, 17, 0, 0, 0), (17, .aload_n 0, 18, 0, 0, 0), (18, .aload_n 0, 19, 0, 0, 0), (19, .getfield 25, 22, 0, 3, 3), (22, .iload_n 1, 23, 0, 0, 0), (23, .bipush 10, 25, 0, 0, 0), (25, .ishl, 26, 0, 0, 0), (26, .iload 4, 28, 0, 0, 0), (28, .bipush 7, 30, 0, 0, 0), (30, .ishl, 31, 0, 0, 0), (31, .ior, 32, 0, 0, 0), (32, .iload 5, 34, 0, 0, 0), (34, .ior, 35, 0, 0, 0), (35, .invokestatic 60, 38, 0, 4, 0), (38, .putfield 25, 41, 0, 3, 3), (41, .aload_n 0, 42, 0, 0, 0), (42, .aload_n 0, 43, 0, 0, 0), (43, .getfield 28, 46, 0, 4, 4), (46, .iload 4, 48, 0, 0, 0), (48, .bipush 13, 50, 0, 0, 0), (50, .ishl, 51, 0, 0, 0), (51, .iload_n 1, 52, 0, 0, 0), (52, .bipush 7, 54, 0, 0, 0), (54, .ishl, 55, 0, 0, 0), (55, .ior, 56, 0, 0, 0), (56, .iload 5, 58, 0, 0, 0), (58, .ior, 59, 0, 0, 0), (59, .invokestatic 60, 62, 0, 4, 0), (62, .putfield 28, 65, 0, 4, 4), (65, .return_, 66, 0, 0, 0)]
def smd_X0_noteThrow : smD := (0, yX0_noteThrow, cX0_noteThrow, 6, none, (5, false), (1, 38), smt_X0_noteThrow)
/-- X0_noteHedges: method 6 -/
def smt_X0_noteHedges : List smI := [(0, .iconst 0, 1, 0, 0, 0), (1, .istore_n 2, 2, 0, 0, 0), (2, .iload_n 2, 3, 0, 0, 0), (3, .bipush 9, 5, 0, 0, 0), (5, .if_icmp .ge 17, 8, 22, 0, 0), (8, .aload_n 0, 9, 0, 0, 0), (9, .getfield 15, 12, 0, 2, 2), (12, .iload_n 2, 13, 0, 0, 0), (13, .ldc 66, 15, 1000000, 0, 1000000), (15, .iastore, 16, 0, 0, 0), (16, .iinc 2 1, 19, 0, 0, 0), (19, .goto (-17), 22, 2, 0, 0), (22, .iconst 1, 23, 0, 0, 0), (23, .istore_n 2, 24, 0, 0, 0), (24, .iload_n 2, 25, 0, 0, 0), (25, .aload_n 1, 26, 0, 0, 0), (26, .getfield 49, 29, 2, 1, 1), (29, .if_icmp .gt 40, 32, 69, 0, 0), (32, .aload_n 0, 33, 0, 0, 0), (33, .getfield 15, 36, 0, 2, 2), (36, .aload_n 1, 37, 0, 0, 0), (37, .getfield 67, 40, 2, 3, 3), (40, .iload_n 2, 41, 0, 0, 0), (41, .iaload, 42, 0, 0, 0), (42, .aload_n 0, 43, 0, 0, 0), (43, .getfield 15, 46, 0, 2, 2), (46, .aload_n 1, 47, 0, 0, 0), (47, .getfield 67, 50, 2, 3, 3), (50, .iload_n 2, 51, 0, 0, 0), (51, .iaload, 52, 0, 0, 0), (52, .iaload, 53, 0, 0, 0), (53, .aload_n 1, 54, 0, 0, 0), (54, .getfield 70, 57, 2, 4, 4), (57, .iload_n 2, 58, 0, 0, 0), (58, .iaload, 59, 0, 0, 0), (59, .invokestatic 60, 62, 0, 4, 0), (62, .iastore, 63, 0, 0, 0), (63, .iinc 2 1, 66, 0, 0, 0), (66, .goto (-42), 69, 24, 0, 0), (69, .iconst 0, 70, 0, 0, 0), (70, .istore_n 2, 71, 0, 0, 0), (71, .iload_n 2, 72, 0, 0, 0), (72, .bipush 9, 74, 0, 0, 0), (74, .if_icmp .ge 32, 77, 106, 0, 0), (77, .aload_n 0, 78, 0, 0, 0), (78, .getfield 9, 81, 0, 1, 1), (81, .iload_n 2, 82, 0, 0, 0), (82, .aload_n 0, 83, 0, 0, 0), (83, .getfield 9, 86, 0, 1, 1), (86, .iload_n 2, 87, 0, 0, 0), (87, .iaload, 88, 0, 0, 0), (88, .aload_n 0, 89, 0, 0, 0), (89, .getfield 15, 92, 0, 2, 2), (92, .iload_n 2, 93, 0, 0, 0), (93, .iaload, 94, 0, 0, 0), (94, .iconst 1, 95, 0, 0, 0), (95, .iadd, 96, 0, 0, 0), (96, .invokestatic 73, 99, 0, 3, 0), (99, .iastore, 100, 0, 0, 0), (100, .iinc 2 1, 103, 0, 0, 0), (103, .goto (-32), 106, 71, 0, 0), (106, .return_, 107, 0, 0, 0)]
def smd_X0_noteHedges : smD := (0, yX0_noteHedges, cX0_noteHedges, 3, none, (2, false), (1, 38), smt_X0_noteHedges)
/-- X0_search: method 7 -/
def smt_X0_search : List smI := [(0, .aload_n 0, 1, 0, 0, 0), (1, .iconst 0, 2, 0, 0, 0), (2, .putfield 18, 5, 0, 0, 0), (5, .aload_n 0, 6, 0, 0, 0), (6, .ldc 24, 8, 2147483647, 0, 2147483647), (8, .putfield 25, 11, 0, 3, 3), (11, .aload_n 0, 12, 0, 0, 0), (12, .ldc 24, 14, 2147483647, 0, 2147483647), (14, .putfield 28, 17, 0, 4, 4), (17, .iconst 0, 18, 0, 0, 0), (18, .istore 6, 20, 0, 0, 0), (20, .iload 6, 22, 0, 0, 0), (22, .bipush 9, 24, 0, 0, 0), (24, .if_icmp .ge 17, 27, 41, 0, 0), (27, .aload_n 0, 28, 0, 0, 0), (28, .getfield 9, 31, 0, 1, 1), (31, .iload 6, 33, 0, 0, 0), (33, .iconst 0, 34, 0, 0, 0), (34, .iastore, 35, 0, 0, 0), (35, .iinc 6 1, 38, 0, 0, 0), (38, .goto (-18), 41, 20, 0, 0), (41, .iconst 0, 42, 0, 0, 0), (42, .istore 6, 44, 0, 0, 0), (44, .iload 6, 46, 0, 0, 0), (46, .iconst 1, 47, 0, 0, 0), (47, .if_icmp .gt 91, 50, 138, 0, 0), (50, .iconst 1, 51, 0, 0, 0), (51, .istore 7, 53, 0, 0, 0), (53, .iload 7, 55, 0, 0, 0), (55, .aload_n 1, 56, 0, 0, 0), (56, .getfield 31, 59, 9, 6, 6), (59, .iload 4, 61, 0, 0, 0), (61, .iaload, 62, 0, 0, 0), (62, .if_icmp .gt 70, 65, 132, 0, 0), (65, .iconst 1, 66, 0, 0, 0), (66, .istore 8, 68, 0, 0, 0), (68, .iload 8, 70, 0, 0, 0), (70, .iconst 5, 71, 0, 0, 0), (71, .if_icmp .gt 55, 74, 126, 0, 0), (74, .aload_n 3, 75, 0, 0, 0), (75, .aload_n 2, 76, 0, 0, 0), (76, .aload_n 1, 77, 0, 0, 0), (77, .getfield 36, 80, 9, 5, 5), (80, .iload 4, 82, 0, 0, 0), (82, .iaload, 83, 0, 0, 0), (83, .iload 6, 85, 0, 0, 0), (85, .iload 7, 87, 0, 0, 0), (87, .iload 8, 89, 0, 0, 0), (89, .invokevirtual 39, 92, 3, 0, 0), (92, .aload_n 3, 93, 0, 0, 0), (93, .iload 5, 95, 0, 0, 0), (95, .invokevirtual 45, 98, 4, 0, 0), (98, .ifCond .eq 22, 101, 120, 0, 0), (101, .aload_n 0, 102, 0, 0, 0), (102, .aload_n 3, 103, 0, 0, 0), (103, .getfield 49, 106, 2, 1, 1), (106, .iload 6, 108, 0, 0, 0), (108, .iload 7, 110, 0, 0, 0), (110, .iload 8, 112, 0, 0, 0), (112, .invokevirtual 52, 115, 5, 0, 0), (115, .aload_n 0, 116, 0, 0, 0), (116, .aload_n 3, 117, 0, 0, 0), (117, .invokevirtual 56, 120, 6, 0, 0), (120, .iinc 8 1, 123, 0, 0, 0), (123, .goto (-55), 126, 68, 0, 0), (126, .iinc 7 1, 129, 0, 0, 0), (129, .goto (-76), 132, 53, 0, 0), (132, .iinc 6 1, 135, 0, 0, 0), (135, .goto (-91), 138, 44, 0, 0), (138, .return_, 139, 0, 0, 0)]
def smd_X0_search : smD := (0, yX0_search, cX0_search, 9, none, (6, false), (3, 88), smt_X0_search)
/-- X0_lowestNeed: method 8 -/
def smt_X0_lowestNeed : List smI := [(0, .bipush (-6), 2, 0, 0, 0), (2, .istore_n 2, 3, 0, 0, 0), (3, .iconst 0, 4, 0, 0, 0), (4, .istore_n 3, 5, 0, 0, 0), (5, .iload_n 3, 6, 0, 0, 0), (6, .iload_n 1, 7, 0, 0, 0), (7, .if_icmp .ge 42, 10, 49, 0, 0), (10, .aload_n 0, 11, 0, 0, 0), (11, .getfield 9, 14, 0, 1, 1), (14, .iload_n 3, 15, 0, 0, 0), (15, .iaload, 16, 0, 0, 0), (16, .iconst 5, 17, 0, 0, 0), (17, .if_icmp .gt 26, 20, 43, 0, 0), (20, .iload_n 2, 21, 0, 0, 0), (21, .bipush (-6), 23, 0, 0, 0), (23, .if_icmp .eq 18, 26, 41, 0, 0), (26, .aload_n 0, 27, 0, 0, 0), (27, .getfield 9, 30, 0, 1, 1), (30, .iload_n 3, 31, 0, 0, 0), (31, .iaload, 32, 0, 0, 0), (32, .aload_n 0, 33, 0, 0, 0), (33, .getfield 9, 36, 0, 1, 1), (36, .iload_n 2, 37, 0, 0, 0), (37, .iaload, 38, 0, 0, 0), (38, .if_icmp .ge 5, 41, 43, 0, 0), (41, .iload_n 3, 42, 0, 0, 0), (42, .istore_n 2, 43, 0, 0, 0), (43, .iinc 3 1, 46, 0, 0, 0), (46, .goto (-41), 49, 5, 0, 0), (49, .iload_n 2, 50, 0, 0, 0), (50, .ireturn, 51, 0, 0, 0)]
def smd_X0_lowestNeed : smD := (0, yX0_lowestNeed, cX0_lowestNeed, 4, (some .int), (2, false), (0, 0), smt_X0_lowestNeed)
/-- X0_tellThrow: method 9 -/
def smt_X0_tellThrow : List smI := [(0, .sipush 1000, 3, 0, 0, 0), (3, .iload_n 0, 4, 0, 0, 0), (4, .iconst 1, 5, 0, 0, 0), (5, .iand, 6, 0, 0, 0), (6, .imul, 7, 0, 0, 0), (7, .bipush 10, 9, 0, 0, 0), (9, .iload_n 0, 10, 0, 0, 0), (10, .iconst 1, 11, 0, 0, 0), (11, .ishr, 12, 0, 0, 0), (12, .bipush 63, 14, 0, 0, 0), (14, .iand, 15, 0, 0, 0), (15, .imul, 16, 0, 0, 0), (16, .iadd, 17, 0, 0, 0), (17, .iload_n 1, 18, 0, 0, 0), (18, .iadd, 19, 0, 0, 0), (19, .ireturn, 20, 0, 0, 0)]
def smd_X0_tellThrow : smD := (0, yX0_tellThrow, cX0_tellThrow, 2, (some .int), (2, true), (0, 0), smt_X0_tellThrow)
/-- X0_tellBest: method 10 -/
def smt_X0_tellBest : List smI := [(0, .iload_n 1, 1, 0, 0, 0), (1, .ifCond .ne 8, 4, 9, 0, 0), (4, .aload_n 0, 5, 0, 0, 0), (5, .getfield 18, 8, 0, 0, 0), (8, .ireturn, 9, 0, 0, 0), (9, .aload_n 0, 10, 0, 0, 0), (10, .getfield 18, 13, 0, 0, 0), (13, .ifCond .ne 6, 16, 19, 0, 0), (16, .bipush (-6), 18, 0, 0, 0), (18, .ireturn, 19, 0, 0, 0), (19, .iload_n 1, 20, 0, 0, 0), (20, .tableswitch 69 1 3 #[28, 46, 54], 48, 0, 28, 0), (48, .aload_n 0, 49, 0, 0, 0), (49, .getfield 25, 52, 0, 3, 3), (52, .aload_n 0, 53, 0, 0, 0), (53, .getfield 25, 56, 0, 3, 3), (56, .bipush 7, 58, 0, 0, 0), (58, .ishr, 59, 0, 0, 0), (59, .bipush 7, 61, 0, 0, 0), (61, .iand, 62, 0, 0, 0), (62, .invokestatic 76, 65, 9, 0, 0), (65, .ireturn, 66, 0, 0, 0), (66, .aload_n 0, 67, 0, 0, 0), (67, .getfield 25, 70, 0, 3, 3), (70, .bipush 10, 72, 0, 0, 0), (72, .ishr, 73, 0, 0, 0), (73, .ireturn, 74, 0, 0, 0), (74, .aload_n 0, 75, 0, 0, 0), (75, .getfield 28, 78, 0, 4, 4), (78, .aload_n 0, 79, 0, 0, 0), (79, .getfield 28, 82, 0, 4, 4), (82, .bipush 13, 84, 0, 0, 0), (84, .ishr, 85, 0, 0, 0), (85, .invokestatic 76, 88, 9, 0, 0), (88, .ireturn, 89, 0, 0, 0), (89, .aload_n 0, 90, 0, 0, 0), (90, .getfield 28, 93, 0, 4, 4), (93, .bipush 7, 95, 0, 0, 0), (95, .ishr, 96, 0, 0, 0), (96, .bipush 63, 98, 0, 0, 0), (98, .iand, 99, 0, 0, 0), (99, .ireturn, 100, 0, 0, 0)]
def smd_X0_tellBest : smD := (0, yX0_tellBest, cX0_tellBest, 2, (some .int), (2, false), (1, 21), smt_X0_tellBest)
/-- X1_takeFrom: method 11 -/
def smt_X1_takeFrom : List smI := [(0, .aload_n 0, 1, 0, 0, 0), (1, .aload_n 1, 2, 0, 0, 0), (2, .getfield 27, 5, 1, 0, 0), (5, .putfield 27, 8, 1, 0, 0), (8, .aload_n 1, 9, 0, 0, 0), (9, .getfield 9, 12, 1, 1, 1), (12, .iconst 0, 13, 0, 0, 0), (13, .aload_n 0, 14, 0, 0, 0), (14, .getfield 9, 17, 1, 1, 1), (17, .iconst 0, 18, 0, 0, 0), (18, .bipush 12, 20, 0, 0, 0), (20, .invokestatic 31, 23, 0, 2, 0), (23, .aload_n 1, 24, 0, 0, 0), (24, .getfield 15, 27, 1, 2, 2), (27, .iconst 0, 28, 0, 0, 0), (28, .aload_n 0, 29, 0, 0, 0), (29, .getfield 15, 32, 1, 2, 2), (32, .iconst 0, 33, 0, 0, 0), (33, .bipush 12, 35, 0, 0, 0), (35, .invokestatic 31, 38, 0, 2, 0), (38, .aload_n 1, 39, 0, 0, 0), (39, .getfield 18, 42, 1, 3, 3), (42, .iconst 0, 43, 0, 0, 0), (43, .aload_n 0, 44, 0, 0, 0), (44, .getfield 18, 47, 1, 3, 3), (47, .iconst 0, 48, 0, 0, 0), (48, .bipush 12, 50, 0, 0, 0), (50, .invokestatic 31, 53, 0, 2, 0), (53, .aload_n 1, 54, 0, 0, 0), (54, .getfield 21, 57, 1, 4, 4), (57, .iconst 0, 58, 0, 0, 0), (58, .aload_n 0, 59, 0, 0, 0), (59, .getfield 21, 62, 1, 4, 4), (62, .iconst 0, 63, 0, 0, 0), (63, .bipush 12, 65, 0, 0, 0), (65, .invokestatic 31, 68, 0, 2, 0), (68, .aload_n 1, 69, 0, 0, 0), (69, .getfield 24, 72, 1, 5, 5), (72, .iconst 0, 73, 0, 0, 0), (73, .aload_n 0, 74, 0, 0, 0), (74, .getfield 24, 77, 1, 5, 5), (77, .iconst 0, 78, 0, 0, 0), (78, .bipush 12, 80, 0, 0, 0), (80, .invokestatic 31, 83, 0, 2, 0), (83, .return_, 84, 0, 0, 0)]
def smd_X1_takeFrom : smD := (1, yX1_takeFrom, cX1_takeFrom, 2, none, (2, false), (1, 38), smt_X1_takeFrom)
/-- X1_add: method 12 -/
def smt_X1_add : List smI := [(0, .aload_n 0, 1, 0, 0, 0), (1, .getfield 27, 4, 1, 0, 0), (4, .bipush 12, 6, 0, 0, 0), (6, .if_icmp .lt 4, 9, 10, 0, 0), (9, .return_, 10, 0, 0, 0), (10, .aload_n 0, 11, 0, 0, 0), (11, .getfield 9, 14, 1, 1, 1), (14, .aload_n 0, 15, 0, 0, 0), (15, .getfield 27, 18, 1, 0, 0), (18, .iload_n 1, 19, 0, 0, 0), (19, .iastore, 20, 0, 0, 0), (20, .aload_n 0, 21, 0, 0, 0), (21, .getfield 15, 24, 1, 2, 2), (24, .aload_n 0, 25, 0, 0, 0), (25, .getfield 27, 28, 1, 0, 0), (28, .iload_n 2, 29, 0, 0, 0), (29, .iastore, 30, 0, 0, 0), (30, .aload_n 0, 31, 0, 0, 0), (31, .getfield 18, 34, 1, 3, 3), (34, .aload_n 0, 35, 0, 0, 0), (35, .getfield 27, 38, 1, 0, 0), (38, .iload_n 3, 39, 0, 0, 0), (39, .iastore, 40, 0, 0, 0), (40, .aload_n 0, 41, 0, 0, 0), (41, .getfield 21, 44, 1, 4, 4), (44, .aload_n 0, 45, 0, 0, 0), (45, .getfield 27, 48, 1, 0, 0), (48, .iload 4, 50, 0, 0, 0), (50, .iastore, 51, 0, 0, 0), (51, .aload_n 0, 52, 0, 0, 0), (52, .getfield 24, 55, 1, 5, 5), (55, .aload_n 0, 56, 0, 0, 0), (56, .getfield 27, 59, 1, 0, 0), (59, .iconst 0, 60, 0, 0, 0), (60, .iastore, 61, 0, 0, 0), (61, .aload_n 0, 62, 0, 0, 0), (62, .dup, 63, 0, 0, 0), (63, .getfield 27, 66, 1, 0, 0), (66, .iconst 1, 67, 0, 0, 0), (67, .iadd, 68, 0, 0, 0), (68, .putfield 27, 71, 1, 0, 0), (71, .return_, 72, 0, 0, 0)]
def smd_X1_add : smD := (1, yX1_add, cX1_add, 5, none, (5, false), (0, 0), smt_X1_add)
/-- X1_moveOn: method 13 -/
def smt_X1_moveOn : List smI := [(0, .iconst 0, 1, 0, 0, 0), (1, .istore_n 2, 2, 0, 0, 0), (2, .iload_n 2, 3, 0, 0, 0), (3, .aload_n 0, 4, 0, 0, 0), (4, .getfield 27, 7, 1, 0, 0), (7, .if_icmp .ge 41, 10, 48, 0, 0), (10, .aload_n 0, 11, 0, 0, 0), (11, .getfield 9, 14, 1, 1, 1), (14, .iload_n 2, 15, 0, 0, 0), (15, .aload_n 0, 16, 0, 0, 0), (16, .getfield 9, 19, 1, 1, 1), (19, .iload_n 2, 20, 0, 0, 0), (20, .iaload, 21, 0, 0, 0), (21, .aload_n 0, 22, 0, 0, 0), (22, .getfield 15, 25, 1, 2, 2), (25, .iload_n 2, 26, 0, 0, 0), (26, .iaload, 27, 0, 0, 0), (27, .iload_n 1, 28, 0, 0, 0), (28, .invokestatic 37, 31, 0, 1, 0), (31, .iastore, 32, 0, 0, 0), (32, .aload_n 0, 33, 0, 0, 0), (33, .getfield 24, 36, 1, 5, 5), (36, .iload_n 2, 37, 0, 0, 0), (37, .dup2, 38, 0, 0, 0), (38, .iaload, 39, 0, 0, 0), (39, .iconst 1, 40, 0, 0, 0), (40, .iadd, 41, 0, 0, 0), (41, .iastore, 42, 0, 0, 0), (42, .iinc 2 1, 45, 0, 0, 0), (45, .goto (-43), 48, 2, 0, 0), (48, .return_, 49, 0, 0, 0)]
def smd_X1_moveOn : smD := (1, yX1_moveOn, cX1_moveOn, 3, none, (2, false), (1, 22), smt_X1_moveOn)
/-- X1_moveStone: method 14 -/
def smt_X1_moveStone : List smI := [(0, .aload_n 0, 1, 0, 0, 0), (1, .getfield 9, 4, 1, 1, 1), (4, .iload_n 2, 5, 0, 0, 0), (5, .aload_n 0, 6, 0, 0, 0), (6, .getfield 9, 9, 1, 1, 1), (9, .iload_n 1, 10, 0, 0, 0), (10, .iaload, 11, 0, 0, 0), (11, .iastore, 12, 0, 0, 0), (12, .aload_n 0, 13, 0, 0, 0), (13, .getfield 15, 16, 1, 2, 2), (16, .iload_n 2, 17, 0, 0, 0), (17, .aload_n 0, 18, 0, 0, 0), (18, .getfield 15, 21, 1, 2, 2), (21, .iload_n 1, 22, 0, 0, 0), (22, .iaload, 23, 0, 0, 0), (23, .iastore, 24, 0, 0, 0), (24, .aload_n 0, 25, 0, 0, 0), (25, .getfield 18, 28, 1, 3, 3), (28, .iload_n 2, 29, 0, 0, 0), (29, .aload_n 0, 30, 0, 0, 0), (30, .getfield 18, 33, 1, 3, 3), (33, .iload_n 1, 34, 0, 0, 0), (34, .iaload, 35, 0, 0, 0), (35, .iastore, 36, 0, 0, 0), (36, .aload_n 0, 37, 0, 0, 0), (37, .getfield 21, 40, 1, 4, 4), (40, .iload_n 2, 41, 0, 0, 0), (41, .aload_n 0, 42, 0, 0, 0), (42, .getfield 21, 45, 1, 4, 4), (45, .iload_n 1, 46, 0, 0, 0), (46, .iaload, 47, 0, 0, 0), (47, .iastore, 48, 0, 0, 0), (48, .aload_n 0, 49, 0, 0, 0), (49, .getfield 24, 52, 1, 5, 5), (52, .iload_n 2, 53, 0, 0, 0), (53, .aload_n 0, 54, 0, 0, 0), (54, .getfield 24, 57, 1, 5, 5), (57, .iload_n 1, 58, 0, 0, 0), (58, .iaload, 59, 0, 0, 0), (59, .iastore, 60, 0, 0, 0), (60, .return_, 61, 0, 0, 0)]
def smd_X1_moveStone : smD := (1, yX1_moveStone, cX1_moveStone, 3, none, (3, false), (0, 0), smt_X1_moveStone)
/-- X1_height: method 15 -/
def smt_X1_height : List smI := [(0, .aload_n 0, 1, 0, 0, 0), (1, .getfield 24, 4, 1, 5, 5), (4, .iload_n 1, 5, 0, 0, 0), (5, .iaload, 6, 0, 0, 0), (6, .aload_n 0, 7, 0, 0, 0), (7, .getfield 18, 10, 1, 3, 3), (10, .iload_n 1, 11, 0, 0, 0), (11, .iaload, 12, 0, 0, 0), (12, .aload_n 0, 13, 0, 0, 0), (13, .getfield 21, 16, 1, 4, 4), (16, .iload_n 1, 17, 0, 0, 0), (17, .iaload, 18, 0, 0, 0), (18, .invokestatic 41, 21, 1, 1, 0), (21, .ireturn, 22, 0, 0, 0)]
def smd_X1_height : smD := (1, yX1_height, cX1_height, 2, (some .int), (2, false), (2, 60), smt_X1_height)
/-- X1_countAt: method 16 -/
def smt_X1_countAt : List smI := [(0, .iconst 0, 1, 0, 0, 0), (1, .istore_n 2, 2, 0, 0, 0), (2, .iconst 0, 3, 0, 0, 0), (3, .istore_n 3, 4, 0, 0, 0), (4, .iload_n 3, 5, 0, 0, 0), (5, .aload_n 0, 6, 0, 0, 0), (6, .getfield 27, 9, 1, 0, 0), (9, .if_icmp .ge 27, 12, 36, 0, 0), (12, .iload_n 2, 13, 0, 0, 0), (13, .aload_n 0, 14, 0, 0, 0), (14, .getfield 9, 17, 1, 1, 1), (17, .iload_n 3, 18, 0, 0, 0), (18, .iaload, 19, 0, 0, 0), (19, .iload_n 1, 20, 0, 0, 0), (20, .if_icmp .ne 7, 23, 27, 0, 0), (23, .iconst 1, 24, 0, 0, 0), (24, .goto 4, 27, 28, 0, 0), (27, .iconst 0, 28, 0, 0, 0), (28, .iadd, 29, 0, 0, 0), (29, .istore_n 2, 30, 0, 0, 0), (30, .iinc 3 1, 33, 0, 0, 0), (33, .goto (-29), 36, 4, 0, 0), (36, .iload_n 2, 37, 0, 0, 0), (37, .ireturn, 38, 0, 0, 0)]
def smd_X1_countAt : smD := (1, yX1_countAt, cX1_countAt, 4, (some .int), (2, false), (0, 0), smt_X1_countAt)
/-- X1_tellStone: method 17 -/
def smt_X1_tellStone : List smI := [(0, .bipush 100, 2, 0, 0, 0), (2, .aload_n 0, 3, 0, 0, 0), (3, .getfield 9, 6, 1, 1, 1), (6, .iload_n 1, 7, 0, 0, 0), (7, .iaload, 8, 0, 0, 0), (8, .imul, 9, 0, 0, 0), (9, .bipush 10, 11, 0, 0, 0), (11, .aload_n 0, 12, 0, 0, 0), (12, .iload_n 1, 13, 0, 0, 0), (13, .invokevirtual 44, 16, 15, 0, 0), (16, .imul, 17, 0, 0, 0), (17, .iadd, 18, 0, 0, 0), (18, .aload_n 0, 19, 0, 0, 0), (19, .getfield 15, 22, 1, 2, 2), (22, .iload_n 1, 23, 0, 0, 0), (23, .iaload, 24, 0, 0, 0), (24, .iadd, 25, 0, 0, 0), (25, .ireturn, 26, 0, 0, 0)]
def smd_X1_tellStone : smD := (1, yX1_tellStone, cX1_tellStone, 2, (some .int), (2, false), (3, 81), smt_X1_tellStone)
/-- X1_fallingBits: method 18 -/
def smt_X1_fallingBits : List smI := [(0, .iconst 0, 1, 0, 0, 0), (1, .istore_n 1, 2, 0, 0, 0), (2, .iconst 0, 3, 0, 0, 0), (3, .istore_n 2, 4, 0, 0, 0), (4, .iload_n 2, 5, 0, 0, 0), (5, .aload_n 0, 6, 0, 0, 0), (6, .getfield 27, 9, 1, 0, 0), (9, .if_icmp .ge 80, 12, 89, 0, 0), (12, .aload_n 0, 13, 0, 0, 0), (13, .iload_n 2, 14, 0, 0, 0), (14, .invokevirtual 44, 17, 15, 0, 0), (17, .iconst 1, 18, 0, 0, 0), (18, .if_icmp .ge 9, 21, 27, 0, 0), (21, .iload_n 1, 22, 0, 0, 0), (22, .iconst 1, 23, 0, 0, 0), (23, .iload_n 2, 24, 0, 0, 0), (24, .ishl, 25, 0, 0, 0), (25, .ior, 26, 0, 0, 0), (26, .istore_n 1, 27, 0, 0, 0), (27, .iload_n 2, 28, 0, 0, 0), (28, .iconst 1, 29, 0, 0, 0), (29, .iadd, 30, 0, 0, 0), (30, .istore_n 3, 31, 0, 0, 0), (31, .iload_n 3, 32, 0, 0, 0), (32, .aload_n 0, 33, 0, 0, 0), (33, .getfield 27, 36, 1, 0, 0), (36, .if_icmp .ge 47, 39, 83, 0, 0), (39, .aload_n 0, 40, 0, 0, 0), (40, .getfield 9, 43, 1, 1, 1), (43, .iload_n 2, 44, 0, 0, 0), (44, .iaload, 45, 0, 0, 0), (45, .aload_n 0, 46, 0, 0, 0), (46, .getfield 9, 49, 1, 1, 1), (49, .iload_n 3, 50, 0, 0, 0), (50, .iaload, 51, 0, 0, 0), (51, .if_icmp .ne 26, 54, 77, 0, 0), (54, .aload_n 0, 55, 0, 0, 0), (55, .iload_n 2, 56, 0, 0, 0), (56, .invokevirtual 44, 59, 15, 0, 0), (59, .aload_n 0, 60, 0, 0, 0), (60, .iload_n 3, 61, 0, 0, 0), (61, .invokevirtual 44, 64, 15, 0, 0), (64, .if_icmp .ne 13, 67, 77, 0, 0), (67, .iload_n 1, 68, 0, 0, 0), (68, .iconst 1, 69, 0, 0, 0), (69, .iload_n 2, 70, 0, 0, 0), (70, .ishl, 71, 0, 0, 0), (71, .iconst 1, 72, 0, 0, 0), (72, .iload_n 3, 73, 0, 0, 0), (73, .ishl, 74, 0, 0, 0), (74, .ior, 75, 0, 0, 0), (75, .ior, 76, 0, 0, 0), (76, .istore_n 1, 77, 0, 0, 0), (77, .iinc 3 1, 80, 0, 0, 0), (80, .goto (-49), 83, 31, 0, 0), (83, .iinc 2 1, 86, 0, 0, 0), (86, .goto (-82), 89, 4, 0, 0), (89, .iload_n 1, 90, 0, 0, 0), (90, .ireturn, 91, 0, 0, 0)]
def smd_X1_fallingBits : smD := (1, yX1_fallingBits, cX1_fallingBits, 4, (some .int), (1, false), (3, 81), smt_X1_fallingBits)
/-- X2_isLowAt: method 19 -/
def smt_X2_isLowAt : List smI := [(0, .iload_n 1, 1, 0, 0, 0), (1, .aload_n 0, 2, 0, 0, 0), (2, .getfield 18, 5, 2, 1, 1), (5, .if_icmp .lt 19, 8, 24, 0, 0), (8, .iload_n 1, 9, 0, 0, 0), (9, .aload_n 0, 10, 0, 0, 0), (10, .getfield 18, 13, 2, 1, 1), (13, .if_icmp .ne 15, 16, 28, 0, 0), (16, .aload_n 0, 17, 0, 0, 0), (17, .getfield 22, 20, 2, 0, 0), (20, .iconst 2, 21, 0, 0, 0), (21, .if_icmp .ne 7, 24, 28, 0, 0), (24, .iconst 1, 25, 0, 0, 0), (25, .goto 4, 28, 29, 0, 0), (28, .iconst 0, 29, 0, 0, 0), (29, .istore_n 3, 30, 0, 0, 0), (30, .iload_n 3, 31, 0, 0, 0), (31, .ifCond .eq 29, 34, 60, 0, 0), (34, .aload_n 0, 35, 0, 0, 0), (35, .getfield 9, 38, 2, 3, 3), (38, .iload_n 1, 39, 0, 0, 0), (39, .iaload, 40, 0, 0, 0), (40, .iload_n 2, 41, 0, 0, 0), (41, .if_icmp .ne 19, 44, 60, 0, 0), (44, .aload_n 0, 45, 0, 0, 0), (45, .getfield 15, 48, 2, 4, 4), (48, .iload_n 1, 49, 0, 0, 0), (49, .iaload, 50, 0, 0, 0), (50, .invokestatic 43, 53, 2, 1, 0), (53, .ifCond .eq 7, 56, 60, 0, 0), (56, .iconst 1, 57, 0, 0, 0), (57, .goto 4, 60, 61, 0, 0), (60, .iconst 0, 61, 0, 0, 0), (61, .ireturn, 62, 0, 0, 0)]
def smd_X2_isLowAt : smD := (2, yX2_isLowAt, cX2_isLowAt, 4, (some .boolean), (3, false), (1, 20), smt_X2_isLowAt)
/-- X2_tellEnd: method 20 -/
def smt_X2_tellEnd : List smI := [(0, .iload_n 1, 1, 0, 0, 0), (1, .tableswitch 47 0 2 #[27, 32, 37], 28, 0, 27, 0), (28, .aload_n 0, 29, 0, 0, 0), (29, .getfield 22, 32, 2, 0, 0), (32, .ireturn, 33, 0, 0, 0), (33, .aload_n 0, 34, 0, 0, 0), (34, .getfield 18, 37, 2, 1, 1), (37, .ireturn, 38, 0, 0, 0), (38, .aload_n 0, 39, 0, 0, 0), (39, .getfield 9, 42, 2, 3, 3), (42, .aload_n 0, 43, 0, 0, 0), (43, .getfield 18, 46, 2, 1, 1), (46, .iaload, 47, 0, 0, 0), (47, .ireturn, 48, 0, 0, 0), (48, .aload_n 0, 49, 0, 0, 0), (49, .getfield 25, 52, 2, 2, 2), (52, .ireturn, 53, 0, 0, 0)]
def smd_X2_tellEnd : smD := (2, yX2_tellEnd, cX2_tellEnd, 2, (some .int), (2, false), (0, 0), smt_X2_tellEnd)
/-- X9_takeFrom: method 21 -/
def smt_X9_takeFrom : List smI := [(0, .aload_n 0, 1, 0, 0, 0), (1, .aload_n 1, 2, 0, 0, 0), (2, .getfield 9, 5, 9, 0, 0), (5, .putfield 9, 8, 9, 0, 0), (8, .aload_n 0, 9, 0, 0, 0), (9, .aload_n 1, 10, 0, 0, 0), (10, .getfield 44, 13, 9, 4, 4), (13, .putfield 44, 16, 9, 4, 4), (16, .aload_n 1, 17, 0, 0, 0), (17, .getfield 15, 20, 9, 1, 1), (20, .iconst 0, 21, 0, 0, 0), (21, .aload_n 0, 22, 0, 0, 0), (22, .getfield 15, 25, 9, 1, 1), (25, .iconst 0, 26, 0, 0, 0), (26, .bipush 9, 28, 0, 0, 0), (28, .invokestatic 50, 31, 0, 2, 0), (31, .aload_n 1, 32, 0, 0, 0), (32, .getfield 19, 35, 9, 2, 2), (35, .iconst 0, 36, 0, 0, 0), (36, .aload_n 0, 37, 0, 0, 0), (37, .getfield 19, 40, 9, 2, 2), (40, .iconst 0, 41, 0, 0, 0), (41, .bipush 9, 43, 0, 0, 0), (43, .invokestatic 50, 46, 0, 2, 0), (46, .aload_n 1, 47, 0, 0, 0), (47, .getfield 22, 50, 9, 3, 3), (50, .iconst 0, 51, 0, 0, 0), (51, .aload_n 0, 52, 0, 0, 0), (52, .getfield 22, 55, 9, 3, 3), (55, .iconst 0, 56, 0, 0, 0), (56, .bipush 9, 58, 0, 0, 0), (58, .invokestatic 50, 61, 0, 2, 0), (61, .aload_n 1, 62, 0, 0, 0), (62, .getfield 25, 65, 9, 5, 5), (65, .iconst 0, 66, 0, 0, 0), (66, .aload_n 0, 67, 0, 0, 0), (67, .getfield 25, 70, 9, 5, 5), (70, .iconst 0, 71, 0, 0, 0), (71, .iconst 5, 72, 0, 0, 0), (72, .invokestatic 50, 75, 0, 2, 0), (75, .aload_n 1, 76, 0, 0, 0), (76, .getfield 28, 79, 9, 6, 6), (79, .iconst 0, 80, 0, 0, 0), (80, .aload_n 0, 81, 0, 0, 0), (81, .getfield 28, 84, 9, 6, 6), (84, .iconst 0, 85, 0, 0, 0), (85, .iconst 5, 86, 0, 0, 0), (86, .invokestatic 50, 89, 0, 2, 0), (89, .aload_n 1, 90, 0, 0, 0), (90, .getfield 31, 93, 9, 7, 7), (93, .iconst 0, 94, 0, 0, 0), (94, .aload_n 0, 95, 0, 0, 0), (95, .getfield 31, 98, 9, 7, 7), (98, .iconst 0, 99, 0, 0, 0), (99, .iconst 5, 100, 0, 0, 0), (100, .invokestatic 50, 103, 0, 2, 0), (103, .aload_n 1, 104, 0, 0, 0), (104, .getfield 34, 107, 9, 8, 8), (107, .iconst 0, 108, 0, 0, 0), (108, .aload_n 0, 109, 0, 0, 0), (109, .getfield 34, 112, 9, 8, 8), (112, .iconst 0, 113, 0, 0, 0), (113, .iconst 5, 114, 0, 0, 0), (114, .invokestatic 50, 117, 0, 2, 0), (117, .aload_n 0, 118, 0, 0, 0), (118, .getfield 40, 121, 9, 9, 9), (121, .aload_n 1, 122, 0, 0, 0), (122, .getfield 40, 125, 9, 9, 9), (125, .invokevirtual 56, 128, 11, 0, 0), (128, .return_, 129, 0, 0, 0)]
def smd_X9_takeFrom : smD := (9, yX9_takeFrom, cX9_takeFrom, 2, none, (2, false), (2, 59), smt_X9_takeFrom)
/-- X8_takeFrom: method 22 -/
def smt_X8_takeFrom : List smI := [(0, .aload_n 0, 1, 0, 0, 0), (1, .aload_n 1, 2, 0, 0, 0), (2, .getfield 30, 5, 8, 0, 0), (5, .putfield 30, 8, 8, 0, 0), (8, .aload_n 1, 9, 0, 0, 0), (9, .getfield 9, 12, 8, 1, 1), (12, .iconst 0, 13, 0, 0, 0), (13, .aload_n 0, 14, 0, 0, 0), (14, .getfield 9, 17, 8, 1, 1), (17, .iconst 0, 18, 0, 0, 0), (18, .bipush 6, 20, 0, 0, 0), (20, .invokestatic 34, 23, 0, 2, 0), (23, .aload_n 1, 24, 0, 0, 0), (24, .getfield 15, 27, 8, 2, 2), (27, .iconst 0, 28, 0, 0, 0), (28, .aload_n 0, 29, 0, 0, 0), (29, .getfield 15, 32, 8, 2, 2), (32, .iconst 0, 33, 0, 0, 0), (33, .bipush 6, 35, 0, 0, 0), (35, .invokestatic 34, 38, 0, 2, 0), (38, .aload_n 1, 39, 0, 0, 0), (39, .getfield 18, 42, 8, 3, 3), (42, .iconst 0, 43, 0, 0, 0), (43, .aload_n 0, 44, 0, 0, 0), (44, .getfield 18, 47, 8, 3, 3), (47, .iconst 0, 48, 0, 0, 0), (48, .bipush 6, 50, 0, 0, 0), (50, .invokestatic 34, 53, 0, 2, 0), (53, .aload_n 1, 54, 0, 0, 0), (54, .getfield 21, 57, 8, 4, 4), (57, .iconst 0, 58, 0, 0, 0), (58, .aload_n 0, 59, 0, 0, 0), (59, .getfield 21, 62, 8, 4, 4), (62, .iconst 0, 63, 0, 0, 0), (63, .bipush 6, 65, 0, 0, 0), (65, .invokestatic 34, 68, 0, 2, 0), (68, .aload_n 1, 69, 0, 0, 0), (69, .getfield 24, 72, 8, 5, 5), (72, .iconst 0, 73, 0, 0, 0), (73, .aload_n 0, 74, 0, 0, 0), (74, .getfield 24, 77, 8, 5, 5), (77, .iconst 0, 78, 0, 0, 0), (78, .bipush 6, 80, 0, 0, 0), (80, .invokestatic 34, 83, 0, 2, 0), (83, .aload_n 1, 84, 0, 0, 0), (84, .getfield 27, 87, 8, 6, 6), (87, .iconst 0, 88, 0, 0, 0), (88, .aload_n 0, 89, 0, 0, 0), (89, .getfield 27, 92, 8, 6, 6), (92, .iconst 0, 93, 0, 0, 0), (93, .bipush 6, 95, 0, 0, 0), (95, .invokestatic 34, 98, 0, 2, 0), (98, .return_, 99, 0, 0, 0)]
def smd_X8_takeFrom : smD := (8, yX8_takeFrom, cX8_takeFrom, 2, none, (2, false), (1, 38), smt_X8_takeFrom)
/-- X7_takeFrom: method 23 -/
def smt_X7_takeFrom : List smI := [(0, .aload_n 0, 1, 0, 0, 0), (1, .aload_n 1, 2, 0, 0, 0), (2, .getfield 21, 5, 7, 0, 0), (5, .putfield 21, 8, 7, 0, 0), (8, .aload_n 1, 9, 0, 0, 0), (9, .getfield 9, 12, 7, 1, 1), (12, .iconst 0, 13, 0, 0, 0), (13, .aload_n 0, 14, 0, 0, 0), (14, .getfield 9, 17, 7, 1, 1), (17, .iconst 0, 18, 0, 0, 0), (18, .bipush 6, 20, 0, 0, 0), (20, .invokestatic 25, 23, 0, 2, 0), (23, .aload_n 1, 24, 0, 0, 0), (24, .getfield 15, 27, 7, 2, 2), (27, .iconst 0, 28, 0, 0, 0), (28, .aload_n 0, 29, 0, 0, 0), (29, .getfield 15, 32, 7, 2, 2), (32, .iconst 0, 33, 0, 0, 0), (33, .bipush 6, 35, 0, 0, 0), (35, .invokestatic 25, 38, 0, 2, 0), (38, .aload_n 1, 39, 0, 0, 0), (39, .getfield 18, 42, 7, 3, 3), (42, .iconst 0, 43, 0, 0, 0), (43, .aload_n 0, 44, 0, 0, 0), (44, .getfield 18, 47, 7, 3, 3), (47, .iconst 0, 48, 0, 0, 0), (48, .bipush 6, 50, 0, 0, 0), (50, .invokestatic 25, 53, 0, 2, 0), (53, .return_, 54, 0, 0, 0)]
def smd_X7_takeFrom : smD := (7, yX7_takeFrom, cX7_takeFrom, 2, none, (2, false), (1, 38), smt_X7_takeFrom)
/-- X3_takeFrom: method 24 -/
def smt_X3_takeFrom : List smI := [(0, .aload_n 0, 1, 0, 0, 0), (1, .getfield 10, 4, 3, 0, 0), (4, .aload_n 1, 5, 0, 0, 0), (5, .getfield 10, 8, 3, 0, 0), (8, .invokevirtual 30, 11, 21, 0, 0), (11, .aload_n 0, 12, 0, 0, 0), (12, .getfield 19, 15, 3, 1, 1), (15, .aload_n 1, 16, 0, 0, 0), (16, .getfield 19, 19, 3, 1, 1), (19, .invokevirtual 34, 22, 22, 0, 0), (22, .aload_n 0, 23, 0, 0, 0), (23, .getfield 26, 26, 3, 2, 2), (26, .aload_n 1, 27, 0, 0, 0), (27, .getfield 26, 30, 3, 2, 2), (30, .invokevirtual 37, 33, 23, 0, 0), (33, .return_, 34, 0, 0, 0)]
def smd_X3_takeFrom : smD := (3, yX3_takeFrom, cX3_takeFrom, 2, none, (2, false), (3, 80), smt_X3_takeFrom)
/-- X8_fly: method 25 -/
def smt_X8_fly : List smI := [(0, .aload_n 3, 1, 0, 0, 0), (1, .aload_n 2, 2, 0, 0, 0), (2, .aload_n 0, 3, 0, 0, 0), (3, .getfield 18, 6, 8, 3, 3), (6, .iload_n 1, 7, 0, 0, 0), (7, .iaload, 8, 0, 0, 0), (8, .aload_n 0, 9, 0, 0, 0), (9, .getfield 21, 12, 8, 4, 4), (12, .iload_n 1, 13, 0, 0, 0), (13, .iaload, 14, 0, 0, 0), (14, .aload_n 0, 15, 0, 0, 0), (15, .getfield 24, 18, 8, 5, 5), (18, .iload_n 1, 19, 0, 0, 0), (19, .iaload, 20, 0, 0, 0), (20, .aload_n 0, 21, 0, 0, 0), (21, .getfield 27, 24, 8, 6, 6), (24, .iload_n 1, 25, 0, 0, 0), (25, .iaload, 26, 0, 0, 0), (26, .invokevirtual 44, 29, 3, 0, 0), (29, .return_, 30, 0, 0, 0)]
def smd_X8_fly : smD := (8, yX8_fly, cX8_fly, 4, none, (4, false), (3, 88), smt_X8_fly)
/-- X4_isInRow: method 26 -/
def smt_X4_isInRow : List smI := [(0, .iload_n 0, 1, 0, 0, 0), (1, .iload_n 1, 2, 0, 0, 0), (2, .if_icmp .lt 8, 5, 10, 0, 0), (5, .iload_n 2, 6, 0, 0, 0), (6, .iconst 1, 7, 0, 0, 0), (7, .if_icmp .ge 14, 10, 21, 0, 0), (10, .iload_n 0, 11, 0, 0, 0), (11, .iload_n 1, 12, 0, 0, 0), (12, .if_icmp .ne 7, 15, 19, 0, 0), (15, .iconst 1, 16, 0, 0, 0), (16, .goto 4, 19, 20, 0, 0), (19, .iconst 0, 20, 0, 0, 0), (20, .ireturn, 21, 0, 0, 0), (21, .iload_n 0, 22, 0, 0, 0), (22, .iload_n 1, 23, 0, 0, 0), (23, .isub, 24, 0, 0, 0), (24, .iload_n 2, 25, 0, 0, 0), (25, .irem, 26, 0, 0, 0), (26, .ifCond .ne 7, 29, 33, 0, 0), (29, .iconst 1, 30, 0, 0, 0), (30, .goto 4, 33, 34, 0, 0), (33, .iconst 0, 34, 0, 0, 0), (34, .ireturn, 35, 0, 0, 0)]
def smd_X4_isInRow : smD := (4, yX4_isInRow, cX4_isInRow, 3, (some .boolean), (3, true), (0, 0), smt_X4_isInRow)
/-- X4_firstCommon: method 27 -/
def smt_X4_firstCommon : List smI := [(0, .iload_n 1, 1, 0, 0, 0), (1, .iconst 1, 2, 0, 0, 0), (2, .if_icmp .ge 19, 5, 21, 0, 0), (5, .iload_n 0, 6, 0, 0, 0), (6, .iload_n 2, 7, 0, 0, 0), (7, .iload_n 3, 8, 0, 0, 0), (8, .invokestatic 61, 11, 26, 0, 0), (11, .ifCond .eq 7, 14, 18, 0, 0), (14, .iload_n 0, 15, 0, 0, 0), (15, .goto 5, 18, 20, 0, 0), (18, .ldc 34, 20, 1000000, 0, 1000000), (20, .ireturn, 21, 0, 0, 0), (21, .iload_n 3, 22, 0, 0, 0), (22, .iconst 1, 23, 0, 0, 0), (23, .if_icmp .ge 19, 26, 42, 0, 0), (26, .iload_n 2, 27, 0, 0, 0), (27, .iload_n 0, 28, 0, 0, 0), (28, .iload_n 1, 29, 0, 0, 0), (29, .invokestatic 61, 32, 26, 0, 0), (32, .ifCond .eq 7, 35, 39, 0, 0), (35, .iload_n 2, 36, 0, 0, 0), (36, .goto 5, 39, 41, 0, 0), (39, .ldc 34, 41, 1000000, 0, 1000000), (41, .ireturn, 42, 0, 0, 0), (42, .iload_n 0, 43, 0, 0, 0), (43, .iload_n 2, 44, 0, 0, 0), (44, .if_icmp .ge 19, 47, 63, 0, 0), (47, .iload_n 0, 48, 0, 0, 0), (48, .iload_n 2, 49, 0, 0, 0), (49, .iload_n 0, 50, 0, 0, 0), (50, .isub, 51, 0, 0, 0), (51, .iload_n 1, 52, 0, 0, 0), (52, .iadd, 53, 0, 0, 0), (53, .iconst 1, 54, 0, 0, 0), (54, .isub, 55, 0, 0, 0), (55, .iload_n 1, 56, 0, 0, 0), (56, .idiv, 57, 0, 0, 0), (57, .iload_n 1, 58, 0, 0, 0), (58, .imul, 59, 0, 0, 0), (59, .iadd, 60, 0, 0, 0), (60, .goto 4, 63, 64, 0, 0), (63, .iload_n 0, 64, 0, 0, 0), (64, .istore 4, 66, 0, 0, 0), (66, .iconst 0, 67, 0, 0, 0), (67, .istore 5, 69, 0, 0, 0), (69, .iload 5, 71, 0, 0, 0), (71, .iload_n 3, 72, 0, 0, 0), (72, .if_icmp .ge 27, 75, 99, 0, 0), (75, .iload 4, 77, 0, 0, 0), (77, .iload_n 2, 78, 0, 0, 0), (78, .isub, 79, 0, 0, 0), (79, .iload_n 3, 80, 0, 0, 0), (80, .irem, 81, 0, 0, 0), (81, .ifCond .ne 6, 84, 87, 0, 0), (84, .iload 4, 86, 0, 0, 0), (86, .ireturn, 87, 0, 0, 0), (87, .iload 4, 89, 0, 0, 0), (89, .iload_n 1, 90, 0, 0, 0), (90, .iadd, 91, 0, 0, 0), (91, .istore 4, 93, 0, 0, 0), (93, .iinc 5 1, 96, 0, 0, 0), (96, .goto (-27), 99, 69, 0, 0), (99, .ldc 34, 101, 1000000, 0, 1000000), (101, .ireturn, 102, 0, 0, 0)]
def smd_X4_firstCommon : smD := (4, yX4_firstCommon, cX4_firstCommon, 6, (some .int), (4, true), (1, 22), smt_X4_firstCommon)
/-- X4_firstMeeting: method 28 -/
def smt_X4_firstMeeting : List smI := [(0, .aload_n 1, 1, 0, 0, 0), (1, .iload_n 3, 2, 0, 0, 0), (2, .aload_n 2, 3, 0, 0, 0), (3, .aload_n 0, 4, 0, 0, 0), (4, .getfield 12, 7, 4, 0, 0), (7, .invokevirtual 28, 10, 25, 0, 0), (10, .aload_n 1, 11, 0, 0, 0), (11, .iload 4, 13, 0, 0, 0), (13, .aload_n 2, 14, 0, 0, 0), (14, .aload_n 0, 15, 0, 0, 0), (15, .getfield 18, 18, 4, 1, 1), (18, .invokevirtual 28, 21, 25, 0, 0), (21, .ldc 34, 23, 1000000, 0, 1000000), (23, .istore 5, 25, 0, 0, 0), (25, .iconst 1, 26, 0, 0, 0), (26, .istore 6, 28, 0, 0, 0), (28, .iload 6, 30, 0, 0, 0), (30, .aload_n 0, 31, 0, 0, 0), (31, .getfield 12, 34, 4, 0, 0), (34, .getfield 35, 37, 2, 1, 1), (37, .if_icmp .ge 122, 40, 159, 0, 0), (40, .iconst 1, 41, 0, 0, 0), (41, .istore 7, 43, 0, 0, 0), (43, .iload 7, 45, 0, 0, 0), (45, .aload_n 0, 46, 0, 0, 0), (46, .getfield 18, 49, 4, 1, 1), (49, .getfield 35, 52, 2, 1, 1), (52, .if_icmp .ge 101, 55, 153, 0, 0), (55, .aload_n 0, 56, 0, 0, 0), (56, .getfield 12, 59, 4, 0, 0), (59, .getfield 39, 62, 2, 3, 3), (62, .iload 6, 64, 0, 0, 0), (64, .iaload, 65, 0, 0, 0), (65, .aload_n 0, 66, 0, 0, 0), (66, .getfield 18, 69, 4, 1, 1), (69, .getfield 39, 72, 2, 3, 3), (72, .iload 7, 74, 0, 0, 0), (74, .iaload, 75, 0, 0, 0), (75, .if_icmp .ne 72, 78, 147, 0, 0), (78, .aload_n 0, 79, 0, 0, 0), (79, .getfield 12, 82, 4, 0, 0), (82, .getfield 42, 85, 2, 4, 4), (85, .iload 6, 87, 0, 0, 0), (87, .iaload, 88, 0, 0, 0), (88, .aload_n 0, 89, 0, 0, 0), (89, .getfield 18, 92, 4, 1, 1), (92, .getfield 42, 95, 2, 4, 4), (95, .iload 7, 97, 0, 0, 0), (97, .iaload, 98, 0, 0, 0), (98, .if_icmp .ne 49, 101, 147, 0, 0), (101, .aload_n 1, 102, 0, 0, 0), (102, .getfield 45, 105, 8, 1, 1), (105, .iload_n 3, 106, 0, 0, 0), (106, .iaload, 107, 0, 0, 0), (107, .iload 6, 109, 0, 0, 0), (109, .iadd, 110, 0, 0, 0), (110, .aload_n 1, 111, 0, 0, 0), (111, .getfield 48, 114, 8, 2, 2), (114, .iload_n 3, 115, 0, 0, 0), (115, .iaload, 116, 0, 0, 0), (116, .aload_n 1, 117, 0, 0, 0), (117, .getfield 45, 120, 8, 1, 1), (120, .iload 4, 122, 0, 0, 0), (122, .iaload, 123, 0, 0, 0), (123, .iload 7, 125, 0, 0, 0), (125, .iadd, 126, 0, 0, 0), (126, .aload_n 1, 127, 0, 0, 0), (127, .getfield 48, 130, 8, 2, 2), (130, .iload 4, 132, 0, 0, 0), (132, .iaload, 133, 0, 0, 0), (133, .invokestatic 51, 136, 27, 0, 0), (136, .istore 8, 138, 0, 0, 0), (138, .iload 5, 140, 0, 0, 0), (140, .iload 8, 142, 0, 0, 0), (142, .invokestatic 55, 145, 0, 4, 0), (145, .istore 5, 147, 0, 0, 0), (147, .iinc 7 1, 150, 0, 0, 0), (150, .goto (-107), 153, 43, 0, 0), (153, .iinc 6 1, 156, 0, 0, 0), (156, .goto (-128), 159, 28, 0, 0), (159, .iload 5, 161, 0, 0, 0), (161, .ldc 34, 163, 1000000, 0, 1000000), (163, .if_icmp .ge 8, 166, 171, 0, 0), (166, .iload 5, 168, 0, 0, 0), (168, .goto 5, 171, 173, 0, 0), (171, .bipush (-6), 173, 0, 0, 0), (173, .ireturn, 174, 0, 0, 0)]
def smd_X4_firstMeeting : smD := (4, yX4_firstMeeting, cX4_firstMeeting, 9, (some .int), (5, false), (4, 111), smt_X4_firstMeeting)
/-- X10_within: method 29 -/
def smt_X10_within : List smI := [(0, .iload_n 0, 1, 0, 0, 0), (1, .iload_n 1, 2, 0, 0, 0), (2, .if_icmp .lt 12, 5, 14, 0, 0), (5, .iload_n 0, 6, 0, 0, 0), (6, .iload_n 2, 7, 0, 0, 0), (7, .if_icmp .gt 7, 10, 14, 0, 0), (10, .iconst 1, 11, 0, 0, 0), (11, .goto 4, 14, 15, 0, 0), (14, .iconst 0, 15, 0, 0, 0), (15, .ireturn, 16, 0, 0, 0)]
def smd_X10_within : smD := (10, yX10_within, cX10_within, 3, (some .boolean), (3, true), (0, 0), smt_X10_within)
/-- X8_has: method 30 -/
def smt_X8_has : List smI := [(0, .iload_n 1, 1, 0, 0, 0), (1, .iconst 0, 2, 0, 0, 0), (2, .iconst 5, 3, 0, 0, 0), (3, .invokestatic 40, 6, 29, 1, 0), (6, .ifCond .eq 18, 9, 24, 0, 0), (9, .aload_n 0, 10, 0, 0, 0), (10, .getfield 30, 13, 8, 0, 0), (13, .iload_n 1, 14, 0, 0, 0), (14, .ishr, 15, 0, 0, 0), (15, .iconst 1, 16, 0, 0, 0), (16, .iand, 17, 0, 0, 0), (17, .ifCond .eq 7, 20, 24, 0, 0), (20, .iconst 1, 21, 0, 0, 0), (21, .goto 4, 24, 25, 0, 0), (24, .iconst 0, 25, 0, 0, 0), (25, .ireturn, 26, 0, 0, 0)]
def smd_X8_has : smD := (8, yX8_has, cX8_has, 2, (some .boolean), (2, false), (1, 22), smt_X8_has)
/-- X4_noteMeetings: method 31 -/
def smt_X4_noteMeetings : List smI := [(0, .iconst 0, 1, 0, 0, 0), (1, .istore_n 3, 2, 0, 0, 0), (2, .iload_n 3, 3, 0, 0, 0), (3, .bipush 6, 5, 0, 0, 0), (5, .if_icmp .ge 75, 8, 80, 0, 0), (8, .aload_n 0, 9, 0, 0, 0), (9, .getfield 21, 12, 4, 2, 2), (12, .iload_n 3, 13, 0, 0, 0), (13, .iconst 0, 14, 0, 0, 0), (14, .iastore, 15, 0, 0, 0), (15, .iconst 0, 16, 0, 0, 0), (16, .istore 4, 18, 0, 0, 0), (18, .iload 4, 20, 0, 0, 0), (20, .iload_n 3, 21, 0, 0, 0), (21, .if_icmp .ge 53, 24, 74, 0, 0), (24, .aload_n 1, 25, 0, 0, 0), (25, .iload_n 3, 26, 0, 0, 0), (26, .invokevirtual 82, 29, 30, 0, 0), (29, .ifCond .eq 39, 32, 68, 0, 0), (32, .aload_n 1, 33, 0, 0, 0), (33, .iload 4, 35, 0, 0, 0), (35, .invokevirtual 82, 38, 30, 0, 0), (38, .ifCond .eq 30, 41, 68, 0, 0), (41, .aload_n 0, 42, 0, 0, 0), (42, .aload_n 1, 43, 0, 0, 0), (43, .aload_n 2, 44, 0, 0, 0), (44, .iload_n 3, 45, 0, 0, 0), (45, .iload 4, 47, 0, 0, 0), (47, .invokevirtual 85, 50, 28, 0, 0), (50, .bipush (-6), 52, 0, 0, 0), (52, .if_icmp .eq 16, 55, 68, 0, 0), (55, .aload_n 0, 56, 0, 0, 0), (56, .getfield 21, 59, 4, 2, 2), (59, .iload_n 3, 60, 0, 0, 0), (60, .dup2, 61, 0, 0, 0), (61, .iaload, 62, 0, 0, 0), (62, .iconst 1, 63, 0, 0, 0), (63, .iload 4, 65, 0, 0, 0), (65, .ishl, 66, 0, 0, 0), (66, .ior, 67, 0, 0, 0), (67, .iastore, 68, 0, 0, 0), (68, .iinc 4 1, 71, 0, 0, 0), (71, .goto (-53), 74, 18, 0, 0), (74, .iinc 3 1, 77, 0, 0, 0), (77, .goto (-75), 80, 2, 0, 0), (80, .return_, 81, 0, 0, 0)]
def smd_X4_noteMeetings : smD := (4, yX4_noteMeetings, cX4_noteMeetings, 5, none, (3, false), (5, 139), smt_X4_noteMeetings)
/-- J6_bitCount_0f7a4: method 32 -/
def smt_J6_bitCount_0f7a4 : List smI := [(0, .iload_n 0, 1, 0, 0, 0), (1, .iload_n 0, 2, 0, 0, 0), (2, .iconst 1, 3, 0, 0, 0), (3, .iushr, 4, 0, 0, 0), (4, .ldc_w 265, 7, 1431655765, 0, 1431655765), (7, .iand, 8, 0, 0, 0), (8, .isub, 9, 0, 0, 0), (9, .istore_n 0, 10, 0, 0, 0), (10, .iload_n 0, 11, 0, 0, 0), (11, .ldc_w 266, 14, 858993459, 0, 858993459), (14, .iand, 15, 0, 0, 0), (15, .iload_n 0, 16, 0, 0, 0), (16, .iconst 2, 17, 0, 0, 0), (17, .iushr, 18, 0, 0, 0), (18, .ldc_w 266, 21, 858993459, 0, 858993459), (21, .iand, 22, 0, 0, 0), (22, .iadd, 23, 0, 0, 0), (23, .istore_n 0, 24, 0, 0, 0), (24, .iload_n 0, 25, 0, 0, 0), (25, .iload_n 0, 26, 0, 0, 0), (26, .iconst 4, 27, 0, 0, 0), (27, .iushr, 28, 0, 0, 0), (28, .iadd, 29, 0, 0, 0), (29, .ldc_w 267, 32, 252645135, 0, 252645135), (32, .iand, 33, 0, 0, 0), (33, .istore_n 0, 34, 0, 0, 0), (34, .iload_n 0, 35, 0, 0, 0), (35, .iload_n 0, 36, 0, 0, 0), (36, .bipush 8, 38, 0, 0, 0), (38, .iushr, 39, 0, 0, 0), (39, .iadd, 40, 0, 0, 0), (40, .istore_n 0, 41, 0, 0, 0), (41, .iload_n 0, 42, 0, 0, 0), (42, .iload_n 0, 43, 0, 0, 0), (43, .bipush 16, 45, 0, 0, 0), (45, .iushr, 46, 0, 0, 0), (46, .iadd, 47, 0, 0, 0), (47, .istore_n 0, 48, 0, 0, 0), (48, .iload_n 0, 49, 0, 0, 0), (49, .bipush 63, 51, 0, 0, 0), (51, .iand, 52, 0, 0, 0), (52, .ireturn, 53, 0, 0, 0)]
def smd_J6_bitCount_0f7a4 : smD := (13, yJ6_bitCount_0f7a4, cJ6_bitCount_0f7a4, 1, (some .int), (1, true), (0, 0), smt_J6_bitCount_0f7a4)
/-- X4_keepsApart: method 33 -/
def smt_X4_keepsApart : List smI := [(0, .iconst 0, 1, 0, 0, 0), (1, .istore_n 2, 2, 0, 0, 0), (2, .iload_n 2, 3, 0, 0, 0), (3, .bipush 6, 5, 0, 0, 0), (5, .if_icmp .ge 30, 8, 35, 0, 0), (8, .iload_n 1, 9, 0, 0, 0), (9, .iload_n 2, 10, 0, 0, 0), (10, .ishr, 11, 0, 0, 0), (11, .iconst 1, 12, 0, 0, 0), (12, .iand, 13, 0, 0, 0), (13, .ifCond .eq 16, 16, 29, 0, 0), (16, .aload_n 0, 17, 0, 0, 0), (17, .getfield 21, 20, 4, 2, 2), (20, .iload_n 2, 21, 0, 0, 0), (21, .iaload, 22, 0, 0, 0), (22, .iload_n 1, 23, 0, 0, 0), (23, .iand, 24, 0, 0, 0), (24, .ifCond .eq 5, 27, 29, 0, 0), (27, .iconst 0, 28, 0, 0, 0), (28, .ireturn, 29, 0, 0, 0), (29, .iinc 2 1, 32, 0, 0, 0), (32, .goto (-30), 35, 2, 0, 0), (35, .iconst 1, 36, 0, 0, 0), (36, .ireturn, 37, 0, 0, 0)]
def smd_X4_keepsApart : smD := (4, yX4_keepsApart, cX4_keepsApart, 3, (some .boolean), (2, false), (0, 0), smt_X4_keepsApart)
/-- X4_fewestForbidden: method 34 -/
def smt_X4_fewestForbidden : List smI := [(0, .aload_n 0, 1, 0, 0, 0), (1, .aload_n 1, 2, 0, 0, 0), (2, .aload_n 2, 3, 0, 0, 0), (3, .invokevirtual 65, 6, 31, 0, 0), (6, .aload_n 1, 7, 0, 0, 0), (7, .getfield 69, 10, 8, 0, 0), (10, .istore_n 3, 11, 0, 0, 0), (11, .iconst 0, 12, 0, 0, 0), (12, .istore 4, 14, 0, 0, 0), (14, .iload 4, 16, 0, 0, 0), (16, .bipush 64, 18, 0, 0, 0), (18, .if_icmp .ge 52, 21, 70, 0, 0), (21, .iload 4, 23, 0, 0, 0), (23, .aload_n 1, 24, 0, 0, 0), (24, .getfield 69, 27, 8, 0, 0), (27, .iconst (-1), 28, 0, 0, 0), (28, .ixor, 29, 0, 0, 0), (29, .iand, 30, 0, 0, 0), (30, .ifCond .ne 34, 33, 64, 0, 0), (33, .iload 4, 35, 0, 0, 0), (35, .invokestatic 72, 38, 32, 0, 0), (38, .iload_n 3, 39, 0, 0, 0), (39, .invokestatic 72, 42, 32, 0, 0), (42, .if_icmp .ge 22, 45, 64, 0, 0), (45, .aload_n 0, 46, 0, 0, 0), (46, .aload_n 1, 47, 0, 0, 0), (47, .getfield 69, 50, 8, 0, 0), (50, .iload 4, 52, 0, 0, 0), (52, .iconst (-1), 53, 0, 0, 0), (53, .ixor, 54, 0, 0, 0), (54, .iand, 55, 0, 0, 0), (55, .invokevirtual 78, 58, 33, 0, 0), (58, .ifCond .eq 6, 61, 64, 0, 0), (61, .iload 4, 63, 0, 0, 0), (63, .istore_n 3, 64, 0, 0, 0), (64, .iinc 4 1, 67, 0, 0, 0), (67, .goto (-53), 70, 14, 0, 0), (70, .iload_n 3, 71, 0, 0, 0), (71, .ireturn, 72, 0, 0, 0)]
def smd_X4_fewestForbidden : smD := (4, yX4_fewestForbidden, cX4_fewestForbidden, 5, (some .int), (3, false), (6, 163), smt_X4_fewestForbidden)
/-- X4_markRow: method 35 -/
def smt_X4_markRow : List smI := [(0, .iload_n 2, 1, 0, 0, 0), (1, .iconst 1, 2, 0, 0, 0), (2, .if_icmp .ge 9, 5, 11, 0, 0), (5, .sipush 999, 8, 0, 0, 0), (8, .goto 4, 11, 12, 0, 0), (11, .iload_n 2, 12, 0, 0, 0), (12, .istore 5, 14, 0, 0, 0), (14, .iload_n 1, 15, 0, 0, 0), (15, .istore 6, 17, 0, 0, 0), (17, .iload 6, 19, 0, 0, 0), (19, .iload_n 3, 20, 0, 0, 0), (20, .if_icmp .gt 47, 23, 67, 0, 0), (23, .iload 6, 25, 0, 0, 0), (25, .sipush 999, 28, 0, 0, 0), (28, .if_icmp .gt 39, 31, 67, 0, 0), (31, .aload_n 0, 32, 0, 0, 0), (32, .getfield 25, 35, 4, 3, 3), (35, .iload 6, 37, 0, 0, 0), (37, .iaload, 38, 0, 0, 0), (38, .iload 4, 40, 0, 0, 0), (40, .iand, 41, 0, 0, 0), (41, .ifCond .eq 4, 44, 45, 0, 0), (44, .return_, 45, 0, 0, 0), (45, .aload_n 0, 46, 0, 0, 0), (46, .getfield 25, 49, 4, 3, 3), (49, .iload 6, 51, 0, 0, 0), (51, .dup2, 52, 0, 0, 0), (52, .iaload, 53, 0, 0, 0), (53, .iload 4, 55, 0, 0, 0), (55, .ior, 56, 0, 0, 0), (56, .iastore, 57, 0, 0, 0), (57, .iload 6, 59, 0, 0, 0), (59, .iload 5, 61, 0, 0, 0), (61, .iadd, 62, 0, 0, 0), (62, .istore 6, 64, 0, 0, 0), (64, .goto (-47), 67, 17, 0, 0), (67, .return_, 68, 0, 0, 0)]
def smd_X4_markRow : smD := (4, yX4_markRow, cX4_markRow, 7, none, (5, false), (0, 0), smt_X4_markRow)
/-- X4_markLow: method 36 -/
def smt_X4_markLow : List smI := [(0, .iconst 0, 1, 0, 0, 0), (1, .istore 5, 3, 0, 0, 0), (3, .iload 5, 5, 0, 0, 0), (5, .sipush 999, 8, 0, 0, 0), (8, .if_icmp .gt 17, 11, 25, 0, 0), (11, .aload_n 0, 12, 0, 0, 0), (12, .getfield 25, 15, 4, 3, 3), (15, .iload 5, 17, 0, 0, 0), (17, .iconst 0, 18, 0, 0, 0), (18, .iastore, 19, 0, 0, 0), (19, .iinc 5 1, 22, 0, 0, 0), (22, .goto (-19), 25, 3, 0, 0), (25, .iconst 0, 26, 0, 0, 0), (26, .istore 5, 28, 0, 0, 0), (28, .iload 5, 30, 0, 0, 0), (30, .bipush 6, 32, 0, 0, 0), (32, .if_icmp .ge 90, 35, 122, 0, 0), (35, .aload_n 1, 36, 0, 0, 0), (36, .iload 5, 38, 0, 0, 0), (38, .invokevirtual 82, 41, 30, 0, 0), (41, .ifCond .eq 75, 44, 116, 0, 0), (44, .aload_n 1, 45, 0, 0, 0), (45, .iload 5, 47, 0, 0, 0), (47, .aload_n 2, 48, 0, 0, 0), (48, .aload_n 0, 49, 0, 0, 0), (49, .getfield 12, 52, 4, 0, 0), (52, .invokevirtual 28, 55, 25, 0, 0), (55, .iconst 1, 56, 0, 0, 0), (56, .istore 6, 58, 0, 0, 0), (58, .iload 6, 60, 0, 0, 0), (60, .aload_n 0, 61, 0, 0, 0), (61, .getfield 12, 64, 4, 0, 0), (64, .getfield 35, 67, 2, 1, 1), (67, .if_icmp .gt 49, 70, 116, 0, 0), (70, .aload_n 0, 71, 0, 0, 0), (71, .getfield 12, 74, 4, 0, 0), (74, .iload 6, 76, 0, 0, 0), (76, .iload_n 3, 77, 0, 0, 0), (77, .invokevirtual 89, 80, 19, 0, 0), (80, .ifCond .eq 30, 83, 110, 0, 0), (83, .aload_n 0, 84, 0, 0, 0), (84, .aload_n 1, 85, 0, 0, 0), (85, .getfield 45, 88, 8, 1, 1), (88, .iload 5, 90, 0, 0, 0), (90, .iaload, 91, 0, 0, 0), (91, .iload 6, 93, 0, 0, 0), (93, .iadd, 94, 0, 0, 0), (94, .aload_n 1, 95, 0, 0, 0), (95, .getfield 48, 98, 8, 2, 2), (98, .iload 5, 100, 0, 0, 0), (100, .iaload, 101, 0, 0, 0), (101, .iload 4, 103, 0, 0, 0), (103, .iconst 1, 104, 0, 0, 0), (104, .iload 5, 106, 0, 0, 0), (106, .ishl, 107, 0, 0, 0), (107, .invokevirtual 93, 110, 35, 0, 0), (110, .iinc 6 1, 113, 0, 0, 0), (113, .goto (-55), 116, 58, 0, 0), (116, .iinc 5 1, 119, 0, 0, 0), (119, .goto (-91), 122, 28, 0, 0), (122, .return_, 123, 0, 0, 0)]
def smd_X4_markLow : smD := (4, yX4_markLow, cX4_markLow, 7, none, (5, false), (4, 111), smt_X4_markLow)
/-- X4_countMarks: method 37 -/
def smt_X4_countMarks : List smI := [(0, .iconst 0, 1, 0, 0, 0), (1, .istore_n 2, 2, 0, 0, 0), (2, .iconst 1, 3, 0, 0, 0), (3, .istore_n 3, 4, 0, 0, 0), (4, .iload_n 3, 5, 0, 0, 0), (5, .iload_n 1, 6, 0, 0, 0), (6, .if_icmp .gt 33, 9, 39, 0, 0), (9, .iload_n 3, 10, 0, 0, 0), (10, .sipush 999, 13, 0, 0, 0), (13, .if_icmp .gt 26, 16, 39, 0, 0), (16, .iload_n 2, 17, 0, 0, 0), (17, .aload_n 0, 18, 0, 0, 0), (18, .getfield 25, 21, 4, 3, 3), (21, .iload_n 3, 22, 0, 0, 0), (22, .iaload, 23, 0, 0, 0), (23, .ifCond .eq 7, 26, 30, 0, 0), (26, .iconst 1, 27, 0, 0, 0), (27, .goto 4, 30, 31, 0, 0), (30, .iconst 0, 31, 0, 0, 0), (31, .iadd, 32, 0, 0, 0), (32, .istore_n 2, 33, 0, 0, 0), (33, .iinc 3 1, 36, 0, 0, 0), (36, .goto (-32), 39, 4, 0, 0), (39, .iload_n 2, 40, 0, 0, 0), (40, .ireturn, 41, 0, 0, 0)]
def smd_X4_countMarks : smD := (4, yX4_countMarks, cX4_countMarks, 4, (some .int), (2, false), (0, 0), smt_X4_countMarks)
/-- X4_firstMark: method 38 -/
def smt_X4_firstMark : List smI := [(0, .iconst 1, 1, 0, 0, 0), (1, .istore_n 2, 2, 0, 0, 0), (2, .iload_n 2, 3, 0, 0, 0), (3, .iload_n 1, 4, 0, 0, 0), (4, .if_icmp .gt 27, 7, 31, 0, 0), (7, .iload_n 2, 8, 0, 0, 0), (8, .sipush 999, 11, 0, 0, 0), (11, .if_icmp .gt 20, 14, 31, 0, 0), (14, .aload_n 0, 15, 0, 0, 0), (15, .getfield 25, 18, 4, 3, 3), (18, .iload_n 2, 19, 0, 0, 0), (19, .iaload, 20, 0, 0, 0), (20, .ifCond .eq 5, 23, 25, 0, 0), (23, .iload_n 2, 24, 0, 0, 0), (24, .ireturn, 25, 0, 0, 0), (25, .iinc 2 1, 28, 0, 0, 0), (28, .goto (-26), 31, 2, 0, 0), (31, .bipush (-6), 33, 0, 0, 0), (33, .ireturn, 34, 0, 0, 0)]
def smd_X4_firstMark : smD := (4, yX4_firstMark, cX4_firstMark, 3, (some .int), (2, false), (0, 0), smt_X4_firstMark)
/-- X4_catchPlaces: method 39 -/
def smt_X4_catchPlaces : List smI := [(0, .aload_n 1, 1, 0, 0, 0), (1, .iload_n 3, 2, 0, 0, 0), (2, .aload_n 2, 3, 0, 0, 0), (3, .aload_n 0, 4, 0, 0, 0), (4, .getfield 12, 7, 4, 0, 0), (7, .invokevirtual 28, 10, 25, 0, 0), (10, .iconst 0, 11, 0, 0, 0), (11, .istore 4, 13, 0, 0, 0), (13, .iconst 1, 14, 0, 0, 0), (14, .istore 5, 16, 0, 0, 0), (16, .iload 5, 18, 0, 0, 0), (18, .aload_n 0, 19, 0, 0, 0), (19, .getfield 12, 22, 4, 0, 0), (22, .getfield 35, 25, 2, 1, 1), (25, .if_icmp .ge 42, 28, 67, 0, 0), (28, .aload_n 0, 29, 0, 0, 0), (29, .getfield 12, 32, 4, 0, 0), (32, .getfield 42, 35, 2, 4, 4), (35, .iload 5, 37, 0, 0, 0), (37, .iaload, 38, 0, 0, 0), (38, .invokestatic 109, 41, 2, 1, 0), (41, .ifCond .eq 20, 44, 61, 0, 0), (44, .iload 4, 46, 0, 0, 0), (46, .iconst 1, 47, 0, 0, 0), (47, .aload_n 0, 48, 0, 0, 0), (48, .getfield 12, 51, 4, 0, 0), (51, .getfield 39, 54, 2, 3, 3), (54, .iload 5, 56, 0, 0, 0), (56, .iaload, 57, 0, 0, 0), (57, .ishl, 58, 0, 0, 0), (58, .ior, 59, 0, 0, 0), (59, .istore 4, 61, 0, 0, 0), (61, .iinc 5 1, 64, 0, 0, 0), (64, .goto (-48), 67, 16, 0, 0), (67, .iload 4, 69, 0, 0, 0), (69, .ireturn, 70, 0, 0, 0)]
def smd_X4_catchPlaces : smD := (4, yX4_catchPlaces, cX4_catchPlaces, 6, (some .int), (4, false), (4, 111), smt_X4_catchPlaces)
/-- X4_catchesAll: method 40 -/
def smt_X4_catchesAll : List smI := [(0, .iconst 0, 1, 0, 0, 0), (1, .istore_n 3, 2, 0, 0, 0), (2, .iload_n 3, 3, 0, 0, 0), (3, .bipush 6, 5, 0, 0, 0), (5, .if_icmp .ge 30, 8, 35, 0, 0), (8, .iload_n 2, 9, 0, 0, 0), (9, .iload_n 3, 10, 0, 0, 0), (10, .ishr, 11, 0, 0, 0), (11, .iconst 1, 12, 0, 0, 0), (12, .iand, 13, 0, 0, 0), (13, .ifCond .eq 16, 16, 29, 0, 0), (16, .aload_n 0, 17, 0, 0, 0), (17, .getfield 21, 20, 4, 2, 2), (20, .iload_n 3, 21, 0, 0, 0), (21, .iaload, 22, 0, 0, 0), (22, .iload_n 1, 23, 0, 0, 0), (23, .iand, 24, 0, 0, 0), (24, .ifCond .ne 5, 27, 29, 0, 0), (27, .iconst 0, 28, 0, 0, 0), (28, .ireturn, 29, 0, 0, 0), (29, .iinc 3 1, 32, 0, 0, 0), (32, .goto (-30), 35, 2, 0, 0), (35, .iconst 1, 36, 0, 0, 0), (36, .ireturn, 37, 0, 0, 0)]
def smd_X4_catchesAll : smD := (4, yX4_catchesAll, cX4_catchesAll, 4, (some .boolean), (3, false), (0, 0), smt_X4_catchesAll)
/-- X4_fewestHands: method 41 -/
def smt_X4_fewestHands : List smI := [(0, .iconst 0, 1, 0, 0, 0), (1, .istore_n 3, 2, 0, 0, 0), (2, .iload_n 3, 3, 0, 0, 0), (3, .bipush 6, 5, 0, 0, 0), (5, .if_icmp .ge 34, 8, 39, 0, 0), (8, .aload_n 0, 9, 0, 0, 0), (9, .getfield 21, 12, 4, 2, 2), (12, .iload_n 3, 13, 0, 0, 0), (13, .aload_n 1, 14, 0, 0, 0), (14, .iload_n 3, 15, 0, 0, 0), (15, .invokevirtual 82, 18, 30, 0, 0), (18, .ifCond .eq 13, 21, 31, 0, 0), (21, .aload_n 0, 22, 0, 0, 0), (22, .aload_n 1, 23, 0, 0, 0), (23, .aload_n 2, 24, 0, 0, 0), (24, .iload_n 3, 25, 0, 0, 0), (25, .invokevirtual 97, 28, 39, 0, 0), (28, .goto 4, 31, 32, 0, 0), (31, .iconst 0, 32, 0, 0, 0), (32, .iastore, 33, 0, 0, 0), (33, .iinc 3 1, 36, 0, 0, 0), (36, .goto (-34), 39, 2, 0, 0), (39, .bipush (-6), 41, 0, 0, 0), (41, .istore_n 3, 42, 0, 0, 0), (42, .iconst 0, 43, 0, 0, 0), (43, .istore 4, 45, 0, 0, 0), (45, .iload 4, 47, 0, 0, 0), (47, .iconst 1, 48, 0, 0, 0), (48, .aload_n 2, 49, 0, 0, 0), (49, .getfield 101, 52, 6, 0, 0), (52, .ishl, 53, 0, 0, 0), (53, .if_icmp .ge 43, 56, 96, 0, 0), (56, .iload_n 3, 57, 0, 0, 0), (57, .bipush (-6), 59, 0, 0, 0), (59, .if_icmp .eq 15, 62, 74, 0, 0), (62, .iload 4, 64, 0, 0, 0), (64, .invokestatic 72, 67, 32, 0, 0), (67, .iload_n 3, 68, 0, 0, 0), (68, .invokestatic 72, 71, 32, 0, 0), (71, .if_icmp .ge 19, 74, 90, 0, 0), (74, .aload_n 0, 75, 0, 0, 0), (75, .iload 4, 77, 0, 0, 0), (77, .aload_n 1, 78, 0, 0, 0), (78, .getfield 69, 81, 8, 0, 0), (81, .invokevirtual 106, 84, 40, 0, 0), (84, .ifCond .eq 6, 87, 90, 0, 0), (87, .iload 4, 89, 0, 0, 0), (89, .istore_n 3, 90, 0, 0, 0), (90, .iinc 4 1, 93, 0, 0, 0), (93, .goto (-48), 96, 45, 0, 0), (96, .iload_n 3, 97, 0, 0, 0), (97, .ireturn, 98, 0, 0, 0)]
def smd_X4_fewestHands : smD := (4, yX4_fewestHands, cX4_fewestHands, 5, (some .int), (3, false), (5, 136), smt_X4_fewestHands)
/-- X5_write: method 42 -/
def smt_X5_write : List smI := [(0, .aload_n 0, 1, 0, 0, 0), (1, .getfield 15, 4, 5, 0, 0), (4, .bipush 60, 6, 0, 0, 0), (6, .if_icmp .lt 5, 9, 11, 0, 0), (9, .iconst 0, 10, 0, 0, 0), (10, .ireturn, 11, 0, 0, 0), (11, .aload_n 0, 12, 0, 0, 0), (12, .getfield 9, 15, 5, 3, 3), (15, .aload_n 0, 16, 0, 0, 0), (16, .getfield 15, 19, 5, 0, 0), (19, .iload_n 1, 20, 0, 0, 0), (20, .iastore, 21, 0, 0, 0), (21, .aload_n 0, 22, 0, 0, 0), (22, .dup, 23, 0, 0, 0), (23, .getfield 15, 26, 5, 0, 0), (26, .iconst 1, 27, 0, 0, 0), (27, .iadd, 28, 0, 0, 0), (28, .putfield 15, 31, 5, 0, 0), (31, .iconst 1, 32, 0, 0, 0), (32, .ireturn, 33, 0, 0, 0)]
def smd_X5_write : smD := (5, yX5_write, cX5_write, 2, (some .boolean), (2, false), (0, 0), smt_X5_write)
/-- X5_signAt: method 43 -/
def smt_X5_signAt : List smI := [(0, .iload_n 1, 1, 0, 0, 0), (1, .iconst 0, 2, 0, 0, 0), (2, .aload_n 0, 3, 0, 0, 0), (3, .getfield 15, 6, 5, 0, 0), (6, .iconst 1, 7, 0, 0, 0), (7, .isub, 8, 0, 0, 0), (8, .invokestatic 27, 11, 29, 1, 0), (11, .ifCond .eq 12, 14, 23, 0, 0), (14, .aload_n 0, 15, 0, 0, 0), (15, .getfield 9, 18, 5, 3, 3), (18, .iload_n 1, 19, 0, 0, 0), (19, .iaload, 20, 0, 0, 0), (20, .goto 4, 23, 24, 0, 0), (23, .iconst 0, 24, 0, 0, 0), (24, .ireturn, 25, 0, 0, 0)]
def smd_X5_signAt : smD := (5, yX5_signAt, cX5_signAt, 2, (some .int), (2, false), (1, 22), smt_X5_signAt)
/-- X5_number: method 44 -/
def smt_X5_number : List smI := [(0, .bipush 10, 2, 0, 0, 0), (2, .iload_n 0, 3, 0, 0, 0), (3, .bipush 48, 5, 0, 0, 0), (5, .isub, 6, 0, 0, 0), (6, .imul, 7, 0, 0, 0), (7, .iload_n 1, 8, 0, 0, 0), (8, .iadd, 9, 0, 0, 0), (9, .bipush 48, 11, 0, 0, 0), (11, .isub, 12, 0, 0, 0), (12, .ireturn, 13, 0, 0, 0)]
def smd_X5_number : smD := (5, yX5_number, cX5_number, 2, (some .int), (2, true), (0, 0), smt_X5_number)
/-- X5_nextStage: method 45 -/
def smt_X5_nextStage : List smI := [(0, .iload_n 0, 1, 0, 0, 0), (1, .tableswitch 148 0 3 #[31, 59, 98, 116], 32, 0, 31, 0), (32, .iload_n 1, 33, 0, 0, 0), (33, .bipush 46, 35, 0, 0, 0), (35, .if_icmp .ne 7, 38, 42, 0, 0), (38, .iconst 0, 39, 0, 0, 0), (39, .goto 20, 42, 59, 0, 0), (42, .iload_n 1, 43, 0, 0, 0), (43, .bipush 65, 45, 0, 0, 0), (45, .bipush 69, 47, 0, 0, 0), (47, .invokestatic 27, 50, 29, 1, 0), (50, .ifCond .eq 7, 53, 57, 0, 0), (53, .iconst 1, 54, 0, 0, 0), (54, .goto 5, 57, 59, 0, 0), (57, .bipush (-6), 59, 0, 0, 0), (59, .ireturn, 60, 0, 0, 0), (60, .iload_n 1, 61, 0, 0, 0), (61, .bipush 62, 63, 0, 0, 0), (63, .if_icmp .eq 9, 66, 72, 0, 0), (66, .iload_n 1, 67, 0, 0, 0), (67, .bipush 60, 69, 0, 0, 0), (69, .if_icmp .ne 5, 72, 74, 0, 0), (72, .iconst 2, 73, 0, 0, 0), (73, .ireturn, 74, 0, 0, 0), (74, .iload_n 1, 75, 0, 0, 0), (75, .bipush 43, 77, 0, 0, 0), (77, .if_icmp .eq 15, 80, 92, 0, 0), (80, .iload_n 1, 81, 0, 0, 0), (81, .bipush 111, 83, 0, 0, 0), (83, .if_icmp .eq 9, 86, 92, 0, 0), (86, .iload_n 1, 87, 0, 0, 0), (87, .bipush 107, 89, 0, 0, 0), (89, .if_icmp .ne 7, 92, 96, 0, 0), (92, .iconst 0, 93, 0, 0, 0), (93, .goto 5, 96, 98, 0, 0), (96, .bipush (-6), 98, 0, 0, 0), (98, .ireturn, 99, 0, 0, 0), (99, .iload_n 1, 100, 0, 0, 0), (100, .bipush 48, 102, 0, 0, 0), (102, .bipush 51, 104, 0, 0, 0), (104, .invokestatic 27, 107, 29, 1, 0), (107, .ifCond .eq 7, 110, 114, 0, 0), (110, .iconst 3, 111, 0, 0, 0), (111, .goto 5, 114, 116, 0, 0), (114, .bipush (-6), 116, 0, 0, 0), (116, .ireturn, 117, 0, 0, 0), (117, .iload_n 1, 118, 0, 0, 0), (118, .bipush 48, 120, 0, 0, 0), (120, .bipush 57, 122, 0, 0, 0), (122, .invokestatic 27, 125, 29, 1, 0), (125, .ifCond .eq 21, 128, 146, 0, 0), (128, .iload_n 2, 129, 0, 0, 0), (129, .iload_n 1, 130, 0, 0, 0), (130, .invokestatic 31, 133, 44, 0, 0), (133, .iconst 1, 134, 0, 0, 0), (134, .bipush 36, 136, 0, 0, 0), (136, .invokestatic 27, 139, 29, 1, 0), (139, .ifCond .eq 7, 142, 146, 0, 0), (142, .iconst 4, 143, 0, 0, 0), (143, .goto 5, 146, 148, 0, 0), (146, .bipush (-6), 148, 0, 0, 0), (148, .ireturn, 149, 0, 0, 0), (149, .iload_n 1, 150, 0, 0, 0), (150, .bipush 49, 152, 0, 0, 0), (152, .bipush 53, 154, 0, 0, 0), (154, .invokestatic 27, 157, 29, 1, 0), (157, .ifCond .eq 7, 160, 164, 0, 0), (160, .iconst 0, 161, 0, 0, 0), (161, .goto 5, 164, 166, 0, 0), (164, .bipush (-6), 166, 0, 0, 0), (166, .ireturn, 167, 0, 0, 0)]
def smd_X5_nextStage : smD := (5, yX5_nextStage, cX5_nextStage, 3, (some .int), (3, true), (1, 22), smt_X5_nextStage)
/-- X5_firstWrong: method 46 -/
def smt_X5_firstWrong : List smI := [(0, .iconst 0, 1, 0, 0, 0), (1, .istore_n 1, 2, 0, 0, 0), (2, .iconst 0, 3, 0, 0, 0), (3, .istore_n 2, 4, 0, 0, 0), (4, .iload_n 2, 5, 0, 0, 0), (5, .aload_n 0, 6, 0, 0, 0), (6, .getfield 15, 9, 5, 0, 0), (9, .if_icmp .ge 35, 12, 44, 0, 0), (12, .iload_n 1, 13, 0, 0, 0), (13, .aload_n 0, 14, 0, 0, 0), (14, .getfield 9, 17, 5, 3, 3), (17, .iload_n 2, 18, 0, 0, 0), (18, .iaload, 19, 0, 0, 0), (19, .aload_n 0, 20, 0, 0, 0), (20, .iload_n 2, 21, 0, 0, 0), (21, .iconst 1, 22, 0, 0, 0), (22, .isub, 23, 0, 0, 0), (23, .invokevirtual 19, 26, 43, 0, 0), (26, .invokestatic 23, 29, 45, 0, 0), (29, .istore_n 1, 30, 0, 0, 0), (30, .iload_n 1, 31, 0, 0, 0), (31, .bipush (-6), 33, 0, 0, 0), (33, .if_icmp .ne 5, 36, 38, 0, 0), (36, .iload_n 2, 37, 0, 0, 0), (37, .ireturn, 38, 0, 0, 0), (38, .iinc 2 1, 41, 0, 0, 0), (41, .goto (-37), 44, 4, 0, 0), (44, .iload_n 1, 45, 0, 0, 0), (45, .ifCond .ne 8, 48, 53, 0, 0), (48, .bipush (-6), 50, 0, 0, 0), (50, .goto 7, 53, 57, 0, 0), (53, .aload_n 0, 54, 0, 0, 0), (54, .getfield 15, 57, 5, 0, 0), (57, .ireturn, 58, 0, 0, 0)]
def smd_X5_firstWrong : smD := (5, yX5_firstWrong, cX5_firstWrong, 3, (some .int), (1, false), (2, 44), smt_X5_firstWrong)
/-- X9_hasPerson: method 47 -/
def smt_X9_hasPerson : List smI := [(0, .iload_n 1, 1, 0, 0, 0), (1, .iconst 0, 2, 0, 0, 0), (2, .iconst 4, 3, 0, 0, 0), (3, .invokestatic 60, 6, 29, 1, 0), (6, .ifCond .eq 18, 9, 24, 0, 0), (9, .aload_n 0, 10, 0, 0, 0), (10, .getfield 44, 13, 9, 4, 4), (13, .iload_n 1, 14, 0, 0, 0), (14, .ishr, 15, 0, 0, 0), (15, .iconst 1, 16, 0, 0, 0), (16, .iand, 17, 0, 0, 0), (17, .ifCond .eq 7, 20, 24, 0, 0), (20, .iconst 1, 21, 0, 0, 0), (21, .goto 4, 24, 25, 0, 0), (24, .iconst 0, 25, 0, 0, 0), (25, .ireturn, 26, 0, 0, 0)]
def smd_X9_hasPerson : smD := (9, yX9_hasPerson, cX9_hasPerson, 2, (some .boolean), (2, false), (1, 22), smt_X9_hasPerson)
/-- X9_leastAt: method 48 -/
def smt_X9_leastAt : List smI := [(0, .iconst 0, 1, 0, 0, 0), (1, .istore_n 2, 2, 0, 0, 0), (2, .iload_n 2, 3, 0, 0, 0), (3, .iconst 5, 4, 0, 0, 0), (4, .if_icmp .ge 29, 7, 33, 0, 0), (7, .aload_n 0, 8, 0, 0, 0), (8, .iload_n 2, 9, 0, 0, 0), (9, .invokevirtual 64, 12, 47, 0, 0), (12, .ifCond .eq 15, 15, 27, 0, 0), (15, .aload_n 0, 16, 0, 0, 0), (16, .getfield 25, 19, 9, 5, 5), (19, .iload_n 2, 20, 0, 0, 0), (20, .iaload, 21, 0, 0, 0), (21, .iload_n 1, 22, 0, 0, 0), (22, .if_icmp .ne 5, 25, 27, 0, 0), (25, .iload_n 2, 26, 0, 0, 0), (26, .ireturn, 27, 0, 0, 0), (27, .iinc 2 1, 30, 0, 0, 0), (30, .goto (-28), 33, 2, 0, 0), (33, .bipush (-6), 35, 0, 0, 0), (35, .ireturn, 36, 0, 0, 0)]
def smd_X9_leastAt : smD := (9, yX9_leastAt, cX9_leastAt, 3, (some .int), (2, false), (2, 43), smt_X9_leastAt)
/-- X9_endInHedgesAndHands: method 49 -/
def smt_X9_endInHedgesAndHands : List smI := [(0, .iconst 0, 1, 0, 0, 0), (1, .istore_n 1, 2, 0, 0, 0), (2, .iconst 0, 3, 0, 0, 0), (3, .istore_n 2, 4, 0, 0, 0), (4, .iconst 0, 5, 0, 0, 0), (5, .istore_n 3, 6, 0, 0, 0), (6, .iload_n 3, 7, 0, 0, 0), (7, .aload_n 0, 8, 0, 0, 0), (8, .getfield 40, 11, 9, 9, 9), (11, .getfield 47, 14, 1, 0, 0), (14, .if_icmp .ge 124, 17, 138, 0, 0), (17, .aload_n 0, 18, 0, 0, 0), (18, .getfield 40, 21, 9, 9, 9), (21, .getfield 104, 24, 1, 1, 1), (24, .iload_n 3, 25, 0, 0, 0), (25, .iaload, 26, 0, 0, 0), (26, .istore 4, 28, 0, 0, 0), (28, .aload_n 0, 29, 0, 0, 0), (29, .getfield 40, 32, 9, 9, 9), (32, .iload_n 3, 33, 0, 0, 0), (33, .invokevirtual 107, 36, 15, 0, 0), (36, .istore 5, 38, 0, 0, 0), (38, .iload 5, 40, 0, 0, 0), (40, .invokestatic 110, 43, 2, 1, 0), (43, .ifCond .eq 12, 46, 55, 0, 0), (46, .aload_n 0, 47, 0, 0, 0), (47, .iload 4, 49, 0, 0, 0), (49, .invokevirtual 113, 52, 48, 0, 0), (52, .goto 5, 55, 57, 0, 0), (55, .bipush (-6), 57, 0, 0, 0), (57, .istore 6, 59, 0, 0, 0), (59, .aload_n 0, 60, 0, 0, 0), (60, .getfield 15, 63, 9, 1, 1), (63, .iload 4, 65, 0, 0, 0), (65, .iaload, 66, 0, 0, 0), (66, .iload 5, 68, 0, 0, 0), (68, .if_icmp .le 17, 71, 85, 0, 0), (71, .aload_n 0, 72, 0, 0, 0), (72, .getfield 22, 75, 9, 3, 3), (75, .iload 4, 77, 0, 0, 0), (77, .dup2, 78, 0, 0, 0), (78, .iaload, 79, 0, 0, 0), (79, .iconst 1, 80, 0, 0, 0), (80, .iadd, 81, 0, 0, 0), (81, .iastore, 82, 0, 0, 0), (82, .goto 50, 85, 132, 0, 0), (85, .iload 6, 87, 0, 0, 0), (87, .bipush (-6), 89, 0, 0, 0), (89, .if_icmp .eq 31, 92, 120, 0, 0), (92, .aload_n 0, 93, 0, 0, 0), (93, .getfield 31, 96, 9, 7, 7), (96, .iload 6, 98, 0, 0, 0), (98, .dup2, 99, 0, 0, 0), (99, .iaload, 100, 0, 0, 0), (100, .iconst 1, 101, 0, 0, 0), (101, .iadd, 102, 0, 0, 0), (102, .iastore, 103, 0, 0, 0), (103, .aload_n 0, 104, 0, 0, 0), (104, .getfield 34, 107, 9, 8, 8), (107, .iload 6, 109, 0, 0, 0), (109, .dup2, 110, 0, 0, 0), (110, .iaload, 111, 0, 0, 0), (111, .iconst 1, 112, 0, 0, 0), (112, .iadd, 113, 0, 0, 0), (113, .iastore, 114, 0, 0, 0), (114, .iinc 1 1, 117, 0, 0, 0), (117, .goto 15, 120, 132, 0, 0), (120, .aload_n 0, 121, 0, 0, 0), (121, .getfield 40, 124, 9, 9, 9), (124, .iload_n 3, 125, 0, 0, 0), (125, .iload_n 2, 126, 0, 0, 0), (126, .invokevirtual 116, 129, 14, 0, 0), (129, .iinc 2 1, 132, 0, 0, 0), (132, .iinc 3 1, 135, 0, 0, 0), (135, .goto (-129), 138, 6, 0, 0), (138, .aload_n 0, 139, 0, 0, 0), (139, .getfield 40, 142, 9, 9, 9), (142, .iload_n 2, 143, 0, 0, 0), (143, .putfield 47, 146, 1, 0, 0), (146, .iload_n 1, 147, 0, 0, 0), (147, .ireturn, 148, 0, 0, 0)]
def smd_X9_endInHedgesAndHands : smD := (9, yX9_endInHedgesAndHands, cX9_endInHedgesAndHands, 7, (some .int), (1, false), (3, 81), smt_X9_endInHedgesAndHands)
/-- X9_fallDown: method 50 -/
def smt_X9_fallDown : List smI := [(0, .aload_n 0, 1, 0, 0, 0), (1, .getfield 40, 4, 9, 9, 9), (4, .invokevirtual 120, 7, 18, 0, 0), (7, .istore_n 1, 8, 0, 0, 0), (8, .iconst 0, 9, 0, 0, 0), (9, .istore_n 2, 10, 0, 0, 0), (10, .iconst 0, 11, 0, 0, 0), (11, .istore_n 3, 12, 0, 0, 0), (12, .iload_n 3, 13, 0, 0, 0), (13, .aload_n 0, 14, 0, 0, 0), (14, .getfield 40, 17, 9, 9, 9), (17, .getfield 47, 20, 1, 0, 0), (20, .if_icmp .ge 50, 23, 70, 0, 0), (23, .iload_n 1, 24, 0, 0, 0), (24, .iload_n 3, 25, 0, 0, 0), (25, .ishr, 26, 0, 0, 0), (26, .iconst 1, 27, 0, 0, 0), (27, .iand, 28, 0, 0, 0), (28, .ifCond .eq 24, 31, 52, 0, 0), (31, .aload_n 0, 32, 0, 0, 0), (32, .getfield 19, 35, 9, 2, 2), (35, .aload_n 0, 36, 0, 0, 0), (36, .getfield 40, 39, 9, 9, 9), (39, .getfield 104, 42, 1, 1, 1), (42, .iload_n 3, 43, 0, 0, 0), (43, .iaload, 44, 0, 0, 0), (44, .dup2, 45, 0, 0, 0), (45, .iaload, 46, 0, 0, 0), (46, .iconst 1, 47, 0, 0, 0), (47, .iadd, 48, 0, 0, 0), (48, .iastore, 49, 0, 0, 0), (49, .goto 15, 52, 64, 0, 0), (52, .aload_n 0, 53, 0, 0, 0), (53, .getfield 40, 56, 9, 9, 9), (56, .iload_n 3, 57, 0, 0, 0), (57, .iload_n 2, 58, 0, 0, 0), (58, .invokevirtual 116, 61, 14, 0, 0), (61, .iinc 2 1, 64, 0, 0, 0), (64, .iinc 3 1, 67, 0, 0, 0), (67, .goto (-55), 70, 12, 0, 0), (70, .aload_n 0, 71, 0, 0, 0), (71, .getfield 40, 74, 9, 9, 9), (74, .iload_n 2, 75, 0, 0, 0), (75, .putfield 47, 78, 1, 0, 0), (78, .return_, 79, 0, 0, 0)]
def smd_X9_fallDown : smD := (9, yX9_fallDown, cX9_fallDown, 4, none, (1, false), (4, 104), smt_X9_fallDown)
/-- X9_passMinute: method 51 -/
def smt_X9_passMinute : List smI := [(0, .aload_n 0, 1, 0, 0, 0), (1, .getfield 40, 4, 9, 9, 9), (4, .aload_n 0, 5, 0, 0, 0), (5, .getfield 9, 8, 9, 0, 0), (8, .invokevirtual 93, 11, 13, 0, 0), (11, .aload_n 0, 12, 0, 0, 0), (12, .invokevirtual 97, 15, 49, 0, 0), (15, .istore_n 1, 16, 0, 0, 0), (16, .aload_n 0, 17, 0, 0, 0), (17, .invokevirtual 101, 20, 50, 0, 0), (20, .iload_n 1, 21, 0, 0, 0), (21, .ireturn, 22, 0, 0, 0)]
def smd_X9_passMinute : smD := (9, yX9_passMinute, cX9_passMinute, 2, (some .int), (1, false), (5, 127), smt_X9_passMinute)
/-- X9_whyNoThrow: method 52 -/
def smt_X9_whyNoThrow : List smI := [(0, .aload_n 0, 1, 0, 0, 0), (1, .iload_n 1, 2, 0, 0, 0), (2, .invokevirtual 64, 5, 47, 0, 0), (5, .ifCond .ne 5, 8, 10, 0, 0), (8, .iconst 1, 9, 0, 0, 0), (9, .ireturn, 10, 0, 0, 0), (10, .aload_n 0, 11, 0, 0, 0), (11, .getfield 31, 14, 9, 7, 7), (14, .iload_n 1, 15, 0, 0, 0), (15, .iaload, 16, 0, 0, 0), (16, .iconst 1, 17, 0, 0, 0), (17, .if_icmp .ge 5, 20, 22, 0, 0), (20, .iconst 2, 21, 0, 0, 0), (21, .ireturn, 22, 0, 0, 0), (22, .iload_n 2, 23, 0, 0, 0), (23, .aload_n 0, 24, 0, 0, 0), (24, .getfield 28, 27, 9, 6, 6), (27, .iload_n 1, 28, 0, 0, 0), (28, .iaload, 29, 0, 0, 0), (29, .if_icmp .le 5, 32, 34, 0, 0), (32, .iconst 3, 33, 0, 0, 0), (33, .ireturn, 34, 0, 0, 0), (34, .aload_n 0, 35, 0, 0, 0), (35, .getfield 40, 38, 9, 9, 9), (38, .getfield 47, 41, 1, 0, 0), (41, .bipush 12, 43, 0, 0, 0), (43, .if_icmp .lt 7, 46, 50, 0, 0), (46, .iconst 4, 47, 0, 0, 0), (47, .goto 4, 50, 51, 0, 0), (50, .iconst 0, 51, 0, 0, 0), (51, .ireturn, 52, 0, 0, 0)]
def smd_X9_whyNoThrow : smD := (9, yX9_whyNoThrow, cX9_whyNoThrow, 3, (some .int), (3, false), (2, 43), smt_X9_whyNoThrow)
/-- X9_throwStone: method 53 -/
def smt_X9_throwStone : List smI := [(0, .aload_n 0, 1, 0, 0, 0), (1, .iload_n 1, 2, 0, 0, 0), (2, .iload_n 3, 3, 0, 0, 0), (3, .invokevirtual 78, 6, 52, 0, 0), (6, .istore 5, 8, 0, 0, 0), (8, .iload 5, 10, 0, 0, 0), (10, .ifCond .ne 30, 13, 40, 0, 0), (13, .aload_n 0, 14, 0, 0, 0), (14, .getfield 31, 17, 9, 7, 7), (17, .iload_n 1, 18, 0, 0, 0), (18, .dup2, 19, 0, 0, 0), (19, .iaload, 20, 0, 0, 0), (20, .iconst 1, 21, 0, 0, 0), (21, .isub, 22, 0, 0, 0), (22, .iastore, 23, 0, 0, 0), (23, .aload_n 0, 24, 0, 0, 0), (24, .getfield 40, 27, 9, 9, 9), (27, .aload_n 0, 28, 0, 0, 0), (28, .getfield 25, 31, 9, 5, 5), (31, .iload_n 1, 32, 0, 0, 0), (32, .iaload, 33, 0, 0, 0), (33, .iload_n 2, 34, 0, 0, 0), (34, .iload_n 3, 35, 0, 0, 0), (35, .iload 4, 37, 0, 0, 0), (37, .invokevirtual 81, 40, 12, 0, 0), (40, .iload 5, 42, 0, 0, 0), (42, .ireturn, 43, 0, 0, 0)]
def smd_X9_throwStone : smD := (9, yX9_throwStone, cX9_throwStone, 6, (some .int), (5, false), (3, 65), smt_X9_throwStone)
/-- X9_pickUp: method 54 -/
def smt_X9_pickUp : List smI := [(0, .aload_n 0, 1, 0, 0, 0), (1, .iload_n 1, 2, 0, 0, 0), (2, .invokevirtual 64, 5, 47, 0, 0), (5, .ifCond .ne 5, 8, 10, 0, 0), (8, .iconst 1, 9, 0, 0, 0), (9, .ireturn, 10, 0, 0, 0), (10, .aload_n 0, 11, 0, 0, 0), (11, .getfield 25, 14, 9, 5, 5), (14, .iload_n 1, 15, 0, 0, 0), (15, .iaload, 16, 0, 0, 0), (16, .istore_n 2, 17, 0, 0, 0), (17, .aload_n 0, 18, 0, 0, 0), (18, .getfield 19, 21, 9, 2, 2), (21, .iload_n 2, 22, 0, 0, 0), (22, .iaload, 23, 0, 0, 0), (23, .iconst 1, 24, 0, 0, 0), (24, .if_icmp .ge 5, 27, 29, 0, 0), (27, .iconst 5, 28, 0, 0, 0), (28, .ireturn, 29, 0, 0, 0), (29, .aload_n 0, 30, 0, 0, 0), (30, .getfield 19, 33, 9, 2, 2), (33, .iload_n 2, 34, 0, 0, 0), (34, .dup2, 35, 0, 0, 0), (35, .iaload, 36, 0, 0, 0), (36, .iconst 1, 37, 0, 0, 0), (37, .isub, 38, 0, 0, 0), (38, .iastore, 39, 0, 0, 0), (39, .aload_n 0, 40, 0, 0, 0), (40, .getfield 31, 43, 9, 7, 7), (43, .iload_n 1, 44, 0, 0, 0), (44, .dup2, 45, 0, 0, 0), (45, .iaload, 46, 0, 0, 0), (46, .iconst 1, 47, 0, 0, 0), (47, .iadd, 48, 0, 0, 0), (48, .iastore, 49, 0, 0, 0), (49, .iconst 0, 50, 0, 0, 0), (50, .ireturn, 51, 0, 0, 0)]
def smd_X9_pickUp : smD := (9, yX9_pickUp, cX9_pickUp, 3, (some .int), (2, false), (2, 43), smt_X9_pickUp)
/-- X9_walk: method 55 -/
def smt_X9_walk : List smI := [(0, .aload_n 0, 1, 0, 0, 0), (1, .iload_n 1, 2, 0, 0, 0), (2, .invokevirtual 64, 5, 47, 0, 0), (5, .ifCond .ne 5, 8, 10, 0, 0), (8, .iconst 1, 9, 0, 0, 0), (9, .ireturn, 10, 0, 0, 0), (10, .aload_n 0, 11, 0, 0, 0), (11, .getfield 25, 14, 9, 5, 5), (14, .iload_n 1, 15, 0, 0, 0), (15, .aload_n 0, 16, 0, 0, 0), (16, .getfield 25, 19, 9, 5, 5), (19, .iload_n 1, 20, 0, 0, 0), (20, .iaload, 21, 0, 0, 0), (21, .iload_n 2, 22, 0, 0, 0), (22, .aload_n 0, 23, 0, 0, 0), (23, .getfield 9, 26, 9, 0, 0), (26, .invokestatic 85, 29, 0, 1, 0), (29, .iastore, 30, 0, 0, 0), (30, .iconst 0, 31, 0, 0, 0), (31, .ireturn, 32, 0, 0, 0)]
def smd_X9_walk : smD := (9, yX9_walk, cX9_walk, 3, (some .int), (3, false), (2, 43), smt_X9_walk)
/-- X5_playEvent: method 56 -/
def smt_X5_playEvent : List smI := [(0, .aload_n 0, 1, 0, 0, 0), (1, .iload_n 2, 2, 0, 0, 0), (2, .invokevirtual 19, 5, 43, 0, 0), (5, .bipush 46, 7, 0, 0, 0), (7, .if_icmp .ne 10, 10, 17, 0, 0), (10, .aload_n 1, 11, 0, 0, 0), (11, .invokevirtual 48, 14, 51, 0, 0), (14, .pop, 15, 0, 0, 0), (15, .iconst 0, 16, 0, 0, 0), (16, .ireturn, 17, 0, 0, 0), (17, .aload_n 0, 18, 0, 0, 0), (18, .iload_n 2, 19, 0, 0, 0), (19, .invokevirtual 19, 22, 43, 0, 0), (22, .bipush 65, 24, 0, 0, 0), (24, .isub, 25, 0, 0, 0), (25, .istore_n 3, 26, 0, 0, 0), (26, .aload_n 0, 27, 0, 0, 0), (27, .iload_n 2, 28, 0, 0, 0), (28, .iconst 2, 29, 0, 0, 0), (29, .iadd, 30, 0, 0, 0), (30, .invokevirtual 19, 33, 43, 0, 0), (33, .aload_n 0, 34, 0, 0, 0), (34, .iload_n 2, 35, 0, 0, 0), (35, .iconst 3, 36, 0, 0, 0), (36, .iadd, 37, 0, 0, 0), (37, .invokevirtual 19, 40, 43, 0, 0), (40, .invokestatic 31, 43, 44, 0, 0), (43, .istore 4, 45, 0, 0, 0), (45, .aload_n 0, 46, 0, 0, 0), (46, .iload_n 2, 47, 0, 0, 0), (47, .iconst 4, 48, 0, 0, 0), (48, .iadd, 49, 0, 0, 0), (49, .invokevirtual 19, 52, 43, 0, 0), (52, .bipush 48, 54, 0, 0, 0), (54, .isub, 55, 0, 0, 0), (55, .istore 5, 57, 0, 0, 0), (57, .aload_n 0, 58, 0, 0, 0), (58, .iload_n 2, 59, 0, 0, 0), (59, .iconst 1, 60, 0, 0, 0), (60, .iadd, 61, 0, 0, 0), (61, .invokevirtual 19, 64, 43, 0, 0), (64, .lookupswitch 79 #[(43, 66), (60, 55), (62, 44), (111, 72)], 108, 0, 44, 0), (108, .aload_n 1, 109, 0, 0, 0), (109, .iload_n 3, 110, 0, 0, 0), (110, .iconst 0, 111, 0, 0, 0), (111, .iload 4, 113, 0, 0, 0), (113, .iload 5, 115, 0, 0, 0), (115, .invokevirtual 54, 118, 53, 0, 0), (118, .ireturn, 119, 0, 0, 0), (119, .aload_n 1, 120, 0, 0, 0), (120, .iload_n 3, 121, 0, 0, 0), (121, .iconst 1, 122, 0, 0, 0), (122, .iload 4, 124, 0, 0, 0), (124, .iload 5, 126, 0, 0, 0), (126, .invokevirtual 54, 129, 53, 0, 0), (129, .ireturn, 130, 0, 0, 0), (130, .aload_n 1, 131, 0, 0, 0), (131, .iload_n 3, 132, 0, 0, 0), (132, .invokevirtual 58, 135, 54, 0, 0), (135, .ireturn, 136, 0, 0, 0), (136, .aload_n 1, 137, 0, 0, 0), (137, .iload_n 3, 138, 0, 0, 0), (138, .iconst 0, 139, 0, 0, 0), (139, .invokevirtual 61, 142, 55, 0, 0), (142, .ireturn, 143, 0, 0, 0), (143, .aload_n 1, 144, 0, 0, 0), (144, .iload_n 3, 145, 0, 0, 0), (145, .iconst 1, 146, 0, 0, 0), (146, .invokevirtual 61, 149, 55, 0, 0), (149, .ireturn, 150, 0, 0, 0)]
def smd_X5_playEvent : smD := (5, yX5_playEvent, cX5_playEvent, 6, (some .int), (3, false), (6, 148), smt_X5_playEvent)
/-- X5_eventLength: method 57 -/
def smt_X5_eventLength : List smI := [(0, .aload_n 0, 1, 0, 0, 0), (1, .iload_n 1, 2, 0, 0, 0), (2, .invokevirtual 19, 5, 43, 0, 0), (5, .bipush 46, 7, 0, 0, 0), (7, .if_icmp .ne 5, 10, 12, 0, 0), (10, .iconst 1, 11, 0, 0, 0), (11, .ireturn, 12, 0, 0, 0), (12, .aload_n 0, 13, 0, 0, 0), (13, .iload_n 1, 14, 0, 0, 0), (14, .iconst 1, 15, 0, 0, 0), (15, .iadd, 16, 0, 0, 0), (16, .invokevirtual 19, 19, 43, 0, 0), (19, .bipush 62, 21, 0, 0, 0), (21, .if_icmp .eq 15, 24, 36, 0, 0), (24, .aload_n 0, 25, 0, 0, 0), (25, .iload_n 1, 26, 0, 0, 0), (26, .iconst 1, 27, 0, 0, 0), (27, .iadd, 28, 0, 0, 0), (28, .invokevirtual 19, 31, 43, 0, 0), (31, .bipush 60, 33, 0, 0, 0), (33, .if_icmp .ne 7, 36, 40, 0, 0), (36, .iconst 5, 37, 0, 0, 0), (37, .goto 4, 40, 41, 0, 0), (40, .iconst 2, 41, 0, 0, 0), (41, .ireturn, 42, 0, 0, 0)]
def smd_X5_eventLength : smD := (5, yX5_eventLength, cX5_eventLength, 2, (some .int), (2, false), (2, 43), smt_X5_eventLength)
/-- X5_play: method 58 -/
def smt_X5_play : List smI := [(0, .aload_n 0, 1, 0, 0, 0), (1, .iconst 0, 2, 0, 0, 0), (2, .putfield 35, 5, 5, 1, 1), (5, .aload_n 0, 6, 0, 0, 0), (6, .iconst 0, 7, 0, 0, 0), (7, .putfield 38, 10, 5, 2, 2), (10, .iconst 0, 11, 0, 0, 0), (11, .istore_n 2, 12, 0, 0, 0), (12, .iload_n 2, 13, 0, 0, 0), (13, .aload_n 0, 14, 0, 0, 0), (14, .getfield 15, 17, 5, 0, 0), (17, .if_icmp .ge 52, 20, 69, 0, 0), (20, .aload_n 0, 21, 0, 0, 0), (21, .getfield 35, 24, 5, 1, 1), (24, .bipush 60, 26, 0, 0, 0), (26, .if_icmp .ge 43, 29, 69, 0, 0), (29, .aload_n 0, 30, 0, 0, 0), (30, .aload_n 0, 31, 0, 0, 0), (31, .aload_n 1, 32, 0, 0, 0), (32, .iload_n 2, 33, 0, 0, 0), (33, .invokevirtual 41, 36, 56, 0, 0), (36, .putfield 38, 39, 5, 2, 2), (39, .aload_n 0, 40, 0, 0, 0), (40, .getfield 38, 43, 5, 2, 2), (43, .ifCond .eq 5, 46, 48, 0, 0), (46, .iconst 0, 47, 0, 0, 0), (47, .ireturn, 48, 0, 0, 0), (48, .iload_n 2, 49, 0, 0, 0), (49, .aload_n 0, 50, 0, 0, 0), (50, .iload_n 2, 51, 0, 0, 0), (51, .invokevirtual 45, 54, 57, 0, 0), (54, .iadd, 55, 0, 0, 0), (55, .istore_n 2, 56, 0, 0, 0), (56, .aload_n 0, 57, 0, 0, 0), (57, .dup, 58, 0, 0, 0), (58, .getfield 35, 61, 5, 1, 1), (61, .iconst 1, 62, 0, 0, 0), (62, .iadd, 63, 0, 0, 0), (63, .putfield 35, 66, 5, 1, 1), (66, .goto (-54), 69, 12, 0, 0), (69, .iconst 1, 70, 0, 0, 0), (70, .ireturn, 71, 0, 0, 0)]
def smd_X5_play : smD := (5, yX5_play, cX5_play, 3, (some .boolean), (2, false), (7, 173), smt_X5_play)
/-- X6_look: method 59 -/
def smt_X6_look : List smI := [(0, .aload_n 0, 1, 0, 0, 0), (1, .aload_n 1, 2, 0, 0, 0), (2, .getfield 22, 5, 9, 0, 0), (5, .putfield 9, 8, 6, 0, 0), (8, .iconst 0, 9, 0, 0, 0), (9, .istore_n 3, 10, 0, 0, 0), (10, .iload_n 3, 11, 0, 0, 0), (11, .aload_n 0, 12, 0, 0, 0), (12, .getfield 9, 15, 6, 0, 0), (15, .if_icmp .ge 41, 18, 56, 0, 0), (18, .aload_n 0, 19, 0, 0, 0), (19, .getfield 15, 22, 6, 1, 1), (22, .iload_n 3, 23, 0, 0, 0), (23, .aload_n 1, 24, 0, 0, 0), (24, .getfield 25, 27, 9, 1, 1), (27, .iload_n 3, 28, 0, 0, 0), (28, .iaload, 29, 0, 0, 0), (29, .iastore, 30, 0, 0, 0), (30, .aload_n 0, 31, 0, 0, 0), (31, .getfield 19, 34, 6, 2, 2), (34, .iload_n 3, 35, 0, 0, 0), (35, .iload_n 2, 36, 0, 0, 0), (36, .ifCond .eq 11, 39, 47, 0, 0), (39, .aload_n 1, 40, 0, 0, 0), (40, .iload_n 3, 41, 0, 0, 0), (41, .invokevirtual 26, 44, 48, 0, 0), (44, .goto 5, 47, 49, 0, 0), (47, .bipush (-6), 49, 0, 0, 0), (49, .iastore, 50, 0, 0, 0), (50, .iinc 3 1, 53, 0, 0, 0), (53, .goto (-43), 56, 10, 0, 0), (56, .return_, 57, 0, 0, 0)]
def smd_X6_look : smD := (6, yX6_look, cX6_look, 4, none, (3, false), (3, 65), smt_X6_look)
/-- X7_note: method 60 -/
def smt_X7_note : List smI := [(0, .aload_n 0, 1, 0, 0, 0), (1, .getfield 21, 4, 7, 0, 0), (4, .bipush 6, 6, 0, 0, 0), (6, .if_icmp .lt 5, 9, 11, 0, 0), (9, .iconst 0, 10, 0, 0, 0), (10, .ireturn, 11, 0, 0, 0), (11, .aload_n 0, 12, 0, 0, 0), (12, .getfield 9, 15, 7, 1, 1), (15, .aload_n 0, 16, 0, 0, 0), (16, .getfield 21, 19, 7, 0, 0), (19, .iload_n 1, 20, 0, 0, 0), (20, .iastore, 21, 0, 0, 0), (21, .aload_n 0, 22, 0, 0, 0), (22, .getfield 15, 25, 7, 2, 2), (25, .aload_n 0, 26, 0, 0, 0), (26, .getfield 21, 29, 7, 0, 0), (29, .iload_n 2, 30, 0, 0, 0), (30, .iastore, 31, 0, 0, 0), (31, .aload_n 0, 32, 0, 0, 0), (32, .getfield 18, 35, 7, 3, 3), (35, .aload_n 0, 36, 0, 0, 0), (36, .getfield 21, 39, 7, 0, 0), (39, .iload_n 3, 40, 0, 0, 0), (40, .iastore, 41, 0, 0, 0), (41, .aload_n 0, 42, 0, 0, 0), (42, .dup, 43, 0, 0, 0), (43, .getfield 21, 46, 7, 0, 0), (46, .iconst 1, 47, 0, 0, 0), (47, .iadd, 48, 0, 0, 0), (48, .putfield 21, 51, 7, 0, 0), (51, .iconst 1, 52, 0, 0, 0), (52, .ireturn, 53, 0, 0, 0)]
def smd_X7_note : smD := (7, yX7_note, cX7_note, 4, (some .boolean), (4, false), (0, 0), smt_X7_note)
/-- X7_fitHeights: method 61 -/
def smt_X7_fitHeights : List smI := [(0, .iconst 0, 1, 0, 0, 0), (1, .istore_n 3, 2, 0, 0, 0), (2, .iload_n 3, 3, 0, 0, 0), (3, .aload_n 0, 4, 0, 0, 0), (4, .getfield 21, 7, 7, 0, 0), (7, .if_icmp .ge 41, 10, 48, 0, 0), (10, .aload_n 0, 11, 0, 0, 0), (11, .getfield 9, 14, 7, 1, 1), (14, .iload_n 3, 15, 0, 0, 0), (15, .iaload, 16, 0, 0, 0), (16, .iload_n 1, 17, 0, 0, 0), (17, .if_icmp .gt 23, 20, 40, 0, 0), (20, .aload_n 0, 21, 0, 0, 0), (21, .getfield 9, 24, 7, 1, 1), (24, .iload_n 3, 25, 0, 0, 0), (25, .iaload, 26, 0, 0, 0), (26, .iload_n 1, 27, 0, 0, 0), (27, .iload_n 2, 28, 0, 0, 0), (28, .invokestatic 31, 31, 1, 1, 0), (31, .aload_n 0, 32, 0, 0, 0), (32, .getfield 18, 35, 7, 3, 3), (35, .iload_n 3, 36, 0, 0, 0), (36, .iaload, 37, 0, 0, 0), (37, .if_icmp .eq 5, 40, 42, 0, 0), (40, .iconst 0, 41, 0, 0, 0), (41, .ireturn, 42, 0, 0, 0), (42, .iinc 3 1, 45, 0, 0, 0), (45, .goto (-43), 48, 2, 0, 0), (48, .iconst 1, 49, 0, 0, 0), (49, .ireturn, 50, 0, 0, 0)]
def smd_X7_fitHeights : smD := (7, yX7_fitHeights, cX7_fitHeights, 4, (some .boolean), (3, false), (2, 60), smt_X7_fitHeights)
/-- X7_fit: method 62 -/
def smt_X7_fit : List smI := [(0, .iconst 0, 1, 0, 0, 0), (1, .istore_n 2, 2, 0, 0, 0), (2, .iload_n 2, 3, 0, 0, 0), (3, .aload_n 0, 4, 0, 0, 0), (4, .getfield 21, 7, 7, 0, 0), (7, .if_icmp .ge 56, 10, 63, 0, 0), (10, .aload_n 0, 11, 0, 0, 0), (11, .getfield 9, 14, 7, 1, 1), (14, .iload_n 2, 15, 0, 0, 0), (15, .iaload, 16, 0, 0, 0), (16, .istore_n 3, 17, 0, 0, 0), (17, .iload_n 3, 18, 0, 0, 0), (18, .aload_n 1, 19, 0, 0, 0), (19, .getfield 35, 22, 2, 1, 1), (22, .if_icmp .gt 33, 25, 55, 0, 0), (25, .aload_n 1, 26, 0, 0, 0), (26, .getfield 40, 29, 2, 3, 3), (29, .iload_n 3, 30, 0, 0, 0), (30, .iaload, 31, 0, 0, 0), (31, .aload_n 0, 32, 0, 0, 0), (32, .getfield 15, 35, 7, 2, 2), (35, .iload_n 2, 36, 0, 0, 0), (36, .iaload, 37, 0, 0, 0), (37, .if_icmp .ne 18, 40, 55, 0, 0), (40, .aload_n 1, 41, 0, 0, 0), (41, .getfield 43, 44, 2, 4, 4), (44, .iload_n 3, 45, 0, 0, 0), (45, .iaload, 46, 0, 0, 0), (46, .aload_n 0, 47, 0, 0, 0), (47, .getfield 18, 50, 7, 3, 3), (50, .iload_n 2, 51, 0, 0, 0), (51, .iaload, 52, 0, 0, 0), (52, .if_icmp .eq 5, 55, 57, 0, 0), (55, .iconst 0, 56, 0, 0, 0), (56, .ireturn, 57, 0, 0, 0), (57, .iinc 2 1, 60, 0, 0, 0), (60, .goto (-58), 63, 2, 0, 0), (63, .iconst 1, 64, 0, 0, 0), (64, .ireturn, 65, 0, 0, 0)]
def smd_X7_fit : smD := (7, yX7_fit, cX7_fit, 4, (some .boolean), (2, false), (0, 0), smt_X7_fit)
/-- X8_setWay: method 63 -/
def smt_X8_setWay : List smI := [(0, .aload_n 0, 1, 0, 0, 0), (1, .dup, 2, 0, 0, 0), (2, .getfield 30, 5, 8, 0, 0), (5, .iconst 1, 6, 0, 0, 0), (6, .iload_n 1, 7, 0, 0, 0), (7, .ishl, 8, 0, 0, 0), (8, .ior, 9, 0, 0, 0), (9, .putfield 30, 12, 8, 0, 0), (12, .aload_n 0, 13, 0, 0, 0), (13, .getfield 18, 16, 8, 3, 3), (16, .iload_n 1, 17, 0, 0, 0), (17, .iload_n 2, 18, 0, 0, 0), (18, .iastore, 19, 0, 0, 0), (19, .aload_n 0, 20, 0, 0, 0), (20, .getfield 21, 23, 8, 4, 4), (23, .iload_n 1, 24, 0, 0, 0), (24, .iload_n 3, 25, 0, 0, 0), (25, .iastore, 26, 0, 0, 0), (26, .aload_n 0, 27, 0, 0, 0), (27, .getfield 24, 30, 8, 5, 5), (30, .iload_n 1, 31, 0, 0, 0), (31, .iload 4, 33, 0, 0, 0), (33, .iastore, 34, 0, 0, 0), (34, .aload_n 0, 35, 0, 0, 0), (35, .getfield 27, 38, 8, 6, 6), (38, .iload_n 1, 39, 0, 0, 0), (39, .iload 5, 41, 0, 0, 0), (41, .iastore, 42, 0, 0, 0), (42, .return_, 43, 0, 0, 0)]
def smd_X8_setWay : smD := (8, yX8_setWay, cX8_setWay, 6, none, (6, false), (0, 0), smt_X8_setWay)
/-- X8_setTimes: method 64 -/
def smt_X8_setTimes : List smI := [(0, .aload_n 0, 1, 0, 0, 0), (1, .getfield 9, 4, 8, 1, 1), (4, .iload_n 1, 5, 0, 0, 0), (5, .iload_n 2, 6, 0, 0, 0), (6, .iastore, 7, 0, 0, 0), (7, .aload_n 0, 8, 0, 0, 0), (8, .getfield 15, 11, 8, 2, 2), (11, .iload_n 1, 12, 0, 0, 0), (12, .iload_n 3, 13, 0, 0, 0), (13, .iastore, 14, 0, 0, 0), (14, .return_, 15, 0, 0, 0)]
def smd_X8_setTimes : smD := (8, yX8_setTimes, cX8_setTimes, 4, none, (4, false), (0, 0), smt_X8_setTimes)
/-- X9_begin: method 65 -/
def smt_X9_begin : List smI := [(0, .aload_n 0, 1, 0, 0, 0), (1, .iload_n 1, 2, 0, 0, 0), (2, .putfield 9, 5, 9, 0, 0), (5, .aload_n 0, 6, 0, 0, 0), (6, .iconst 0, 7, 0, 0, 0), (7, .putfield 44, 10, 9, 4, 4), (10, .aload_n 0, 11, 0, 0, 0), (11, .getfield 40, 14, 9, 9, 9), (14, .iconst 0, 15, 0, 0, 0), (15, .putfield 47, 18, 1, 0, 0), (18, .iconst 0, 19, 0, 0, 0), (19, .istore_n 2, 20, 0, 0, 0), (20, .iload_n 2, 21, 0, 0, 0), (21, .bipush 9, 23, 0, 0, 0), (23, .if_icmp .ge 30, 26, 53, 0, 0), (26, .aload_n 0, 27, 0, 0, 0), (27, .getfield 15, 30, 9, 1, 1), (30, .iload_n 2, 31, 0, 0, 0), (31, .iconst 0, 32, 0, 0, 0), (32, .iastore, 33, 0, 0, 0), (33, .aload_n 0, 34, 0, 0, 0), (34, .getfield 19, 37, 9, 2, 2), (37, .iload_n 2, 38, 0, 0, 0), (38, .iconst 0, 39, 0, 0, 0), (39, .iastore, 40, 0, 0, 0), (40, .aload_n 0, 41, 0, 0, 0), (41, .getfield 22, 44, 9, 3, 3), (44, .iload_n 2, 45, 0, 0, 0), (45, .iconst 0, 46, 0, 0, 0), (46, .iastore, 47, 0, 0, 0), (47, .iinc 2 1, 50, 0, 0, 0), (50, .goto (-30), 53, 20, 0, 0), (53, .return_, 54, 0, 0, 0)]
def smd_X9_begin : smD := (9, yX9_begin, cX9_begin, 3, none, (2, false), (0, 0), smt_X9_begin)
/-- X9_hasPlace: method 66 -/
def smt_X9_hasPlace : List smI := [(0, .iload_n 1, 1, 0, 0, 0), (1, .iconst 0, 2, 0, 0, 0), (2, .aload_n 0, 3, 0, 0, 0), (3, .getfield 9, 6, 9, 0, 0), (6, .iconst 1, 7, 0, 0, 0), (7, .isub, 8, 0, 0, 0), (8, .invokestatic 60, 11, 29, 1, 0), (11, .ireturn, 12, 0, 0, 0)]
def smd_X9_hasPlace : smD := (9, yX9_hasPlace, cX9_hasPlace, 2, (some .boolean), (2, false), (1, 22), smt_X9_hasPlace)
/-- X9_put: method 67 -/
def smt_X9_put : List smI := [(0, .aload_n 0, 1, 0, 0, 0), (1, .dup, 2, 0, 0, 0), (2, .getfield 44, 5, 9, 4, 4), (5, .iconst 1, 6, 0, 0, 0), (6, .iload_n 1, 7, 0, 0, 0), (7, .ishl, 8, 0, 0, 0), (8, .ior, 9, 0, 0, 0), (9, .putfield 44, 12, 9, 4, 4), (12, .aload_n 0, 13, 0, 0, 0), (13, .getfield 25, 16, 9, 5, 5), (16, .iload_n 1, 17, 0, 0, 0), (17, .iload_n 2, 18, 0, 0, 0), (18, .iastore, 19, 0, 0, 0), (19, .aload_n 0, 20, 0, 0, 0), (20, .getfield 28, 23, 9, 6, 6), (23, .iload_n 1, 24, 0, 0, 0), (24, .iload_n 3, 25, 0, 0, 0), (25, .iastore, 26, 0, 0, 0), (26, .aload_n 0, 27, 0, 0, 0), (27, .getfield 31, 30, 9, 7, 7), (30, .iload_n 1, 31, 0, 0, 0), (31, .iload 4, 33, 0, 0, 0), (33, .iastore, 34, 0, 0, 0), (34, .aload_n 0, 35, 0, 0, 0), (35, .getfield 34, 38, 9, 8, 8), (38, .iload_n 1, 39, 0, 0, 0), (39, .iconst 0, 40, 0, 0, 0), (40, .iastore, 41, 0, 0, 0), (41, .return_, 42, 0, 0, 0)]
def smd_X9_put : smD := (9, yX9_put, cX9_put, 5, none, (5, false), (0, 0), smt_X9_put)
/-- X9_tellPerson: method 68 -/
def smt_X9_tellPerson : List smI := [(0, .iload_n 2, 1, 0, 0, 0), (1, .ifCond .ne 10, 4, 11, 0, 0), (4, .aload_n 0, 5, 0, 0, 0), (5, .getfield 25, 8, 9, 5, 5), (8, .iload_n 1, 9, 0, 0, 0), (9, .iaload, 10, 0, 0, 0), (10, .ireturn, 11, 0, 0, 0), (11, .iload_n 2, 12, 0, 0, 0), (12, .iconst 1, 13, 0, 0, 0), (13, .if_icmp .ne 12, 16, 25, 0, 0), (16, .aload_n 0, 17, 0, 0, 0), (17, .getfield 31, 20, 9, 7, 7), (20, .iload_n 1, 21, 0, 0, 0), (21, .iaload, 22, 0, 0, 0), (22, .goto 9, 25, 31, 0, 0), (25, .aload_n 0, 26, 0, 0, 0), (26, .getfield 34, 29, 9, 8, 8), (29, .iload_n 1, 30, 0, 0, 0), (30, .iaload, 31, 0, 0, 0), (31, .ireturn, 32, 0, 0, 0)]
def smd_X9_tellPerson : smD := (9, yX9_tellPerson, cX9_tellPerson, 3, (some .int), (3, false), (0, 0), smt_X9_tellPerson)
/-- X9_emptyHands: method 69 -/
def smt_X9_emptyHands : List smI := [(0, .iconst 0, 1, 0, 0, 0), (1, .istore_n 1, 2, 0, 0, 0), (2, .iconst 0, 3, 0, 0, 0), (3, .istore_n 2, 4, 0, 0, 0), (4, .iload_n 2, 5, 0, 0, 0), (5, .iconst 5, 6, 0, 0, 0), (6, .if_icmp .ge 32, 9, 38, 0, 0), (9, .aload_n 0, 10, 0, 0, 0), (10, .iload_n 2, 11, 0, 0, 0), (11, .invokevirtual 64, 14, 47, 0, 0), (14, .ifCond .eq 18, 17, 32, 0, 0), (17, .aload_n 0, 18, 0, 0, 0), (18, .getfield 31, 21, 9, 7, 7), (21, .iload_n 2, 22, 0, 0, 0), (22, .iaload, 23, 0, 0, 0), (23, .ifCond .ne 9, 26, 32, 0, 0), (26, .iload_n 1, 27, 0, 0, 0), (27, .iconst 1, 28, 0, 0, 0), (28, .iload_n 2, 29, 0, 0, 0), (29, .ishl, 30, 0, 0, 0), (30, .ior, 31, 0, 0, 0), (31, .istore_n 1, 32, 0, 0, 0), (32, .iinc 2 1, 35, 0, 0, 0), (35, .goto (-31), 38, 4, 0, 0), (38, .iload_n 1, 39, 0, 0, 0), (39, .ireturn, 40, 0, 0, 0)]
def smd_X9_emptyHands : smD := (9, yX9_emptyHands, cX9_emptyHands, 3, (some .int), (1, false), (2, 43), smt_X9_emptyHands)
/-- X9_distance: method 70 -/
def smt_X9_distance : List smI := [(0, .iload_n 1, 1, 0, 0, 0), (1, .iload_n 2, 2, 0, 0, 0), (2, .isub, 3, 0, 0, 0), (3, .invokestatic 68, 6, 0, 5, 0), (6, .istore_n 3, 7, 0, 0, 0), (7, .iload_n 3, 8, 0, 0, 0), (8, .aload_n 0, 9, 0, 0, 0), (9, .getfield 9, 12, 9, 0, 0), (12, .iload_n 3, 13, 0, 0, 0), (13, .isub, 14, 0, 0, 0), (14, .invokestatic 74, 17, 0, 4, 0), (17, .ireturn, 18, 0, 0, 0)]
def smd_X9_distance : smD := (9, yX9_distance, cX9_distance, 4, (some .int), (3, false), (1, 38), smt_X9_distance)
/-- X9_lostInAll: method 71 -/
def smt_X9_lostInAll : List smI := [(0, .iconst 0, 1, 0, 0, 0), (1, .istore_n 1, 2, 0, 0, 0), (2, .iconst 0, 3, 0, 0, 0), (3, .istore_n 2, 4, 0, 0, 0), (4, .iload_n 2, 5, 0, 0, 0), (5, .aload_n 0, 6, 0, 0, 0), (6, .getfield 9, 9, 9, 0, 0), (9, .if_icmp .ge 18, 12, 27, 0, 0), (12, .iload_n 1, 13, 0, 0, 0), (13, .aload_n 0, 14, 0, 0, 0), (14, .getfield 22, 17, 9, 3, 3), (17, .iload_n 2, 18, 0, 0, 0), (18, .iaload, 19, 0, 0, 0), (19, .iadd, 20, 0, 0, 0), (20, .istore_n 1, 21, 0, 0, 0), (21, .iinc 2 1, 24, 0, 0, 0), (24, .goto (-20), 27, 4, 0, 0), (27, .iload_n 1, 28, 0, 0, 0), (28, .ireturn, 29, 0, 0, 0)]
def smd_X9_lostInAll : smD := (9, yX9_lostInAll, cX9_lostInAll, 3, (some .int), (1, false), (0, 0), smt_X9_lostInAll)
/-- X9_drawThrow: method 72 -/
def smt_X9_drawThrow : List smI := [(0, .iload_n 1, 1, 0, 0, 0), (1, .iconst 5, 2, 0, 0, 0), (2, .irem, 3, 0, 0, 0), (3, .istore_n 2, 4, 0, 0, 0), (4, .aload_n 0, 5, 0, 0, 0), (5, .iload_n 2, 6, 0, 0, 0), (6, .invokevirtual 64, 9, 47, 0, 0), (9, .ifCond .eq 13, 12, 22, 0, 0), (12, .aload_n 0, 13, 0, 0, 0), (13, .getfield 28, 16, 9, 6, 6), (16, .iload_n 2, 17, 0, 0, 0), (17, .iaload, 18, 0, 0, 0), (18, .iconst 1, 19, 0, 0, 0), (19, .if_icmp .ge 5, 22, 24, 0, 0), (22, .iconst 0, 23, 0, 0, 0), (23, .ireturn, 24, 0, 0, 0), (24, .iload_n 1, 25, 0, 0, 0), (25, .iconst 5, 26, 0, 0, 0), (26, .idiv, 27, 0, 0, 0), (27, .iconst 2, 28, 0, 0, 0), (28, .irem, 29, 0, 0, 0), (29, .istore_n 3, 30, 0, 0, 0), (30, .iload_n 1, 31, 0, 0, 0), (31, .bipush 10, 33, 0, 0, 0), (33, .idiv, 34, 0, 0, 0), (34, .aload_n 0, 35, 0, 0, 0), (35, .getfield 28, 38, 9, 6, 6), (38, .iload_n 2, 39, 0, 0, 0), (39, .iaload, 40, 0, 0, 0), (40, .irem, 41, 0, 0, 0), (41, .iconst 1, 42, 0, 0, 0), (42, .iadd, 43, 0, 0, 0), (43, .istore 4, 45, 0, 0, 0), (45, .iload_n 1, 46, 0, 0, 0), (46, .bipush 100, 48, 0, 0, 0), (48, .idiv, 49, 0, 0, 0), (49, .iconst 5, 50, 0, 0, 0), (50, .irem, 51, 0, 0, 0), (51, .iconst 1, 52, 0, 0, 0), (52, .iadd, 53, 0, 0, 0), (53, .istore 5, 55, 0, 0, 0), (55, .aload_n 0, 56, 0, 0, 0), (56, .iload_n 2, 57, 0, 0, 0), (57, .iload_n 3, 58, 0, 0, 0), (58, .iload 4, 60, 0, 0, 0), (60, .iload 5, 62, 0, 0, 0), (62, .invokevirtual 89, 65, 53, 0, 0), (65, .ifCond .ne 7, 68, 72, 0, 0), (68, .iconst 1, 69, 0, 0, 0), (69, .goto 4, 72, 73, 0, 0), (72, .iconst 0, 73, 0, 0, 0), (73, .ireturn, 74, 0, 0, 0)]
def smd_X9_drawThrow : smD := (9, yX9_drawThrow, cX9_drawThrow, 6, (some .boolean), (2, false), (4, 90), smt_X9_drawThrow)
/-- X10_places: method 73 -/
def smt_X10_places : List smI := [(0, .iload_n 1, 1, 0, 0, 0), (1, .iconst 4, 2, 0, 0, 0), (2, .bipush 9, 4, 0, 0, 0), (4, .invokestatic 68, 7, 29, 0, 0), (7, .ifCond .ne 6, 10, 13, 0, 0), (10, .bipush (-2), 12, 0, 0, 0), (12, .ireturn, 13, 0, 0, 0), (13, .aload_n 0, 14, 0, 0, 0), (14, .getfield 10, 17, 10, 0, 0), (17, .getfield 72, 20, 3, 0, 0), (20, .getfield 75, 23, 9, 0, 0), (23, .istore_n 2, 24, 0, 0, 0), (24, .aload_n 0, 25, 0, 0, 0), (25, .getfield 10, 28, 10, 0, 0), (28, .getfield 72, 31, 3, 0, 0), (31, .iload_n 1, 32, 0, 0, 0), (32, .invokevirtual 79, 35, 65, 0, 0), (35, .aload_n 0, 36, 0, 0, 0), (36, .getfield 10, 39, 10, 0, 0), (39, .getfield 83, 42, 3, 1, 1), (42, .iconst 0, 43, 0, 0, 0), (43, .putfield 87, 46, 8, 0, 0), (46, .aload_n 0, 47, 0, 0, 0), (47, .getfield 10, 50, 10, 0, 0), (50, .getfield 92, 53, 3, 2, 2), (53, .iconst 0, 54, 0, 0, 0), (54, .putfield 96, 57, 7, 0, 0), (57, .iload_n 2, 58, 0, 0, 0), (58, .ireturn, 59, 0, 0, 0)]
def smd_X10_places : smD := (10, yX10_places, cX10_places, 3, (some .int), (2, false), (1, 22), smt_X10_places)
/-- X10_hedge: method 74 -/
def smt_X10_hedge : List smI := [(0, .aload_n 0, 1, 0, 0, 0), (1, .getfield 10, 4, 10, 0, 0), (4, .getfield 72, 7, 3, 0, 0), (7, .iload_n 1, 8, 0, 0, 0), (8, .invokevirtual 101, 11, 66, 0, 0), (11, .ifCond .ne 5, 14, 16, 0, 0), (14, .iconst (-1), 15, 0, 0, 0), (15, .ireturn, 16, 0, 0, 0), (16, .iload_n 2, 17, 0, 0, 0), (17, .iconst 0, 18, 0, 0, 0), (18, .iconst 5, 19, 0, 0, 0), (19, .invokestatic 68, 22, 29, 0, 0), (22, .ifCond .ne 6, 25, 28, 0, 0), (25, .bipush (-2), 27, 0, 0, 0), (27, .ireturn, 28, 0, 0, 0), (28, .aload_n 0, 29, 0, 0, 0), (29, .getfield 10, 32, 10, 0, 0), (32, .getfield 72, 35, 3, 0, 0), (35, .getfield 105, 38, 9, 1, 1), (38, .iload_n 1, 39, 0, 0, 0), (39, .iaload, 40, 0, 0, 0), (40, .istore_n 3, 41, 0, 0, 0), (41, .aload_n 0, 42, 0, 0, 0), (42, .getfield 10, 45, 10, 0, 0), (45, .getfield 72, 48, 3, 0, 0), (48, .getfield 105, 51, 9, 1, 1), (51, .iload_n 1, 52, 0, 0, 0), (52, .iload_n 2, 53, 0, 0, 0), (53, .iastore, 54, 0, 0, 0), (54, .iload_n 3, 55, 0, 0, 0), (55, .ireturn, 56, 0, 0, 0)]
def smd_X10_hedge : smD := (10, yX10_hedge, cX10_hedge, 4, (some .int), (3, false), (2, 43), smt_X10_hedge)
/-- X10_lay: method 75 -/
def smt_X10_lay : List smI := [(0, .aload_n 0, 1, 0, 0, 0), (1, .getfield 10, 4, 10, 0, 0), (4, .getfield 72, 7, 3, 0, 0), (7, .iload_n 1, 8, 0, 0, 0), (8, .invokevirtual 101, 11, 66, 0, 0), (11, .ifCond .ne 5, 14, 16, 0, 0), (14, .iconst (-1), 15, 0, 0, 0), (15, .ireturn, 16, 0, 0, 0), (16, .iload_n 2, 17, 0, 0, 0), (17, .iconst 0, 18, 0, 0, 0), (18, .bipush 9, 20, 0, 0, 0), (20, .invokestatic 68, 23, 29, 0, 0), (23, .ifCond .ne 6, 26, 29, 0, 0), (26, .bipush (-2), 28, 0, 0, 0), (28, .ireturn, 29, 0, 0, 0), (29, .aload_n 0, 30, 0, 0, 0), (30, .getfield 10, 33, 10, 0, 0), (33, .getfield 72, 36, 3, 0, 0), (36, .getfield 108, 39, 9, 2, 2), (39, .iload_n 1, 40, 0, 0, 0), (40, .iaload, 41, 0, 0, 0), (41, .istore_n 3, 42, 0, 0, 0), (42, .aload_n 0, 43, 0, 0, 0), (43, .getfield 10, 46, 10, 0, 0), (46, .getfield 72, 49, 3, 0, 0), (49, .getfield 108, 52, 9, 2, 2), (52, .iload_n 1, 53, 0, 0, 0), (53, .iload_n 2, 54, 0, 0, 0), (54, .iastore, 55, 0, 0, 0), (55, .iload_n 3, 56, 0, 0, 0), (56, .ireturn, 57, 0, 0, 0)]
def smd_X10_lay : smD := (10, yX10_lay, cX10_lay, 4, (some .int), (3, false), (2, 43), smt_X10_lay)
/-- X10_person: method 76 -/
def smt_X10_person : List smI := [(0, .iload_n 1, 1, 0, 0, 0), (1, .iconst 0, 2, 0, 0, 0), (2, .iconst 4, 3, 0, 0, 0), (3, .invokestatic 68, 6, 29, 0, 0), (6, .ifCond .eq 17, 9, 23, 0, 0), (9, .aload_n 0, 10, 0, 0, 0), (10, .getfield 10, 13, 10, 0, 0), (13, .getfield 72, 16, 3, 0, 0), (16, .iload_n 2, 17, 0, 0, 0), (17, .invokevirtual 101, 20, 66, 0, 0), (20, .ifCond .ne 5, 23, 25, 0, 0), (23, .iconst (-1), 24, 0, 0, 0), (24, .ireturn, 25, 0, 0, 0), (25, .iload_n 3, 26, 0, 0, 0), (26, .iconst 1, 27, 0, 0, 0), (27, .bipush 36, 29, 0, 0, 0), (29, .invokestatic 68, 32, 29, 0, 0), (32, .ifCond .eq 14, 35, 46, 0, 0), (35, .iload 4, 37, 0, 0, 0), (37, .iconst 0, 38, 0, 0, 0), (38, .bipush 9, 40, 0, 0, 0), (40, .invokestatic 68, 43, 29, 0, 0), (43, .ifCond .ne 6, 46, 49, 0, 0), (46, .bipush (-2), 48, 0, 0, 0), (48, .ireturn, 49, 0, 0, 0), (49, .aload_n 0, 50, 0, 0, 0), (50, .getfield 10, 53, 10, 0, 0), (53, .getfield 72, 56, 3, 0, 0), (56, .iload_n 1, 57, 0, 0, 0), (57, .iload_n 2, 58, 0, 0, 0), (58, .iload_n 3, 59, 0, 0, 0), (59, .iload 4, 61, 0, 0, 0), (61, .invokevirtual 111, 64, 67, 0, 0), (64, .aload_n 0, 65, 0, 0, 0), (65, .getfield 10, 68, 10, 0, 0), (68, .getfield 72, 71, 3, 0, 0), (71, .getfield 115, 74, 9, 4, 4), (74, .invokestatic 118, 77, 32, 0, 0), (77, .ireturn, 78, 0, 0, 0)]
def smd_X10_person : smD := (10, yX10_person, cX10_person, 5, (some .int), (5, false), (2, 43), smt_X10_person)
/-- X10_leave: method 77 -/
def smt_X10_leave : List smI := [(0, .aload_n 0, 1, 0, 0, 0), (1, .getfield 10, 4, 10, 0, 0), (4, .getfield 72, 7, 3, 0, 0), (7, .iload_n 1, 8, 0, 0, 0), (8, .invokevirtual 124, 11, 47, 0, 0), (11, .ifCond .ne 5, 14, 16, 0, 0), (14, .iconst (-1), 15, 0, 0, 0), (15, .ireturn, 16, 0, 0, 0), (16, .aload_n 0, 17, 0, 0, 0), (17, .getfield 10, 20, 10, 0, 0), (20, .getfield 72, 23, 3, 0, 0), (23, .dup, 24, 0, 0, 0), (24, .getfield 115, 27, 9, 4, 4), (27, .iconst 1, 28, 0, 0, 0), (28, .iload_n 1, 29, 0, 0, 0), (29, .ishl, 30, 0, 0, 0), (30, .iconst (-1), 31, 0, 0, 0), (31, .ixor, 32, 0, 0, 0), (32, .iand, 33, 0, 0, 0), (33, .putfield 115, 36, 9, 4, 4), (36, .aload_n 0, 37, 0, 0, 0), (37, .getfield 10, 40, 10, 0, 0), (40, .getfield 72, 43, 3, 0, 0), (43, .getfield 115, 46, 9, 4, 4), (46, .invokestatic 118, 49, 32, 0, 0), (49, .ireturn, 50, 0, 0, 0)]
def smd_X10_leave : smD := (10, yX10_leave, cX10_leave, 2, (some .int), (2, false), (2, 43), smt_X10_leave)
/-- X10_say: method 78 -/
def smt_X10_say : List smI := [(0, .iload_n 1, 1, 0, 0, 0), (1, .bipush 33, 3, 0, 0, 0), (3, .bipush 126, 5, 0, 0, 0), (5, .invokestatic 68, 8, 29, 0, 0), (8, .ifCond .ne 6, 11, 14, 0, 0), (11, .bipush (-2), 13, 0, 0, 0), (13, .ireturn, 14, 0, 0, 0), (14, .aload_n 0, 15, 0, 0, 0), (15, .getfield 32, 18, 10, 4, 4), (18, .iload_n 1, 19, 0, 0, 0), (19, .invokevirtual 127, 22, 42, 0, 0), (22, .ifCond .eq 13, 25, 35, 0, 0), (25, .aload_n 0, 26, 0, 0, 0), (26, .getfield 32, 29, 10, 4, 4), (29, .getfield 130, 32, 5, 0, 0), (32, .goto 5, 35, 37, 0, 0), (35, .bipush (-4), 37, 0, 0, 0), (37, .ireturn, 38, 0, 0, 0)]
def smd_X10_say : smD := (10, yX10_say, cX10_say, 2, (some .int), (2, false), (1, 22), smt_X10_say)
/-- X10_wipe: method 79 -/
def smt_X10_wipe : List smI := [(0, .aload_n 0, 1, 0, 0, 0), (1, .getfield 32, 4, 10, 4, 4), (4, .getfield 130, 7, 5, 0, 0), (7, .istore_n 1, 8, 0, 0, 0), (8, .aload_n 0, 9, 0, 0, 0), (9, .getfield 32, 12, 10, 4, 4), (12, .iconst 0, 13, 0, 0, 0), (13, .putfield 130, 16, 5, 0, 0), (16, .iload_n 1, 17, 0, 0, 0), (17, .ireturn, 18, 0, 0, 0)]
def smd_X10_wipe : smD := (10, yX10_wipe, cX10_wipe, 2, (some .int), (1, false), (0, 0), smt_X10_wipe)
/-- X10_fault: method 80 -/
def smt_X10_fault : List smI := [(0, .aload_n 0, 1, 0, 0, 0), (1, .getfield 32, 4, 10, 4, 4), (4, .invokevirtual 131, 7, 46, 0, 0), (7, .ireturn, 8, 0, 0, 0)]
def smd_X10_fault : smD := (10, yX10_fault, cX10_fault, 1, (some .int), (1, false), (3, 66), smt_X10_fault)
/-- X10_tryDay: method 81 -/
def smt_X10_tryDay : List smI := [(0, .aload_n 0, 1, 0, 0, 0), (1, .getfield 32, 4, 10, 4, 4), (4, .invokevirtual 131, 7, 46, 0, 0), (7, .bipush (-6), 9, 0, 0, 0), (9, .if_icmp .eq 5, 12, 14, 0, 0), (12, .iconst 0, 13, 0, 0, 0), (13, .ireturn, 14, 0, 0, 0), (14, .aload_n 0, 15, 0, 0, 0), (15, .getfield 25, 18, 10, 3, 3), (18, .aload_n 0, 19, 0, 0, 0), (19, .getfield 10, 22, 10, 0, 0), (22, .getfield 72, 25, 3, 0, 0), (25, .invokevirtual 145, 28, 21, 0, 0), (28, .aload_n 0, 29, 0, 0, 0), (29, .getfield 32, 32, 10, 4, 4), (32, .aload_n 0, 33, 0, 0, 0), (33, .getfield 25, 36, 10, 3, 3), (36, .invokevirtual 295, 39, 58, 0, 0), (39, .ireturn, 40, 0, 0, 0)]
def smd_X10_tryDay : smD := (10, yX10_tryDay, cX10_tryDay, 1, (some .boolean), (1, false), (8, 195), smt_X10_tryDay)
/-- X10_judge: method 82 -/
def smt_X10_judge : List smI := [(0, .iload_n 1, 1, 0, 0, 0), (1, .iconst 0, 2, 0, 0, 0), (2, .iconst 1, 3, 0, 0, 0), (3, .invokestatic 68, 6, 29, 0, 0), (6, .ifCond .ne 6, 9, 12, 0, 0), (9, .bipush (-2), 11, 0, 0, 0), (11, .ireturn, 12, 0, 0, 0), (12, .aload_n 0, 13, 0, 0, 0), (13, .getfield 32, 16, 10, 4, 4), (16, .invokevirtual 131, 19, 46, 0, 0), (19, .bipush (-6), 21, 0, 0, 0), (21, .if_icmp .eq 6, 24, 27, 0, 0), (24, .bipush (-5), 26, 0, 0, 0), (26, .ireturn, 27, 0, 0, 0), (27, .aload_n 0, 28, 0, 0, 0), (28, .invokevirtual 135, 31, 81, 0, 0), (31, .ifCond .eq 6, 34, 37, 0, 0), (34, .bipush (-6), 36, 0, 0, 0), (36, .ireturn, 37, 0, 0, 0), (37, .iload_n 1, 38, 0, 0, 0), (38, .ifCond .ne 13, 41, 51, 0, 0), (41, .aload_n 0, 42, 0, 0, 0), (42, .getfield 32, 45, 10, 4, 4), (45, .getfield 139, 48, 5, 1, 1), (48, .goto 10, 51, 58, 0, 0), (51, .aload_n 0, 52, 0, 0, 0), (52, .getfield 32, 55, 10, 4, 4), (55, .getfield 142, 58, 5, 2, 2), (58, .ireturn, 59, 0, 0, 0)]
def smd_X10_judge : smD := (10, yX10_judge, cX10_judge, 2, (some .int), (2, false), (9, 215), smt_X10_judge)
/-- X10_done: method 83 -/
def smt_X10_done : List smI := [(0, .aload_n 0, 1, 0, 0, 0), (1, .invokevirtual 135, 4, 81, 0, 0), (4, .ifCond .ne 6, 7, 10, 0, 0), (7, .bipush (-5), 9, 0, 0, 0), (9, .ireturn, 10, 0, 0, 0), (10, .aload_n 0, 11, 0, 0, 0), (11, .getfield 10, 14, 10, 0, 0), (14, .getfield 72, 17, 3, 0, 0), (17, .aload_n 0, 18, 0, 0, 0), (18, .getfield 25, 21, 10, 3, 3), (21, .invokevirtual 145, 24, 21, 0, 0), (24, .aload_n 0, 25, 0, 0, 0), (25, .getfield 32, 28, 10, 4, 4), (28, .iconst 0, 29, 0, 0, 0), (29, .putfield 130, 32, 5, 0, 0), (32, .aload_n 0, 33, 0, 0, 0), (33, .getfield 32, 36, 10, 4, 4), (36, .getfield 139, 39, 5, 1, 1), (39, .ireturn, 40, 0, 0, 0)]
def smd_X10_done : smD := (10, yX10_done, cX10_done, 1, (some .int), (1, false), (9, 215), smt_X10_done)
/-- X10_state: method 84 -/
def smt_X10_state : List smI := [(0, .aload_n 0, 1, 0, 0, 0), (1, .getfield 10, 4, 10, 0, 0), (4, .getfield 72, 7, 3, 0, 0), (7, .iload_n 1, 8, 0, 0, 0), (8, .invokevirtual 124, 11, 47, 0, 0), (11, .ifCond .ne 5, 14, 16, 0, 0), (14, .iconst (-1), 15, 0, 0, 0), (15, .ireturn, 16, 0, 0, 0), (16, .iload_n 2, 17, 0, 0, 0), (17, .iconst 0, 18, 0, 0, 0), (18, .iconst 2, 19, 0, 0, 0), (19, .invokestatic 68, 22, 29, 0, 0), (22, .ifCond .ne 6, 25, 28, 0, 0), (25, .bipush (-2), 27, 0, 0, 0), (27, .ireturn, 28, 0, 0, 0), (28, .aload_n 0, 29, 0, 0, 0), (29, .getfield 10, 32, 10, 0, 0), (32, .getfield 72, 35, 3, 0, 0), (35, .iload_n 1, 36, 0, 0, 0), (36, .iload_n 2, 37, 0, 0, 0), (37, .invokevirtual 149, 40, 68, 0, 0), (40, .ireturn, 41, 0, 0, 0)]
def smd_X10_state : smD := (10, yX10_state, cX10_state, 3, (some .int), (3, false), (2, 43), smt_X10_state)
/-- X10_behind: method 85 -/
def smt_X10_behind : List smI := [(0, .aload_n 0, 1, 0, 0, 0), (1, .getfield 10, 4, 10, 0, 0), (4, .getfield 72, 7, 3, 0, 0), (7, .iload_n 1, 8, 0, 0, 0), (8, .invokevirtual 124, 11, 47, 0, 0), (11, .ifCond .ne 5, 14, 16, 0, 0), (14, .iconst (-1), 15, 0, 0, 0), (15, .ireturn, 16, 0, 0, 0), (16, .iload_n 2, 17, 0, 0, 0), (17, .iconst 0, 18, 0, 0, 0), (18, .iconst 2, 19, 0, 0, 0), (19, .invokestatic 68, 22, 29, 0, 0), (22, .ifCond .ne 6, 25, 28, 0, 0), (25, .bipush (-2), 27, 0, 0, 0), (27, .ireturn, 28, 0, 0, 0), (28, .aload_n 0, 29, 0, 0, 0), (29, .invokevirtual 135, 32, 81, 0, 0), (32, .ifCond .eq 15, 35, 47, 0, 0), (35, .aload_n 0, 36, 0, 0, 0), (36, .getfield 25, 39, 10, 3, 3), (39, .iload_n 1, 40, 0, 0, 0), (40, .iload_n 2, 41, 0, 0, 0), (41, .invokevirtual 149, 44, 68, 0, 0), (44, .goto 5, 47, 49, 0, 0), (47, .bipush (-5), 49, 0, 0, 0), (49, .ireturn, 50, 0, 0, 0)]
def smd_X10_behind : smD := (10, yX10_behind, cX10_behind, 3, (some .int), (3, false), (9, 215), smt_X10_behind)
/-- X10_stones: method 86 -/
def smt_X10_stones : List smI := [(0, .aload_n 0, 1, 0, 0, 0), (1, .getfield 10, 4, 10, 0, 0), (4, .getfield 72, 7, 3, 0, 0), (7, .iload_n 1, 8, 0, 0, 0), (8, .invokevirtual 101, 11, 66, 0, 0), (11, .ifCond .ne 5, 14, 16, 0, 0), (14, .iconst (-1), 15, 0, 0, 0), (15, .ireturn, 16, 0, 0, 0), (16, .iload_n 2, 17, 0, 0, 0), (17, .iconst 0, 18, 0, 0, 0), (18, .iconst 2, 19, 0, 0, 0), (19, .invokestatic 68, 22, 29, 0, 0), (22, .ifCond .ne 6, 25, 28, 0, 0), (25, .bipush (-2), 27, 0, 0, 0), (27, .ireturn, 28, 0, 0, 0), (28, .iload_n 2, 29, 0, 0, 0), (29, .ifCond .ne 16, 32, 45, 0, 0), (32, .aload_n 0, 33, 0, 0, 0), (33, .getfield 10, 36, 10, 0, 0), (36, .getfield 72, 39, 3, 0, 0), (39, .getfield 108, 42, 9, 2, 2), (42, .iload_n 1, 43, 0, 0, 0), (43, .iaload, 44, 0, 0, 0), (44, .ireturn, 45, 0, 0, 0), (45, .iload_n 2, 46, 0, 0, 0), (46, .iconst 1, 47, 0, 0, 0), (47, .if_icmp .ne 18, 50, 65, 0, 0), (50, .aload_n 0, 51, 0, 0, 0), (51, .getfield 10, 54, 10, 0, 0), (54, .getfield 72, 57, 3, 0, 0), (57, .getfield 153, 60, 9, 3, 3), (60, .iload_n 1, 61, 0, 0, 0), (61, .iaload, 62, 0, 0, 0), (62, .goto 17, 65, 79, 0, 0), (65, .aload_n 0, 66, 0, 0, 0), (66, .getfield 10, 69, 10, 0, 0), (69, .getfield 72, 72, 3, 0, 0), (72, .getfield 156, 75, 9, 9, 9), (75, .iload_n 1, 76, 0, 0, 0), (76, .invokevirtual 160, 79, 16, 0, 0), (79, .ireturn, 80, 0, 0, 0)]
def smd_X10_stones : smD := (10, yX10_stones, cX10_stones, 3, (some .int), (3, false), (2, 43), smt_X10_stones)
/-- X10_air: method 87 -/
def smt_X10_air : List smI := [(0, .aload_n 0, 1, 0, 0, 0), (1, .getfield 10, 4, 10, 0, 0), (4, .getfield 72, 7, 3, 0, 0), (7, .getfield 156, 10, 9, 9, 9), (10, .astore_n 2, 11, 0, 0, 0), (11, .iload_n 1, 12, 0, 0, 0), (12, .iconst (-1), 13, 0, 0, 0), (13, .if_icmp .ne 8, 16, 21, 0, 0), (16, .aload_n 2, 17, 0, 0, 0), (17, .getfield 165, 20, 1, 0, 0), (20, .ireturn, 21, 0, 0, 0), (21, .iload_n 1, 22, 0, 0, 0), (22, .iconst 0, 23, 0, 0, 0), (23, .aload_n 2, 24, 0, 0, 0), (24, .getfield 165, 27, 1, 0, 0), (27, .iconst 1, 28, 0, 0, 0), (28, .isub, 29, 0, 0, 0), (29, .invokestatic 68, 32, 29, 0, 0), (32, .ifCond .eq 11, 35, 43, 0, 0), (35, .aload_n 2, 36, 0, 0, 0), (36, .iload_n 1, 37, 0, 0, 0), (37, .invokevirtual 166, 40, 17, 0, 0), (40, .goto 5, 43, 45, 0, 0), (43, .bipush (-6), 45, 0, 0, 0), (45, .ireturn, 46, 0, 0, 0)]
def smd_X10_air : smD := (10, yX10_air, cX10_air, 3, (some .int), (2, false), (4, 102), smt_X10_air)
/-- X10_isThrow: method 88 -/
def smt_X10_isThrow : List smI := [(0, .iload_n 0, 1, 0, 0, 0), (1, .iconst 0, 2, 0, 0, 0), (2, .iconst 1, 3, 0, 0, 0), (3, .invokestatic 68, 6, 29, 0, 0), (6, .ifCond .eq 26, 9, 32, 0, 0), (9, .iload_n 1, 10, 0, 0, 0), (10, .iconst 1, 11, 0, 0, 0), (11, .bipush 36, 13, 0, 0, 0), (13, .invokestatic 68, 16, 29, 0, 0), (16, .ifCond .eq 16, 19, 32, 0, 0), (19, .iload_n 2, 20, 0, 0, 0), (20, .iconst 1, 21, 0, 0, 0), (21, .iconst 5, 22, 0, 0, 0), (22, .invokestatic 68, 25, 29, 0, 0), (25, .ifCond .eq 7, 28, 32, 0, 0), (28, .iconst 1, 29, 0, 0, 0), (29, .goto 4, 32, 33, 0, 0), (32, .iconst 0, 33, 0, 0, 0), (33, .ireturn, 34, 0, 0, 0)]
def smd_X10_isThrow : smD := (10, yX10_isThrow, cX10_isThrow, 3, (some .boolean), (3, true), (1, 22), smt_X10_isThrow)
/-- X10_flight: method 89 -/
def smt_X10_flight : List smI := [(0, .aload_n 0, 1, 0, 0, 0), (1, .getfield 10, 4, 10, 0, 0), (4, .getfield 72, 7, 3, 0, 0), (7, .iload_n 1, 8, 0, 0, 0), (8, .invokevirtual 124, 11, 47, 0, 0), (11, .ifCond .ne 5, 14, 16, 0, 0), (14, .iconst (-1), 15, 0, 0, 0), (15, .ireturn, 16, 0, 0, 0), (16, .iload_n 2, 17, 0, 0, 0), (17, .iload_n 3, 18, 0, 0, 0), (18, .iload 4, 20, 0, 0, 0), (20, .invokestatic 169, 23, 88, 0, 0), (23, .ifCond .eq 13, 26, 36, 0, 0), (26, .iload 5, 28, 0, 0, 0), (28, .iconst 0, 29, 0, 0, 0), (29, .iconst 3, 30, 0, 0, 0), (30, .invokestatic 68, 33, 29, 0, 0), (33, .ifCond .ne 6, 36, 39, 0, 0), (36, .bipush (-2), 38, 0, 0, 0), (38, .ireturn, 39, 0, 0, 0), (39, .aload_n 0, 40, 0, 0, 0), (40, .getfield 39, 43, 10, 5, 5), (43, .aload_n 0, 44, 0, 0, 0), (44, .getfield 10, 47, 10, 0, 0), (47, .getfield 72, 50, 3, 0, 0), (50, .iconst 1, 51, 0, 0, 0), (51, .invokevirtual 172, 54, 59, 0, 0), (54, .aload_n 0, 55, 0, 0, 0), (55, .getfield 46, 58, 10, 6, 6), (58, .aload_n 0, 59, 0, 0, 0), (59, .getfield 39, 62, 10, 5, 5), (62, .aload_n 0, 63, 0, 0, 0), (63, .getfield 10, 66, 10, 0, 0), (66, .getfield 72, 69, 3, 0, 0), (69, .getfield 176, 72, 9, 5, 5), (72, .iload_n 1, 73, 0, 0, 0), (73, .iaload, 74, 0, 0, 0), (74, .iload_n 2, 75, 0, 0, 0), (75, .iload_n 3, 76, 0, 0, 0), (76, .iload 4, 78, 0, 0, 0), (78, .invokevirtual 179, 81, 3, 0, 0), (81, .aload_n 0, 82, 0, 0, 0), (82, .getfield 46, 85, 10, 6, 6), (85, .iload 5, 87, 0, 0, 0), (87, .invokevirtual 183, 90, 20, 0, 0), (90, .ireturn, 91, 0, 0, 0)]
def smd_X10_flight : smD := (10, yX10_flight, cX10_flight, 6, (some .int), (6, false), (4, 88), smt_X10_flight)
/-- X10_gets: method 90 -/
def smt_X10_gets : List smI := [(0, .aload_n 0, 1, 0, 0, 0), (1, .getfield 10, 4, 10, 0, 0), (4, .getfield 72, 7, 3, 0, 0), (7, .iload_n 1, 8, 0, 0, 0), (8, .invokevirtual 124, 11, 47, 0, 0), (11, .ifCond .eq 17, 14, 28, 0, 0), (14, .aload_n 0, 15, 0, 0, 0), (15, .getfield 10, 18, 10, 0, 0), (18, .getfield 72, 21, 3, 0, 0), (21, .iload_n 2, 22, 0, 0, 0), (22, .invokevirtual 124, 25, 47, 0, 0), (25, .ifCond .ne 5, 28, 30, 0, 0), (28, .iconst (-1), 29, 0, 0, 0), (29, .ireturn, 30, 0, 0, 0), (30, .iload_n 3, 31, 0, 0, 0), (31, .iconst 0, 32, 0, 0, 0), (32, .iconst 4, 33, 0, 0, 0), (33, .invokestatic 68, 36, 29, 0, 0), (36, .ifCond .ne 6, 39, 42, 0, 0), (39, .bipush (-2), 41, 0, 0, 0), (41, .ireturn, 42, 0, 0, 0), (42, .aload_n 0, 43, 0, 0, 0), (43, .getfield 39, 46, 10, 5, 5), (46, .aload_n 0, 47, 0, 0, 0), (47, .getfield 10, 50, 10, 0, 0), (50, .getfield 72, 53, 3, 0, 0), (53, .iconst 1, 54, 0, 0, 0), (54, .invokevirtual 172, 57, 59, 0, 0), (57, .aload_n 0, 58, 0, 0, 0), (58, .getfield 53, 61, 10, 7, 7), (61, .aload_n 0, 62, 0, 0, 0), (62, .getfield 10, 65, 10, 0, 0), (65, .getfield 72, 68, 3, 0, 0), (68, .aload_n 0, 69, 0, 0, 0), (69, .getfield 39, 72, 10, 5, 5), (72, .aload_n 0, 73, 0, 0, 0), (73, .getfield 46, 76, 10, 6, 6), (76, .iload_n 1, 77, 0, 0, 0), (77, .iload_n 2, 78, 0, 0, 0), (78, .invokevirtual 186, 81, 7, 0, 0), (81, .aload_n 0, 82, 0, 0, 0), (82, .getfield 53, 85, 10, 7, 7), (85, .iload_n 3, 86, 0, 0, 0), (86, .invokevirtual 190, 89, 10, 0, 0), (89, .ireturn, 90, 0, 0, 0)]
def smd_X10_gets : smD := (10, yX10_gets, cX10_gets, 4, (some .int), (4, false), (4, 116), smt_X10_gets)
/-- X10_goesTo: method 91 -/
def smt_X10_goesTo : List smI := [(0, .aload_n 0, 1, 0, 0, 0), (1, .getfield 46, 4, 10, 6, 6), (4, .aload_n 0, 5, 0, 0, 0), (5, .getfield 39, 8, 10, 5, 5), (8, .iload_n 2, 9, 0, 0, 0), (9, .iload_n 3, 10, 0, 0, 0), (10, .iload 4, 12, 0, 0, 0), (12, .iload 5, 14, 0, 0, 0), (14, .invokevirtual 179, 17, 3, 0, 0), (17, .aload_n 0, 18, 0, 0, 0), (18, .getfield 46, 21, 10, 6, 6), (21, .iload_n 1, 22, 0, 0, 0), (22, .invokevirtual 299, 25, 4, 0, 0), (25, .ireturn, 26, 0, 0, 0)]
def smd_X10_goesTo : smD := (10, yX10_goesTo, cX10_goesTo, 6, (some .boolean), (6, false), (3, 88), smt_X10_goesTo)
/-- X10_comesRound: method 92 -/
def smt_X10_comesRound : List smI := [(0, .aload_n 0, 1, 0, 0, 0), (1, .getfield 10, 4, 10, 0, 0), (4, .getfield 72, 7, 3, 0, 0), (7, .getfield 176, 10, 9, 5, 5), (10, .iload_n 1, 11, 0, 0, 0), (11, .iaload, 12, 0, 0, 0), (12, .istore_n 3, 13, 0, 0, 0), (13, .iconst 1, 14, 0, 0, 0), (14, .istore 4, 16, 0, 0, 0), (16, .iload 4, 18, 0, 0, 0), (18, .iconst 5, 19, 0, 0, 0), (19, .if_icmp .gt 60, 22, 79, 0, 0), (22, .iconst 0, 23, 0, 0, 0), (23, .istore 5, 25, 0, 0, 0), (25, .iload 5, 27, 0, 0, 0), (27, .iconst 1, 28, 0, 0, 0), (28, .if_icmp .gt 45, 31, 73, 0, 0), (31, .aload_n 0, 32, 0, 0, 0), (32, .iload_n 1, 33, 0, 0, 0), (33, .iload_n 3, 34, 0, 0, 0), (34, .iload 5, 36, 0, 0, 0), (36, .iload_n 2, 37, 0, 0, 0), (37, .iload 4, 39, 0, 0, 0), (39, .invokevirtual 264, 42, 91, 0, 0), (42, .ifCond .eq 25, 45, 67, 0, 0), (45, .aload_n 0, 46, 0, 0, 0), (46, .getfield 46, 49, 10, 6, 6), (49, .getfield 302, 52, 2, 1, 1), (52, .aload_n 0, 53, 0, 0, 0), (53, .getfield 10, 56, 10, 0, 0), (56, .getfield 72, 59, 3, 0, 0), (59, .getfield 75, 62, 9, 0, 0), (62, .if_icmp .ne 5, 65, 67, 0, 0), (65, .iconst 1, 66, 0, 0, 0), (66, .ireturn, 67, 0, 0, 0), (67, .iinc 5 1, 70, 0, 0, 0), (70, .goto (-45), 73, 25, 0, 0), (73, .iinc 4 1, 76, 0, 0, 0), (76, .goto (-60), 79, 16, 0, 0), (79, .iconst 0, 80, 0, 0, 0), (80, .ireturn, 81, 0, 0, 0)]
def smd_X10_comesRound : smD := (10, yX10_comesRound, cX10_comesRound, 6, (some .boolean), (3, false), (4, 113), smt_X10_comesRound)
/-- X10_round: method 93 -/
def smt_X10_round : List smI := [(0, .aload_n 0, 1, 0, 0, 0), (1, .getfield 10, 4, 10, 0, 0), (4, .getfield 72, 7, 3, 0, 0), (7, .iload_n 1, 8, 0, 0, 0), (8, .invokevirtual 124, 11, 47, 0, 0), (11, .ifCond .ne 5, 14, 16, 0, 0), (14, .iconst (-1), 15, 0, 0, 0), (15, .ireturn, 16, 0, 0, 0), (16, .aload_n 0, 17, 0, 0, 0), (17, .getfield 39, 20, 10, 5, 5), (20, .aload_n 0, 21, 0, 0, 0), (21, .getfield 10, 24, 10, 0, 0), (24, .getfield 72, 27, 3, 0, 0), (27, .iconst 1, 28, 0, 0, 0), (28, .invokevirtual 172, 31, 59, 0, 0), (31, .iconst 1, 32, 0, 0, 0), (32, .istore_n 2, 33, 0, 0, 0), (33, .iload_n 2, 34, 0, 0, 0), (34, .bipush 36, 36, 0, 0, 0), (36, .if_icmp .gt 20, 39, 56, 0, 0), (39, .aload_n 0, 40, 0, 0, 0), (40, .iload_n 1, 41, 0, 0, 0), (41, .iload_n 2, 42, 0, 0, 0), (42, .invokevirtual 193, 45, 92, 0, 0), (45, .ifCond .eq 5, 48, 50, 0, 0), (48, .iload_n 2, 49, 0, 0, 0), (49, .ireturn, 50, 0, 0, 0), (50, .iinc 2 1, 53, 0, 0, 0), (53, .goto (-20), 56, 33, 0, 0), (56, .bipush (-6), 58, 0, 0, 0), (58, .ireturn, 59, 0, 0, 0)]
def smd_X10_round : smD := (10, yX10_round, cX10_round, 3, (some .int), (2, false), (5, 138), smt_X10_round)
/-- X10_keptOff: method 94 -/
def smt_X10_keptOff : List smI := [(0, .aload_n 0, 1, 0, 0, 0), (1, .getfield 10, 4, 10, 0, 0), (4, .getfield 72, 7, 3, 0, 0), (7, .iload_n 1, 8, 0, 0, 0), (8, .invokevirtual 124, 11, 47, 0, 0), (11, .ifCond .eq 17, 14, 28, 0, 0), (14, .aload_n 0, 15, 0, 0, 0), (15, .getfield 10, 18, 10, 0, 0), (18, .getfield 72, 21, 3, 0, 0), (21, .iload_n 2, 22, 0, 0, 0), (22, .invokevirtual 124, 25, 47, 0, 0), (25, .ifCond .ne 5, 28, 30, 0, 0), (28, .iconst (-1), 29, 0, 0, 0), (29, .ireturn, 30, 0, 0, 0), (30, .iload_n 3, 31, 0, 0, 0), (31, .iconst 0, 32, 0, 0, 0), (32, .iconst 1, 33, 0, 0, 0), (33, .invokestatic 68, 36, 29, 0, 0), (36, .ifCond .ne 6, 39, 42, 0, 0), (39, .bipush (-2), 41, 0, 0, 0), (41, .ireturn, 42, 0, 0, 0), (42, .aload_n 0, 43, 0, 0, 0), (43, .getfield 39, 46, 10, 5, 5), (46, .aload_n 0, 47, 0, 0, 0), (47, .getfield 10, 50, 10, 0, 0), (50, .getfield 72, 53, 3, 0, 0), (53, .iconst 1, 54, 0, 0, 0), (54, .invokevirtual 172, 57, 59, 0, 0), (57, .aload_n 0, 58, 0, 0, 0), (58, .getfield 53, 61, 10, 7, 7), (61, .aload_n 0, 62, 0, 0, 0), (62, .getfield 10, 65, 10, 0, 0), (65, .getfield 72, 68, 3, 0, 0), (68, .aload_n 0, 69, 0, 0, 0), (69, .getfield 39, 72, 10, 5, 5), (72, .aload_n 0, 73, 0, 0, 0), (73, .getfield 46, 76, 10, 6, 6), (76, .iload_n 1, 77, 0, 0, 0), (77, .iload_n 2, 78, 0, 0, 0), (78, .invokevirtual 186, 81, 7, 0, 0), (81, .aload_n 0, 82, 0, 0, 0), (82, .getfield 53, 85, 10, 7, 7), (85, .getfield 197, 88, 0, 0, 0), (88, .ifCond .ne 14, 91, 102, 0, 0), (91, .iload_n 3, 92, 0, 0, 0), (92, .ifCond .ne 7, 95, 99, 0, 0), (95, .iconst 0, 96, 0, 0, 0), (96, .goto 5, 99, 101, 0, 0), (99, .bipush (-6), 101, 0, 0, 0), (101, .ireturn, 102, 0, 0, 0), (102, .aload_n 0, 103, 0, 0, 0), (103, .getfield 53, 106, 10, 7, 7), (106, .aload_n 0, 107, 0, 0, 0), (107, .getfield 10, 110, 10, 0, 0), (110, .getfield 72, 113, 3, 0, 0), (113, .getfield 75, 116, 9, 0, 0), (116, .invokevirtual 200, 119, 8, 0, 0), (119, .istore 4, 121, 0, 0, 0), (121, .iload 4, 123, 0, 0, 0), (123, .bipush (-6), 125, 0, 0, 0), (125, .if_icmp .ne 6, 128, 131, 0, 0), (128, .bipush (-6), 130, 0, 0, 0), (130, .ireturn, 131, 0, 0, 0), (131, .iload_n 3, 132, 0, 0, 0), (132, .ifCond .ne 16, 135, 148, 0, 0), (135, .aload_n 0, 136, 0, 0, 0), (136, .getfield 53, 139, 10, 7, 7), (139, .getfield 203, 142, 0, 1, 1), (142, .iload 4, 144, 0, 0, 0), (144, .iaload, 145, 0, 0, 0), (145, .goto 5, 148, 150, 0, 0), (148, .iload 4, 150, 0, 0, 0), (150, .ireturn, 151, 0, 0, 0)]
def smd_X10_keptOff : smD := (10, yX10_keptOff, cX10_keptOff, 5, (some .int), (4, false), (4, 116), smt_X10_keptOff)
/-- X10_offerStone: method 95 -/
def smt_X10_offerStone : List smI := [(0, .iload_n 2, 1, 0, 0, 0), (1, .istore_n 3, 2, 0, 0, 0), (2, .iload_n 3, 3, 0, 0, 0), (3, .ifCond .lt 119, 6, 122, 0, 0), (6, .iload_n 3, 7, 0, 0, 0), (7, .iload_n 2, 8, 0, 0, 0), (8, .iconst (-1), 9, 0, 0, 0), (9, .ixor, 10, 0, 0, 0), (10, .iand, 11, 0, 0, 0), (11, .ifCond .ne 105, 14, 116, 0, 0), (14, .aload_n 0, 15, 0, 0, 0), (15, .getfield 64, 18, 10, 9, 9), (18, .iload_n 3, 19, 0, 0, 0), (19, .iaload, 20, 0, 0, 0), (20, .ldc 209, 22, 1000000, 0, 1000000), (22, .if_icmp .lt 6, 25, 28, 0, 0), (25, .goto 91, 28, 116, 0, 0), (28, .iconst 0, 29, 0, 0, 0), (29, .istore 4, 31, 0, 0, 0), (31, .iload 4, 33, 0, 0, 0), (33, .iconst 5, 34, 0, 0, 0), (34, .if_icmp .ge 82, 37, 116, 0, 0), (37, .iconst 1, 38, 0, 0, 0), (38, .iload 4, 40, 0, 0, 0), (40, .ishl, 41, 0, 0, 0), (41, .istore 5, 43, 0, 0, 0), (43, .iload_n 2, 44, 0, 0, 0), (44, .iload_n 3, 45, 0, 0, 0), (45, .iconst (-1), 46, 0, 0, 0), (46, .ixor, 47, 0, 0, 0), (47, .iand, 48, 0, 0, 0), (48, .iload 5, 50, 0, 0, 0), (50, .iand, 51, 0, 0, 0), (51, .ifCond .eq 59, 54, 110, 0, 0), (54, .aload_n 0, 55, 0, 0, 0), (55, .getfield 64, 58, 10, 9, 9), (58, .iload_n 3, 59, 0, 0, 0), (59, .iaload, 60, 0, 0, 0), (60, .aload_n 0, 61, 0, 0, 0), (61, .getfield 10, 64, 10, 0, 0), (64, .getfield 72, 67, 3, 0, 0), (67, .aload_n 0, 68, 0, 0, 0), (68, .getfield 10, 71, 10, 0, 0), (71, .getfield 72, 74, 3, 0, 0), (74, .getfield 176, 77, 9, 5, 5), (77, .iload 4, 79, 0, 0, 0), (79, .iaload, 80, 0, 0, 0), (80, .iload_n 1, 81, 0, 0, 0), (81, .invokevirtual 305, 84, 70, 0, 0), (84, .iadd, 85, 0, 0, 0), (85, .istore 6, 87, 0, 0, 0), (87, .aload_n 0, 88, 0, 0, 0), (88, .getfield 64, 91, 10, 9, 9), (91, .iload_n 3, 92, 0, 0, 0), (92, .iload 5, 94, 0, 0, 0), (94, .ior, 95, 0, 0, 0), (95, .aload_n 0, 96, 0, 0, 0), (96, .getfield 64, 99, 10, 9, 9), (99, .iload_n 3, 100, 0, 0, 0), (100, .iload 5, 102, 0, 0, 0), (102, .ior, 103, 0, 0, 0), (103, .iaload, 104, 0, 0, 0), (104, .iload 6, 106, 0, 0, 0), (106, .invokestatic 210, 109, 0, 4, 0), (109, .iastore, 110, 0, 0, 0), (110, .iinc 4 1, 113, 0, 0, 0), (113, .goto (-82), 116, 31, 0, 0), (116, .iinc 3 (-1), 119, 0, 0, 0), (119, .goto (-117), 122, 2, 0, 0), (122, .return_, 123, 0, 0, 0)]
def smd_X10_offerStone : smD := (10, yX10_offerStone, cX10_offerStone, 7, none, (3, false), (2, 61), smt_X10_offerStone)
/-- X10_laid: method 96 -/
def smt_X10_laid : List smI := [(0, .aload_n 0, 1, 0, 0, 0), (1, .getfield 10, 4, 10, 0, 0), (4, .getfield 72, 7, 3, 0, 0), (7, .invokevirtual 206, 10, 69, 0, 0), (10, .istore_n 1, 11, 0, 0, 0), (11, .iconst 0, 12, 0, 0, 0), (12, .istore_n 2, 13, 0, 0, 0), (13, .iload_n 2, 14, 0, 0, 0), (14, .aload_n 0, 15, 0, 0, 0), (15, .getfield 64, 18, 10, 9, 9), (18, .arraylength, 19, 0, 0, 0), (19, .if_icmp .ge 25, 22, 44, 0, 0), (22, .aload_n 0, 23, 0, 0, 0), (23, .getfield 64, 26, 10, 9, 9), (26, .iload_n 2, 27, 0, 0, 0), (27, .iload_n 2, 28, 0, 0, 0), (28, .ifCond .ne 7, 31, 35, 0, 0), (31, .iconst 0, 32, 0, 0, 0), (32, .goto 5, 35, 37, 0, 0), (35, .ldc 209, 37, 1000000, 0, 1000000), (37, .iastore, 38, 0, 0, 0), (38, .iinc 2 1, 41, 0, 0, 0), (41, .goto (-28), 44, 13, 0, 0), (44, .iconst 0, 45, 0, 0, 0), (45, .istore_n 2, 46, 0, 0, 0), (46, .iload_n 2, 47, 0, 0, 0), (47, .aload_n 0, 48, 0, 0, 0), (48, .getfield 10, 51, 10, 0, 0), (51, .getfield 72, 54, 3, 0, 0), (54, .getfield 75, 57, 9, 0, 0), (57, .if_icmp .ge 47, 60, 104, 0, 0), (60, .aload_n 0, 61, 0, 0, 0), (61, .getfield 10, 64, 10, 0, 0), (64, .getfield 72, 67, 3, 0, 0), (67, .getfield 108, 70, 9, 2, 2), (70, .iload_n 2, 71, 0, 0, 0), (71, .iaload, 72, 0, 0, 0), (72, .iconst 5, 73, 0, 0, 0), (73, .invokestatic 210, 76, 0, 4, 0), (76, .istore_n 3, 77, 0, 0, 0), (77, .iconst 0, 78, 0, 0, 0), (78, .istore 4, 80, 0, 0, 0), (80, .iload 4, 82, 0, 0, 0), (82, .iload_n 3, 83, 0, 0, 0), (83, .if_icmp .ge 15, 86, 98, 0, 0), (86, .aload_n 0, 87, 0, 0, 0), (87, .iload_n 2, 88, 0, 0, 0), (88, .iload_n 1, 89, 0, 0, 0), (89, .invokevirtual 215, 92, 95, 0, 0), (92, .iinc 4 1, 95, 0, 0, 0), (95, .goto (-15), 98, 80, 0, 0), (98, .iinc 2 1, 101, 0, 0, 0), (101, .goto (-55), 104, 46, 0, 0), (104, .aload_n 0, 105, 0, 0, 0), (105, .getfield 64, 108, 10, 9, 9), (108, .iload_n 1, 109, 0, 0, 0), (109, .iaload, 110, 0, 0, 0), (110, .ldc 209, 112, 1000000, 0, 1000000), (112, .if_icmp .ge 12, 115, 124, 0, 0), (115, .aload_n 0, 116, 0, 0, 0), (116, .getfield 64, 119, 10, 9, 9), (119, .iload_n 1, 120, 0, 0, 0), (120, .iaload, 121, 0, 0, 0), (121, .goto 5, 124, 126, 0, 0), (124, .bipush (-6), 126, 0, 0, 0), (126, .ireturn, 127, 0, 0, 0)]
def smd_X10_laid : smD := (10, yX10_laid, cX10_laid, 5, (some .int), (1, false), (3, 87), smt_X10_laid)
/-- X10_list: method 97 -/
def smt_X10_list : List smI := [(0, .iload_n 1, 1, 0, 0, 0), (1, .iconst 0, 2, 0, 0, 0), (2, .iconst 5, 3, 0, 0, 0), (3, .invokestatic 68, 6, 29, 0, 0), (6, .ifCond .eq 17, 9, 23, 0, 0), (9, .aload_n 0, 10, 0, 0, 0), (10, .getfield 10, 13, 10, 0, 0), (13, .getfield 72, 16, 3, 0, 0), (16, .iload_n 2, 17, 0, 0, 0), (17, .invokevirtual 124, 20, 47, 0, 0), (20, .ifCond .ne 5, 23, 25, 0, 0), (23, .iconst (-1), 24, 0, 0, 0), (24, .ireturn, 25, 0, 0, 0), (25, .iload_n 3, 26, 0, 0, 0), (26, .iload 4, 28, 0, 0, 0), (28, .iload 5, 30, 0, 0, 0), (30, .invokestatic 169, 33, 88, 0, 0), (33, .ifCond .eq 25, 36, 58, 0, 0), (36, .iload 6, 38, 0, 0, 0), (38, .iconst 0, 39, 0, 0, 0), (39, .bipush 99, 41, 0, 0, 0), (41, .invokestatic 68, 44, 29, 0, 0), (44, .ifCond .eq 14, 47, 58, 0, 0), (47, .iload 7, 49, 0, 0, 0), (49, .iconst 0, 50, 0, 0, 0), (50, .bipush 20, 52, 0, 0, 0), (52, .invokestatic 68, 55, 29, 0, 0), (55, .ifCond .ne 6, 58, 61, 0, 0), (58, .bipush (-2), 60, 0, 0, 0), (60, .ireturn, 61, 0, 0, 0), (61, .aload_n 0, 62, 0, 0, 0), (62, .getfield 10, 65, 10, 0, 0), (65, .getfield 83, 68, 3, 1, 1), (68, .iload_n 1, 69, 0, 0, 0), (69, .aload_n 0, 70, 0, 0, 0), (70, .getfield 10, 73, 10, 0, 0), (73, .getfield 72, 76, 3, 0, 0), (76, .getfield 176, 79, 9, 5, 5), (79, .iload_n 2, 80, 0, 0, 0), (80, .iaload, 81, 0, 0, 0), (81, .iload_n 3, 82, 0, 0, 0), (82, .iload 4, 84, 0, 0, 0), (84, .iload 5, 86, 0, 0, 0), (86, .invokevirtual 219, 89, 63, 0, 0), (89, .aload_n 0, 90, 0, 0, 0), (90, .getfield 10, 93, 10, 0, 0), (93, .getfield 83, 96, 3, 1, 1), (96, .iload_n 1, 97, 0, 0, 0), (97, .iload 6, 99, 0, 0, 0), (99, .iload 7, 101, 0, 0, 0), (101, .invokevirtual 223, 104, 64, 0, 0), (104, .aload_n 0, 105, 0, 0, 0), (105, .getfield 10, 108, 10, 0, 0), (108, .getfield 83, 111, 3, 1, 1), (111, .getfield 87, 114, 8, 0, 0), (114, .invokestatic 118, 117, 32, 0, 0), (117, .ireturn, 118, 0, 0, 0)]
def smd_X10_list : smD := (10, yX10_list, cX10_list, 8, (some .int), (8, false), (2, 44), smt_X10_list)
/-- X10_strike: method 98 -/
def smt_X10_strike : List smI := [(0, .aload_n 0, 1, 0, 0, 0), (1, .getfield 10, 4, 10, 0, 0), (4, .getfield 83, 7, 3, 1, 1), (7, .iload_n 1, 8, 0, 0, 0), (8, .invokevirtual 227, 11, 30, 0, 0), (11, .ifCond .ne 5, 14, 16, 0, 0), (14, .iconst (-1), 15, 0, 0, 0), (15, .ireturn, 16, 0, 0, 0), (16, .aload_n 0, 17, 0, 0, 0), (17, .getfield 10, 20, 10, 0, 0), (20, .getfield 83, 23, 3, 1, 1), (23, .dup, 24, 0, 0, 0), (24, .getfield 87, 27, 8, 0, 0), (27, .iconst 1, 28, 0, 0, 0), (28, .iload_n 1, 29, 0, 0, 0), (29, .ishl, 30, 0, 0, 0), (30, .iconst (-1), 31, 0, 0, 0), (31, .ixor, 32, 0, 0, 0), (32, .iand, 33, 0, 0, 0), (33, .putfield 87, 36, 8, 0, 0), (36, .aload_n 0, 37, 0, 0, 0), (37, .getfield 10, 40, 10, 0, 0), (40, .getfield 83, 43, 3, 1, 1), (43, .getfield 87, 46, 8, 0, 0), (46, .invokestatic 118, 49, 32, 0, 0), (49, .ireturn, 50, 0, 0, 0)]
def smd_X10_strike : smD := (10, yX10_strike, cX10_strike, 2, (some .int), (2, false), (2, 43), smt_X10_strike)
/-- X10_meet: method 99 -/
def smt_X10_meet : List smI := [(0, .aload_n 0, 1, 0, 0, 0), (1, .getfield 10, 4, 10, 0, 0), (4, .getfield 83, 7, 3, 1, 1), (7, .iload_n 1, 8, 0, 0, 0), (8, .invokevirtual 227, 11, 30, 0, 0), (11, .ifCond .eq 22, 14, 33, 0, 0), (14, .aload_n 0, 15, 0, 0, 0), (15, .getfield 10, 18, 10, 0, 0), (18, .getfield 83, 21, 3, 1, 1), (21, .iload_n 2, 22, 0, 0, 0), (22, .invokevirtual 227, 25, 30, 0, 0), (25, .ifCond .eq 8, 28, 33, 0, 0), (28, .iload_n 1, 29, 0, 0, 0), (29, .iload_n 2, 30, 0, 0, 0), (30, .if_icmp .ne 5, 33, 35, 0, 0), (33, .iconst (-1), 34, 0, 0, 0), (34, .ireturn, 35, 0, 0, 0), (35, .aload_n 0, 36, 0, 0, 0), (36, .getfield 39, 39, 10, 5, 5), (39, .aload_n 0, 40, 0, 0, 0), (40, .getfield 10, 43, 10, 0, 0), (43, .getfield 72, 46, 3, 0, 0), (46, .iconst 1, 47, 0, 0, 0), (47, .invokevirtual 172, 50, 59, 0, 0), (50, .aload_n 0, 51, 0, 0, 0), (51, .getfield 60, 54, 10, 8, 8), (54, .aload_n 0, 55, 0, 0, 0), (55, .getfield 10, 58, 10, 0, 0), (58, .getfield 83, 61, 3, 1, 1), (61, .aload_n 0, 62, 0, 0, 0), (62, .getfield 39, 65, 10, 5, 5), (65, .iload_n 1, 66, 0, 0, 0), (66, .iload_n 2, 67, 0, 0, 0), (67, .invokevirtual 230, 70, 28, 0, 0), (70, .ireturn, 71, 0, 0, 0)]
def smd_X10_meet : smD := (10, yX10_meet, cX10_meet, 3, (some .int), (3, false), (5, 139), smt_X10_meet)
/-- X10_forbidden: method 100 -/
def smt_X10_forbidden : List smI := [(0, .iload_n 1, 1, 0, 0, 0), (1, .iconst 0, 2, 0, 0, 0), (2, .iconst 1, 3, 0, 0, 0), (3, .invokestatic 68, 6, 29, 0, 0), (6, .ifCond .ne 6, 9, 12, 0, 0), (9, .bipush (-2), 11, 0, 0, 0), (11, .ireturn, 12, 0, 0, 0), (12, .aload_n 0, 13, 0, 0, 0), (13, .getfield 39, 16, 10, 5, 5), (16, .aload_n 0, 17, 0, 0, 0), (17, .getfield 10, 20, 10, 0, 0), (20, .getfield 72, 23, 3, 0, 0), (23, .iconst 1, 24, 0, 0, 0), (24, .invokevirtual 172, 27, 59, 0, 0), (27, .aload_n 0, 28, 0, 0, 0), (28, .getfield 60, 31, 10, 8, 8), (31, .aload_n 0, 32, 0, 0, 0), (32, .getfield 10, 35, 10, 0, 0), (35, .getfield 83, 38, 3, 1, 1), (38, .aload_n 0, 39, 0, 0, 0), (39, .getfield 39, 42, 10, 5, 5), (42, .invokevirtual 234, 45, 34, 0, 0), (45, .istore_n 2, 46, 0, 0, 0), (46, .iload_n 1, 47, 0, 0, 0), (47, .ifCond .ne 10, 50, 57, 0, 0), (50, .iload_n 2, 51, 0, 0, 0), (51, .invokestatic 118, 54, 32, 0, 0), (54, .goto 4, 57, 58, 0, 0), (57, .iload_n 2, 58, 0, 0, 0), (58, .ireturn, 59, 0, 0, 0)]
def smd_X10_forbidden : smD := (10, yX10_forbidden, cX10_forbidden, 3, (some .int), (2, false), (7, 187), smt_X10_forbidden)
/-- X10_duck: method 101 -/
def smt_X10_duck : List smI := [(0, .aload_n 0, 1, 0, 0, 0), (1, .getfield 10, 4, 10, 0, 0), (4, .getfield 72, 7, 3, 0, 0), (7, .iload_n 1, 8, 0, 0, 0), (8, .invokevirtual 101, 11, 66, 0, 0), (11, .ifCond .ne 5, 14, 16, 0, 0), (14, .iconst (-1), 15, 0, 0, 0), (15, .ireturn, 16, 0, 0, 0), (16, .iload_n 2, 17, 0, 0, 0), (17, .iconst 1, 18, 0, 0, 0), (18, .sipush 999, 21, 0, 0, 0), (21, .invokestatic 68, 24, 29, 0, 0), (24, .ifCond .eq 12, 27, 36, 0, 0), (27, .iload_n 3, 28, 0, 0, 0), (28, .iconst 0, 29, 0, 0, 0), (29, .iconst 1, 30, 0, 0, 0), (30, .invokestatic 68, 33, 29, 0, 0), (33, .ifCond .ne 6, 36, 39, 0, 0), (36, .bipush (-2), 38, 0, 0, 0), (38, .ireturn, 39, 0, 0, 0), (39, .aload_n 0, 40, 0, 0, 0), (40, .getfield 39, 43, 10, 5, 5), (43, .aload_n 0, 44, 0, 0, 0), (44, .getfield 10, 47, 10, 0, 0), (47, .getfield 72, 50, 3, 0, 0), (50, .iconst 1, 51, 0, 0, 0), (51, .invokevirtual 172, 54, 59, 0, 0), (54, .aload_n 0, 55, 0, 0, 0), (55, .getfield 60, 58, 10, 8, 8), (58, .aload_n 0, 59, 0, 0, 0), (59, .getfield 10, 62, 10, 0, 0), (62, .getfield 83, 65, 3, 1, 1), (65, .aload_n 0, 66, 0, 0, 0), (66, .getfield 39, 69, 10, 5, 5), (69, .iload_n 1, 70, 0, 0, 0), (70, .iload_n 2, 71, 0, 0, 0), (71, .invokevirtual 238, 74, 36, 0, 0), (74, .iload_n 3, 75, 0, 0, 0), (75, .ifCond .ne 14, 78, 89, 0, 0), (78, .aload_n 0, 79, 0, 0, 0), (79, .getfield 60, 82, 10, 8, 8), (82, .iload_n 2, 83, 0, 0, 0), (83, .invokevirtual 242, 86, 37, 0, 0), (86, .goto 11, 89, 97, 0, 0), (89, .aload_n 0, 90, 0, 0, 0), (90, .getfield 60, 93, 10, 8, 8), (93, .iload_n 2, 94, 0, 0, 0), (94, .invokevirtual 245, 97, 38, 0, 0), (97, .ireturn, 98, 0, 0, 0)]
def smd_X10_duck : smD := (10, yX10_duck, cX10_duck, 4, (some .int), (4, false), (5, 137), smt_X10_duck)
/-- X10_hands: method 102 -/
def smt_X10_hands : List smI := [(0, .iload_n 1, 1, 0, 0, 0), (1, .iconst 0, 2, 0, 0, 0), (2, .iconst 1, 3, 0, 0, 0), (3, .invokestatic 68, 6, 29, 0, 0), (6, .ifCond .ne 6, 9, 12, 0, 0), (9, .bipush (-2), 11, 0, 0, 0), (11, .ireturn, 12, 0, 0, 0), (12, .aload_n 0, 13, 0, 0, 0), (13, .getfield 39, 16, 10, 5, 5), (16, .aload_n 0, 17, 0, 0, 0), (17, .getfield 10, 20, 10, 0, 0), (20, .getfield 72, 23, 3, 0, 0), (23, .iconst 0, 24, 0, 0, 0), (24, .invokevirtual 172, 27, 59, 0, 0), (27, .aload_n 0, 28, 0, 0, 0), (28, .getfield 60, 31, 10, 8, 8), (31, .aload_n 0, 32, 0, 0, 0), (32, .getfield 10, 35, 10, 0, 0), (35, .getfield 83, 38, 3, 1, 1), (38, .aload_n 0, 39, 0, 0, 0), (39, .getfield 39, 42, 10, 5, 5), (42, .invokevirtual 248, 45, 41, 0, 0), (45, .istore_n 2, 46, 0, 0, 0), (46, .iload_n 2, 47, 0, 0, 0), (47, .bipush (-6), 49, 0, 0, 0), (49, .if_icmp .ne 6, 52, 55, 0, 0), (52, .bipush (-6), 54, 0, 0, 0), (54, .ireturn, 55, 0, 0, 0), (55, .iload_n 1, 56, 0, 0, 0), (56, .ifCond .ne 10, 59, 66, 0, 0), (59, .iload_n 2, 60, 0, 0, 0), (60, .invokestatic 118, 63, 32, 0, 0), (63, .goto 4, 66, 67, 0, 0), (66, .iload_n 2, 67, 0, 0, 0), (67, .ireturn, 68, 0, 0, 0)]
def smd_X10_hands : smD := (10, yX10_hands, cX10_hands, 3, (some .int), (2, false), (6, 160), smt_X10_hands)
/-- X10_seen: method 103 -/
def smt_X10_seen : List smI := [(0, .aload_n 0, 1, 0, 0, 0), (1, .getfield 10, 4, 10, 0, 0), (4, .getfield 72, 7, 3, 0, 0), (7, .iload_n 2, 8, 0, 0, 0), (8, .invokevirtual 101, 11, 66, 0, 0), (11, .ifCond .ne 5, 14, 16, 0, 0), (14, .iconst (-1), 15, 0, 0, 0), (15, .ireturn, 16, 0, 0, 0), (16, .iload_n 1, 17, 0, 0, 0), (17, .iconst 0, 18, 0, 0, 0), (18, .bipush 36, 20, 0, 0, 0), (20, .invokestatic 68, 23, 29, 0, 0), (23, .ifCond .eq 12, 26, 35, 0, 0), (26, .iload_n 3, 27, 0, 0, 0), (27, .iconst 1, 28, 0, 0, 0), (28, .iconst 5, 29, 0, 0, 0), (29, .invokestatic 68, 32, 29, 0, 0), (32, .ifCond .ne 6, 35, 38, 0, 0), (35, .bipush (-2), 37, 0, 0, 0), (37, .ireturn, 38, 0, 0, 0), (38, .aload_n 0, 39, 0, 0, 0), (39, .getfield 10, 42, 10, 0, 0), (42, .getfield 92, 45, 3, 2, 2), (45, .iload_n 1, 46, 0, 0, 0), (46, .iload_n 2, 47, 0, 0, 0), (47, .iload_n 3, 48, 0, 0, 0), (48, .invokevirtual 251, 51, 60, 0, 0), (51, .ifCond .eq 16, 54, 67, 0, 0), (54, .aload_n 0, 55, 0, 0, 0), (55, .getfield 10, 58, 10, 0, 0), (58, .getfield 92, 61, 3, 2, 2), (61, .getfield 96, 64, 7, 0, 0), (64, .goto 5, 67, 69, 0, 0), (67, .bipush (-4), 69, 0, 0, 0), (69, .ireturn, 70, 0, 0, 0)]
def smd_X10_seen : smD := (10, yX10_seen, cX10_seen, 4, (some .int), (4, false), (2, 43), smt_X10_seen)
/-- X10_forget: method 104 -/
def smt_X10_forget : List smI := [(0, .aload_n 0, 1, 0, 0, 0), (1, .getfield 10, 4, 10, 0, 0), (4, .getfield 92, 7, 3, 2, 2), (7, .getfield 96, 10, 7, 0, 0), (10, .istore_n 1, 11, 0, 0, 0), (11, .aload_n 0, 12, 0, 0, 0), (12, .getfield 10, 15, 10, 0, 0), (15, .getfield 92, 18, 3, 2, 2), (18, .iconst 0, 19, 0, 0, 0), (19, .putfield 96, 22, 7, 0, 0), (22, .iload_n 1, 23, 0, 0, 0), (23, .ireturn, 24, 0, 0, 0)]
def smd_X10_forget : smD := (10, yX10_forget, cX10_forget, 2, (some .int), (1, false), (0, 0), smt_X10_forget)
/-- X10_fitsSights: method 105 -/
def smt_X10_fitsSights : List smI := [(0, .aload_n 0, 1, 0, 0, 0), (1, .getfield 10, 4, 10, 0, 0), (4, .getfield 92, 7, 3, 2, 2), (7, .getfield 96, 10, 7, 0, 0), (10, .ifCond .ne 5, 13, 15, 0, 0), (13, .iconst 1, 14, 0, 0, 0), (14, .ireturn, 15, 0, 0, 0), (15, .aload_n 0, 16, 0, 0, 0), (16, .getfield 46, 19, 10, 6, 6), (19, .aload_n 0, 20, 0, 0, 0), (20, .getfield 39, 23, 10, 5, 5), (23, .aload_n 0, 24, 0, 0, 0), (24, .getfield 10, 27, 10, 0, 0), (27, .getfield 72, 30, 3, 0, 0), (30, .getfield 176, 33, 9, 5, 5), (33, .iload_n 1, 34, 0, 0, 0), (34, .iaload, 35, 0, 0, 0), (35, .iload_n 2, 36, 0, 0, 0), (36, .iload_n 3, 37, 0, 0, 0), (37, .iload 4, 39, 0, 0, 0), (39, .invokevirtual 179, 42, 3, 0, 0), (42, .aload_n 0, 43, 0, 0, 0), (43, .getfield 10, 46, 10, 0, 0), (46, .getfield 92, 49, 3, 2, 2), (49, .aload_n 0, 50, 0, 0, 0), (50, .getfield 46, 53, 10, 6, 6), (53, .invokevirtual 315, 56, 62, 0, 0), (56, .ireturn, 57, 0, 0, 0)]
def smd_X10_fitsSights : smD := (10, yX10_fitsSights, cX10_fitsSights, 5, (some .boolean), (5, false), (3, 88), smt_X10_fitsSights)
/-- X10_fittingThrows: method 106 -/
def smt_X10_fittingThrows : List smI := [(0, .iconst 0, 1, 0, 0, 0), (1, .istore_n 2, 2, 0, 0, 0), (2, .iconst 1, 3, 0, 0, 0), (3, .istore_n 3, 4, 0, 0, 0), (4, .iload_n 3, 5, 0, 0, 0), (5, .aload_n 0, 6, 0, 0, 0), (6, .getfield 10, 9, 10, 0, 0), (9, .getfield 72, 12, 3, 0, 0), (12, .getfield 292, 15, 9, 6, 6), (15, .iload_n 1, 16, 0, 0, 0), (16, .iaload, 17, 0, 0, 0), (17, .if_icmp .gt 80, 20, 97, 0, 0), (20, .iconst 1, 21, 0, 0, 0), (21, .istore 4, 23, 0, 0, 0), (23, .iload 4, 25, 0, 0, 0), (25, .iconst 5, 26, 0, 0, 0), (26, .if_icmp .gt 65, 29, 91, 0, 0), (29, .aload_n 0, 30, 0, 0, 0), (30, .getfield 10, 33, 10, 0, 0), (33, .getfield 92, 36, 3, 2, 2), (36, .iload_n 3, 37, 0, 0, 0), (37, .iload 4, 39, 0, 0, 0), (39, .invokevirtual 308, 42, 61, 0, 0), (42, .ifCond .eq 43, 45, 85, 0, 0), (45, .iload_n 2, 46, 0, 0, 0), (46, .aload_n 0, 47, 0, 0, 0), (47, .iload_n 1, 48, 0, 0, 0), (48, .iconst 0, 49, 0, 0, 0), (49, .iload_n 3, 50, 0, 0, 0), (50, .iload 4, 52, 0, 0, 0), (52, .invokevirtual 311, 55, 105, 0, 0), (55, .ifCond .eq 7, 58, 62, 0, 0), (58, .iconst 1, 59, 0, 0, 0), (59, .goto 4, 62, 63, 0, 0), (62, .iconst 0, 63, 0, 0, 0), (63, .iadd, 64, 0, 0, 0), (64, .istore_n 2, 65, 0, 0, 0), (65, .iload_n 2, 66, 0, 0, 0), (66, .aload_n 0, 67, 0, 0, 0), (67, .iload_n 1, 68, 0, 0, 0), (68, .iconst 1, 69, 0, 0, 0), (69, .iload_n 3, 70, 0, 0, 0), (70, .iload 4, 72, 0, 0, 0), (72, .invokevirtual 311, 75, 105, 0, 0), (75, .ifCond .eq 7, 78, 82, 0, 0), (78, .iconst 1, 79, 0, 0, 0), (79, .goto 4, 82, 83, 0, 0), (82, .iconst 0, 83, 0, 0, 0), (83, .iadd, 84, 0, 0, 0), (84, .istore_n 2, 85, 0, 0, 0), (85, .iinc 4 1, 88, 0, 0, 0), (88, .goto (-65), 91, 23, 0, 0), (91, .iinc 3 1, 94, 0, 0, 0), (94, .goto (-90), 97, 4, 0, 0), (97, .iload_n 2, 98, 0, 0, 0), (98, .ireturn, 99, 0, 0, 0)]
def smd_X10_fittingThrows : smD := (10, yX10_fittingThrows, cX10_fittingThrows, 5, (some .int), (2, false), (4, 112), smt_X10_fittingThrows)
/-- X10_who: method 107 -/
def smt_X10_who : List smI := [(0, .iload_n 1, 1, 0, 0, 0), (1, .iconst 0, 2, 0, 0, 0), (2, .iconst 1, 3, 0, 0, 0), (3, .invokestatic 68, 6, 29, 0, 0), (6, .ifCond .ne 6, 9, 12, 0, 0), (9, .bipush (-2), 11, 0, 0, 0), (11, .ireturn, 12, 0, 0, 0), (12, .aload_n 0, 13, 0, 0, 0), (13, .getfield 39, 16, 10, 5, 5), (16, .aload_n 0, 17, 0, 0, 0), (17, .getfield 10, 20, 10, 0, 0), (20, .getfield 72, 23, 3, 0, 0), (23, .iconst 1, 24, 0, 0, 0), (24, .invokevirtual 172, 27, 59, 0, 0), (27, .iconst 0, 28, 0, 0, 0), (28, .istore_n 2, 29, 0, 0, 0), (29, .iconst 0, 30, 0, 0, 0), (30, .istore_n 3, 31, 0, 0, 0), (31, .iconst 0, 32, 0, 0, 0), (32, .istore 4, 34, 0, 0, 0), (34, .iload 4, 36, 0, 0, 0), (36, .iconst 5, 37, 0, 0, 0), (37, .if_icmp .ge 57, 40, 94, 0, 0), (40, .aload_n 0, 41, 0, 0, 0), (41, .getfield 10, 44, 10, 0, 0), (44, .getfield 72, 47, 3, 0, 0), (47, .iload 4, 49, 0, 0, 0), (49, .invokevirtual 124, 52, 47, 0, 0), (52, .ifCond .eq 12, 55, 64, 0, 0), (55, .aload_n 0, 56, 0, 0, 0), (56, .iload 4, 58, 0, 0, 0), (58, .invokevirtual 254, 61, 106, 0, 0), (61, .goto 4, 64, 65, 0, 0), (64, .iconst 0, 65, 0, 0, 0), (65, .istore 5, 67, 0, 0, 0), (67, .iload_n 3, 68, 0, 0, 0), (68, .iload 5, 70, 0, 0, 0), (70, .iadd, 71, 0, 0, 0), (71, .istore_n 3, 72, 0, 0, 0), (72, .iload_n 2, 73, 0, 0, 0), (73, .iload 5, 75, 0, 0, 0), (75, .ifCond .le 10, 78, 85, 0, 0), (78, .iconst 1, 79, 0, 0, 0), (79, .iload 4, 81, 0, 0, 0), (81, .ishl, 82, 0, 0, 0), (82, .goto 4, 85, 86, 0, 0), (85, .iconst 0, 86, 0, 0, 0), (86, .ior, 87, 0, 0, 0), (87, .istore_n 2, 88, 0, 0, 0), (88, .iinc 4 1, 91, 0, 0, 0), (91, .goto (-57), 94, 34, 0, 0), (94, .iload_n 1, 95, 0, 0, 0), (95, .ifCond .ne 7, 98, 102, 0, 0), (98, .iload_n 2, 99, 0, 0, 0), (99, .goto 4, 102, 103, 0, 0), (102, .iload_n 3, 103, 0, 0, 0), (103, .ireturn, 104, 0, 0, 0)]
def smd_X10_who : smD := (10, yX10_who, cX10_who, 6, (some .int), (2, false), (5, 136), smt_X10_who)
/-- X10_sharedWithTen: method 108 -/
def smt_X10_sharedWithTen : List smI := [(0, .iload_n 0, 1, 0, 0, 0), (1, .bipush 10, 3, 0, 0, 0), (3, .irem, 4, 0, 0, 0), (4, .ifCond .ne 6, 7, 10, 0, 0), (7, .bipush 10, 9, 0, 0, 0), (9, .ireturn, 10, 0, 0, 0), (10, .iload_n 0, 11, 0, 0, 0), (11, .iconst 5, 12, 0, 0, 0), (12, .irem, 13, 0, 0, 0), (13, .ifCond .ne 5, 16, 18, 0, 0), (16, .iconst 5, 17, 0, 0, 0), (17, .ireturn, 18, 0, 0, 0), (18, .iload_n 0, 19, 0, 0, 0), (19, .iconst 2, 20, 0, 0, 0), (20, .irem, 21, 0, 0, 0), (21, .ifCond .ne 7, 24, 28, 0, 0), (24, .iconst 2, 25, 0, 0, 0), (25, .goto 4, 28, 29, 0, 0), (28, .iconst 1, 29, 0, 0, 0), (29, .ireturn, 30, 0, 0, 0)]
def smd_X10_sharedWithTen : smD := (10, yX10_sharedWithTen, cX10_sharedWithTen, 1, (some .int), (1, true), (0, 0), smt_X10_sharedWithTen)
/-- X10_slips: method 109 -/
def smt_X10_slips : List smI := [(0, .aload_n 0, 1, 0, 0, 0), (1, .getfield 10, 4, 10, 0, 0), (4, .getfield 72, 7, 3, 0, 0), (7, .iload_n 1, 8, 0, 0, 0), (8, .invokevirtual 124, 11, 47, 0, 0), (11, .ifCond .eq 17, 14, 28, 0, 0), (14, .aload_n 0, 15, 0, 0, 0), (15, .getfield 10, 18, 10, 0, 0), (18, .getfield 72, 21, 3, 0, 0), (21, .iload_n 2, 22, 0, 0, 0), (22, .invokevirtual 124, 25, 47, 0, 0), (25, .ifCond .ne 7, 28, 32, 0, 0), (28, .ldc2_w 257, 31, 1000000000000000001, 0, -1000000000000000001), (31, .lreturn, 32, 0, 0, 0), (32, .iload_n 3, 33, 0, 0, 0), (33, .iload 4, 35, 0, 0, 0), (35, .iload 5, 37, 0, 0, 0), (37, .invokestatic 169, 40, 88, 0, 0), (40, .ifCond .eq 23, 43, 63, 0, 0), (43, .iload 6, 45, 0, 0, 0), (45, .iconst 0, 46, 0, 0, 0), (46, .iconst 5, 47, 0, 0, 0), (47, .invokestatic 68, 50, 29, 0, 0), (50, .ifCond .eq 13, 53, 63, 0, 0), (53, .iload 7, 55, 0, 0, 0), (55, .iconst 0, 56, 0, 0, 0), (56, .iconst 1, 57, 0, 0, 0), (57, .invokestatic 68, 60, 29, 0, 0), (60, .ifCond .ne 7, 63, 67, 0, 0), (63, .ldc2_w 259, 66, 1000000000000000002, 0, -1000000000000000002), (66, .lreturn, 67, 0, 0, 0), (67, .aload_n 0, 68, 0, 0, 0), (68, .getfield 39, 71, 10, 5, 5), (71, .aload_n 0, 72, 0, 0, 0), (72, .getfield 10, 75, 10, 0, 0), (75, .getfield 72, 78, 3, 0, 0), (78, .iconst 1, 79, 0, 0, 0), (79, .invokevirtual 172, 82, 59, 0, 0), (82, .aload_n 0, 83, 0, 0, 0), (83, .getfield 10, 86, 10, 0, 0), (86, .getfield 72, 89, 3, 0, 0), (89, .getfield 176, 92, 9, 5, 5), (92, .iload_n 1, 93, 0, 0, 0), (93, .iaload, 94, 0, 0, 0), (94, .istore 8, 96, 0, 0, 0), (96, .iconst 0, 97, 0, 0, 0), (97, .istore 9, 99, 0, 0, 0), (99, .iload 9, 101, 0, 0, 0), (101, .aload_n 0, 102, 0, 0, 0), (102, .iload_n 2, 103, 0, 0, 0), (103, .iload 8, 105, 0, 0, 0), (105, .iload_n 3, 106, 0, 0, 0), (106, .iload 4, 108, 0, 0, 0), (108, .iconst 1, 109, 0, 0, 0), (109, .isub, 110, 0, 0, 0), (110, .iconst 1, 111, 0, 0, 0), (111, .invokestatic 261, 114, 0, 3, 0), (114, .iload 5, 116, 0, 0, 0), (116, .invokevirtual 264, 119, 91, 0, 0), (119, .ifCond .eq 8, 122, 127, 0, 0), (122, .iload 6, 124, 0, 0, 0), (124, .goto 4, 127, 128, 0, 0), (127, .iconst 0, 128, 0, 0, 0), (128, .iadd, 129, 0, 0, 0), (129, .istore 9, 131, 0, 0, 0), (131, .iload 9, 133, 0, 0, 0), (133, .aload_n 0, 134, 0, 0, 0), (134, .iload_n 2, 135, 0, 0, 0), (135, .iload 8, 137, 0, 0, 0), (137, .iload_n 3, 138, 0, 0, 0), (138, .iload 4, 140, 0, 0, 0), (140, .iconst 1, 141, 0, 0, 0), (141, .iadd, 142, 0, 0, 0), (142, .bipush 36, 144, 0, 0, 0), (144, .invokestatic 210, 147, 0, 4, 0), (147, .iload 5, 149, 0, 0, 0), (149, .invokevirtual 264, 152, 91, 0, 0), (152, .ifCond .eq 8, 155, 160, 0, 0), (155, .iload 6, 157, 0, 0, 0), (157, .goto 4, 160, 161, 0, 0), (160, .iconst 0, 161, 0, 0, 0), (161, .iadd, 162, 0, 0, 0), (162, .istore 9, 164, 0, 0, 0), (164, .iload 9, 166, 0, 0, 0), (166, .aload_n 0, 167, 0, 0, 0), (167, .iload_n 2, 168, 0, 0, 0), (168, .iload 8, 170, 0, 0, 0), (170, .iload_n 3, 171, 0, 0, 0), (171, .iload 4, 173, 0, 0, 0), (173, .iload 5, 175, 0, 0, 0), (175, .invokevirtual 264, 178, 91, 0, 0), (178, .ifCond .eq 13, 181, 191, 0, 0), (181, .bipush 10, 183, 0, 0, 0), (183, .iconst 2, 184, 0, 0, 0), (184, .iload 6, 186, 0, 0, 0), (186, .imul, 187, 0, 0, 0), (187, .isub, 188, 0, 0, 0), (188, .goto 4, 191, 192, 0, 0), (191, .iconst 0, 192, 0, 0, 0), (192, .iadd, 193, 0, 0, 0), (193, .istore 9, 195, 0, 0, 0), (195, .iload 9, 197, 0, 0, 0), (197, .invokestatic 268, 200, 108, 0, 0), (200, .istore 10, 202, 0, 0, 0), (202, .iload 7, 204, 0, 0, 0), (204, .ifCond .ne 12, 207, 216, 0, 0), (207, .iload 9, 209, 0, 0, 0), (209, .iload 10, 211, 0, 0, 0), (211, .idiv, 212, 0, 0, 0), (212, .i2l, 213, 0, 0, 0), (213, .goto 9, 216, 222, 0, 0), (216, .bipush 10, 218, 0, 0, 0), (218, .iload 10, 220, 0, 0, 0), (220, .idiv, 221, 0, 0, 0), (221, .i2l, 222, 0, 0, 0), (222, .lreturn, 223, 0, 0, 0)]
def smd_X10_slips : smD := (10, yX10_slips, cX10_slips, 11, (some .long), (8, false), (4, 113), smt_X10_slips)
/-- X10_year: method 110 -/
def smt_X10_year : List smI := [(0, .iload_n 1, 1, 0, 0, 0), (1, .iconst 0, 2, 0, 0, 0), (2, .sipush 9999, 5, 0, 0, 0), (5, .invokestatic 68, 8, 29, 0, 0), (8, .ifCond .eq 22, 11, 30, 0, 0), (11, .iload_n 2, 12, 0, 0, 0), (12, .iconst 1, 13, 0, 0, 0), (13, .bipush 99, 15, 0, 0, 0), (15, .invokestatic 68, 18, 29, 0, 0), (18, .ifCond .eq 12, 21, 30, 0, 0), (21, .iload_n 3, 22, 0, 0, 0), (22, .iconst 0, 23, 0, 0, 0), (23, .iconst 2, 24, 0, 0, 0), (24, .invokestatic 68, 27, 29, 0, 0), (27, .ifCond .ne 6, 30, 33, 0, 0), (30, .bipush (-2), 32, 0, 0, 0), (32, .ireturn, 33, 0, 0, 0), (33, .aload_n 0, 34, 0, 0, 0), (34, .getfield 25, 37, 10, 3, 3), (37, .aload_n 0, 38, 0, 0, 0), (38, .getfield 10, 41, 10, 0, 0), (41, .getfield 72, 44, 3, 0, 0), (44, .invokevirtual 145, 47, 21, 0, 0), (47, .iload_n 1, 48, 0, 0, 0), (48, .istore 4, 50, 0, 0, 0), (50, .iconst 0, 51, 0, 0, 0), (51, .istore 5, 53, 0, 0, 0), (53, .iconst 0, 54, 0, 0, 0), (54, .istore 6, 56, 0, 0, 0), (56, .iconst 0, 57, 0, 0, 0), (57, .istore 7, 59, 0, 0, 0), (59, .iload 7, 61, 0, 0, 0), (61, .iload_n 2, 62, 0, 0, 0), (62, .if_icmp .ge 57, 65, 119, 0, 0), (65, .bipush 75, 67, 0, 0, 0), (67, .iload 4, 69, 0, 0, 0), (69, .imul, 70, 0, 0, 0), (70, .bipush 74, 72, 0, 0, 0), (72, .iadd, 73, 0, 0, 0), (73, .ldc_w 271, 76, 65537, 0, 65537), (76, .irem, 77, 0, 0, 0), (77, .istore 4, 79, 0, 0, 0), (79, .iload 5, 81, 0, 0, 0), (81, .aload_n 0, 82, 0, 0, 0), (82, .getfield 25, 85, 10, 3, 3), (85, .iload 4, 87, 0, 0, 0), (87, .invokevirtual 272, 90, 72, 0, 0), (90, .ifCond .eq 7, 93, 97, 0, 0), (93, .iconst 1, 94, 0, 0, 0), (94, .goto 4, 97, 98, 0, 0), (97, .iconst 0, 98, 0, 0, 0), (98, .iadd, 99, 0, 0, 0), (99, .istore 5, 101, 0, 0, 0), (101, .iload 6, 103, 0, 0, 0), (103, .aload_n 0, 104, 0, 0, 0), (104, .getfield 25, 107, 10, 3, 3), (107, .invokevirtual 275, 110, 51, 0, 0), (110, .iadd, 111, 0, 0, 0), (111, .istore 6, 113, 0, 0, 0), (113, .iinc 7 1, 116, 0, 0, 0), (116, .goto (-57), 119, 59, 0, 0), (119, .iload_n 3, 120, 0, 0, 0), (120, .ifCond .ne 6, 123, 126, 0, 0), (123, .iload 5, 125, 0, 0, 0), (125, .ireturn, 126, 0, 0, 0), (126, .iload_n 3, 127, 0, 0, 0), (127, .iconst 1, 128, 0, 0, 0), (128, .if_icmp .ne 8, 131, 136, 0, 0), (131, .iload 6, 133, 0, 0, 0), (133, .goto 10, 136, 143, 0, 0), (136, .aload_n 0, 137, 0, 0, 0), (137, .getfield 25, 140, 10, 3, 3), (140, .invokevirtual 278, 143, 71, 0, 0), (143, .ireturn, 144, 0, 0, 0)]
def smd_X10_year : smD := (10, yX10_year, cX10_year, 8, (some .int), (4, false), (6, 148), smt_X10_year)
/-- X10_imageOf: method 111 -/
def smt_X10_imageOf : List smI := [(0, .iload_n 1, 1, 0, 0, 0), (1, .ifCond .ne 10, 4, 11, 0, 0), (4, .aload_n 0, 5, 0, 0, 0), (5, .getfield 16, 8, 10, 1, 1), (8, .goto 7, 11, 15, 0, 0), (11, .aload_n 0, 12, 0, 0, 0), (12, .getfield 19, 15, 10, 2, 2), (15, .areturn, 16, 0, 0, 0)]
def smd_X10_imageOf : smD := (10, yX10_imageOf, cX10_imageOf, 2, (some (.object "StoneRound$Kept")), (2, false), (0, 0), smt_X10_imageOf)
/-- X10_image: method 112 -/
def smt_X10_image : List smI := [(0, .iload_n 1, 1, 0, 0, 0), (1, .iconst 0, 2, 0, 0, 0), (2, .iconst 1, 3, 0, 0, 0), (3, .invokestatic 68, 6, 29, 0, 0), (6, .ifCond .ne 6, 9, 12, 0, 0), (9, .bipush (-2), 11, 0, 0, 0), (11, .ireturn, 12, 0, 0, 0), (12, .aload_n 0, 13, 0, 0, 0), (13, .iload_n 1, 14, 0, 0, 0), (14, .invokevirtual 281, 17, 111, 0, 0), (17, .aload_n 0, 18, 0, 0, 0), (18, .getfield 10, 21, 10, 0, 0), (21, .invokevirtual 285, 24, 24, 0, 0), (24, .aload_n 0, 25, 0, 0, 0), (25, .iload_n 1, 26, 0, 0, 0), (26, .invokevirtual 281, 29, 111, 0, 0), (29, .iconst 1, 30, 0, 0, 0), (30, .putfield 288, 33, 3, 3, 3), (33, .iconst 1, 34, 0, 0, 0), (34, .ireturn, 35, 0, 0, 0)]
def smd_X10_image : smD := (10, yX10_image, cX10_image, 2, (some .int), (2, false), (4, 101), smt_X10_image)
/-- X10_restore: method 113 -/
def smt_X10_restore : List smI := [(0, .iload_n 1, 1, 0, 0, 0), (1, .iconst 0, 2, 0, 0, 0), (2, .iconst 1, 3, 0, 0, 0), (3, .invokestatic 68, 6, 29, 0, 0), (6, .ifCond .ne 6, 9, 12, 0, 0), (9, .bipush (-2), 11, 0, 0, 0), (11, .ireturn, 12, 0, 0, 0), (12, .aload_n 0, 13, 0, 0, 0), (13, .iload_n 1, 14, 0, 0, 0), (14, .invokevirtual 281, 17, 111, 0, 0), (17, .getfield 288, 20, 3, 3, 3), (20, .ifCond .ne 6, 23, 26, 0, 0), (23, .bipush (-3), 25, 0, 0, 0), (25, .ireturn, 26, 0, 0, 0), (26, .aload_n 0, 27, 0, 0, 0), (27, .getfield 10, 30, 10, 0, 0), (30, .aload_n 0, 31, 0, 0, 0), (31, .iload_n 1, 32, 0, 0, 0), (32, .invokevirtual 281, 35, 111, 0, 0), (35, .invokevirtual 285, 38, 24, 0, 0), (38, .iconst 1, 39, 0, 0, 0), (39, .ireturn, 40, 0, 0, 0)]
def smd_X10_restore : smD := (10, yX10_restore, cX10_restore, 2, (some .int), (2, false), (4, 101), smt_X10_restore)
/-- X10_told: method 114 -/
def smt_X10_told : List smI := [(0, .iload_n 1, 1, 0, 0, 0), (1, .tableswitch 105 0 5 #[39, 47, 58, 69, 83, 94], 40, 0, 39, 0), (40, .aload_n 0, 41, 0, 0, 0), (41, .getfield 32, 44, 10, 4, 4), (44, .getfield 130, 47, 5, 0, 0), (47, .ireturn, 48, 0, 0, 0), (48, .aload_n 0, 49, 0, 0, 0), (49, .getfield 10, 52, 10, 0, 0), (52, .getfield 72, 55, 3, 0, 0), (55, .getfield 75, 58, 9, 0, 0), (58, .ireturn, 59, 0, 0, 0), (59, .aload_n 0, 60, 0, 0, 0), (60, .getfield 10, 63, 10, 0, 0), (63, .getfield 72, 66, 3, 0, 0), (66, .getfield 115, 69, 9, 4, 4), (69, .ireturn, 70, 0, 0, 0), (70, .aload_n 0, 71, 0, 0, 0), (71, .getfield 10, 74, 10, 0, 0), (74, .getfield 72, 77, 3, 0, 0), (77, .getfield 156, 80, 9, 9, 9), (80, .getfield 165, 83, 1, 0, 0), (83, .ireturn, 84, 0, 0, 0), (84, .aload_n 0, 85, 0, 0, 0), (85, .getfield 10, 88, 10, 0, 0), (88, .getfield 83, 91, 3, 1, 1), (91, .getfield 87, 94, 8, 0, 0), (94, .ireturn, 95, 0, 0, 0), (95, .aload_n 0, 96, 0, 0, 0), (96, .getfield 10, 99, 10, 0, 0), (99, .getfield 92, 102, 3, 2, 2), (102, .getfield 96, 105, 7, 0, 0), (105, .ireturn, 106, 0, 0, 0), (106, .iload_n 1, 107, 0, 0, 0), (107, .bipush 10, 109, 0, 0, 0), (109, .bipush 10, 111, 0, 0, 0), (111, .aload_n 0, 112, 0, 0, 0), (112, .getfield 10, 115, 10, 0, 0), (115, .getfield 72, 118, 3, 0, 0), (118, .getfield 75, 121, 9, 0, 0), (121, .iadd, 122, 0, 0, 0), (122, .iconst 1, 123, 0, 0, 0), (123, .isub, 124, 0, 0, 0), (124, .invokestatic 68, 127, 29, 0, 0), (127, .ifCond .eq 19, 130, 146, 0, 0), (130, .aload_n 0, 131, 0, 0, 0), (131, .getfield 10, 134, 10, 0, 0), (134, .getfield 72, 137, 3, 0, 0), (137, .getfield 105, 140, 9, 1, 1), (140, .iload_n 1, 141, 0, 0, 0), (141, .bipush 10, 143, 0, 0, 0), (143, .isub, 144, 0, 0, 0), (144, .iaload, 145, 0, 0, 0), (145, .ireturn, 146, 0, 0, 0), (146, .iload_n 1, 147, 0, 0, 0), (147, .bipush 20, 149, 0, 0, 0), (149, .bipush 24, 151, 0, 0, 0), (151, .invokestatic 68, 154, 29, 0, 0), (154, .ifCond .eq 36, 157, 190, 0, 0), (157, .aload_n 0, 158, 0, 0, 0), (158, .getfield 10, 161, 10, 0, 0), (161, .getfield 72, 164, 3, 0, 0), (164, .iload_n 1, 165, 0, 0, 0), (165, .bipush 20, 167, 0, 0, 0), (167, .isub, 168, 0, 0, 0), (168, .invokevirtual 124, 171, 47, 0, 0), (171, .ifCond .eq 19, 174, 190, 0, 0), (174, .aload_n 0, 175, 0, 0, 0), (175, .getfield 10, 178, 10, 0, 0), (178, .getfield 72, 181, 3, 0, 0), (181, .getfield 292, 184, 9, 6, 6), (184, .iload_n 1, 185, 0, 0, 0), (185, .bipush 20, 187, 0, 0, 0), (187, .isub, 188, 0, 0, 0), (188, .iaload, 189, 0, 0, 0), (189, .ireturn, 190, 0, 0, 0), (190, .bipush (-2), 192, 0, 0, 0), (192, .ireturn, 193, 0, 0, 0)]
def smd_X10_told : smD := (10, yX10_told, cX10_told, 2, (some .int), (2, false), (2, 43), smt_X10_told)
/-- X11_in: method 115 -/
def smt_X11_in : List smI := [(0, .iload_n 0, 1, 0, 0, 0), (1, .iload_n 1, 2, 0, 0, 0), (2, .if_icmp .lt 12, 5, 14, 0, 0), (5, .iload_n 0, 6, 0, 0, 0), (6, .iload_n 2, 7, 0, 0, 0), (7, .if_icmp .gt 7, 10, 14, 0, 0), (10, .iconst 1, 11, 0, 0, 0), (11, .goto 4, 14, 15, 0, 0), (14, .iconst 0, 15, 0, 0, 0), (15, .ireturn, 16, 0, 0, 0)]
def smd_X11_in : smD := (11, yX11_in, cX11_in, 3, (some .boolean), (3, true), (0, 0), smt_X11_in)
/-- X11_has: method 116 -/
def smt_X11_has : List smI := [(0, .iload_n 0, 1, 0, 0, 0), (1, .iload_n 1, 2, 0, 0, 0), (2, .ishr, 3, 0, 0, 0), (3, .iconst 1, 4, 0, 0, 0), (4, .iand, 5, 0, 0, 0), (5, .iconst 1, 6, 0, 0, 0), (6, .if_icmp .ne 7, 9, 13, 0, 0), (9, .iconst 1, 10, 0, 0, 0), (10, .goto 4, 13, 14, 0, 0), (13, .iconst 0, 14, 0, 0, 0), (14, .ireturn, 15, 0, 0, 0)]
def smd_X11_has : smD := (11, yX11_has, cX11_has, 2, (some .boolean), (2, true), (0, 0), smt_X11_has)
/-- X11_bits: method 117 -/
def smt_X11_bits : List smI := [(0, .iconst 0, 1, 0, 0, 0), (1, .istore_n 1, 2, 0, 0, 0), (2, .iconst 0, 3, 0, 0, 0), (3, .istore_n 2, 4, 0, 0, 0), (4, .iload_n 2, 5, 0, 0, 0), (5, .bipush 9, 7, 0, 0, 0), (7, .if_icmp .ge 17, 10, 24, 0, 0), (10, .iload_n 1, 11, 0, 0, 0), (11, .iload_n 0, 12, 0, 0, 0), (12, .iload_n 2, 13, 0, 0, 0), (13, .ishr, 14, 0, 0, 0), (14, .iconst 1, 15, 0, 0, 0), (15, .iand, 16, 0, 0, 0), (16, .iadd, 17, 0, 0, 0), (17, .istore_n 1, 18, 0, 0, 0), (18, .iinc 2 1, 21, 0, 0, 0), (21, .goto (-17), 24, 4, 0, 0), (24, .iload_n 1, 25, 0, 0, 0), (25, .ireturn, 26, 0, 0, 0)]
def smd_X11_bits : smD := (11, yX11_bits, cX11_bits, 3, (some .int), (1, true), (0, 0), smt_X11_bits)
/-- X11_isPlace: method 118 -/
def smt_X11_isPlace : List smI := [(0, .iload_n 1, 1, 0, 0, 0), (1, .iconst 0, 2, 0, 0, 0), (2, .aload_n 0, 3, 0, 0, 0), (3, .getfield 7, 6, 11, 0, 0), (6, .iconst 1, 7, 0, 0, 0), (7, .isub, 8, 0, 0, 0), (8, .invokestatic 81, 11, 115, 0, 0), (11, .ireturn, 12, 0, 0, 0)]
def smd_X11_isPlace : smD := (11, yX11_isPlace, cX11_isPlace, 2, (some .boolean), (2, false), (1, 22), smt_X11_isPlace)
/-- X11_isThere: method 119 -/
def smt_X11_isThere : List smI := [(0, .iload_n 1, 1, 0, 0, 0), (1, .iconst 0, 2, 0, 0, 0), (2, .iconst 4, 3, 0, 0, 0), (3, .invokestatic 81, 6, 115, 0, 0), (6, .ifCond .eq 18, 9, 24, 0, 0), (9, .aload_n 0, 10, 0, 0, 0), (10, .getfield 78, 13, 11, 2, 2), (13, .iload_n 1, 14, 0, 0, 0), (14, .invokestatic 85, 17, 116, 0, 0), (17, .ifCond .eq 7, 20, 24, 0, 0), (20, .iconst 1, 21, 0, 0, 0), (21, .goto 4, 24, 25, 0, 0), (24, .iconst 0, 25, 0, 0, 0), (25, .ireturn, 26, 0, 0, 0)]
def smd_X11_isThere : smD := (11, yX11_isThere, cX11_isThere, 2, (some .boolean), (2, false), (1, 22), smt_X11_isThere)
/-- X11_places: method 120 -/
def smt_X11_places : List smI := [(0, .iload_n 1, 1, 0, 0, 0), (1, .iconst 4, 2, 0, 0, 0), (2, .bipush 9, 4, 0, 0, 0), (4, .invokestatic 81, 7, 115, 0, 0), (7, .ifCond .ne 6, 10, 13, 0, 0), (10, .bipush (-2), 12, 0, 0, 0), (12, .ireturn, 13, 0, 0, 0), (13, .aload_n 0, 14, 0, 0, 0), (14, .getfield 7, 17, 11, 0, 0), (17, .istore_n 2, 18, 0, 0, 0), (18, .aload_n 0, 19, 0, 0, 0), (19, .iload_n 1, 20, 0, 0, 0), (20, .putfield 7, 23, 11, 0, 0), (23, .aload_n 0, 24, 0, 0, 0), (24, .iconst 0, 25, 0, 0, 0), (25, .putfield 78, 28, 11, 2, 2), (28, .aload_n 0, 29, 0, 0, 0), (29, .iconst 0, 30, 0, 0, 0), (30, .putfield 89, 33, 11, 9, 9), (33, .aload_n 0, 34, 0, 0, 0), (34, .iconst 0, 35, 0, 0, 0), (35, .putfield 92, 38, 11, 11, 11), (38, .aload_n 0, 39, 0, 0, 0), (39, .iconst 0, 40, 0, 0, 0), (40, .putfield 95, 43, 11, 13, 13), (43, .iconst 0, 44, 0, 0, 0), (44, .istore_n 3, 45, 0, 0, 0), (45, .iload_n 3, 46, 0, 0, 0), (46, .bipush 9, 48, 0, 0, 0), (48, .if_icmp .ge 30, 51, 78, 0, 0), (51, .aload_n 0, 52, 0, 0, 0), (52, .getfield 13, 55, 11, 1, 1), (55, .iload_n 3, 56, 0, 0, 0), (56, .iconst 0, 57, 0, 0, 0), (57, .iastore, 58, 0, 0, 0), (58, .aload_n 0, 59, 0, 0, 0), (59, .getfield 29, 62, 11, 7, 7), (62, .iload_n 3, 63, 0, 0, 0), (63, .iconst 0, 64, 0, 0, 0), (64, .iastore, 65, 0, 0, 0), (65, .aload_n 0, 66, 0, 0, 0), (66, .getfield 32, 69, 11, 8, 8), (69, .iload_n 3, 70, 0, 0, 0), (70, .iconst 0, 71, 0, 0, 0), (71, .iastore, 72, 0, 0, 0), (72, .iinc 3 1, 75, 0, 0, 0), (75, .goto (-30), 78, 45, 0, 0), (78, .iload_n 2, 79, 0, 0, 0), (79, .ireturn, 80, 0, 0, 0)]
def smd_X11_places : smD := (11, yX11_places, cX11_places, 4, (some .int), (2, false), (1, 22), smt_X11_places)
/-- X11_hedge: method 121 -/
def smt_X11_hedge : List smI := [(0, .aload_n 0, 1, 0, 0, 0), (1, .iload_n 1, 2, 0, 0, 0), (2, .invokevirtual 98, 5, 118, 0, 0), (5, .ifCond .ne 5, 8, 10, 0, 0), (8, .iconst (-1), 9, 0, 0, 0), (9, .ireturn, 10, 0, 0, 0), (10, .iload_n 2, 11, 0, 0, 0), (11, .iconst 0, 12, 0, 0, 0), (12, .iconst 5, 13, 0, 0, 0), (13, .invokestatic 81, 16, 115, 0, 0), (16, .ifCond .ne 6, 19, 22, 0, 0), (19, .bipush (-2), 21, 0, 0, 0), (21, .ireturn, 22, 0, 0, 0), (22, .aload_n 0, 23, 0, 0, 0), (23, .getfield 13, 26, 11, 1, 1), (26, .iload_n 1, 27, 0, 0, 0), (27, .iaload, 28, 0, 0, 0), (28, .istore_n 3, 29, 0, 0, 0), (29, .aload_n 0, 30, 0, 0, 0), (30, .getfield 13, 33, 11, 1, 1), (33, .iload_n 1, 34, 0, 0, 0), (34, .iload_n 2, 35, 0, 0, 0), (35, .iastore, 36, 0, 0, 0), (36, .iload_n 3, 37, 0, 0, 0), (37, .ireturn, 38, 0, 0, 0)]
def smd_X11_hedge : smD := (11, yX11_hedge, cX11_hedge, 4, (some .int), (3, false), (2, 43), smt_X11_hedge)
/-- X11_lay: method 122 -/
def smt_X11_lay : List smI := [(0, .aload_n 0, 1, 0, 0, 0), (1, .iload_n 1, 2, 0, 0, 0), (2, .invokevirtual 98, 5, 118, 0, 0), (5, .ifCond .ne 5, 8, 10, 0, 0), (8, .iconst (-1), 9, 0, 0, 0), (9, .ireturn, 10, 0, 0, 0), (10, .iload_n 2, 11, 0, 0, 0), (11, .iconst 0, 12, 0, 0, 0), (12, .bipush 9, 14, 0, 0, 0), (14, .invokestatic 81, 17, 115, 0, 0), (17, .ifCond .ne 6, 20, 23, 0, 0), (20, .bipush (-2), 22, 0, 0, 0), (22, .ireturn, 23, 0, 0, 0), (23, .aload_n 0, 24, 0, 0, 0), (24, .getfield 29, 27, 11, 7, 7), (27, .iload_n 1, 28, 0, 0, 0), (28, .iaload, 29, 0, 0, 0), (29, .istore_n 3, 30, 0, 0, 0), (30, .aload_n 0, 31, 0, 0, 0), (31, .getfield 29, 34, 11, 7, 7), (34, .iload_n 1, 35, 0, 0, 0), (35, .iload_n 2, 36, 0, 0, 0), (36, .iastore, 37, 0, 0, 0), (37, .iload_n 3, 38, 0, 0, 0), (38, .ireturn, 39, 0, 0, 0)]
def smd_X11_lay : smD := (11, yX11_lay, cX11_lay, 4, (some .int), (3, false), (2, 43), smt_X11_lay)
/-- X11_person: method 123 -/
def smt_X11_person : List smI := [(0, .iload_n 1, 1, 0, 0, 0), (1, .iconst 0, 2, 0, 0, 0), (2, .iconst 4, 3, 0, 0, 0), (3, .invokestatic 81, 6, 115, 0, 0), (6, .ifCond .eq 11, 9, 17, 0, 0), (9, .aload_n 0, 10, 0, 0, 0), (10, .iload_n 2, 11, 0, 0, 0), (11, .invokevirtual 98, 14, 118, 0, 0), (14, .ifCond .ne 5, 17, 19, 0, 0), (17, .iconst (-1), 18, 0, 0, 0), (18, .ireturn, 19, 0, 0, 0), (19, .iload_n 3, 20, 0, 0, 0), (20, .iconst 1, 21, 0, 0, 0), (21, .bipush 36, 23, 0, 0, 0), (23, .invokestatic 81, 26, 115, 0, 0), (26, .ifCond .eq 14, 29, 40, 0, 0), (29, .iload 4, 31, 0, 0, 0), (31, .iconst 0, 32, 0, 0, 0), (32, .bipush 9, 34, 0, 0, 0), (34, .invokestatic 81, 37, 115, 0, 0), (37, .ifCond .ne 6, 40, 43, 0, 0), (40, .bipush (-2), 42, 0, 0, 0), (42, .ireturn, 43, 0, 0, 0), (43, .aload_n 0, 44, 0, 0, 0), (44, .dup, 45, 0, 0, 0), (45, .getfield 78, 48, 11, 2, 2), (48, .iconst 1, 49, 0, 0, 0), (49, .iload_n 1, 50, 0, 0, 0), (50, .ishl, 51, 0, 0, 0), (51, .ior, 52, 0, 0, 0), (52, .putfield 78, 55, 11, 2, 2), (55, .aload_n 0, 56, 0, 0, 0), (56, .getfield 20, 59, 11, 4, 4), (59, .iload_n 1, 60, 0, 0, 0), (60, .iload_n 2, 61, 0, 0, 0), (61, .iastore, 62, 0, 0, 0), (62, .aload_n 0, 63, 0, 0, 0), (63, .getfield 17, 66, 11, 3, 3), (66, .iload_n 1, 67, 0, 0, 0), (67, .iload_n 3, 68, 0, 0, 0), (68, .iastore, 69, 0, 0, 0), (69, .aload_n 0, 70, 0, 0, 0), (70, .getfield 23, 73, 11, 5, 5), (73, .iload_n 1, 74, 0, 0, 0), (74, .iload 4, 76, 0, 0, 0), (76, .iastore, 77, 0, 0, 0), (77, .aload_n 0, 78, 0, 0, 0), (78, .getfield 26, 81, 11, 6, 6), (81, .iload_n 1, 82, 0, 0, 0), (82, .iconst 0, 83, 0, 0, 0), (83, .iastore, 84, 0, 0, 0), (84, .aload_n 0, 85, 0, 0, 0), (85, .getfield 78, 88, 11, 2, 2), (88, .invokestatic 102, 91, 117, 0, 0), (91, .ireturn, 92, 0, 0, 0)]
def smd_X11_person : smD := (11, yX11_person, cX11_person, 5, (some .int), (5, false), (2, 43), smt_X11_person)
/-- X11_leave: method 124 -/
def smt_X11_leave : List smI := [(0, .aload_n 0, 1, 0, 0, 0), (1, .iload_n 1, 2, 0, 0, 0), (2, .invokevirtual 106, 5, 119, 0, 0), (5, .ifCond .ne 5, 8, 10, 0, 0), (8, .iconst (-1), 9, 0, 0, 0), (9, .ireturn, 10, 0, 0, 0), (10, .aload_n 0, 11, 0, 0, 0), (11, .dup, 12, 0, 0, 0), (12, .getfield 78, 15, 11, 2, 2), (15, .iconst 1, 16, 0, 0, 0), (16, .iload_n 1, 17, 0, 0, 0), (17, .ishl, 18, 0, 0, 0), (18, .iconst (-1), 19, 0, 0, 0), (19, .ixor, 20, 0, 0, 0), (20, .iand, 21, 0, 0, 0), (21, .putfield 78, 24, 11, 2, 2), (24, .aload_n 0, 25, 0, 0, 0), (25, .getfield 78, 28, 11, 2, 2), (28, .invokestatic 102, 31, 117, 0, 0), (31, .ireturn, 32, 0, 0, 0)]
def smd_X11_leave : smD := (11, yX11_leave, cX11_leave, 2, (some .int), (2, false), (2, 43), smt_X11_leave)
/-- X11_say: method 125 -/
def smt_X11_say : List smI := [(0, .iload_n 1, 1, 0, 0, 0), (1, .bipush 33, 3, 0, 0, 0), (3, .bipush 126, 5, 0, 0, 0), (5, .invokestatic 81, 8, 115, 0, 0), (8, .ifCond .ne 6, 11, 14, 0, 0), (11, .bipush (-2), 13, 0, 0, 0), (13, .ireturn, 14, 0, 0, 0), (14, .aload_n 0, 15, 0, 0, 0), (15, .getfield 109, 18, 11, 15, 15), (18, .bipush 60, 20, 0, 0, 0), (20, .if_icmp .ne 6, 23, 26, 0, 0), (23, .bipush (-4), 25, 0, 0, 0), (25, .ireturn, 26, 0, 0, 0), (26, .aload_n 0, 27, 0, 0, 0), (27, .getfield 44, 30, 11, 16, 16), (30, .aload_n 0, 31, 0, 0, 0), (31, .getfield 109, 34, 11, 15, 15), (34, .iload_n 1, 35, 0, 0, 0), (35, .iastore, 36, 0, 0, 0), (36, .aload_n 0, 37, 0, 0, 0), (37, .dup, 38, 0, 0, 0), (38, .getfield 109, 41, 11, 15, 15), (41, .iconst 1, 42, 0, 0, 0), (42, .iadd, 43, 0, 0, 0), (43, .putfield 109, 46, 11, 15, 15), (46, .aload_n 0, 47, 0, 0, 0), (47, .getfield 109, 50, 11, 15, 15), (50, .ireturn, 51, 0, 0, 0)]
def smd_X11_say : smD := (11, yX11_say, cX11_say, 2, (some .int), (2, false), (1, 22), smt_X11_say)
/-- X11_wipe: method 126 -/
def smt_X11_wipe : List smI := [(0, .aload_n 0, 1, 0, 0, 0), (1, .getfield 109, 4, 11, 15, 15), (4, .istore_n 1, 5, 0, 0, 0), (5, .aload_n 0, 6, 0, 0, 0), (6, .iconst 0, 7, 0, 0, 0), (7, .putfield 109, 10, 11, 15, 15), (10, .iload_n 1, 11, 0, 0, 0), (11, .ireturn, 12, 0, 0, 0)]
def smd_X11_wipe : smD := (11, yX11_wipe, cX11_wipe, 2, (some .int), (1, false), (0, 0), smt_X11_wipe)
/-- X11_faultOf: method 127 -/
def smt_X11_faultOf : List smI := [(0, .iconst 0, 1, 0, 0, 0), (1, .istore_n 1, 2, 0, 0, 0), (2, .iconst 0, 3, 0, 0, 0), (3, .istore_n 2, 4, 0, 0, 0), (4, .iload_n 2, 5, 0, 0, 0), (5, .aload_n 0, 6, 0, 0, 0), (6, .getfield 109, 9, 11, 15, 15), (9, .if_icmp .ge 225, 12, 234, 0, 0), (12, .aload_n 0, 13, 0, 0, 0), (13, .getfield 44, 16, 11, 16, 16), (16, .iload_n 2, 17, 0, 0, 0), (17, .iaload, 18, 0, 0, 0), (18, .istore_n 3, 19, 0, 0, 0), (19, .iload_n 3, 20, 0, 0, 0), (20, .bipush 65, 22, 0, 0, 0), (22, .bipush 69, 24, 0, 0, 0), (24, .invokestatic 81, 27, 115, 0, 0), (27, .istore 4, 29, 0, 0, 0), (29, .iload_n 3, 30, 0, 0, 0), (30, .bipush 60, 32, 0, 0, 0), (32, .if_icmp .eq 9, 35, 41, 0, 0), (35, .iload_n 3, 36, 0, 0, 0), (36, .bipush 62, 38, 0, 0, 0), (38, .if_icmp .ne 7, 41, 45, 0, 0), (41, .iconst 1, 42, 0, 0, 0), (42, .goto 4, 45, 46, 0, 0), (45, .iconst 0, 46, 0, 0, 0), (46, .istore 5, 48, 0, 0, 0), (48, .iload_n 1, 49, 0, 0, 0), (49, .ifCond .ne 35, 52, 84, 0, 0), (52, .iload 4, 54, 0, 0, 0), (54, .ifCond .ne 9, 57, 63, 0, 0), (57, .iload_n 3, 58, 0, 0, 0), (58, .bipush 46, 60, 0, 0, 0), (60, .if_icmp .ne 7, 63, 67, 0, 0), (63, .iconst 1, 64, 0, 0, 0), (64, .goto 4, 67, 68, 0, 0), (67, .iconst 0, 68, 0, 0, 0), (68, .istore 6, 70, 0, 0, 0), (70, .iload 4, 72, 0, 0, 0), (72, .ifCond .eq 7, 75, 79, 0, 0), (75, .iconst 1, 76, 0, 0, 0), (76, .goto 4, 79, 80, 0, 0), (79, .iconst 0, 80, 0, 0, 0), (80, .istore_n 1, 81, 0, 0, 0), (81, .goto 140, 84, 221, 0, 0), (84, .iload_n 1, 85, 0, 0, 0), (85, .iconst 1, 86, 0, 0, 0), (86, .if_icmp .ne 47, 89, 133, 0, 0), (89, .iload 5, 91, 0, 0, 0), (91, .ifCond .ne 21, 94, 112, 0, 0), (94, .iload_n 3, 95, 0, 0, 0), (95, .bipush 43, 97, 0, 0, 0), (97, .if_icmp .eq 15, 100, 112, 0, 0), (100, .iload_n 3, 101, 0, 0, 0), (101, .bipush 111, 103, 0, 0, 0), (103, .if_icmp .eq 9, 106, 112, 0, 0), (106, .iload_n 3, 107, 0, 0, 0), (107, .bipush 107, 109, 0, 0, 0), (109, .if_icmp .ne 7, 112, 116, 0, 0), (112, .iconst 1, 113, 0, 0, 0), (113, .goto 4, 116, 117, 0, 0), (116, .iconst 0, 117, 0, 0, 0), (117, .istore 6, 119, 0, 0, 0), (119, .iload 5, 121, 0, 0, 0), (121, .ifCond .eq 7, 124, 128, 0, 0), (124, .iconst 2, 125, 0, 0, 0), (125, .goto 4, 128, 129, 0, 0), (128, .iconst 0, 129, 0, 0, 0), (129, .istore_n 1, 130, 0, 0, 0), (130, .goto 91, 133, 221, 0, 0), (133, .iload_n 1, 134, 0, 0, 0), (134, .iconst 2, 135, 0, 0, 0), (135, .if_icmp .ne 18, 138, 153, 0, 0), (138, .iload_n 3, 139, 0, 0, 0), (139, .bipush 48, 141, 0, 0, 0), (141, .bipush 51, 143, 0, 0, 0), (143, .invokestatic 81, 146, 115, 0, 0), (146, .istore 6, 148, 0, 0, 0), (148, .iconst 3, 149, 0, 0, 0), (149, .istore_n 1, 150, 0, 0, 0), (150, .goto 71, 153, 221, 0, 0), (153, .iload_n 1, 154, 0, 0, 0), (154, .iconst 3, 155, 0, 0, 0), (155, .if_icmp .ne 54, 158, 209, 0, 0), (158, .iload_n 3, 159, 0, 0, 0), (159, .aload_n 0, 160, 0, 0, 0), (160, .getfield 44, 163, 11, 16, 16), (163, .iload_n 2, 164, 0, 0, 0), (164, .iconst 1, 165, 0, 0, 0), (165, .isub, 166, 0, 0, 0), (166, .iaload, 167, 0, 0, 0), (167, .bipush 48, 169, 0, 0, 0), (169, .if_icmp .ne 8, 172, 177, 0, 0), (172, .bipush 49, 174, 0, 0, 0), (174, .goto 5, 177, 179, 0, 0), (177, .bipush 48, 179, 0, 0, 0), (179, .aload_n 0, 180, 0, 0, 0), (180, .getfield 44, 183, 11, 16, 16), (183, .iload_n 2, 184, 0, 0, 0), (184, .iconst 1, 185, 0, 0, 0), (185, .isub, 186, 0, 0, 0), (186, .iaload, 187, 0, 0, 0), (187, .bipush 51, 189, 0, 0, 0), (189, .if_icmp .ne 8, 192, 197, 0, 0), (192, .bipush 54, 194, 0, 0, 0), (194, .goto 5, 197, 199, 0, 0), (197, .bipush 57, 199, 0, 0, 0), (199, .invokestatic 81, 202, 115, 0, 0), (202, .istore 6, 204, 0, 0, 0), (204, .iconst 4, 205, 0, 0, 0), (205, .istore_n 1, 206, 0, 0, 0), (206, .goto 15, 209, 221, 0, 0), (209, .iload_n 3, 210, 0, 0, 0), (210, .bipush 49, 212, 0, 0, 0), (212, .bipush 53, 214, 0, 0, 0), (214, .invokestatic 81, 217, 115, 0, 0), (217, .istore 6, 219, 0, 0, 0), (219, .iconst 0, 220, 0, 0, 0), (220, .istore_n 1, 221, 0, 0, 0), (221, .iload 6, 223, 0, 0, 0), (223, .ifCond .ne 5, 226, 228, 0, 0), (226, .iload_n 2, 227, 0, 0, 0), (227, .ireturn, 228, 0, 0, 0), (228, .iinc 2 1, 231, 0, 0, 0), (231, .goto (-227), 234, 4, 0, 0), (234, .iload_n 1, 235, 0, 0, 0), (235, .ifCond .ne 8, 238, 243, 0, 0), (238, .bipush (-6), 240, 0, 0, 0), (240, .goto 7, 243, 247, 0, 0), (243, .aload_n 0, 244, 0, 0, 0), (244, .getfield 109, 247, 11, 15, 15), (247, .ireturn, 248, 0, 0, 0)]
def smd_X11_faultOf : smD := (11, yX11_faultOf, cX11_faultOf, 7, (some .int), (1, false), (1, 22), smt_X11_faultOf)
/-- X11_fault: method 128 -/
def smt_X11_fault : List smI := [(0, .aload_n 0, 1, 0, 0, 0), (1, .invokevirtual 112, 4, 127, 0, 0), (4, .ireturn, 5, 0, 0, 0)]
def smd_X11_fault : smD := (11, yX11_fault, cX11_fault, 1, (some .int), (1, false), (2, 48), smt_X11_fault)
/-- X11_asNow: method 129 -/
def smt_X11_asNow : List smI := [(0, .iconst 0, 1, 0, 0, 0), (1, .istore_n 1, 2, 0, 0, 0), (2, .iload_n 1, 3, 0, 0, 0), (3, .iconst 5, 4, 0, 0, 0), (4, .if_icmp .ge 45, 7, 49, 0, 0), (7, .aload_n 0, 8, 0, 0, 0), (8, .getfield 47, 11, 11, 17, 17), (11, .iload_n 1, 12, 0, 0, 0), (12, .aload_n 0, 13, 0, 0, 0), (13, .getfield 20, 16, 11, 4, 4), (16, .iload_n 1, 17, 0, 0, 0), (17, .iaload, 18, 0, 0, 0), (18, .iastore, 19, 0, 0, 0), (19, .aload_n 0, 20, 0, 0, 0), (20, .getfield 50, 23, 11, 18, 18), (23, .iload_n 1, 24, 0, 0, 0), (24, .aload_n 0, 25, 0, 0, 0), (25, .getfield 23, 28, 11, 5, 5), (28, .iload_n 1, 29, 0, 0, 0), (29, .iaload, 30, 0, 0, 0), (30, .iastore, 31, 0, 0, 0), (31, .aload_n 0, 32, 0, 0, 0), (32, .getfield 53, 35, 11, 19, 19), (35, .iload_n 1, 36, 0, 0, 0), (36, .aload_n 0, 37, 0, 0, 0), (37, .getfield 26, 40, 11, 6, 6), (40, .iload_n 1, 41, 0, 0, 0), (41, .iaload, 42, 0, 0, 0), (42, .iastore, 43, 0, 0, 0), (43, .iinc 1 1, 46, 0, 0, 0), (46, .goto (-44), 49, 2, 0, 0), (49, .iconst 0, 50, 0, 0, 0), (50, .istore_n 1, 51, 0, 0, 0), (51, .iload_n 1, 52, 0, 0, 0), (52, .bipush 9, 54, 0, 0, 0), (54, .if_icmp .ge 33, 57, 87, 0, 0), (57, .aload_n 0, 58, 0, 0, 0), (58, .getfield 56, 61, 11, 20, 20), (61, .iload_n 1, 62, 0, 0, 0), (62, .aload_n 0, 63, 0, 0, 0), (63, .getfield 29, 66, 11, 7, 7), (66, .iload_n 1, 67, 0, 0, 0), (67, .iaload, 68, 0, 0, 0), (68, .iastore, 69, 0, 0, 0), (69, .aload_n 0, 70, 0, 0, 0), (70, .getfield 59, 73, 11, 21, 21), (73, .iload_n 1, 74, 0, 0, 0), (74, .aload_n 0, 75, 0, 0, 0), (75, .getfield 32, 78, 11, 8, 8), (78, .iload_n 1, 79, 0, 0, 0), (79, .iaload, 80, 0, 0, 0), (80, .iastore, 81, 0, 0, 0), (81, .iinc 1 1, 84, 0, 0, 0), (84, .goto (-33), 87, 51, 0, 0), (87, .aload_n 0, 88, 0, 0, 0), (88, .aload_n 0, 89, 0, 0, 0), (89, .getfield 89, 92, 11, 9, 9), (92, .putfield 116, 95, 11, 22, 22), (95, .iconst 0, 96, 0, 0, 0), (96, .istore_n 1, 97, 0, 0, 0), (97, .iload_n 1, 98, 0, 0, 0), (98, .bipush 60, 100, 0, 0, 0), (100, .if_icmp .ge 21, 103, 121, 0, 0), (103, .aload_n 0, 104, 0, 0, 0), (104, .getfield 62, 107, 11, 23, 23), (107, .iload_n 1, 108, 0, 0, 0), (108, .aload_n 0, 109, 0, 0, 0), (109, .getfield 35, 112, 11, 10, 10), (112, .iload_n 1, 113, 0, 0, 0), (113, .iaload, 114, 0, 0, 0), (114, .iastore, 115, 0, 0, 0), (115, .iinc 1 1, 118, 0, 0, 0), (118, .goto (-21), 121, 97, 0, 0), (121, .aload_n 0, 122, 0, 0, 0), (122, .iconst 0, 123, 0, 0, 0), (123, .putfield 119, 126, 11, 24, 24), (126, .return_, 127, 0, 0, 0)]
def smd_X11_asNow : smD := (11, yX11_asNow, cX11_asNow, 2, none, (1, false), (0, 0), smt_X11_asNow)
/-- X11_step: method 130 -/
def smt_X11_step : List smI := [(0, .iload_n 1, 1, 0, 0, 0), (1, .iload_n 2, 2, 0, 0, 0), (2, .ifCond .ne 7, 5, 9, 0, 0), (5, .iconst 1, 6, 0, 0, 0), (6, .goto 9, 9, 15, 0, 0), (9, .aload_n 0, 10, 0, 0, 0), (10, .getfield 7, 13, 11, 0, 0), (13, .iconst 1, 14, 0, 0, 0), (14, .isub, 15, 0, 0, 0), (15, .iadd, 16, 0, 0, 0), (16, .aload_n 0, 17, 0, 0, 0), (17, .getfield 7, 20, 11, 0, 0), (20, .irem, 21, 0, 0, 0), (21, .ireturn, 22, 0, 0, 0)]
def smd_X11_step : smD := (11, yX11_step, cX11_step, 3, (some .int), (3, false), (0, 0), smt_X11_step)
/-- X11_heightOf: method 131 -/
def smt_X11_heightOf : List smI := [(0, .iload_n 0, 1, 0, 0, 0), (1, .iload_n 1, 2, 0, 0, 0), (2, .iload_n 0, 3, 0, 0, 0), (3, .isub, 4, 0, 0, 0), (4, .if_icmp .ge 7, 7, 11, 0, 0), (7, .iload_n 0, 8, 0, 0, 0), (8, .goto 6, 11, 14, 0, 0), (11, .iload_n 1, 12, 0, 0, 0), (12, .iload_n 0, 13, 0, 0, 0), (13, .isub, 14, 0, 0, 0), (14, .istore_n 3, 15, 0, 0, 0), (15, .iload_n 3, 16, 0, 0, 0), (16, .iload_n 2, 17, 0, 0, 0), (17, .if_icmp .ge 7, 20, 24, 0, 0), (20, .iload_n 3, 21, 0, 0, 0), (21, .goto 4, 24, 25, 0, 0), (24, .iload_n 2, 25, 0, 0, 0), (25, .ireturn, 26, 0, 0, 0)]
def smd_X11_heightOf : smD := (11, yX11_heightOf, cX11_heightOf, 4, (some .int), (3, true), (0, 0), smt_X11_heightOf)
/-- X11_heightNow: method 132 -/
def smt_X11_heightNow : List smI := [(0, .aload_n 0, 1, 0, 0, 0), (1, .getfield 62, 4, 11, 23, 23), (4, .iconst 5, 5, 0, 0, 0), (5, .iload_n 1, 6, 0, 0, 0), (6, .imul, 7, 0, 0, 0), (7, .iconst 4, 8, 0, 0, 0), (8, .iadd, 9, 0, 0, 0), (9, .iaload, 10, 0, 0, 0), (10, .aload_n 0, 11, 0, 0, 0), (11, .getfield 62, 14, 11, 23, 23), (14, .iconst 5, 15, 0, 0, 0), (15, .iload_n 1, 16, 0, 0, 0), (16, .imul, 17, 0, 0, 0), (17, .iconst 2, 18, 0, 0, 0), (18, .iadd, 19, 0, 0, 0), (19, .iaload, 20, 0, 0, 0), (20, .aload_n 0, 21, 0, 0, 0), (21, .getfield 62, 24, 11, 23, 23), (24, .iconst 5, 25, 0, 0, 0), (25, .iload_n 1, 26, 0, 0, 0), (26, .imul, 27, 0, 0, 0), (27, .iconst 3, 28, 0, 0, 0), (28, .iadd, 29, 0, 0, 0), (29, .iaload, 30, 0, 0, 0), (30, .invokestatic 122, 33, 131, 0, 0), (33, .ireturn, 34, 0, 0, 0)]
def smd_X11_heightNow : smD := (11, yX11_heightNow, cX11_heightNow, 2, (some .int), (2, false), (1, 23), smt_X11_heightNow)
/-- X11_firstAt: method 133 -/
def smt_X11_firstAt : List smI := [(0, .bipush (-6), 2, 0, 0, 0), (2, .istore_n 2, 3, 0, 0, 0), (3, .iconst 4, 4, 0, 0, 0), (4, .istore_n 3, 5, 0, 0, 0), (5, .iload_n 3, 6, 0, 0, 0), (6, .ifCond .lt 36, 9, 42, 0, 0), (9, .aload_n 0, 10, 0, 0, 0), (10, .getfield 78, 13, 11, 2, 2), (13, .iload_n 3, 14, 0, 0, 0), (14, .invokestatic 85, 17, 116, 0, 0), (17, .ifCond .eq 17, 20, 34, 0, 0), (20, .aload_n 0, 21, 0, 0, 0), (21, .getfield 47, 24, 11, 17, 17), (24, .iload_n 3, 25, 0, 0, 0), (25, .iaload, 26, 0, 0, 0), (26, .iload_n 1, 27, 0, 0, 0), (27, .if_icmp .ne 7, 30, 34, 0, 0), (30, .iload_n 3, 31, 0, 0, 0), (31, .goto 4, 34, 35, 0, 0), (34, .iload_n 2, 35, 0, 0, 0), (35, .istore_n 2, 36, 0, 0, 0), (36, .iinc 3 (-1), 39, 0, 0, 0), (39, .goto (-34), 42, 5, 0, 0), (42, .iload_n 2, 43, 0, 0, 0), (43, .ireturn, 44, 0, 0, 0)]
def smd_X11_firstAt : smD := (11, yX11_firstAt, cX11_firstAt, 4, (some .int), (2, false), (1, 21), smt_X11_firstAt)
/-- X11_fall: method 134 -/
def smt_X11_fall : List smI := [(0, .iconst 0, 1, 0, 0, 0), (1, .istore_n 1, 2, 0, 0, 0), (2, .iconst 0, 3, 0, 0, 0), (3, .istore_n 2, 4, 0, 0, 0), (4, .iload_n 2, 5, 0, 0, 0), (5, .aload_n 0, 6, 0, 0, 0), (6, .getfield 116, 9, 11, 22, 22), (9, .if_icmp .ge 126, 12, 135, 0, 0), (12, .aload_n 0, 13, 0, 0, 0), (13, .iload_n 2, 14, 0, 0, 0), (14, .invokevirtual 130, 17, 132, 0, 0), (17, .istore_n 3, 18, 0, 0, 0), (18, .iload_n 3, 19, 0, 0, 0), (19, .ifCond .ne 7, 22, 26, 0, 0), (22, .iconst 1, 23, 0, 0, 0), (23, .goto 4, 26, 27, 0, 0), (26, .iconst 0, 27, 0, 0, 0), (27, .istore 4, 29, 0, 0, 0), (29, .iconst 0, 30, 0, 0, 0), (30, .istore 5, 32, 0, 0, 0), (32, .iload 5, 34, 0, 0, 0), (34, .aload_n 0, 35, 0, 0, 0), (35, .getfield 116, 38, 11, 22, 22), (38, .if_icmp .ge 67, 41, 105, 0, 0), (41, .iload 4, 43, 0, 0, 0), (43, .ifCond .ne 49, 46, 92, 0, 0), (46, .iload 5, 48, 0, 0, 0), (48, .iload_n 2, 49, 0, 0, 0), (49, .if_icmp .eq 47, 52, 96, 0, 0), (52, .aload_n 0, 53, 0, 0, 0), (53, .getfield 65, 56, 11, 25, 25), (56, .iload 5, 58, 0, 0, 0), (58, .baload, 59, 0, 0, 0), (59, .ifCond .ne 37, 62, 96, 0, 0), (62, .aload_n 0, 63, 0, 0, 0), (63, .getfield 62, 66, 11, 23, 23), (66, .iconst 5, 67, 0, 0, 0), (67, .iload 5, 69, 0, 0, 0), (69, .imul, 70, 0, 0, 0), (70, .iaload, 71, 0, 0, 0), (71, .aload_n 0, 72, 0, 0, 0), (72, .getfield 62, 75, 11, 23, 23), (75, .iconst 5, 76, 0, 0, 0), (76, .iload_n 2, 77, 0, 0, 0), (77, .imul, 78, 0, 0, 0), (78, .iaload, 79, 0, 0, 0), (79, .if_icmp .ne 17, 82, 96, 0, 0), (82, .aload_n 0, 83, 0, 0, 0), (83, .iload 5, 85, 0, 0, 0), (85, .invokevirtual 130, 88, 132, 0, 0), (88, .iload_n 3, 89, 0, 0, 0), (89, .if_icmp .ne 7, 92, 96, 0, 0), (92, .iconst 1, 93, 0, 0, 0), (93, .goto 4, 96, 97, 0, 0), (96, .iconst 0, 97, 0, 0, 0), (97, .istore 4, 99, 0, 0, 0), (99, .iinc 5 1, 102, 0, 0, 0), (102, .goto (-70), 105, 32, 0, 0), (105, .iload_n 1, 106, 0, 0, 0), (106, .aload_n 0, 107, 0, 0, 0), (107, .getfield 65, 110, 11, 25, 25), (110, .iload_n 2, 111, 0, 0, 0), (111, .baload, 112, 0, 0, 0), (112, .ifCond .ne 14, 115, 126, 0, 0), (115, .iload 4, 117, 0, 0, 0), (117, .ifCond .eq 9, 120, 126, 0, 0), (120, .iconst 1, 121, 0, 0, 0), (121, .iload_n 2, 122, 0, 0, 0), (122, .ishl, 123, 0, 0, 0), (123, .goto 4, 126, 127, 0, 0), (126, .iconst 0, 127, 0, 0, 0), (127, .ior, 128, 0, 0, 0), (128, .istore_n 1, 129, 0, 0, 0), (129, .iinc 2 1, 132, 0, 0, 0), (132, .goto (-128), 135, 4, 0, 0), (135, .iconst 0, 136, 0, 0, 0), (136, .istore_n 2, 137, 0, 0, 0), (137, .iload_n 2, 138, 0, 0, 0), (138, .aload_n 0, 139, 0, 0, 0), (139, .getfield 116, 142, 11, 22, 22), (142, .if_icmp .ge 41, 145, 183, 0, 0), (145, .iload_n 1, 146, 0, 0, 0), (146, .iload_n 2, 147, 0, 0, 0), (147, .invokestatic 85, 150, 116, 0, 0), (150, .ifCond .eq 27, 153, 177, 0, 0), (153, .aload_n 0, 154, 0, 0, 0), (154, .getfield 56, 157, 11, 20, 20), (157, .aload_n 0, 158, 0, 0, 0), (158, .getfield 62, 161, 11, 23, 23), (161, .iconst 5, 162, 0, 0, 0), (162, .iload_n 2, 163, 0, 0, 0), (163, .imul, 164, 0, 0, 0), (164, .iaload, 165, 0, 0, 0), (165, .dup2, 166, 0, 0, 0), (166, .iaload, 167, 0, 0, 0), (167, .iconst 1, 168, 0, 0, 0), (168, .iadd, 169, 0, 0, 0), (169, .iastore, 170, 0, 0, 0), (170, .aload_n 0, 171, 0, 0, 0), (171, .getfield 65, 174, 11, 25, 25), (174, .iload_n 2, 175, 0, 0, 0), (175, .iconst 1, 176, 0, 0, 0), (176, .bastore, 177, 0, 0, 0), (177, .iinc 2 1, 180, 0, 0, 0), (180, .goto (-43), 183, 137, 0, 0), (183, .return_, 184, 0, 0, 0)]
def smd_X11_fall : smD := (11, yX11_fall, cX11_fall, 6, none, (1, false), (2, 44), smt_X11_fall)
/-- X11_pass: method 135 -/
def smt_X11_pass : List smI := [(0, .iconst 0, 1, 0, 0, 0), (1, .istore_n 1, 2, 0, 0, 0), (2, .iload_n 1, 3, 0, 0, 0), (3, .aload_n 0, 4, 0, 0, 0), (4, .getfield 116, 7, 11, 22, 22), (7, .if_icmp .ge 60, 10, 67, 0, 0), (10, .aload_n 0, 11, 0, 0, 0), (11, .getfield 62, 14, 11, 23, 23), (14, .iconst 5, 15, 0, 0, 0), (15, .iload_n 1, 16, 0, 0, 0), (16, .imul, 17, 0, 0, 0), (17, .aload_n 0, 18, 0, 0, 0), (18, .aload_n 0, 19, 0, 0, 0), (19, .getfield 62, 22, 11, 23, 23), (22, .iconst 5, 23, 0, 0, 0), (23, .iload_n 1, 24, 0, 0, 0), (24, .imul, 25, 0, 0, 0), (25, .iaload, 26, 0, 0, 0), (26, .aload_n 0, 27, 0, 0, 0), (27, .getfield 62, 30, 11, 23, 23), (30, .iconst 5, 31, 0, 0, 0), (31, .iload_n 1, 32, 0, 0, 0), (32, .imul, 33, 0, 0, 0), (33, .iconst 1, 34, 0, 0, 0), (34, .iadd, 35, 0, 0, 0), (35, .iaload, 36, 0, 0, 0), (36, .invokevirtual 126, 39, 130, 0, 0), (39, .iastore, 40, 0, 0, 0), (40, .aload_n 0, 41, 0, 0, 0), (41, .getfield 62, 44, 11, 23, 23), (44, .iconst 5, 45, 0, 0, 0), (45, .iload_n 1, 46, 0, 0, 0), (46, .imul, 47, 0, 0, 0), (47, .iconst 4, 48, 0, 0, 0), (48, .iadd, 49, 0, 0, 0), (49, .dup2, 50, 0, 0, 0), (50, .iaload, 51, 0, 0, 0), (51, .iconst 1, 52, 0, 0, 0), (52, .iadd, 53, 0, 0, 0), (53, .iastore, 54, 0, 0, 0), (54, .aload_n 0, 55, 0, 0, 0), (55, .getfield 65, 58, 11, 25, 25), (58, .iload_n 1, 59, 0, 0, 0), (59, .iconst 0, 60, 0, 0, 0), (60, .bastore, 61, 0, 0, 0), (61, .iinc 1 1, 64, 0, 0, 0), (64, .goto (-62), 67, 2, 0, 0), (67, .iconst 0, 68, 0, 0, 0), (68, .istore_n 1, 69, 0, 0, 0), (69, .iload_n 1, 70, 0, 0, 0), (70, .aload_n 0, 71, 0, 0, 0), (71, .getfield 116, 74, 11, 22, 22), (74, .if_icmp .ge 120, 77, 194, 0, 0), (77, .aload_n 0, 78, 0, 0, 0), (78, .getfield 62, 81, 11, 23, 23), (81, .iconst 5, 82, 0, 0, 0), (82, .iload_n 1, 83, 0, 0, 0), (83, .imul, 84, 0, 0, 0), (84, .iaload, 85, 0, 0, 0), (85, .istore_n 2, 86, 0, 0, 0), (86, .aload_n 0, 87, 0, 0, 0), (87, .iload_n 1, 88, 0, 0, 0), (88, .invokevirtual 130, 91, 132, 0, 0), (91, .istore_n 3, 92, 0, 0, 0), (92, .iload_n 3, 93, 0, 0, 0), (93, .iconst 1, 94, 0, 0, 0), (94, .if_icmp .eq 8, 97, 102, 0, 0), (97, .iload_n 3, 98, 0, 0, 0), (98, .iconst 2, 99, 0, 0, 0), (99, .if_icmp .ne 11, 102, 110, 0, 0), (102, .aload_n 0, 103, 0, 0, 0), (103, .iload_n 2, 104, 0, 0, 0), (104, .invokevirtual 133, 107, 133, 0, 0), (107, .goto 5, 110, 112, 0, 0), (110, .bipush (-6), 112, 0, 0, 0), (112, .istore 4, 114, 0, 0, 0), (114, .aload_n 0, 115, 0, 0, 0), (115, .getfield 13, 118, 11, 1, 1), (118, .iload_n 2, 119, 0, 0, 0), (119, .iaload, 120, 0, 0, 0), (120, .iload_n 3, 121, 0, 0, 0), (121, .if_icmp .le 23, 124, 144, 0, 0), (124, .aload_n 0, 125, 0, 0, 0), (125, .getfield 59, 128, 11, 21, 21), (128, .iload_n 2, 129, 0, 0, 0), (129, .dup2, 130, 0, 0, 0), (130, .iaload, 131, 0, 0, 0), (131, .iconst 1, 132, 0, 0, 0), (132, .iadd, 133, 0, 0, 0), (133, .iastore, 134, 0, 0, 0), (134, .aload_n 0, 135, 0, 0, 0), (135, .getfield 65, 138, 11, 25, 25), (138, .iload_n 1, 139, 0, 0, 0), (139, .iconst 1, 140, 0, 0, 0), (140, .bastore, 141, 0, 0, 0), (141, .goto 47, 144, 188, 0, 0), (144, .iload 4, 146, 0, 0, 0), (146, .ifCond .lt 42, 149, 188, 0, 0), (149, .aload_n 0, 150, 0, 0, 0), (150, .getfield 50, 153, 11, 18, 18), (153, .iload 4, 155, 0, 0, 0), (155, .dup2, 156, 0, 0, 0), (156, .iaload, 157, 0, 0, 0), (157, .iconst 1, 158, 0, 0, 0), (158, .iadd, 159, 0, 0, 0), (159, .iastore, 160, 0, 0, 0), (160, .aload_n 0, 161, 0, 0, 0), (161, .getfield 53, 164, 11, 19, 19), (164, .iload 4, 166, 0, 0, 0), (166, .dup2, 167, 0, 0, 0), (167, .iaload, 168, 0, 0, 0), (168, .iconst 1, 169, 0, 0, 0), (169, .iadd, 170, 0, 0, 0), (170, .iastore, 171, 0, 0, 0), (171, .aload_n 0, 172, 0, 0, 0), (172, .dup, 173, 0, 0, 0), (173, .getfield 119, 176, 11, 24, 24), (176, .iconst 1, 177, 0, 0, 0), (177, .iadd, 178, 0, 0, 0), (178, .putfield 119, 181, 11, 24, 24), (181, .aload_n 0, 182, 0, 0, 0), (182, .getfield 65, 185, 11, 25, 25), (185, .iload_n 1, 186, 0, 0, 0), (186, .iconst 1, 187, 0, 0, 0), (187, .bastore, 188, 0, 0, 0), (188, .iinc 1 1, 191, 0, 0, 0), (191, .goto (-122), 194, 69, 0, 0), (194, .aload_n 0, 195, 0, 0, 0), (195, .invokevirtual 136, 198, 134, 0, 0), (198, .iconst 0, 199, 0, 0, 0), (199, .istore_n 1, 200, 0, 0, 0), (200, .iconst 0, 201, 0, 0, 0), (201, .istore_n 2, 202, 0, 0, 0), (202, .iload_n 2, 203, 0, 0, 0), (203, .aload_n 0, 204, 0, 0, 0), (204, .getfield 116, 207, 11, 22, 22), (207, .if_icmp .ge 54, 210, 261, 0, 0), (210, .aload_n 0, 211, 0, 0, 0), (211, .getfield 65, 214, 11, 25, 25), (214, .iload_n 2, 215, 0, 0, 0), (215, .baload, 216, 0, 0, 0), (216, .ifCond .ne 39, 219, 255, 0, 0), (219, .iconst 0, 220, 0, 0, 0), (220, .istore_n 3, 221, 0, 0, 0), (221, .iload_n 3, 222, 0, 0, 0), (222, .iconst 5, 223, 0, 0, 0), (223, .if_icmp .ge 29, 226, 252, 0, 0), (226, .aload_n 0, 227, 0, 0, 0), (227, .getfield 62, 230, 11, 23, 23), (230, .iconst 5, 231, 0, 0, 0), (231, .iload_n 1, 232, 0, 0, 0), (232, .imul, 233, 0, 0, 0), (233, .iload_n 3, 234, 0, 0, 0), (234, .iadd, 235, 0, 0, 0), (235, .aload_n 0, 236, 0, 0, 0), (236, .getfield 62, 239, 11, 23, 23), (239, .iconst 5, 240, 0, 0, 0), (240, .iload_n 2, 241, 0, 0, 0), (241, .imul, 242, 0, 0, 0), (242, .iload_n 3, 243, 0, 0, 0), (243, .iadd, 244, 0, 0, 0), (244, .iaload, 245, 0, 0, 0), (245, .iastore, 246, 0, 0, 0), (246, .iinc 3 1, 249, 0, 0, 0), (249, .goto (-28), 252, 221, 0, 0), (252, .iinc 1 1, 255, 0, 0, 0), (255, .iinc 2 1, 258, 0, 0, 0), (258, .goto (-56), 261, 202, 0, 0), (261, .aload_n 0, 262, 0, 0, 0), (262, .iload_n 1, 263, 0, 0, 0), (263, .putfield 116, 266, 11, 22, 22), (266, .return_, 267, 0, 0, 0)]
def smd_X11_pass : smD := (11, yX11_pass, cX11_pass, 5, none, (1, false), (3, 69), smt_X11_pass)
/-- X11_whyNot: method 136 -/
def smt_X11_whyNot : List smI := [(0, .aload_n 0, 1, 0, 0, 0), (1, .iload_n 1, 2, 0, 0, 0), (2, .invokevirtual 106, 5, 119, 0, 0), (5, .ifCond .ne 7, 8, 12, 0, 0), (8, .iconst 1, 9, 0, 0, 0), (9, .goto 44, 12, 53, 0, 0), (12, .aload_n 0, 13, 0, 0, 0), (13, .getfield 50, 16, 11, 18, 18), (16, .iload_n 1, 17, 0, 0, 0), (17, .iaload, 18, 0, 0, 0), (18, .ifCond .ne 7, 21, 25, 0, 0), (21, .iconst 2, 22, 0, 0, 0), (22, .goto 31, 25, 53, 0, 0), (25, .iload_n 2, 26, 0, 0, 0), (26, .aload_n 0, 27, 0, 0, 0), (27, .getfield 17, 30, 11, 3, 3), (30, .iload_n 1, 31, 0, 0, 0), (31, .iaload, 32, 0, 0, 0), (32, .if_icmp .le 7, 35, 39, 0, 0), (35, .iconst 3, 36, 0, 0, 0), (36, .goto 17, 39, 53, 0, 0), (39, .aload_n 0, 40, 0, 0, 0), (40, .getfield 116, 43, 11, 22, 22), (43, .bipush 12, 45, 0, 0, 0), (45, .if_icmp .ne 7, 48, 52, 0, 0), (48, .iconst 4, 49, 0, 0, 0), (49, .goto 4, 52, 53, 0, 0), (52, .iconst 0, 53, 0, 0, 0), (53, .ireturn, 54, 0, 0, 0)]
def smd_X11_whyNot : smD := (11, yX11_whyNot, cX11_whyNot, 3, (some .int), (3, false), (2, 43), smt_X11_whyNot)
/-- X11_fling: method 137 -/
def smt_X11_fling : List smI := [(0, .aload_n 0, 1, 0, 0, 0), (1, .getfield 50, 4, 11, 18, 18), (4, .iload_n 1, 5, 0, 0, 0), (5, .dup2, 6, 0, 0, 0), (6, .iaload, 7, 0, 0, 0), (7, .iconst 1, 8, 0, 0, 0), (8, .isub, 9, 0, 0, 0), (9, .iastore, 10, 0, 0, 0), (10, .aload_n 0, 11, 0, 0, 0), (11, .getfield 62, 14, 11, 23, 23), (14, .iconst 5, 15, 0, 0, 0), (15, .aload_n 0, 16, 0, 0, 0), (16, .getfield 116, 19, 11, 22, 22), (19, .imul, 20, 0, 0, 0), (20, .aload_n 0, 21, 0, 0, 0), (21, .getfield 47, 24, 11, 17, 17), (24, .iload_n 1, 25, 0, 0, 0), (25, .iaload, 26, 0, 0, 0), (26, .iastore, 27, 0, 0, 0), (27, .aload_n 0, 28, 0, 0, 0), (28, .getfield 62, 31, 11, 23, 23), (31, .iconst 5, 32, 0, 0, 0), (32, .aload_n 0, 33, 0, 0, 0), (33, .getfield 116, 36, 11, 22, 22), (36, .imul, 37, 0, 0, 0), (37, .iconst 1, 38, 0, 0, 0), (38, .iadd, 39, 0, 0, 0), (39, .iload_n 2, 40, 0, 0, 0), (40, .iastore, 41, 0, 0, 0), (41, .aload_n 0, 42, 0, 0, 0), (42, .getfield 62, 45, 11, 23, 23), (45, .iconst 5, 46, 0, 0, 0), (46, .aload_n 0, 47, 0, 0, 0), (47, .getfield 116, 50, 11, 22, 22), (50, .imul, 51, 0, 0, 0), (51, .iconst 2, 52, 0, 0, 0), (52, .iadd, 53, 0, 0, 0), (53, .iload_n 3, 54, 0, 0, 0), (54, .iastore, 55, 0, 0, 0), (55, .aload_n 0, 56, 0, 0, 0), (56, .getfield 62, 59, 11, 23, 23), (59, .iconst 5, 60, 0, 0, 0), (60, .aload_n 0, 61, 0, 0, 0), (61, .getfield 116, 64, 11, 22, 22), (64, .imul, 65, 0, 0, 0), (65, .iconst 3, 66, 0, 0, 0), (66, .iadd, 67, 0, 0, 0), (67, .iload 4, 69, 0, 0, 0), (69, .iastore, 70, 0, 0, 0), (70, .aload_n 0, 71, 0, 0, 0), (71, .getfield 62, 74, 11, 23, 23), (74, .iconst 5, 75, 0, 0, 0), (75, .aload_n 0, 76, 0, 0, 0), (76, .getfield 116, 79, 11, 22, 22), (79, .imul, 80, 0, 0, 0), (80, .iconst 4, 81, 0, 0, 0), (81, .iadd, 82, 0, 0, 0), (82, .iconst 0, 83, 0, 0, 0), (83, .iastore, 84, 0, 0, 0), (84, .aload_n 0, 85, 0, 0, 0), (85, .dup, 86, 0, 0, 0), (86, .getfield 116, 89, 11, 22, 22), (89, .iconst 1, 90, 0, 0, 0), (90, .iadd, 91, 0, 0, 0), (91, .putfield 116, 94, 11, 22, 22), (94, .return_, 95, 0, 0, 0)]
def smd_X11_fling : smD := (11, yX11_fling, cX11_fling, 5, none, (5, false), (0, 0), smt_X11_fling)
/-- X11_go: method 138 -/
def smt_X11_go : List smI := [(0, .iload_n 2, 1, 0, 0, 0), (1, .bipush 43, 3, 0, 0, 0), (3, .if_icmp .ne 31, 6, 34, 0, 0), (6, .aload_n 0, 7, 0, 0, 0), (7, .getfield 56, 10, 11, 20, 20), (10, .aload_n 0, 11, 0, 0, 0), (11, .getfield 47, 14, 11, 17, 17), (14, .iload_n 1, 15, 0, 0, 0), (15, .iaload, 16, 0, 0, 0), (16, .dup2, 17, 0, 0, 0), (17, .iaload, 18, 0, 0, 0), (18, .iconst 1, 19, 0, 0, 0), (19, .isub, 20, 0, 0, 0), (20, .iastore, 21, 0, 0, 0), (21, .aload_n 0, 22, 0, 0, 0), (22, .getfield 50, 25, 11, 18, 18), (25, .iload_n 1, 26, 0, 0, 0), (26, .dup2, 27, 0, 0, 0), (27, .iaload, 28, 0, 0, 0), (28, .iconst 1, 29, 0, 0, 0), (29, .iadd, 30, 0, 0, 0), (30, .iastore, 31, 0, 0, 0), (31, .goto 30, 34, 61, 0, 0), (34, .aload_n 0, 35, 0, 0, 0), (35, .getfield 47, 38, 11, 17, 17), (38, .iload_n 1, 39, 0, 0, 0), (39, .aload_n 0, 40, 0, 0, 0), (40, .aload_n 0, 41, 0, 0, 0), (41, .getfield 47, 44, 11, 17, 17), (44, .iload_n 1, 45, 0, 0, 0), (45, .iaload, 46, 0, 0, 0), (46, .iload_n 2, 47, 0, 0, 0), (47, .bipush 111, 49, 0, 0, 0), (49, .if_icmp .ne 7, 52, 56, 0, 0), (52, .iconst 0, 53, 0, 0, 0), (53, .goto 4, 56, 57, 0, 0), (56, .iconst 1, 57, 0, 0, 0), (57, .invokevirtual 126, 60, 130, 0, 0), (60, .iastore, 61, 0, 0, 0), (61, .return_, 62, 0, 0, 0)]
def smd_X11_go : smD := (11, yX11_go, cX11_go, 3, none, (3, false), (1, 22), smt_X11_go)
/-- X11_goDay: method 139 -/
def smt_X11_goDay : List smI := [(0, .aload_n 0, 1, 0, 0, 0), (1, .invokevirtual 139, 4, 129, 0, 0), (4, .aload_n 0, 5, 0, 0, 0), (5, .iconst 0, 6, 0, 0, 0), (6, .putfield 142, 9, 11, 27, 27), (9, .iconst 0, 10, 0, 0, 0), (10, .istore_n 1, 11, 0, 0, 0), (11, .iload_n 1, 12, 0, 0, 0), (12, .aload_n 0, 13, 0, 0, 0), (13, .getfield 109, 16, 11, 15, 15), (16, .if_icmp .ge 223, 19, 239, 0, 0), (19, .aload_n 0, 20, 0, 0, 0), (20, .iconst 0, 21, 0, 0, 0), (21, .putfield 145, 24, 11, 26, 26), (24, .aload_n 0, 25, 0, 0, 0), (25, .getfield 44, 28, 11, 16, 16), (28, .iload_n 1, 29, 0, 0, 0), (29, .iaload, 30, 0, 0, 0), (30, .bipush 46, 32, 0, 0, 0), (32, .if_icmp .ne 13, 35, 45, 0, 0), (35, .aload_n 0, 36, 0, 0, 0), (36, .invokevirtual 148, 39, 135, 0, 0), (39, .iinc 1 1, 42, 0, 0, 0), (42, .goto 172, 45, 214, 0, 0), (45, .aload_n 0, 46, 0, 0, 0), (46, .getfield 44, 49, 11, 16, 16), (49, .iload_n 1, 50, 0, 0, 0), (50, .iaload, 51, 0, 0, 0), (51, .bipush 65, 53, 0, 0, 0), (53, .isub, 54, 0, 0, 0), (54, .istore_n 2, 55, 0, 0, 0), (55, .aload_n 0, 56, 0, 0, 0), (56, .getfield 44, 59, 11, 16, 16), (59, .iload_n 1, 60, 0, 0, 0), (60, .iconst 1, 61, 0, 0, 0), (61, .iadd, 62, 0, 0, 0), (62, .iaload, 63, 0, 0, 0), (63, .istore_n 3, 64, 0, 0, 0), (64, .iload_n 3, 65, 0, 0, 0), (65, .bipush 60, 67, 0, 0, 0), (67, .if_icmp .eq 9, 70, 76, 0, 0), (70, .iload_n 3, 71, 0, 0, 0), (71, .bipush 62, 73, 0, 0, 0), (73, .if_icmp .ne 84, 76, 157, 0, 0), (76, .bipush 10, 78, 0, 0, 0), (78, .aload_n 0, 79, 0, 0, 0), (79, .getfield 44, 82, 11, 16, 16), (82, .iload_n 1, 83, 0, 0, 0), (83, .iconst 2, 84, 0, 0, 0), (84, .iadd, 85, 0, 0, 0), (85, .iaload, 86, 0, 0, 0), (86, .bipush 48, 88, 0, 0, 0), (88, .isub, 89, 0, 0, 0), (89, .imul, 90, 0, 0, 0), (90, .aload_n 0, 91, 0, 0, 0), (91, .getfield 44, 94, 11, 16, 16), (94, .iload_n 1, 95, 0, 0, 0), (95, .iconst 3, 96, 0, 0, 0), (96, .iadd, 97, 0, 0, 0), (97, .iaload, 98, 0, 0, 0), (98, .iadd, 99, 0, 0, 0), (99, .bipush 48, 101, 0, 0, 0), (101, .isub, 102, 0, 0, 0), (102, .istore 4, 104, 0, 0, 0), (104, .aload_n 0, 105, 0, 0, 0), (105, .aload_n 0, 106, 0, 0, 0), (106, .iload_n 2, 107, 0, 0, 0), (107, .iload 4, 109, 0, 0, 0), (109, .invokevirtual 151, 112, 136, 0, 0), (112, .putfield 145, 115, 11, 26, 26), (115, .aload_n 0, 116, 0, 0, 0), (116, .getfield 145, 119, 11, 26, 26), (119, .ifCond .ne 32, 122, 151, 0, 0), (122, .aload_n 0, 123, 0, 0, 0), (123, .iload_n 2, 124, 0, 0, 0), (124, .iload_n 3, 125, 0, 0, 0), (125, .bipush 62, 127, 0, 0, 0), (127, .if_icmp .ne 7, 130, 134, 0, 0), (130, .iconst 0, 131, 0, 0, 0), (131, .goto 4, 134, 135, 0, 0), (134, .iconst 1, 135, 0, 0, 0), (135, .iload 4, 137, 0, 0, 0), (137, .aload_n 0, 138, 0, 0, 0), (138, .getfield 44, 141, 11, 16, 16), (141, .iload_n 1, 142, 0, 0, 0), (142, .iconst 4, 143, 0, 0, 0), (143, .iadd, 144, 0, 0, 0), (144, .iaload, 145, 0, 0, 0), (145, .bipush 48, 147, 0, 0, 0), (147, .isub, 148, 0, 0, 0), (148, .invokevirtual 154, 151, 137, 0, 0), (151, .iinc 1 5, 154, 0, 0, 0), (154, .goto 60, 157, 214, 0, 0), (157, .aload_n 0, 158, 0, 0, 0), (158, .aload_n 0, 159, 0, 0, 0), (159, .iload_n 2, 160, 0, 0, 0), (160, .invokevirtual 106, 163, 119, 0, 0), (163, .ifCond .ne 7, 166, 170, 0, 0), (166, .iconst 1, 167, 0, 0, 0), (167, .goto 28, 170, 195, 0, 0), (170, .iload_n 3, 171, 0, 0, 0), (171, .bipush 43, 173, 0, 0, 0), (173, .if_icmp .ne 21, 176, 194, 0, 0), (176, .aload_n 0, 177, 0, 0, 0), (177, .getfield 56, 180, 11, 20, 20), (180, .aload_n 0, 181, 0, 0, 0), (181, .getfield 47, 184, 11, 17, 17), (184, .iload_n 2, 185, 0, 0, 0), (185, .iaload, 186, 0, 0, 0), (186, .iaload, 187, 0, 0, 0), (187, .ifCond .ne 7, 190, 194, 0, 0), (190, .iconst 5, 191, 0, 0, 0), (191, .goto 4, 194, 195, 0, 0), (194, .iconst 0, 195, 0, 0, 0), (195, .putfield 145, 198, 11, 26, 26), (198, .aload_n 0, 199, 0, 0, 0), (199, .getfield 145, 202, 11, 26, 26), (202, .ifCond .ne 9, 205, 211, 0, 0), (205, .aload_n 0, 206, 0, 0, 0), (206, .iload_n 2, 207, 0, 0, 0), (207, .iload_n 3, 208, 0, 0, 0), (208, .invokevirtual 158, 211, 138, 0, 0), (211, .iinc 1 2, 214, 0, 0, 0), (214, .aload_n 0, 215, 0, 0, 0), (215, .getfield 145, 218, 11, 26, 26), (218, .ifCond .le 8, 221, 226, 0, 0), (221, .aload_n 0, 222, 0, 0, 0), (222, .getfield 142, 225, 11, 27, 27), (225, .ireturn, 226, 0, 0, 0), (226, .aload_n 0, 227, 0, 0, 0), (227, .dup, 228, 0, 0, 0), (228, .getfield 142, 231, 11, 27, 27), (231, .iconst 1, 232, 0, 0, 0), (232, .iadd, 233, 0, 0, 0), (233, .putfield 142, 236, 11, 27, 27), (236, .goto (-225), 239, 11, 0, 0), (239, .bipush (-6), 241, 0, 0, 0), (241, .ireturn, 242, 0, 0, 0)]
def smd_X11_goDay : smD := (11, yX11_goDay, cX11_goDay, 5, (some .int), (1, false), (4, 93), smt_X11_goDay)
/-- X11_judge: method 140 -/
def smt_X11_judge : List smI := [(0, .iload_n 1, 1, 0, 0, 0), (1, .iconst 0, 2, 0, 0, 0), (2, .iconst 1, 3, 0, 0, 0), (3, .invokestatic 81, 6, 115, 0, 0), (6, .ifCond .ne 6, 9, 12, 0, 0), (9, .bipush (-2), 11, 0, 0, 0), (11, .ireturn, 12, 0, 0, 0), (12, .aload_n 0, 13, 0, 0, 0), (13, .invokevirtual 112, 16, 127, 0, 0), (16, .ifCond .lt 6, 19, 22, 0, 0), (19, .bipush (-5), 21, 0, 0, 0), (21, .ireturn, 22, 0, 0, 0), (22, .aload_n 0, 23, 0, 0, 0), (23, .invokevirtual 162, 26, 139, 0, 0), (26, .istore_n 2, 27, 0, 0, 0), (27, .iload_n 2, 28, 0, 0, 0), (28, .ifCond .lt 7, 31, 35, 0, 0), (31, .iload_n 1, 32, 0, 0, 0), (32, .ifCond .ne 7, 35, 39, 0, 0), (35, .iload_n 2, 36, 0, 0, 0), (36, .goto 7, 39, 43, 0, 0), (39, .aload_n 0, 40, 0, 0, 0), (40, .getfield 145, 43, 11, 26, 26), (43, .ireturn, 44, 0, 0, 0)]
def smd_X11_judge : smD := (11, yX11_judge, cX11_judge, 3, (some .int), (2, false), (5, 117), smt_X11_judge)
/-- X11_barOfDay: method 141 -/
def smt_X11_barOfDay : List smI := [(0, .aload_n 0, 1, 0, 0, 0), (1, .invokevirtual 112, 4, 127, 0, 0), (4, .ifCond .ge 10, 7, 14, 0, 0), (7, .aload_n 0, 8, 0, 0, 0), (8, .invokevirtual 162, 11, 139, 0, 0), (11, .ifCond .lt 8, 14, 19, 0, 0), (14, .bipush (-5), 16, 0, 0, 0), (16, .goto 4, 19, 20, 0, 0), (19, .iconst 0, 20, 0, 0, 0), (20, .ireturn, 21, 0, 0, 0)]
def smd_X11_barOfDay : smD := (11, yX11_barOfDay, cX11_barOfDay, 1, (some .int), (1, false), (5, 117), smt_X11_barOfDay)
/-- X11_done: method 142 -/
def smt_X11_done : List smI := [(0, .aload_n 0, 1, 0, 0, 0), (1, .invokevirtual 165, 4, 141, 0, 0), (4, .ifCond .ge 6, 7, 10, 0, 0), (7, .bipush (-5), 9, 0, 0, 0), (9, .ireturn, 10, 0, 0, 0), (10, .iconst 0, 11, 0, 0, 0), (11, .istore_n 1, 12, 0, 0, 0), (12, .iload_n 1, 13, 0, 0, 0), (13, .iconst 5, 14, 0, 0, 0), (14, .if_icmp .ge 45, 17, 59, 0, 0), (17, .aload_n 0, 18, 0, 0, 0), (18, .getfield 20, 21, 11, 4, 4), (21, .iload_n 1, 22, 0, 0, 0), (22, .aload_n 0, 23, 0, 0, 0), (23, .getfield 47, 26, 11, 17, 17), (26, .iload_n 1, 27, 0, 0, 0), (27, .iaload, 28, 0, 0, 0), (28, .iastore, 29, 0, 0, 0), (29, .aload_n 0, 30, 0, 0, 0), (30, .getfield 23, 33, 11, 5, 5), (33, .iload_n 1, 34, 0, 0, 0), (34, .aload_n 0, 35, 0, 0, 0), (35, .getfield 50, 38, 11, 18, 18), (38, .iload_n 1, 39, 0, 0, 0), (39, .iaload, 40, 0, 0, 0), (40, .iastore, 41, 0, 0, 0), (41, .aload_n 0, 42, 0, 0, 0), (42, .getfield 26, 45, 11, 6, 6), (45, .iload_n 1, 46, 0, 0, 0), (46, .aload_n 0, 47, 0, 0, 0), (47, .getfield 53, 50, 11, 19, 19), (50, .iload_n 1, 51, 0, 0, 0), (51, .iaload, 52, 0, 0, 0), (52, .iastore, 53, 0, 0, 0), (53, .iinc 1 1, 56, 0, 0, 0), (56, .goto (-44), 59, 12, 0, 0), (59, .iconst 0, 60, 0, 0, 0), (60, .istore_n 1, 61, 0, 0, 0), (61, .iload_n 1, 62, 0, 0, 0), (62, .bipush 9, 64, 0, 0, 0), (64, .if_icmp .ge 33, 67, 97, 0, 0), (67, .aload_n 0, 68, 0, 0, 0), (68, .getfield 29, 71, 11, 7, 7), (71, .iload_n 1, 72, 0, 0, 0), (72, .aload_n 0, 73, 0, 0, 0), (73, .getfield 56, 76, 11, 20, 20), (76, .iload_n 1, 77, 0, 0, 0), (77, .iaload, 78, 0, 0, 0), (78, .iastore, 79, 0, 0, 0), (79, .aload_n 0, 80, 0, 0, 0), (80, .getfield 32, 83, 11, 8, 8), (83, .iload_n 1, 84, 0, 0, 0), (84, .aload_n 0, 85, 0, 0, 0), (85, .getfield 59, 88, 11, 21, 21), (88, .iload_n 1, 89, 0, 0, 0), (89, .iaload, 90, 0, 0, 0), (90, .iastore, 91, 0, 0, 0), (91, .iinc 1 1, 94, 0, 0, 0), (94, .goto (-33), 97, 61, 0, 0), (97, .aload_n 0, 98, 0, 0, 0), (98, .aload_n 0, 99, 0, 0, 0), (99, .getfield 116, 102, 11, 22, 22), (102, .putfield 89, 105, 11, 9, 9), (105, .iconst 0, 106, 0, 0, 0), (106, .istore_n 1, 107, 0, 0, 0), (107, .iload_n 1, 108, 0, 0, 0), (108, .bipush 60, 110, 0, 0, 0), (110, .if_icmp .ge 21, 113, 131, 0, 0), (113, .aload_n 0, 114, 0, 0, 0), (114, .getfield 35, 117, 11, 10, 10), (117, .iload_n 1, 118, 0, 0, 0), (118, .aload_n 0, 119, 0, 0, 0), (119, .getfield 62, 122, 11, 23, 23), (122, .iload_n 1, 123, 0, 0, 0), (123, .iaload, 124, 0, 0, 0), (124, .iastore, 125, 0, 0, 0), (125, .iinc 1 1, 128, 0, 0, 0), (128, .goto (-21), 131, 107, 0, 0), (131, .aload_n 0, 132, 0, 0, 0), (132, .iconst 0, 133, 0, 0, 0), (133, .putfield 109, 136, 11, 15, 15), (136, .aload_n 0, 137, 0, 0, 0), (137, .getfield 142, 140, 11, 27, 27), (140, .ireturn, 141, 0, 0, 0)]
def smd_X11_done : smD := (11, yX11_done, cX11_done, 2, (some .int), (1, false), (6, 137), smt_X11_done)
/-- X11_state: method 143 -/
def smt_X11_state : List smI := [(0, .aload_n 0, 1, 0, 0, 0), (1, .iload_n 1, 2, 0, 0, 0), (2, .invokevirtual 106, 5, 119, 0, 0), (5, .ifCond .ne 5, 8, 10, 0, 0), (8, .iconst (-1), 9, 0, 0, 0), (9, .ireturn, 10, 0, 0, 0), (10, .iload_n 2, 11, 0, 0, 0), (11, .iconst 0, 12, 0, 0, 0), (12, .iconst 2, 13, 0, 0, 0), (13, .invokestatic 81, 16, 115, 0, 0), (16, .ifCond .ne 6, 19, 22, 0, 0), (19, .bipush (-2), 21, 0, 0, 0), (21, .ireturn, 22, 0, 0, 0), (22, .iload_n 2, 23, 0, 0, 0), (23, .ifCond .ne 12, 26, 35, 0, 0), (26, .aload_n 0, 27, 0, 0, 0), (27, .getfield 20, 30, 11, 4, 4), (30, .iload_n 1, 31, 0, 0, 0), (31, .iaload, 32, 0, 0, 0), (32, .goto 23, 35, 55, 0, 0), (35, .iload_n 2, 36, 0, 0, 0), (36, .iconst 1, 37, 0, 0, 0), (37, .if_icmp .ne 12, 40, 49, 0, 0), (40, .aload_n 0, 41, 0, 0, 0), (41, .getfield 23, 44, 11, 5, 5), (44, .iload_n 1, 45, 0, 0, 0), (45, .iaload, 46, 0, 0, 0), (46, .goto 9, 49, 55, 0, 0), (49, .aload_n 0, 50, 0, 0, 0), (50, .getfield 26, 53, 11, 6, 6), (53, .iload_n 1, 54, 0, 0, 0), (54, .iaload, 55, 0, 0, 0), (55, .ireturn, 56, 0, 0, 0)]
def smd_X11_state : smD := (11, yX11_state, cX11_state, 3, (some .int), (3, false), (2, 43), smt_X11_state)
/-- X11_behind: method 144 -/
def smt_X11_behind : List smI := [(0, .aload_n 0, 1, 0, 0, 0), (1, .iload_n 1, 2, 0, 0, 0), (2, .invokevirtual 106, 5, 119, 0, 0), (5, .ifCond .ne 5, 8, 10, 0, 0), (8, .iconst (-1), 9, 0, 0, 0), (9, .ireturn, 10, 0, 0, 0), (10, .iload_n 2, 11, 0, 0, 0), (11, .iconst 0, 12, 0, 0, 0), (12, .iconst 2, 13, 0, 0, 0), (13, .invokestatic 81, 16, 115, 0, 0), (16, .ifCond .ne 6, 19, 22, 0, 0), (19, .bipush (-2), 21, 0, 0, 0), (21, .ireturn, 22, 0, 0, 0), (22, .aload_n 0, 23, 0, 0, 0), (23, .invokevirtual 165, 26, 141, 0, 0), (26, .ifCond .ge 6, 29, 32, 0, 0), (29, .bipush (-5), 31, 0, 0, 0), (31, .ireturn, 32, 0, 0, 0), (32, .iload_n 2, 33, 0, 0, 0), (33, .ifCond .ne 12, 36, 45, 0, 0), (36, .aload_n 0, 37, 0, 0, 0), (37, .getfield 47, 40, 11, 17, 17), (40, .iload_n 1, 41, 0, 0, 0), (41, .iaload, 42, 0, 0, 0), (42, .goto 23, 45, 65, 0, 0), (45, .iload_n 2, 46, 0, 0, 0), (46, .iconst 1, 47, 0, 0, 0), (47, .if_icmp .ne 12, 50, 59, 0, 0), (50, .aload_n 0, 51, 0, 0, 0), (51, .getfield 50, 54, 11, 18, 18), (54, .iload_n 1, 55, 0, 0, 0), (55, .iaload, 56, 0, 0, 0), (56, .goto 9, 59, 65, 0, 0), (59, .aload_n 0, 60, 0, 0, 0), (60, .getfield 53, 63, 11, 19, 19), (63, .iload_n 1, 64, 0, 0, 0), (64, .iaload, 65, 0, 0, 0), (65, .ireturn, 66, 0, 0, 0)]
def smd_X11_behind : smD := (11, yX11_behind, cX11_behind, 3, (some .int), (3, false), (6, 137), smt_X11_behind)
/-- X11_stones: method 145 -/
def smt_X11_stones : List smI := [(0, .aload_n 0, 1, 0, 0, 0), (1, .iload_n 1, 2, 0, 0, 0), (2, .invokevirtual 98, 5, 118, 0, 0), (5, .ifCond .ne 5, 8, 10, 0, 0), (8, .iconst (-1), 9, 0, 0, 0), (9, .ireturn, 10, 0, 0, 0), (10, .iload_n 2, 11, 0, 0, 0), (11, .iconst 0, 12, 0, 0, 0), (12, .iconst 2, 13, 0, 0, 0), (13, .invokestatic 81, 16, 115, 0, 0), (16, .ifCond .ne 6, 19, 22, 0, 0), (19, .bipush (-2), 21, 0, 0, 0), (21, .ireturn, 22, 0, 0, 0), (22, .iconst 0, 23, 0, 0, 0), (23, .istore_n 3, 24, 0, 0, 0), (24, .iconst 0, 25, 0, 0, 0), (25, .istore 4, 27, 0, 0, 0), (27, .iload 4, 29, 0, 0, 0), (29, .aload_n 0, 30, 0, 0, 0), (30, .getfield 89, 33, 11, 9, 9), (33, .if_icmp .ge 30, 36, 63, 0, 0), (36, .iload_n 3, 37, 0, 0, 0), (37, .aload_n 0, 38, 0, 0, 0), (38, .getfield 35, 41, 11, 10, 10), (41, .iconst 5, 42, 0, 0, 0), (42, .iload 4, 44, 0, 0, 0), (44, .imul, 45, 0, 0, 0), (45, .iaload, 46, 0, 0, 0), (46, .iload_n 1, 47, 0, 0, 0), (47, .if_icmp .ne 7, 50, 54, 0, 0), (50, .iconst 1, 51, 0, 0, 0), (51, .goto 4, 54, 55, 0, 0), (54, .iconst 0, 55, 0, 0, 0), (55, .iadd, 56, 0, 0, 0), (56, .istore_n 3, 57, 0, 0, 0), (57, .iinc 4 1, 60, 0, 0, 0), (60, .goto (-33), 63, 27, 0, 0), (63, .iload_n 2, 64, 0, 0, 0), (64, .ifCond .ne 12, 67, 76, 0, 0), (67, .aload_n 0, 68, 0, 0, 0), (68, .getfield 29, 71, 11, 7, 7), (71, .iload_n 1, 72, 0, 0, 0), (72, .iaload, 73, 0, 0, 0), (73, .goto 18, 76, 91, 0, 0), (76, .iload_n 2, 77, 0, 0, 0), (77, .iconst 1, 78, 0, 0, 0), (78, .if_icmp .ne 12, 81, 90, 0, 0), (81, .aload_n 0, 82, 0, 0, 0), (82, .getfield 32, 85, 11, 8, 8), (85, .iload_n 1, 86, 0, 0, 0), (86, .iaload, 87, 0, 0, 0), (87, .goto 4, 90, 91, 0, 0), (90, .iload_n 3, 91, 0, 0, 0), (91, .ireturn, 92, 0, 0, 0)]
def smd_X11_stones : smD := (11, yX11_stones, cX11_stones, 5, (some .int), (3, false), (2, 43), smt_X11_stones)
/-- X11_air: method 146 -/
def smt_X11_air : List smI := [(0, .iload_n 1, 1, 0, 0, 0), (1, .iconst (-1), 2, 0, 0, 0), (2, .if_icmp .ne 8, 5, 10, 0, 0), (5, .aload_n 0, 6, 0, 0, 0), (6, .getfield 89, 9, 11, 9, 9), (9, .ireturn, 10, 0, 0, 0), (10, .iload_n 1, 11, 0, 0, 0), (11, .iconst 0, 12, 0, 0, 0), (12, .aload_n 0, 13, 0, 0, 0), (13, .getfield 89, 16, 11, 9, 9), (16, .iconst 1, 17, 0, 0, 0), (17, .isub, 18, 0, 0, 0), (18, .invokestatic 81, 21, 115, 0, 0), (21, .ifCond .ne 6, 24, 27, 0, 0), (24, .bipush (-6), 26, 0, 0, 0), (26, .ireturn, 27, 0, 0, 0), (27, .aload_n 0, 28, 0, 0, 0), (28, .invokevirtual 139, 31, 129, 0, 0), (31, .bipush 100, 33, 0, 0, 0), (33, .aload_n 0, 34, 0, 0, 0), (34, .getfield 62, 37, 11, 23, 23), (37, .iconst 5, 38, 0, 0, 0), (38, .iload_n 1, 39, 0, 0, 0), (39, .imul, 40, 0, 0, 0), (40, .iaload, 41, 0, 0, 0), (41, .imul, 42, 0, 0, 0), (42, .bipush 10, 44, 0, 0, 0), (44, .aload_n 0, 45, 0, 0, 0), (45, .iload_n 1, 46, 0, 0, 0), (46, .invokevirtual 130, 49, 132, 0, 0), (49, .imul, 50, 0, 0, 0), (50, .iadd, 51, 0, 0, 0), (51, .aload_n 0, 52, 0, 0, 0), (52, .getfield 62, 55, 11, 23, 23), (55, .iconst 5, 56, 0, 0, 0), (56, .iload_n 1, 57, 0, 0, 0), (57, .imul, 58, 0, 0, 0), (58, .iconst 1, 59, 0, 0, 0), (59, .iadd, 60, 0, 0, 0), (60, .iaload, 61, 0, 0, 0), (61, .iadd, 62, 0, 0, 0), (62, .ireturn, 63, 0, 0, 0)]
def smd_X11_air : smD := (11, yX11_air, cX11_air, 2, (some .int), (2, false), (2, 44), smt_X11_air)
/-- X11_standsAt: method 147 -/
def smt_X11_standsAt : List smI := [(0, .bipush (-6), 2, 0, 0, 0), (2, .istore_n 2, 3, 0, 0, 0), (3, .iconst 4, 4, 0, 0, 0), (4, .istore_n 3, 5, 0, 0, 0), (5, .iload_n 3, 6, 0, 0, 0), (6, .ifCond .lt 36, 9, 42, 0, 0), (9, .aload_n 0, 10, 0, 0, 0), (10, .getfield 78, 13, 11, 2, 2), (13, .iload_n 3, 14, 0, 0, 0), (14, .invokestatic 85, 17, 116, 0, 0), (17, .ifCond .eq 17, 20, 34, 0, 0), (20, .aload_n 0, 21, 0, 0, 0), (21, .getfield 20, 24, 11, 4, 4), (24, .iload_n 3, 25, 0, 0, 0), (25, .iaload, 26, 0, 0, 0), (26, .iload_n 1, 27, 0, 0, 0), (27, .if_icmp .ne 7, 30, 34, 0, 0), (30, .iload_n 3, 31, 0, 0, 0), (31, .goto 4, 34, 35, 0, 0), (34, .iload_n 2, 35, 0, 0, 0), (35, .istore_n 2, 36, 0, 0, 0), (36, .iinc 3 (-1), 39, 0, 0, 0), (39, .goto (-34), 42, 5, 0, 0), (42, .iload_n 2, 43, 0, 0, 0), (43, .ireturn, 44, 0, 0, 0)]
def smd_X11_standsAt : smD := (11, yX11_standsAt, cX11_standsAt, 4, (some .int), (2, false), (1, 21), smt_X11_standsAt)
/-- X11_fly: method 148 -/
def smt_X11_fly : List smI := [(0, .iload_n 1, 1, 0, 0, 0), (1, .istore 8, 3, 0, 0, 0), (3, .aload_n 0, 4, 0, 0, 0), (4, .bipush (-6), 6, 0, 0, 0), (6, .putfield 168, 9, 11, 28, 28), (9, .aload_n 0, 10, 0, 0, 0), (10, .iconst 0, 11, 0, 0, 0), (11, .putfield 171, 14, 11, 29, 29), (14, .aload_n 0, 15, 0, 0, 0), (15, .bipush (-6), 17, 0, 0, 0), (17, .putfield 174, 20, 11, 31, 31), (20, .aload_n 0, 21, 0, 0, 0), (21, .getfield 168, 24, 11, 28, 28), (24, .ifCond .ge 176, 27, 200, 0, 0), (27, .aload_n 0, 28, 0, 0, 0), (28, .iload 8, 30, 0, 0, 0), (30, .iload_n 2, 31, 0, 0, 0), (31, .invokevirtual 126, 34, 130, 0, 0), (34, .istore 8, 36, 0, 0, 0), (36, .aload_n 0, 37, 0, 0, 0), (37, .dup, 38, 0, 0, 0), (38, .getfield 171, 41, 11, 29, 29), (41, .iconst 1, 42, 0, 0, 0), (42, .iadd, 43, 0, 0, 0), (43, .putfield 171, 46, 11, 29, 29), (46, .aload_n 0, 47, 0, 0, 0), (47, .getfield 171, 50, 11, 29, 29), (50, .iload_n 3, 51, 0, 0, 0), (51, .iload 4, 53, 0, 0, 0), (53, .invokestatic 122, 56, 131, 0, 0), (56, .istore 9, 58, 0, 0, 0), (58, .iload 8, 60, 0, 0, 0), (60, .iload 6, 62, 0, 0, 0), (62, .if_icmp .ne 20, 65, 82, 0, 0), (65, .iload 7, 67, 0, 0, 0), (67, .aload_n 0, 68, 0, 0, 0), (68, .getfield 13, 71, 11, 1, 1), (71, .iload 8, 73, 0, 0, 0), (73, .iaload, 74, 0, 0, 0), (74, .if_icmp .le 8, 77, 82, 0, 0), (77, .iload 7, 79, 0, 0, 0), (79, .goto 10, 82, 89, 0, 0), (82, .aload_n 0, 83, 0, 0, 0), (83, .getfield 13, 86, 11, 1, 1), (86, .iload 8, 88, 0, 0, 0), (88, .iaload, 89, 0, 0, 0), (89, .istore 10, 91, 0, 0, 0), (91, .iload 9, 93, 0, 0, 0), (93, .iconst 1, 94, 0, 0, 0), (94, .if_icmp .eq 9, 97, 103, 0, 0), (97, .iload 9, 99, 0, 0, 0), (99, .iconst 2, 100, 0, 0, 0), (100, .if_icmp .ne 7, 103, 107, 0, 0), (103, .iconst 1, 104, 0, 0, 0), (104, .goto 4, 107, 108, 0, 0), (107, .iconst 0, 108, 0, 0, 0), (108, .istore 11, 110, 0, 0, 0), (110, .iload 5, 112, 0, 0, 0), (112, .ifCond .ge 17, 115, 129, 0, 0), (115, .iload 11, 117, 0, 0, 0), (117, .ifCond .eq 12, 120, 129, 0, 0), (120, .aload_n 0, 121, 0, 0, 0), (121, .iload 8, 123, 0, 0, 0), (123, .invokevirtual 177, 126, 147, 0, 0), (126, .goto 5, 129, 131, 0, 0), (129, .bipush (-6), 131, 0, 0, 0), (131, .istore 12, 133, 0, 0, 0), (133, .iload 10, 135, 0, 0, 0), (135, .iload 9, 137, 0, 0, 0), (137, .if_icmp .le 11, 140, 148, 0, 0), (140, .aload_n 0, 141, 0, 0, 0), (141, .iconst 1, 142, 0, 0, 0), (142, .putfield 168, 145, 11, 28, 28), (145, .goto 52, 148, 197, 0, 0), (148, .iload 11, 150, 0, 0, 0), (150, .ifCond .eq 37, 153, 187, 0, 0), (153, .iload 12, 155, 0, 0, 0), (155, .ifCond .ge 18, 158, 173, 0, 0), (158, .iload 5, 160, 0, 0, 0), (160, .ifCond .lt 27, 163, 187, 0, 0), (163, .iload 5, 165, 0, 0, 0), (165, .iload 8, 167, 0, 0, 0), (167, .invokestatic 85, 170, 116, 0, 0), (170, .ifCond .eq 17, 173, 187, 0, 0), (173, .aload_n 0, 174, 0, 0, 0), (174, .iconst 2, 175, 0, 0, 0), (175, .putfield 168, 178, 11, 28, 28), (178, .aload_n 0, 179, 0, 0, 0), (179, .iload 12, 181, 0, 0, 0), (181, .putfield 174, 184, 11, 31, 31), (184, .goto 13, 187, 197, 0, 0), (187, .iload 9, 189, 0, 0, 0), (189, .ifCond .ne 8, 192, 197, 0, 0), (192, .aload_n 0, 193, 0, 0, 0), (193, .iconst 0, 194, 0, 0, 0), (194, .putfield 168, 197, 11, 28, 28), (197, .goto (-177), 200, 20, 0, 0), (200, .aload_n 0, 201, 0, 0, 0), (201, .iload 8, 203, 0, 0, 0), (203, .putfield 180, 206, 11, 30, 30), (206, .return_, 207, 0, 0, 0)]
def smd_X11_fly : smD := (11, yX11_fly, cX11_fly, 13, none, (8, false), (2, 44), smt_X11_fly)
/-- X11_isThrow: method 149 -/
def smt_X11_isThrow : List smI := [(0, .iload_n 0, 1, 0, 0, 0), (1, .iconst 0, 2, 0, 0, 0), (2, .iconst 1, 3, 0, 0, 0), (3, .invokestatic 81, 6, 115, 0, 0), (6, .ifCond .eq 26, 9, 32, 0, 0), (9, .iload_n 1, 10, 0, 0, 0), (10, .iconst 1, 11, 0, 0, 0), (11, .bipush 36, 13, 0, 0, 0), (13, .invokestatic 81, 16, 115, 0, 0), (16, .ifCond .eq 16, 19, 32, 0, 0), (19, .iload_n 2, 20, 0, 0, 0), (20, .iconst 1, 21, 0, 0, 0), (21, .iconst 5, 22, 0, 0, 0), (22, .invokestatic 81, 25, 115, 0, 0), (25, .ifCond .eq 7, 28, 32, 0, 0), (28, .iconst 1, 29, 0, 0, 0), (29, .goto 4, 32, 33, 0, 0), (32, .iconst 0, 33, 0, 0, 0), (33, .ireturn, 34, 0, 0, 0)]
def smd_X11_isThrow : smD := (11, yX11_isThrow, cX11_isThrow, 3, (some .boolean), (3, true), (1, 22), smt_X11_isThrow)
/-- X11_flyFrom: method 150 -/
def smt_X11_flyFrom : List smI := [(0, .aload_n 0, 1, 0, 0, 0), (1, .aload_n 0, 2, 0, 0, 0), (2, .getfield 20, 5, 11, 4, 4), (5, .iload_n 1, 6, 0, 0, 0), (6, .iaload, 7, 0, 0, 0), (7, .iload_n 2, 8, 0, 0, 0), (8, .iload_n 3, 9, 0, 0, 0), (9, .iload 4, 11, 0, 0, 0), (11, .iconst (-1), 12, 0, 0, 0), (12, .bipush (-6), 14, 0, 0, 0), (14, .iconst 0, 15, 0, 0, 0), (15, .invokevirtual 183, 18, 148, 0, 0), (18, .return_, 19, 0, 0, 0)]
def smd_X11_flyFrom : smD := (11, yX11_flyFrom, cX11_flyFrom, 5, none, (5, false), (3, 76), smt_X11_flyFrom)
/-- X11_flight: method 151 -/
def smt_X11_flight : List smI := [(0, .aload_n 0, 1, 0, 0, 0), (1, .iload_n 1, 2, 0, 0, 0), (2, .invokevirtual 106, 5, 119, 0, 0), (5, .ifCond .ne 5, 8, 10, 0, 0), (8, .iconst (-1), 9, 0, 0, 0), (9, .ireturn, 10, 0, 0, 0), (10, .iload_n 2, 11, 0, 0, 0), (11, .iload_n 3, 12, 0, 0, 0), (12, .iload 4, 14, 0, 0, 0), (14, .invokestatic 187, 17, 149, 0, 0), (17, .ifCond .eq 13, 20, 30, 0, 0), (20, .iload 5, 22, 0, 0, 0), (22, .iconst 0, 23, 0, 0, 0), (23, .iconst 3, 24, 0, 0, 0), (24, .invokestatic 81, 27, 115, 0, 0), (27, .ifCond .ne 6, 30, 33, 0, 0), (30, .bipush (-2), 32, 0, 0, 0), (32, .ireturn, 33, 0, 0, 0), (33, .aload_n 0, 34, 0, 0, 0), (34, .iload_n 1, 35, 0, 0, 0), (35, .iload_n 2, 36, 0, 0, 0), (36, .iload_n 3, 37, 0, 0, 0), (37, .iload 4, 39, 0, 0, 0), (39, .invokevirtual 190, 42, 150, 0, 0), (42, .iload 5, 44, 0, 0, 0), (44, .ifCond .ne 10, 47, 54, 0, 0), (47, .aload_n 0, 48, 0, 0, 0), (48, .getfield 168, 51, 11, 28, 28), (51, .goto 33, 54, 84, 0, 0), (54, .iload 5, 56, 0, 0, 0), (56, .iconst 1, 57, 0, 0, 0), (57, .if_icmp .ne 10, 60, 67, 0, 0), (60, .aload_n 0, 61, 0, 0, 0), (61, .getfield 171, 64, 11, 29, 29), (64, .goto 20, 67, 84, 0, 0), (67, .iload 5, 69, 0, 0, 0), (69, .iconst 2, 70, 0, 0, 0), (70, .if_icmp .ne 10, 73, 80, 0, 0), (73, .aload_n 0, 74, 0, 0, 0), (74, .getfield 180, 77, 11, 30, 30), (77, .goto 7, 80, 84, 0, 0), (80, .aload_n 0, 81, 0, 0, 0), (81, .getfield 174, 84, 11, 31, 31), (84, .ireturn, 85, 0, 0, 0)]
def smd_X11_flight : smD := (11, yX11_flight, cX11_flight, 6, (some .int), (6, false), (4, 100), smt_X11_flight)
/-- X11_gets: method 152 -/
def smt_X11_gets : List smI := [(0, .aload_n 0, 1, 0, 0, 0), (1, .iload_n 1, 2, 0, 0, 0), (2, .invokevirtual 106, 5, 119, 0, 0), (5, .ifCond .eq 11, 8, 16, 0, 0), (8, .aload_n 0, 9, 0, 0, 0), (9, .iload_n 2, 10, 0, 0, 0), (10, .invokevirtual 106, 13, 119, 0, 0), (13, .ifCond .ne 5, 16, 18, 0, 0), (16, .iconst (-1), 17, 0, 0, 0), (17, .ireturn, 18, 0, 0, 0), (18, .iload_n 3, 19, 0, 0, 0), (19, .iconst 0, 20, 0, 0, 0), (20, .iconst 4, 21, 0, 0, 0), (21, .invokestatic 81, 24, 115, 0, 0), (24, .ifCond .ne 6, 27, 30, 0, 0), (27, .bipush (-2), 29, 0, 0, 0), (29, .ireturn, 30, 0, 0, 0), (30, .iconst 0, 31, 0, 0, 0), (31, .istore 4, 33, 0, 0, 0), (33, .ldc 193, 35, 1000000, 0, 1000000), (35, .istore 5, 37, 0, 0, 0), (37, .ldc 193, 39, 1000000, 0, 1000000), (39, .istore 6, 41, 0, 0, 0), (41, .iconst 1, 42, 0, 0, 0), (42, .istore 7, 44, 0, 0, 0), (44, .iload 7, 46, 0, 0, 0), (46, .aload_n 0, 47, 0, 0, 0), (47, .getfield 17, 50, 11, 3, 3), (50, .iload_n 1, 51, 0, 0, 0), (51, .iaload, 52, 0, 0, 0), (52, .if_icmp .gt 147, 55, 199, 0, 0), (55, .iconst 0, 56, 0, 0, 0), (56, .istore 8, 58, 0, 0, 0), (58, .iload 8, 60, 0, 0, 0), (60, .bipush 10, 62, 0, 0, 0), (62, .if_icmp .ge 131, 65, 193, 0, 0), (65, .iload 8, 67, 0, 0, 0), (67, .iconst 5, 68, 0, 0, 0), (68, .idiv, 69, 0, 0, 0), (69, .istore 9, 71, 0, 0, 0), (71, .iload 8, 73, 0, 0, 0), (73, .iconst 5, 74, 0, 0, 0), (74, .irem, 75, 0, 0, 0), (75, .iconst 1, 76, 0, 0, 0), (76, .iadd, 77, 0, 0, 0), (77, .istore 10, 79, 0, 0, 0), (79, .aload_n 0, 80, 0, 0, 0), (80, .iload_n 1, 81, 0, 0, 0), (81, .iload 9, 83, 0, 0, 0), (83, .iload 7, 85, 0, 0, 0), (85, .iload 10, 87, 0, 0, 0), (87, .invokevirtual 190, 90, 150, 0, 0), (90, .aload_n 0, 91, 0, 0, 0), (91, .getfield 168, 94, 11, 28, 28), (94, .iconst 2, 95, 0, 0, 0), (95, .if_icmp .ne 92, 98, 187, 0, 0), (98, .aload_n 0, 99, 0, 0, 0), (99, .getfield 174, 102, 11, 31, 31), (102, .iload_n 2, 103, 0, 0, 0), (103, .if_icmp .ne 84, 106, 187, 0, 0), (106, .aload_n 0, 107, 0, 0, 0), (107, .getfield 171, 110, 11, 29, 29), (110, .bipush 10, 112, 0, 0, 0), (112, .imul, 113, 0, 0, 0), (113, .iload 10, 115, 0, 0, 0), (115, .iadd, 116, 0, 0, 0), (116, .bipush 40, 118, 0, 0, 0), (118, .imul, 119, 0, 0, 0), (119, .iload 7, 121, 0, 0, 0), (121, .iadd, 122, 0, 0, 0), (122, .iconst 2, 123, 0, 0, 0), (123, .imul, 124, 0, 0, 0), (124, .iload 9, 126, 0, 0, 0), (126, .iadd, 127, 0, 0, 0), (127, .istore 11, 129, 0, 0, 0), (129, .iload 10, 131, 0, 0, 0), (131, .bipush 40, 133, 0, 0, 0), (133, .imul, 134, 0, 0, 0), (134, .aload_n 0, 135, 0, 0, 0), (135, .getfield 171, 138, 11, 29, 29), (138, .iadd, 139, 0, 0, 0), (139, .bipush 40, 141, 0, 0, 0), (141, .imul, 142, 0, 0, 0), (142, .iload 7, 144, 0, 0, 0), (144, .iadd, 145, 0, 0, 0), (145, .iconst 2, 146, 0, 0, 0), (146, .imul, 147, 0, 0, 0), (147, .iload 9, 149, 0, 0, 0), (149, .iadd, 150, 0, 0, 0), (150, .istore 12, 152, 0, 0, 0), (152, .iload 11, 154, 0, 0, 0), (154, .iload 5, 156, 0, 0, 0), (156, .if_icmp .ge 8, 159, 164, 0, 0), (159, .iload 11, 161, 0, 0, 0), (161, .goto 5, 164, 166, 0, 0), (164, .iload 5, 166, 0, 0, 0), (166, .istore 5, 168, 0, 0, 0), (168, .iload 12, 170, 0, 0, 0), (170, .iload 6, 172, 0, 0, 0), (172, .if_icmp .ge 8, 175, 180, 0, 0), (175, .iload 12, 177, 0, 0, 0), (177, .goto 5, 180, 182, 0, 0), (180, .iload 6, 182, 0, 0, 0), (182, .istore 6, 184, 0, 0, 0), (184, .iinc 4 1, 187, 0, 0, 0), (187, .iinc 8 1, 190, 0, 0, 0), (190, .goto (-132), 193, 58, 0, 0), (193, .iinc 7 1, 196, 0, 0, 0), (196, .goto (-152), 199, 44, 0, 0), (199, .iload_n 3, 200, 0, 0, 0), (200, .ifCond .eq 8, 203, 208, 0, 0), (203, .iload 4, 205, 0, 0, 0), (205, .ifCond .ne 15, 208, 220, 0, 0), (208, .iload_n 3, 209, 0, 0, 0), (209, .ifCond .ne 8, 212, 217, 0, 0), (212, .iload 4, 214, 0, 0, 0), (214, .goto 5, 217, 219, 0, 0), (217, .bipush (-6), 219, 0, 0, 0), (219, .ireturn, 220, 0, 0, 0), (220, .iload_n 3, 221, 0, 0, 0), (221, .iconst 3, 222, 0, 0, 0), (222, .if_icmp .ge 8, 225, 230, 0, 0), (225, .iload 5, 227, 0, 0, 0), (227, .goto 5, 230, 232, 0, 0), (230, .iload 6, 232, 0, 0, 0), (232, .iconst 2, 233, 0, 0, 0), (233, .idiv, 234, 0, 0, 0), (234, .bipush 40, 236, 0, 0, 0), (236, .irem, 237, 0, 0, 0), (237, .istore 7, 239, 0, 0, 0), (239, .iload_n 3, 240, 0, 0, 0), (240, .iconst 3, 241, 0, 0, 0), (241, .if_icmp .ge 8, 244, 249, 0, 0), (244, .iload 5, 246, 0, 0, 0), (246, .goto 5, 249, 251, 0, 0), (249, .iload 6, 251, 0, 0, 0), (251, .iconst 2, 252, 0, 0, 0), (252, .irem, 253, 0, 0, 0), (253, .istore 8, 255, 0, 0, 0), (255, .iload_n 3, 256, 0, 0, 0), (256, .tableswitch 77 1 3 #[28, 50, 57], 284, 0, 28, 0), (284, .sipush 1000, 287, 0, 0, 0), (287, .iload 8, 289, 0, 0, 0), (289, .imul, 290, 0, 0, 0), (290, .bipush 10, 292, 0, 0, 0), (292, .iload 7, 294, 0, 0, 0), (294, .imul, 295, 0, 0, 0), (295, .iadd, 296, 0, 0, 0), (296, .iload 5, 298, 0, 0, 0), (298, .bipush 80, 300, 0, 0, 0), (300, .idiv, 301, 0, 0, 0), (301, .bipush 10, 303, 0, 0, 0), (303, .irem, 304, 0, 0, 0), (304, .iadd, 305, 0, 0, 0), (305, .ireturn, 306, 0, 0, 0), (306, .iload 5, 308, 0, 0, 0), (308, .sipush 800, 311, 0, 0, 0), (311, .idiv, 312, 0, 0, 0), (312, .ireturn, 313, 0, 0, 0), (313, .sipush 1000, 316, 0, 0, 0), (316, .iload 8, 318, 0, 0, 0), (318, .imul, 319, 0, 0, 0), (319, .bipush 10, 321, 0, 0, 0), (321, .iload 7, 323, 0, 0, 0), (323, .imul, 324, 0, 0, 0), (324, .iadd, 325, 0, 0, 0), (325, .iload 6, 327, 0, 0, 0), (327, .sipush 3200, 330, 0, 0, 0), (330, .idiv, 331, 0, 0, 0), (331, .iadd, 332, 0, 0, 0), (332, .ireturn, 333, 0, 0, 0), (333, .iload 6, 335, 0, 0, 0), (335, .bipush 80, 337, 0, 0, 0), (337, .idiv, 338, 0, 0, 0), (338, .bipush 40, 340, 0, 0, 0), (340, .irem, 341, 0, 0, 0), (341, .ireturn, 342, 0, 0, 0)]
def smd_X11_gets : smD := (11, yX11_gets, cX11_gets, 13, (some .int), (4, false), (4, 100), smt_X11_gets)
/-- X11_round: method 153 -/
def smt_X11_round : List smI := [(0, .aload_n 0, 1, 0, 0, 0), (1, .iload_n 1, 2, 0, 0, 0), (2, .invokevirtual 106, 5, 119, 0, 0), (5, .ifCond .ne 5, 8, 10, 0, 0), (8, .iconst (-1), 9, 0, 0, 0), (9, .ireturn, 10, 0, 0, 0), (10, .iconst 1, 11, 0, 0, 0), (11, .istore_n 2, 12, 0, 0, 0), (12, .iload_n 2, 13, 0, 0, 0), (13, .bipush 37, 15, 0, 0, 0), (15, .if_icmp .ge 66, 18, 81, 0, 0), (18, .iconst 0, 19, 0, 0, 0), (19, .istore_n 3, 20, 0, 0, 0), (20, .iload_n 3, 21, 0, 0, 0), (21, .bipush 10, 23, 0, 0, 0), (23, .if_icmp .ge 52, 26, 75, 0, 0), (26, .aload_n 0, 27, 0, 0, 0), (27, .iload_n 1, 28, 0, 0, 0), (28, .iload_n 3, 29, 0, 0, 0), (29, .iconst 5, 30, 0, 0, 0), (30, .idiv, 31, 0, 0, 0), (31, .iload_n 2, 32, 0, 0, 0), (32, .iload_n 3, 33, 0, 0, 0), (33, .iconst 5, 34, 0, 0, 0), (34, .irem, 35, 0, 0, 0), (35, .iconst 1, 36, 0, 0, 0), (36, .iadd, 37, 0, 0, 0), (37, .invokevirtual 190, 40, 150, 0, 0), (40, .aload_n 0, 41, 0, 0, 0), (41, .getfield 168, 44, 11, 28, 28), (44, .iconst 2, 45, 0, 0, 0), (45, .if_icmp .ne 24, 48, 69, 0, 0), (48, .aload_n 0, 49, 0, 0, 0), (49, .getfield 174, 52, 11, 31, 31), (52, .iload_n 1, 53, 0, 0, 0), (53, .if_icmp .ne 16, 56, 69, 0, 0), (56, .aload_n 0, 57, 0, 0, 0), (57, .getfield 171, 60, 11, 29, 29), (60, .aload_n 0, 61, 0, 0, 0), (61, .getfield 7, 64, 11, 0, 0), (64, .if_icmp .ne 5, 67, 69, 0, 0), (67, .iload_n 2, 68, 0, 0, 0), (68, .ireturn, 69, 0, 0, 0), (69, .iinc 3 1, 72, 0, 0, 0), (72, .goto (-52), 75, 20, 0, 0), (75, .iinc 2 1, 78, 0, 0, 0), (78, .goto (-66), 81, 12, 0, 0), (81, .bipush (-6), 83, 0, 0, 0), (83, .ireturn, 84, 0, 0, 0)]
def smd_X11_round : smD := (11, yX11_round, cX11_round, 4, (some .int), (2, false), (4, 100), smt_X11_round)
/-- X11_isCaught: method 154 -/
def smt_X11_isCaught : List smI := [(0, .iconst 0, 1, 0, 0, 0), (1, .istore 5, 3, 0, 0, 0), (3, .iconst 1, 4, 0, 0, 0), (4, .istore 6, 6, 0, 0, 0), (6, .iload 6, 8, 0, 0, 0), (8, .aload_n 0, 9, 0, 0, 0), (9, .getfield 17, 12, 11, 3, 3), (12, .iload_n 1, 13, 0, 0, 0), (13, .iaload, 14, 0, 0, 0), (14, .if_icmp .gt 84, 17, 98, 0, 0), (17, .iload 5, 19, 0, 0, 0), (19, .ifCond .ne 79, 22, 98, 0, 0), (22, .iconst 0, 23, 0, 0, 0), (23, .istore 7, 25, 0, 0, 0), (25, .iload 7, 27, 0, 0, 0), (27, .bipush 10, 29, 0, 0, 0), (29, .if_icmp .ge 63, 32, 92, 0, 0), (32, .iload 5, 34, 0, 0, 0), (34, .ifCond .ne 58, 37, 92, 0, 0), (37, .aload_n 0, 38, 0, 0, 0), (38, .aload_n 0, 39, 0, 0, 0), (39, .getfield 20, 42, 11, 4, 4), (42, .iload_n 1, 43, 0, 0, 0), (43, .iaload, 44, 0, 0, 0), (44, .iload 7, 46, 0, 0, 0), (46, .iconst 5, 47, 0, 0, 0), (47, .idiv, 48, 0, 0, 0), (48, .iload 6, 50, 0, 0, 0), (50, .iload 7, 52, 0, 0, 0), (52, .iconst 5, 53, 0, 0, 0), (53, .irem, 54, 0, 0, 0), (54, .iconst 1, 55, 0, 0, 0), (55, .iadd, 56, 0, 0, 0), (56, .iconst (-1), 57, 0, 0, 0), (57, .iload_n 3, 58, 0, 0, 0), (58, .iload 4, 60, 0, 0, 0), (60, .invokevirtual 183, 63, 148, 0, 0), (63, .aload_n 0, 64, 0, 0, 0), (64, .getfield 168, 67, 11, 28, 28), (67, .iconst 2, 68, 0, 0, 0), (68, .if_icmp .ne 15, 71, 83, 0, 0), (71, .aload_n 0, 72, 0, 0, 0), (72, .getfield 174, 75, 11, 31, 31), (75, .iload_n 2, 76, 0, 0, 0), (76, .if_icmp .ne 7, 79, 83, 0, 0), (79, .iconst 1, 80, 0, 0, 0), (80, .goto 4, 83, 84, 0, 0), (83, .iconst 0, 84, 0, 0, 0), (84, .istore 5, 86, 0, 0, 0), (86, .iinc 7 1, 89, 0, 0, 0), (89, .goto (-64), 92, 25, 0, 0), (92, .iinc 6 1, 95, 0, 0, 0), (95, .goto (-89), 98, 6, 0, 0), (98, .iload 5, 100, 0, 0, 0), (100, .ireturn, 101, 0, 0, 0)]
def smd_X11_isCaught : smD := (11, yX11_isCaught, cX11_isCaught, 8, (some .boolean), (5, false), (3, 76), smt_X11_isCaught)
/-- X11_keptOff: method 155 -/
def smt_X11_keptOff : List smI := [(0, .aload_n 0, 1, 0, 0, 0), (1, .iload_n 1, 2, 0, 0, 0), (2, .invokevirtual 106, 5, 119, 0, 0), (5, .ifCond .eq 11, 8, 16, 0, 0), (8, .aload_n 0, 9, 0, 0, 0), (9, .iload_n 2, 10, 0, 0, 0), (10, .invokevirtual 106, 13, 119, 0, 0), (13, .ifCond .ne 5, 16, 18, 0, 0), (16, .iconst (-1), 17, 0, 0, 0), (17, .ireturn, 18, 0, 0, 0), (18, .iload_n 3, 19, 0, 0, 0), (19, .iconst 0, 20, 0, 0, 0), (20, .iconst 1, 21, 0, 0, 0), (21, .invokestatic 81, 24, 115, 0, 0), (24, .ifCond .ne 6, 27, 30, 0, 0), (27, .bipush (-2), 29, 0, 0, 0), (29, .ireturn, 30, 0, 0, 0), (30, .aload_n 0, 31, 0, 0, 0), (31, .iload_n 1, 32, 0, 0, 0), (32, .iload_n 2, 33, 0, 0, 0), (33, .bipush (-6), 35, 0, 0, 0), (35, .iconst 0, 36, 0, 0, 0), (36, .invokevirtual 194, 39, 154, 0, 0), (39, .ifCond .ne 14, 42, 53, 0, 0), (42, .iload_n 3, 43, 0, 0, 0), (43, .ifCond .ne 7, 46, 50, 0, 0), (46, .iconst 0, 47, 0, 0, 0), (47, .goto 5, 50, 52, 0, 0), (50, .bipush (-6), 52, 0, 0, 0), (52, .ireturn, 53, 0, 0, 0), (53, .iconst 1, 54, 0, 0, 0), (54, .istore 4, 56, 0, 0, 0), (56, .iload 4, 58, 0, 0, 0), (58, .bipush 6, 60, 0, 0, 0), (60, .if_icmp .ge 52, 63, 112, 0, 0), (63, .iconst 0, 64, 0, 0, 0), (64, .istore 5, 66, 0, 0, 0), (66, .iload 5, 68, 0, 0, 0), (68, .aload_n 0, 69, 0, 0, 0), (69, .getfield 7, 72, 11, 0, 0), (72, .if_icmp .ge 34, 75, 106, 0, 0), (75, .aload_n 0, 76, 0, 0, 0), (76, .iload_n 1, 77, 0, 0, 0), (77, .iload_n 2, 78, 0, 0, 0), (78, .iload 5, 80, 0, 0, 0), (80, .iload 4, 82, 0, 0, 0), (82, .invokevirtual 194, 85, 154, 0, 0), (85, .ifCond .ne 15, 88, 100, 0, 0), (88, .iload_n 3, 89, 0, 0, 0), (89, .ifCond .ne 8, 92, 97, 0, 0), (92, .iload 4, 94, 0, 0, 0), (94, .goto 5, 97, 99, 0, 0), (97, .iload 5, 99, 0, 0, 0), (99, .ireturn, 100, 0, 0, 0), (100, .iinc 5 1, 103, 0, 0, 0), (103, .goto (-37), 106, 66, 0, 0), (106, .iinc 4 1, 109, 0, 0, 0), (109, .goto (-53), 112, 56, 0, 0), (112, .bipush (-6), 114, 0, 0, 0), (114, .ireturn, 115, 0, 0, 0)]
def smd_X11_keptOff : smD := (11, yX11_keptOff, cX11_keptOff, 6, (some .int), (4, false), (4, 103), smt_X11_keptOff)
/-- X11_laid: method 156 -/
def smt_X11_laid : List smI := [(0, .iconst 0, 1, 0, 0, 0), (1, .istore_n 1, 2, 0, 0, 0), (2, .iconst 1, 3, 0, 0, 0), (3, .istore_n 2, 4, 0, 0, 0), (4, .iconst 0, 5, 0, 0, 0), (5, .istore_n 3, 6, 0, 0, 0), (6, .iload_n 3, 7, 0, 0, 0), (7, .iconst 5, 8, 0, 0, 0), (8, .if_icmp .ge 65, 11, 73, 0, 0), (11, .aload_n 0, 12, 0, 0, 0), (12, .getfield 78, 15, 11, 2, 2), (15, .iload_n 3, 16, 0, 0, 0), (16, .invokestatic 85, 19, 116, 0, 0), (19, .ifCond .eq 16, 22, 35, 0, 0), (22, .aload_n 0, 23, 0, 0, 0), (23, .getfield 23, 26, 11, 5, 5), (26, .iload_n 3, 27, 0, 0, 0), (27, .iaload, 28, 0, 0, 0), (28, .ifCond .ne 7, 31, 35, 0, 0), (31, .iconst 1, 32, 0, 0, 0), (32, .goto 4, 35, 36, 0, 0), (35, .iconst 0, 36, 0, 0, 0), (36, .istore 4, 38, 0, 0, 0), (38, .iload_n 1, 39, 0, 0, 0), (39, .iload 4, 41, 0, 0, 0), (41, .ifCond .eq 7, 44, 48, 0, 0), (44, .iconst 1, 45, 0, 0, 0), (45, .goto 4, 48, 49, 0, 0), (48, .iconst 0, 49, 0, 0, 0), (49, .iadd, 50, 0, 0, 0), (50, .istore_n 1, 51, 0, 0, 0), (51, .iload_n 2, 52, 0, 0, 0), (52, .iload 4, 54, 0, 0, 0), (54, .ifCond .eq 10, 57, 64, 0, 0), (57, .aload_n 0, 58, 0, 0, 0), (58, .getfield 7, 61, 11, 0, 0), (61, .goto 4, 64, 65, 0, 0), (64, .iconst 1, 65, 0, 0, 0), (65, .imul, 66, 0, 0, 0), (66, .istore_n 2, 67, 0, 0, 0), (67, .iinc 3 1, 70, 0, 0, 0), (70, .goto (-64), 73, 6, 0, 0), (73, .bipush (-6), 75, 0, 0, 0), (75, .istore_n 3, 76, 0, 0, 0), (76, .iconst 0, 77, 0, 0, 0), (77, .istore 4, 79, 0, 0, 0), (79, .iload 4, 81, 0, 0, 0), (81, .iload_n 2, 82, 0, 0, 0), (82, .if_icmp .ge 225, 85, 307, 0, 0), (85, .iconst 0, 86, 0, 0, 0), (86, .istore 5, 88, 0, 0, 0), (88, .iload 5, 90, 0, 0, 0), (90, .bipush 9, 92, 0, 0, 0), (92, .if_icmp .ge 23, 95, 115, 0, 0), (95, .aload_n 0, 96, 0, 0, 0), (96, .getfield 69, 99, 11, 32, 32), (99, .iload 5, 101, 0, 0, 0), (101, .aload_n 0, 102, 0, 0, 0), (102, .getfield 29, 105, 11, 7, 7), (105, .iload 5, 107, 0, 0, 0), (107, .iaload, 108, 0, 0, 0), (108, .iastore, 109, 0, 0, 0), (109, .iinc 5 1, 112, 0, 0, 0), (112, .goto (-24), 115, 88, 0, 0), (115, .iload 4, 117, 0, 0, 0), (117, .istore 5, 119, 0, 0, 0), (119, .iconst 0, 120, 0, 0, 0), (120, .istore 6, 122, 0, 0, 0), (122, .iconst 1, 123, 0, 0, 0), (123, .istore 7, 125, 0, 0, 0), (125, .iconst 0, 126, 0, 0, 0), (126, .istore 8, 128, 0, 0, 0), (128, .iload 8, 130, 0, 0, 0), (130, .iconst 5, 131, 0, 0, 0), (131, .if_icmp .ge 148, 134, 279, 0, 0), (134, .aload_n 0, 135, 0, 0, 0), (135, .getfield 78, 138, 11, 2, 2), (138, .iload 8, 140, 0, 0, 0), (140, .invokestatic 85, 143, 116, 0, 0), (143, .ifCond .eq 130, 146, 273, 0, 0), (146, .aload_n 0, 147, 0, 0, 0), (147, .getfield 23, 150, 11, 5, 5), (150, .iload 8, 152, 0, 0, 0), (152, .iaload, 153, 0, 0, 0), (153, .ifCond .ne 120, 156, 273, 0, 0), (156, .iload 5, 158, 0, 0, 0), (158, .aload_n 0, 159, 0, 0, 0), (159, .getfield 7, 162, 11, 0, 0), (162, .irem, 163, 0, 0, 0), (163, .istore 9, 165, 0, 0, 0), (165, .iload 5, 167, 0, 0, 0), (167, .aload_n 0, 168, 0, 0, 0), (168, .getfield 7, 171, 11, 0, 0), (171, .idiv, 172, 0, 0, 0), (172, .istore 5, 174, 0, 0, 0), (174, .iload 9, 176, 0, 0, 0), (176, .aload_n 0, 177, 0, 0, 0), (177, .getfield 20, 180, 11, 4, 4), (180, .iload 8, 182, 0, 0, 0), (182, .iaload, 183, 0, 0, 0), (183, .if_icmp .le 16, 186, 199, 0, 0), (186, .iload 9, 188, 0, 0, 0), (188, .aload_n 0, 189, 0, 0, 0), (189, .getfield 20, 192, 11, 4, 4), (192, .iload 8, 194, 0, 0, 0), (194, .iaload, 195, 0, 0, 0), (195, .isub, 196, 0, 0, 0), (196, .goto 13, 199, 209, 0, 0), (199, .aload_n 0, 200, 0, 0, 0), (200, .getfield 20, 203, 11, 4, 4), (203, .iload 8, 205, 0, 0, 0), (205, .iaload, 206, 0, 0, 0), (206, .iload 9, 208, 0, 0, 0), (208, .isub, 209, 0, 0, 0), (209, .istore 10, 211, 0, 0, 0), (211, .iload 6, 213, 0, 0, 0), (213, .iload 10, 215, 0, 0, 0), (215, .aload_n 0, 216, 0, 0, 0), (216, .getfield 7, 219, 11, 0, 0), (219, .iload 10, 221, 0, 0, 0), (221, .isub, 222, 0, 0, 0), (222, .if_icmp .ge 8, 225, 230, 0, 0), (225, .iload 10, 227, 0, 0, 0), (227, .goto 10, 230, 237, 0, 0), (230, .aload_n 0, 231, 0, 0, 0), (231, .getfield 7, 234, 11, 0, 0), (234, .iload 10, 236, 0, 0, 0), (236, .isub, 237, 0, 0, 0), (237, .iadd, 238, 0, 0, 0), (238, .istore 6, 240, 0, 0, 0), (240, .aload_n 0, 241, 0, 0, 0), (241, .getfield 69, 244, 11, 32, 32), (244, .iload 9, 246, 0, 0, 0), (246, .dup2, 247, 0, 0, 0), (247, .iaload, 248, 0, 0, 0), (248, .iconst 1, 249, 0, 0, 0), (249, .isub, 250, 0, 0, 0), (250, .iastore, 251, 0, 0, 0), (251, .iload 7, 253, 0, 0, 0), (253, .ifCond .eq 17, 256, 270, 0, 0), (256, .aload_n 0, 257, 0, 0, 0), (257, .getfield 69, 260, 11, 32, 32), (260, .iload 9, 262, 0, 0, 0), (262, .iaload, 263, 0, 0, 0), (263, .ifCond .lt 7, 266, 270, 0, 0), (266, .iconst 1, 267, 0, 0, 0), (267, .goto 4, 270, 271, 0, 0), (270, .iconst 0, 271, 0, 0, 0), (271, .istore 7, 273, 0, 0, 0), (273, .iinc 8 1, 276, 0, 0, 0), (276, .goto (-148), 279, 128, 0, 0), (279, .iload 7, 281, 0, 0, 0), (281, .ifCond .eq 18, 284, 299, 0, 0), (284, .iload_n 3, 285, 0, 0, 0), (285, .ifCond .lt 9, 288, 294, 0, 0), (288, .iload 6, 290, 0, 0, 0), (290, .iload_n 3, 291, 0, 0, 0), (291, .if_icmp .ge 8, 294, 299, 0, 0), (294, .iload 6, 296, 0, 0, 0), (296, .goto 4, 299, 300, 0, 0), (299, .iload_n 3, 300, 0, 0, 0), (300, .istore_n 3, 301, 0, 0, 0), (301, .iinc 4 1, 304, 0, 0, 0), (304, .goto (-225), 307, 79, 0, 0), (307, .iload_n 3, 308, 0, 0, 0), (308, .ireturn, 309, 0, 0, 0)]
def smd_X11_laid : smD := (11, yX11_laid, cX11_laid, 11, (some .int), (1, false), (1, 21), smt_X11_laid)
/-- X11_isListed: method 157 -/
def smt_X11_isListed : List smI := [(0, .iload_n 1, 1, 0, 0, 0), (1, .iconst 0, 2, 0, 0, 0), (2, .iconst 5, 3, 0, 0, 0), (3, .invokestatic 81, 6, 115, 0, 0), (6, .ifCond .eq 18, 9, 24, 0, 0), (9, .aload_n 0, 10, 0, 0, 0), (10, .getfield 92, 13, 11, 11, 11), (13, .iload_n 1, 14, 0, 0, 0), (14, .invokestatic 85, 17, 116, 0, 0), (17, .ifCond .eq 7, 20, 24, 0, 0), (20, .iconst 1, 21, 0, 0, 0), (21, .goto 4, 24, 25, 0, 0), (24, .iconst 0, 25, 0, 0, 0), (25, .ireturn, 26, 0, 0, 0)]
def smd_X11_isListed : smD := (11, yX11_isListed, cX11_isListed, 2, (some .boolean), (2, false), (1, 22), smt_X11_isListed)
/-- X11_list: method 158 -/
def smt_X11_list : List smI := [(0, .iload_n 1, 1, 0, 0, 0), (1, .iconst 0, 2, 0, 0, 0), (2, .iconst 5, 3, 0, 0, 0), (3, .invokestatic 81, 6, 115, 0, 0), (6, .ifCond .eq 11, 9, 17, 0, 0), (9, .aload_n 0, 10, 0, 0, 0), (10, .iload_n 2, 11, 0, 0, 0), (11, .invokevirtual 106, 14, 119, 0, 0), (14, .ifCond .ne 5, 17, 19, 0, 0), (17, .iconst (-1), 18, 0, 0, 0), (18, .ireturn, 19, 0, 0, 0), (19, .iload_n 3, 20, 0, 0, 0), (20, .iload 4, 22, 0, 0, 0), (22, .iload 5, 24, 0, 0, 0), (24, .invokestatic 187, 27, 149, 0, 0), (27, .ifCond .eq 25, 30, 52, 0, 0), (30, .iload 6, 32, 0, 0, 0), (32, .iconst 0, 33, 0, 0, 0), (33, .bipush 99, 35, 0, 0, 0), (35, .invokestatic 81, 38, 115, 0, 0), (38, .ifCond .eq 14, 41, 52, 0, 0), (41, .iload 7, 43, 0, 0, 0), (43, .iconst 0, 44, 0, 0, 0), (44, .bipush 20, 46, 0, 0, 0), (46, .invokestatic 81, 49, 115, 0, 0), (49, .ifCond .ne 6, 52, 55, 0, 0), (52, .bipush (-2), 54, 0, 0, 0), (54, .ireturn, 55, 0, 0, 0), (55, .aload_n 0, 56, 0, 0, 0), (56, .dup, 57, 0, 0, 0), (57, .getfield 92, 60, 11, 11, 11), (60, .iconst 1, 61, 0, 0, 0), (61, .iload_n 1, 62, 0, 0, 0), (62, .ishl, 63, 0, 0, 0), (63, .ior, 64, 0, 0, 0), (64, .putfield 92, 67, 11, 11, 11), (67, .aload_n 0, 68, 0, 0, 0), (68, .getfield 38, 71, 11, 12, 12), (71, .bipush 6, 73, 0, 0, 0), (73, .iload_n 1, 74, 0, 0, 0), (74, .imul, 75, 0, 0, 0), (75, .aload_n 0, 76, 0, 0, 0), (76, .getfield 20, 79, 11, 4, 4), (79, .iload_n 2, 80, 0, 0, 0), (80, .iaload, 81, 0, 0, 0), (81, .iastore, 82, 0, 0, 0), (82, .aload_n 0, 83, 0, 0, 0), (83, .getfield 38, 86, 11, 12, 12), (86, .bipush 6, 88, 0, 0, 0), (88, .iload_n 1, 89, 0, 0, 0), (89, .imul, 90, 0, 0, 0), (90, .iconst 1, 91, 0, 0, 0), (91, .iadd, 92, 0, 0, 0), (92, .iload_n 3, 93, 0, 0, 0), (93, .iastore, 94, 0, 0, 0), (94, .aload_n 0, 95, 0, 0, 0), (95, .getfield 38, 98, 11, 12, 12), (98, .bipush 6, 100, 0, 0, 0), (100, .iload_n 1, 101, 0, 0, 0), (101, .imul, 102, 0, 0, 0), (102, .iconst 2, 103, 0, 0, 0), (103, .iadd, 104, 0, 0, 0), (104, .iload 4, 106, 0, 0, 0), (106, .iastore, 107, 0, 0, 0), (107, .aload_n 0, 108, 0, 0, 0), (108, .getfield 38, 111, 11, 12, 12), (111, .bipush 6, 113, 0, 0, 0), (113, .iload_n 1, 114, 0, 0, 0), (114, .imul, 115, 0, 0, 0), (115, .iconst 3, 116, 0, 0, 0), (116, .iadd, 117, 0, 0, 0), (117, .iload 5, 119, 0, 0, 0), (119, .iastore, 120, 0, 0, 0), (120, .aload_n 0, 121, 0, 0, 0), (121, .getfield 38, 124, 11, 12, 12), (124, .bipush 6, 126, 0, 0, 0), (126, .iload_n 1, 127, 0, 0, 0), (127, .imul, 128, 0, 0, 0), (128, .iconst 4, 129, 0, 0, 0), (129, .iadd, 130, 0, 0, 0), (130, .iload 6, 132, 0, 0, 0), (132, .iastore, 133, 0, 0, 0), (133, .aload_n 0, 134, 0, 0, 0), (134, .getfield 38, 137, 11, 12, 12), (137, .bipush 6, 139, 0, 0, 0), (139, .iload_n 1, 140, 0, 0, 0), (140, .imul, 141, 0, 0, 0), (141, .iconst 5, 142, 0, 0, 0), (142, .iadd, 143, 0, 0, 0), (143, .iload 7, 145, 0, 0, 0), (145, .iastore, 146, 0, 0, 0), (146, .aload_n 0, 147, 0, 0, 0), (147, .getfield 92, 150, 11, 11, 11), (150, .invokestatic 102, 153, 117, 0, 0), (153, .ireturn, 154, 0, 0, 0)]
def smd_X11_list : smD := (11, yX11_list, cX11_list, 8, (some .int), (8, false), (2, 44), smt_X11_list)
/-- X11_strike: method 159 -/
def smt_X11_strike : List smI := [(0, .aload_n 0, 1, 0, 0, 0), (1, .iload_n 1, 2, 0, 0, 0), (2, .invokevirtual 198, 5, 157, 0, 0), (5, .ifCond .ne 5, 8, 10, 0, 0), (8, .iconst (-1), 9, 0, 0, 0), (9, .ireturn, 10, 0, 0, 0), (10, .aload_n 0, 11, 0, 0, 0), (11, .dup, 12, 0, 0, 0), (12, .getfield 92, 15, 11, 11, 11), (15, .iconst 1, 16, 0, 0, 0), (16, .iload_n 1, 17, 0, 0, 0), (17, .ishl, 18, 0, 0, 0), (18, .iconst (-1), 19, 0, 0, 0), (19, .ixor, 20, 0, 0, 0), (20, .iand, 21, 0, 0, 0), (21, .putfield 92, 24, 11, 11, 11), (24, .aload_n 0, 25, 0, 0, 0), (25, .getfield 92, 28, 11, 11, 11), (28, .invokestatic 102, 31, 117, 0, 0), (31, .ireturn, 32, 0, 0, 0)]
def smd_X11_strike : smD := (11, yX11_strike, cX11_strike, 2, (some .int), (2, false), (2, 43), smt_X11_strike)
/-- X11_flyListed: method 160 -/
def smt_X11_flyListed : List smI := [(0, .aload_n 0, 1, 0, 0, 0), (1, .aload_n 0, 2, 0, 0, 0), (2, .getfield 38, 5, 11, 12, 12), (5, .bipush 6, 7, 0, 0, 0), (7, .iload_n 1, 8, 0, 0, 0), (8, .imul, 9, 0, 0, 0), (9, .iaload, 10, 0, 0, 0), (10, .aload_n 0, 11, 0, 0, 0), (11, .getfield 38, 14, 11, 12, 12), (14, .bipush 6, 16, 0, 0, 0), (16, .iload_n 1, 17, 0, 0, 0), (17, .imul, 18, 0, 0, 0), (18, .iconst 1, 19, 0, 0, 0), (19, .iadd, 20, 0, 0, 0), (20, .iaload, 21, 0, 0, 0), (21, .aload_n 0, 22, 0, 0, 0), (22, .getfield 38, 25, 11, 12, 12), (25, .bipush 6, 27, 0, 0, 0), (27, .iload_n 1, 28, 0, 0, 0), (28, .imul, 29, 0, 0, 0), (29, .iconst 2, 30, 0, 0, 0), (30, .iadd, 31, 0, 0, 0), (31, .iaload, 32, 0, 0, 0), (32, .aload_n 0, 33, 0, 0, 0), (33, .getfield 38, 36, 11, 12, 12), (36, .bipush 6, 38, 0, 0, 0), (38, .iload_n 1, 39, 0, 0, 0), (39, .imul, 40, 0, 0, 0), (40, .iconst 3, 41, 0, 0, 0), (41, .iadd, 42, 0, 0, 0), (42, .iaload, 43, 0, 0, 0), (43, .iload_n 2, 44, 0, 0, 0), (44, .bipush (-6), 46, 0, 0, 0), (46, .iconst 0, 47, 0, 0, 0), (47, .invokevirtual 183, 50, 148, 0, 0), (50, .return_, 51, 0, 0, 0)]
def smd_X11_flyListed : smD := (11, yX11_flyListed, cX11_flyListed, 3, none, (3, false), (3, 76), smt_X11_flyListed)
/-- X11_wasThrown: method 161 -/
def smt_X11_wasThrown : List smI := [(0, .iload_n 2, 1, 0, 0, 0), (1, .iload_n 3, 2, 0, 0, 0), (2, .isub, 3, 0, 0, 0), (3, .aload_n 0, 4, 0, 0, 0), (4, .getfield 38, 7, 11, 12, 12), (7, .bipush 6, 9, 0, 0, 0), (9, .iload_n 1, 10, 0, 0, 0), (10, .imul, 11, 0, 0, 0), (11, .iconst 4, 12, 0, 0, 0), (12, .iadd, 13, 0, 0, 0), (13, .iaload, 14, 0, 0, 0), (14, .isub, 15, 0, 0, 0), (15, .istore 4, 17, 0, 0, 0), (17, .aload_n 0, 18, 0, 0, 0), (18, .getfield 38, 21, 11, 12, 12), (21, .bipush 6, 23, 0, 0, 0), (23, .iload_n 1, 24, 0, 0, 0), (24, .imul, 25, 0, 0, 0), (25, .iconst 5, 26, 0, 0, 0), (26, .iadd, 27, 0, 0, 0), (27, .iaload, 28, 0, 0, 0), (28, .istore 5, 30, 0, 0, 0), (30, .iload 4, 32, 0, 0, 0), (32, .ifCond .eq 21, 35, 53, 0, 0), (35, .iload 4, 37, 0, 0, 0), (37, .ifCond .le 20, 40, 57, 0, 0), (40, .iload 5, 42, 0, 0, 0), (42, .ifCond .le 15, 45, 57, 0, 0), (45, .iload 4, 47, 0, 0, 0), (47, .iload 5, 49, 0, 0, 0), (49, .irem, 50, 0, 0, 0), (50, .ifCond .ne 7, 53, 57, 0, 0), (53, .iconst 1, 54, 0, 0, 0), (54, .goto 4, 57, 58, 0, 0), (57, .iconst 0, 58, 0, 0, 0), (58, .ireturn, 59, 0, 0, 0)]
def smd_X11_wasThrown : smD := (11, yX11_wasThrown, cX11_wasThrown, 6, (some .boolean), (4, false), (0, 0), smt_X11_wasThrown)
/-- X11_placeBehind: method 162 -/
def smt_X11_placeBehind : List smI := [(0, .aload_n 0, 1, 0, 0, 0), (1, .getfield 38, 4, 11, 12, 12), (4, .bipush 6, 6, 0, 0, 0), (6, .iload_n 1, 7, 0, 0, 0), (7, .imul, 8, 0, 0, 0), (8, .iconst 1, 9, 0, 0, 0), (9, .iadd, 10, 0, 0, 0), (10, .iaload, 11, 0, 0, 0), (11, .ifCond .ne 7, 14, 18, 0, 0), (14, .iload_n 2, 15, 0, 0, 0), (15, .goto 5, 18, 20, 0, 0), (18, .iload_n 2, 19, 0, 0, 0), (19, .ineg, 20, 0, 0, 0), (20, .istore_n 3, 21, 0, 0, 0), (21, .aload_n 0, 22, 0, 0, 0), (22, .getfield 38, 25, 11, 12, 12), (25, .bipush 6, 27, 0, 0, 0), (27, .iload_n 1, 28, 0, 0, 0), (28, .imul, 29, 0, 0, 0), (29, .iaload, 30, 0, 0, 0), (30, .iload_n 3, 31, 0, 0, 0), (31, .iadd, 32, 0, 0, 0), (32, .aload_n 0, 33, 0, 0, 0), (33, .getfield 7, 36, 11, 0, 0), (36, .irem, 37, 0, 0, 0), (37, .aload_n 0, 38, 0, 0, 0), (38, .getfield 7, 41, 11, 0, 0), (41, .iadd, 42, 0, 0, 0), (42, .aload_n 0, 43, 0, 0, 0), (43, .getfield 7, 46, 11, 0, 0), (46, .irem, 47, 0, 0, 0), (47, .ireturn, 48, 0, 0, 0)]
def smd_X11_placeBehind : smD := (11, yX11_placeBehind, cX11_placeBehind, 4, (some .int), (3, false), (0, 0), smt_X11_placeBehind)
/-- X11_heightBehind: method 163 -/
def smt_X11_heightBehind : List smI := [(0, .iload_n 2, 1, 0, 0, 0), (1, .aload_n 0, 2, 0, 0, 0), (2, .getfield 38, 5, 11, 12, 12), (5, .bipush 6, 7, 0, 0, 0), (7, .iload_n 1, 8, 0, 0, 0), (8, .imul, 9, 0, 0, 0), (9, .iconst 2, 10, 0, 0, 0), (10, .iadd, 11, 0, 0, 0), (11, .iaload, 12, 0, 0, 0), (12, .aload_n 0, 13, 0, 0, 0), (13, .getfield 38, 16, 11, 12, 12), (16, .bipush 6, 18, 0, 0, 0), (18, .iload_n 1, 19, 0, 0, 0), (19, .imul, 20, 0, 0, 0), (20, .iconst 3, 21, 0, 0, 0), (21, .iadd, 22, 0, 0, 0), (22, .iaload, 23, 0, 0, 0), (23, .invokestatic 122, 26, 131, 0, 0), (26, .ireturn, 27, 0, 0, 0)]
def smd_X11_heightBehind : smD := (11, yX11_heightBehind, cX11_heightBehind, 3, (some .int), (3, false), (1, 23), smt_X11_heightBehind)
/-- X11_meetOf: method 164 -/
def smt_X11_meetOf : List smI := [(0, .aload_n 0, 1, 0, 0, 0), (1, .iload_n 1, 2, 0, 0, 0), (2, .iconst (-1), 3, 0, 0, 0), (3, .invokevirtual 201, 6, 160, 0, 0), (6, .aload_n 0, 7, 0, 0, 0), (7, .getfield 171, 10, 11, 29, 29), (10, .istore_n 3, 11, 0, 0, 0), (11, .aload_n 0, 12, 0, 0, 0), (12, .iload_n 2, 13, 0, 0, 0), (13, .iconst (-1), 14, 0, 0, 0), (14, .invokevirtual 201, 17, 160, 0, 0), (17, .aload_n 0, 18, 0, 0, 0), (18, .getfield 171, 21, 11, 29, 29), (21, .istore 4, 23, 0, 0, 0), (23, .iconst 0, 24, 0, 0, 0), (24, .istore 5, 26, 0, 0, 0), (26, .iload 5, 28, 0, 0, 0), (28, .sipush 999, 31, 0, 0, 0), (31, .if_icmp .gt 101, 34, 132, 0, 0), (34, .iconst 1, 35, 0, 0, 0), (35, .istore 6, 37, 0, 0, 0), (37, .iload 6, 39, 0, 0, 0), (39, .iload_n 3, 40, 0, 0, 0), (40, .if_icmp .ge 86, 43, 126, 0, 0), (43, .iconst 1, 44, 0, 0, 0), (44, .istore 7, 46, 0, 0, 0), (46, .iload 7, 48, 0, 0, 0), (48, .iload 4, 50, 0, 0, 0), (50, .if_icmp .ge 70, 53, 120, 0, 0), (53, .aload_n 0, 54, 0, 0, 0), (54, .iload_n 1, 55, 0, 0, 0), (55, .iload 5, 57, 0, 0, 0), (57, .iload 6, 59, 0, 0, 0), (59, .invokevirtual 204, 62, 161, 0, 0), (62, .ifCond .eq 58, 65, 120, 0, 0), (65, .aload_n 0, 66, 0, 0, 0), (66, .iload_n 2, 67, 0, 0, 0), (67, .iload 5, 69, 0, 0, 0), (69, .iload 7, 71, 0, 0, 0), (71, .invokevirtual 204, 74, 161, 0, 0), (74, .ifCond .eq 40, 77, 114, 0, 0), (77, .aload_n 0, 78, 0, 0, 0), (78, .iload_n 1, 79, 0, 0, 0), (79, .iload 6, 81, 0, 0, 0), (81, .invokevirtual 207, 84, 162, 0, 0), (84, .aload_n 0, 85, 0, 0, 0), (85, .iload_n 2, 86, 0, 0, 0), (86, .iload 7, 88, 0, 0, 0), (88, .invokevirtual 207, 91, 162, 0, 0), (91, .if_icmp .ne 23, 94, 114, 0, 0), (94, .aload_n 0, 95, 0, 0, 0), (95, .iload_n 1, 96, 0, 0, 0), (96, .iload 6, 98, 0, 0, 0), (98, .invokevirtual 210, 101, 163, 0, 0), (101, .aload_n 0, 102, 0, 0, 0), (102, .iload_n 2, 103, 0, 0, 0), (103, .iload 7, 105, 0, 0, 0), (105, .invokevirtual 210, 108, 163, 0, 0), (108, .if_icmp .ne 6, 111, 114, 0, 0), (111, .iload 5, 113, 0, 0, 0), (113, .ireturn, 114, 0, 0, 0), (114, .iinc 7 1, 117, 0, 0, 0), (117, .goto (-71), 120, 46, 0, 0), (120, .iinc 6 1, 123, 0, 0, 0), (123, .goto (-86), 126, 37, 0, 0), (126, .iinc 5 1, 129, 0, 0, 0), (129, .goto (-103), 132, 26, 0, 0), (132, .bipush (-6), 134, 0, 0, 0), (134, .ireturn, 135, 0, 0, 0)]
def smd_X11_meetOf : smD := (11, yX11_meetOf, cX11_meetOf, 8, (some .int), (3, false), (4, 98), smt_X11_meetOf)
/-- X11_meet: method 165 -/
def smt_X11_meet : List smI := [(0, .aload_n 0, 1, 0, 0, 0), (1, .iload_n 1, 2, 0, 0, 0), (2, .invokevirtual 198, 5, 157, 0, 0), (5, .ifCond .eq 25, 8, 30, 0, 0), (8, .aload_n 0, 9, 0, 0, 0), (9, .iload_n 2, 10, 0, 0, 0), (10, .invokevirtual 198, 13, 157, 0, 0), (13, .ifCond .eq 17, 16, 30, 0, 0), (16, .iload_n 1, 17, 0, 0, 0), (17, .iload_n 2, 18, 0, 0, 0), (18, .if_icmp .eq 12, 21, 30, 0, 0), (21, .aload_n 0, 22, 0, 0, 0), (22, .iload_n 1, 23, 0, 0, 0), (23, .iload_n 2, 24, 0, 0, 0), (24, .invokevirtual 213, 27, 164, 0, 0), (27, .goto 4, 30, 31, 0, 0), (30, .iconst (-1), 31, 0, 0, 0), (31, .ireturn, 32, 0, 0, 0)]
def smd_X11_meet : smD := (11, yX11_meet, cX11_meet, 3, (some .int), (3, false), (5, 125), smt_X11_meet)
/-- X11_forbidden: method 166 -/
def smt_X11_forbidden : List smI := [(0, .iload_n 1, 1, 0, 0, 0), (1, .iconst 0, 2, 0, 0, 0), (2, .iconst 1, 3, 0, 0, 0), (3, .invokestatic 81, 6, 115, 0, 0), (6, .ifCond .ne 6, 9, 12, 0, 0), (9, .bipush (-2), 11, 0, 0, 0), (11, .ireturn, 12, 0, 0, 0), (12, .iconst 0, 13, 0, 0, 0), (13, .istore_n 2, 14, 0, 0, 0), (14, .iload_n 2, 15, 0, 0, 0), (15, .bipush 6, 17, 0, 0, 0), (17, .if_icmp .ge 82, 20, 99, 0, 0), (20, .aload_n 0, 21, 0, 0, 0), (21, .getfield 69, 24, 11, 32, 32), (24, .iload_n 2, 25, 0, 0, 0), (25, .iconst 0, 26, 0, 0, 0), (26, .iastore, 27, 0, 0, 0), (27, .iconst 0, 28, 0, 0, 0), (28, .istore_n 3, 29, 0, 0, 0), (29, .iload_n 3, 30, 0, 0, 0), (30, .bipush 6, 32, 0, 0, 0), (32, .if_icmp .ge 61, 35, 93, 0, 0), (35, .aload_n 0, 36, 0, 0, 0), (36, .getfield 69, 39, 11, 32, 32), (39, .iload_n 2, 40, 0, 0, 0), (40, .dup2, 41, 0, 0, 0), (41, .iaload, 42, 0, 0, 0), (42, .iload_n 2, 43, 0, 0, 0), (43, .iload_n 3, 44, 0, 0, 0), (44, .if_icmp .eq 40, 47, 84, 0, 0), (47, .aload_n 0, 48, 0, 0, 0), (48, .getfield 92, 51, 11, 11, 11), (51, .iload_n 2, 52, 0, 0, 0), (52, .invokestatic 85, 55, 116, 0, 0), (55, .ifCond .eq 29, 58, 84, 0, 0), (58, .aload_n 0, 59, 0, 0, 0), (59, .getfield 92, 62, 11, 11, 11), (62, .iload_n 3, 63, 0, 0, 0), (63, .invokestatic 85, 66, 116, 0, 0), (66, .ifCond .eq 18, 69, 84, 0, 0), (69, .aload_n 0, 70, 0, 0, 0), (70, .iload_n 2, 71, 0, 0, 0), (71, .iload_n 3, 72, 0, 0, 0), (72, .invokevirtual 213, 75, 164, 0, 0), (75, .ifCond .lt 9, 78, 84, 0, 0), (78, .iconst 1, 79, 0, 0, 0), (79, .iload_n 3, 80, 0, 0, 0), (80, .ishl, 81, 0, 0, 0), (81, .goto 4, 84, 85, 0, 0), (84, .iconst 0, 85, 0, 0, 0), (85, .ior, 86, 0, 0, 0), (86, .iastore, 87, 0, 0, 0), (87, .iinc 3 1, 90, 0, 0, 0), (90, .goto (-61), 93, 29, 0, 0), (93, .iinc 2 1, 96, 0, 0, 0), (96, .goto (-82), 99, 14, 0, 0), (99, .bipush (-6), 101, 0, 0, 0), (101, .istore_n 2, 102, 0, 0, 0), (102, .iconst 0, 103, 0, 0, 0), (103, .istore_n 3, 104, 0, 0, 0), (104, .iload_n 3, 105, 0, 0, 0), (105, .bipush 64, 107, 0, 0, 0), (107, .if_icmp .ge 116, 110, 223, 0, 0), (110, .iload_n 3, 111, 0, 0, 0), (111, .aload_n 0, 112, 0, 0, 0), (112, .getfield 92, 115, 11, 11, 11), (115, .iconst (-1), 116, 0, 0, 0), (116, .ixor, 117, 0, 0, 0), (117, .iand, 118, 0, 0, 0), (118, .ifCond .ne 22, 121, 140, 0, 0), (121, .iload_n 2, 122, 0, 0, 0), (122, .ifCond .lt 14, 125, 136, 0, 0), (125, .iload_n 3, 126, 0, 0, 0), (126, .invokestatic 102, 129, 117, 0, 0), (129, .iload_n 2, 130, 0, 0, 0), (130, .invokestatic 102, 133, 117, 0, 0), (133, .if_icmp .ge 7, 136, 140, 0, 0), (136, .iconst 1, 137, 0, 0, 0), (137, .goto 4, 140, 141, 0, 0), (140, .iconst 0, 141, 0, 0, 0), (141, .istore 4, 143, 0, 0, 0), (143, .iconst 0, 144, 0, 0, 0), (144, .istore 5, 146, 0, 0, 0), (146, .iload 5, 148, 0, 0, 0), (148, .bipush 6, 150, 0, 0, 0), (150, .if_icmp .ge 56, 153, 206, 0, 0), (153, .iload 4, 155, 0, 0, 0), (155, .ifCond .eq 51, 158, 206, 0, 0), (158, .iload_n 3, 159, 0, 0, 0), (159, .iload 5, 161, 0, 0, 0), (161, .invokestatic 85, 164, 116, 0, 0), (164, .ifCond .ne 29, 167, 193, 0, 0), (167, .aload_n 0, 168, 0, 0, 0), (168, .getfield 92, 171, 11, 11, 11), (171, .iload 5, 173, 0, 0, 0), (173, .invokestatic 85, 176, 116, 0, 0), (176, .ifCond .eq 17, 179, 193, 0, 0), (179, .aload_n 0, 180, 0, 0, 0), (180, .getfield 69, 183, 11, 32, 32), (183, .iload 5, 185, 0, 0, 0), (185, .iaload, 186, 0, 0, 0), (186, .iload_n 3, 187, 0, 0, 0), (187, .iconst (-1), 188, 0, 0, 0), (188, .ixor, 189, 0, 0, 0), (189, .iand, 190, 0, 0, 0), (190, .ifCond .ne 7, 193, 197, 0, 0), (193, .iconst 1, 194, 0, 0, 0), (194, .goto 4, 197, 198, 0, 0), (197, .iconst 0, 198, 0, 0, 0), (198, .istore 4, 200, 0, 0, 0), (200, .iinc 5 1, 203, 0, 0, 0), (203, .goto (-57), 206, 146, 0, 0), (206, .iload 4, 208, 0, 0, 0), (208, .ifCond .eq 7, 211, 215, 0, 0), (211, .iload_n 3, 212, 0, 0, 0), (212, .goto 4, 215, 216, 0, 0), (215, .iload_n 2, 216, 0, 0, 0), (216, .istore_n 2, 217, 0, 0, 0), (217, .iinc 3 1, 220, 0, 0, 0), (220, .goto (-116), 223, 104, 0, 0), (223, .iload_n 1, 224, 0, 0, 0), (224, .ifCond .ne 10, 227, 234, 0, 0), (227, .iload_n 2, 228, 0, 0, 0), (228, .invokestatic 102, 231, 117, 0, 0), (231, .goto 4, 234, 235, 0, 0), (234, .iload_n 2, 235, 0, 0, 0), (235, .ireturn, 236, 0, 0, 0)]
def smd_X11_forbidden : smD := (11, yX11_forbidden, cX11_forbidden, 6, (some .int), (2, false), (5, 125), smt_X11_forbidden)
/-- X11_duck: method 167 -/
def smt_X11_duck : List smI := [(0, .aload_n 0, 1, 0, 0, 0), (1, .iload_n 1, 2, 0, 0, 0), (2, .invokevirtual 98, 5, 118, 0, 0), (5, .ifCond .ne 5, 8, 10, 0, 0), (8, .iconst (-1), 9, 0, 0, 0), (9, .ireturn, 10, 0, 0, 0), (10, .iload_n 2, 11, 0, 0, 0), (11, .iconst 1, 12, 0, 0, 0), (12, .sipush 999, 15, 0, 0, 0), (15, .invokestatic 81, 18, 115, 0, 0), (18, .ifCond .eq 12, 21, 30, 0, 0), (21, .iload_n 3, 22, 0, 0, 0), (22, .iconst 0, 23, 0, 0, 0), (23, .iconst 1, 24, 0, 0, 0), (24, .invokestatic 81, 27, 115, 0, 0), (27, .ifCond .ne 6, 30, 33, 0, 0), (30, .bipush (-2), 32, 0, 0, 0), (32, .ireturn, 33, 0, 0, 0), (33, .iconst 0, 34, 0, 0, 0), (34, .istore 4, 36, 0, 0, 0), (36, .bipush (-6), 38, 0, 0, 0), (38, .istore 5, 40, 0, 0, 0), (40, .iconst 1, 41, 0, 0, 0), (41, .istore 6, 43, 0, 0, 0), (43, .iload 6, 45, 0, 0, 0), (45, .iload_n 2, 46, 0, 0, 0), (46, .if_icmp .gt 179, 49, 225, 0, 0), (49, .iconst 0, 50, 0, 0, 0), (50, .istore 7, 52, 0, 0, 0), (52, .iconst 0, 53, 0, 0, 0), (53, .istore 8, 55, 0, 0, 0), (55, .iload 8, 57, 0, 0, 0), (57, .bipush 6, 59, 0, 0, 0), (59, .if_icmp .ge 126, 62, 185, 0, 0), (62, .aload_n 0, 63, 0, 0, 0), (63, .getfield 92, 66, 11, 11, 11), (66, .iload 8, 68, 0, 0, 0), (68, .invokestatic 85, 71, 116, 0, 0), (71, .ifCond .eq 108, 74, 179, 0, 0), (74, .aload_n 0, 75, 0, 0, 0), (75, .iload 8, 77, 0, 0, 0), (77, .iconst (-1), 78, 0, 0, 0), (78, .invokevirtual 201, 81, 160, 0, 0), (81, .aload_n 0, 82, 0, 0, 0), (82, .getfield 168, 85, 11, 28, 28), (85, .iconst 2, 86, 0, 0, 0), (86, .if_icmp .ne 10, 89, 96, 0, 0), (89, .aload_n 0, 90, 0, 0, 0), (90, .getfield 171, 93, 11, 29, 29), (93, .goto 9, 96, 102, 0, 0), (96, .aload_n 0, 97, 0, 0, 0), (97, .getfield 171, 100, 11, 29, 29), (100, .iconst 1, 101, 0, 0, 0), (101, .isub, 102, 0, 0, 0), (102, .istore 9, 104, 0, 0, 0), (104, .iconst 1, 105, 0, 0, 0), (105, .istore 10, 107, 0, 0, 0), (107, .iload 10, 109, 0, 0, 0), (109, .iload 9, 111, 0, 0, 0), (111, .if_icmp .gt 68, 114, 179, 0, 0), (114, .aload_n 0, 115, 0, 0, 0), (115, .iload 8, 117, 0, 0, 0), (117, .iload 10, 119, 0, 0, 0), (119, .invokevirtual 210, 122, 163, 0, 0), (122, .istore 11, 124, 0, 0, 0), (124, .iload 7, 126, 0, 0, 0), (126, .ifCond .ne 40, 129, 166, 0, 0), (129, .iload 11, 131, 0, 0, 0), (131, .iconst 1, 132, 0, 0, 0), (132, .if_icmp .eq 9, 135, 141, 0, 0), (135, .iload 11, 137, 0, 0, 0), (137, .iconst 2, 138, 0, 0, 0), (138, .if_icmp .ne 32, 141, 170, 0, 0), (141, .aload_n 0, 142, 0, 0, 0), (142, .iload 8, 144, 0, 0, 0), (144, .iload 10, 146, 0, 0, 0), (146, .invokevirtual 207, 149, 162, 0, 0), (149, .iload_n 1, 150, 0, 0, 0), (150, .if_icmp .ne 20, 153, 170, 0, 0), (153, .aload_n 0, 154, 0, 0, 0), (154, .iload 8, 156, 0, 0, 0), (156, .iload 6, 158, 0, 0, 0), (158, .iload 10, 160, 0, 0, 0), (160, .invokevirtual 204, 163, 161, 0, 0), (163, .ifCond .eq 7, 166, 170, 0, 0), (166, .iconst 1, 167, 0, 0, 0), (167, .goto 4, 170, 171, 0, 0), (170, .iconst 0, 171, 0, 0, 0), (171, .istore 7, 173, 0, 0, 0), (173, .iinc 10 1, 176, 0, 0, 0), (176, .goto (-69), 179, 107, 0, 0), (179, .iinc 8 1, 182, 0, 0, 0), (182, .goto (-127), 185, 55, 0, 0), (185, .iload 5, 187, 0, 0, 0), (187, .ifCond .ge 13, 190, 200, 0, 0), (190, .iload 7, 192, 0, 0, 0), (192, .ifCond .eq 8, 195, 200, 0, 0), (195, .iload 6, 197, 0, 0, 0), (197, .goto 5, 200, 202, 0, 0), (200, .iload 5, 202, 0, 0, 0), (202, .istore 5, 204, 0, 0, 0), (204, .iload 4, 206, 0, 0, 0), (206, .iload 7, 208, 0, 0, 0), (208, .ifCond .eq 7, 211, 215, 0, 0), (211, .iconst 1, 212, 0, 0, 0), (212, .goto 4, 215, 216, 0, 0), (215, .iconst 0, 216, 0, 0, 0), (216, .iadd, 217, 0, 0, 0), (217, .istore 4, 219, 0, 0, 0), (219, .iinc 6 1, 222, 0, 0, 0), (222, .goto (-179), 225, 43, 0, 0), (225, .iload_n 3, 226, 0, 0, 0), (226, .ifCond .ne 8, 229, 234, 0, 0), (229, .iload 4, 231, 0, 0, 0), (231, .goto 5, 234, 236, 0, 0), (234, .iload 5, 236, 0, 0, 0), (236, .ireturn, 237, 0, 0, 0)]
def smd_X11_duck : smD := (11, yX11_duck, cX11_duck, 12, (some .int), (4, false), (4, 98), smt_X11_duck)
/-- X11_hands: method 168 -/
def smt_X11_hands : List smI := [(0, .iload_n 1, 1, 0, 0, 0), (1, .iconst 0, 2, 0, 0, 0), (2, .iconst 1, 3, 0, 0, 0), (3, .invokestatic 81, 6, 115, 0, 0), (6, .ifCond .ne 6, 9, 12, 0, 0), (9, .bipush (-2), 11, 0, 0, 0), (11, .ireturn, 12, 0, 0, 0), (12, .bipush (-6), 14, 0, 0, 0), (14, .istore_n 2, 15, 0, 0, 0), (15, .iconst 0, 16, 0, 0, 0), (16, .istore_n 3, 17, 0, 0, 0), (17, .iload_n 3, 18, 0, 0, 0), (18, .iconst 1, 19, 0, 0, 0), (19, .aload_n 0, 20, 0, 0, 0), (20, .getfield 7, 23, 11, 0, 0), (23, .ishl, 24, 0, 0, 0), (24, .if_icmp .ge 97, 27, 121, 0, 0), (27, .iload_n 2, 28, 0, 0, 0), (28, .ifCond .lt 14, 31, 42, 0, 0), (31, .iload_n 3, 32, 0, 0, 0), (32, .invokestatic 102, 35, 117, 0, 0), (35, .iload_n 2, 36, 0, 0, 0), (36, .invokestatic 102, 39, 117, 0, 0), (39, .if_icmp .ge 7, 42, 46, 0, 0), (42, .iconst 1, 43, 0, 0, 0), (43, .goto 4, 46, 47, 0, 0), (46, .iconst 0, 47, 0, 0, 0), (47, .istore 4, 49, 0, 0, 0), (49, .iconst 0, 50, 0, 0, 0), (50, .istore 5, 52, 0, 0, 0), (52, .iload 5, 54, 0, 0, 0), (54, .bipush 6, 56, 0, 0, 0), (56, .if_icmp .ge 48, 59, 104, 0, 0), (59, .iload 4, 61, 0, 0, 0), (61, .ifCond .eq 43, 64, 104, 0, 0), (64, .aload_n 0, 65, 0, 0, 0), (65, .getfield 92, 68, 11, 11, 11), (68, .iload 5, 70, 0, 0, 0), (70, .invokestatic 85, 73, 116, 0, 0), (73, .ifCond .eq 25, 76, 98, 0, 0), (76, .aload_n 0, 77, 0, 0, 0), (77, .iload 5, 79, 0, 0, 0), (79, .iload_n 3, 80, 0, 0, 0), (80, .invokevirtual 201, 83, 160, 0, 0), (83, .aload_n 0, 84, 0, 0, 0), (84, .getfield 168, 87, 11, 28, 28), (87, .iconst 2, 88, 0, 0, 0), (88, .if_icmp .ne 7, 91, 95, 0, 0), (91, .iconst 1, 92, 0, 0, 0), (92, .goto 4, 95, 96, 0, 0), (95, .iconst 0, 96, 0, 0, 0), (96, .istore 4, 98, 0, 0, 0), (98, .iinc 5 1, 101, 0, 0, 0), (101, .goto (-49), 104, 52, 0, 0), (104, .iload 4, 106, 0, 0, 0), (106, .ifCond .eq 7, 109, 113, 0, 0), (109, .iload_n 3, 110, 0, 0, 0), (110, .goto 4, 113, 114, 0, 0), (113, .iload_n 2, 114, 0, 0, 0), (114, .istore_n 2, 115, 0, 0, 0), (115, .iinc 3 1, 118, 0, 0, 0), (118, .goto (-101), 121, 17, 0, 0), (121, .iload_n 2, 122, 0, 0, 0), (122, .ifCond .lt 8, 125, 130, 0, 0), (125, .iload_n 1, 126, 0, 0, 0), (126, .iconst 1, 127, 0, 0, 0), (127, .if_icmp .ne 7, 130, 134, 0, 0), (130, .iload_n 2, 131, 0, 0, 0), (131, .goto 7, 134, 138, 0, 0), (134, .iload_n 2, 135, 0, 0, 0), (135, .invokestatic 102, 138, 117, 0, 0), (138, .ireturn, 139, 0, 0, 0)]
def smd_X11_hands : smD := (11, yX11_hands, cX11_hands, 6, (some .int), (2, false), (4, 98), smt_X11_hands)
/-- X11_seen: method 169 -/
def smt_X11_seen : List smI := [(0, .aload_n 0, 1, 0, 0, 0), (1, .iload_n 2, 2, 0, 0, 0), (2, .invokevirtual 98, 5, 118, 0, 0), (5, .ifCond .ne 5, 8, 10, 0, 0), (8, .iconst (-1), 9, 0, 0, 0), (9, .ireturn, 10, 0, 0, 0), (10, .iload_n 1, 11, 0, 0, 0), (11, .iconst 0, 12, 0, 0, 0), (12, .bipush 36, 14, 0, 0, 0), (14, .invokestatic 81, 17, 115, 0, 0), (17, .ifCond .eq 12, 20, 29, 0, 0), (20, .iload_n 3, 21, 0, 0, 0), (21, .iconst 1, 22, 0, 0, 0), (22, .iconst 5, 23, 0, 0, 0), (23, .invokestatic 81, 26, 115, 0, 0), (26, .ifCond .ne 6, 29, 32, 0, 0), (29, .bipush (-2), 31, 0, 0, 0), (31, .ireturn, 32, 0, 0, 0), (32, .aload_n 0, 33, 0, 0, 0), (33, .getfield 95, 36, 11, 13, 13), (36, .bipush 6, 38, 0, 0, 0), (38, .if_icmp .ne 6, 41, 44, 0, 0), (41, .bipush (-4), 43, 0, 0, 0), (43, .ireturn, 44, 0, 0, 0), (44, .aload_n 0, 45, 0, 0, 0), (45, .getfield 41, 48, 11, 14, 14), (48, .iconst 3, 49, 0, 0, 0), (49, .aload_n 0, 50, 0, 0, 0), (50, .getfield 95, 53, 11, 13, 13), (53, .imul, 54, 0, 0, 0), (54, .iload_n 1, 55, 0, 0, 0), (55, .iastore, 56, 0, 0, 0), (56, .aload_n 0, 57, 0, 0, 0), (57, .getfield 41, 60, 11, 14, 14), (60, .iconst 3, 61, 0, 0, 0), (61, .aload_n 0, 62, 0, 0, 0), (62, .getfield 95, 65, 11, 13, 13), (65, .imul, 66, 0, 0, 0), (66, .iconst 1, 67, 0, 0, 0), (67, .iadd, 68, 0, 0, 0), (68, .iload_n 2, 69, 0, 0, 0), (69, .iastore, 70, 0, 0, 0), (70, .aload_n 0, 71, 0, 0, 0), (71, .getfield 41, 74, 11, 14, 14), (74, .iconst 3, 75, 0, 0, 0), (75, .aload_n 0, 76, 0, 0, 0), (76, .getfield 95, 79, 11, 13, 13), (79, .imul, 80, 0, 0, 0), (80, .iconst 2, 81, 0, 0, 0), (81, .iadd, 82, 0, 0, 0), (82, .iload_n 3, 83, 0, 0, 0), (83, .iastore, 84, 0, 0, 0), (84, .aload_n 0, 85, 0, 0, 0), (85, .dup, 86, 0, 0, 0), (86, .getfield 95, 89, 11, 13, 13), (89, .iconst 1, 90, 0, 0, 0), (90, .iadd, 91, 0, 0, 0), (91, .putfield 95, 94, 11, 13, 13), (94, .aload_n 0, 95, 0, 0, 0), (95, .getfield 95, 98, 11, 13, 13), (98, .ireturn, 99, 0, 0, 0)]
def smd_X11_seen : smD := (11, yX11_seen, cX11_seen, 4, (some .int), (4, false), (2, 43), smt_X11_seen)
/-- X11_forget: method 170 -/
def smt_X11_forget : List smI := [(0, .aload_n 0, 1, 0, 0, 0), (1, .getfield 95, 4, 11, 13, 13), (4, .istore_n 1, 5, 0, 0, 0), (5, .aload_n 0, 6, 0, 0, 0), (6, .iconst 0, 7, 0, 0, 0), (7, .putfield 95, 10, 11, 13, 13), (10, .iload_n 1, 11, 0, 0, 0), (11, .ireturn, 12, 0, 0, 0)]
def smd_X11_forget : smD := (11, yX11_forget, cX11_forget, 2, (some .int), (1, false), (0, 0), smt_X11_forget)
/-- X11_goesBy: method 171 -/
def smt_X11_goesBy : List smI := [(0, .aload_n 0, 1, 0, 0, 0), (1, .iload_n 1, 2, 0, 0, 0), (2, .iload_n 2, 3, 0, 0, 0), (3, .iload_n 3, 4, 0, 0, 0), (4, .iload 4, 6, 0, 0, 0), (6, .invokevirtual 190, 9, 150, 0, 0), (9, .iconst 1, 10, 0, 0, 0), (10, .istore 5, 12, 0, 0, 0), (12, .iconst 0, 13, 0, 0, 0), (13, .istore 6, 15, 0, 0, 0), (15, .iload 6, 17, 0, 0, 0), (17, .aload_n 0, 18, 0, 0, 0), (18, .getfield 95, 21, 11, 13, 13), (21, .if_icmp .ge 119, 24, 140, 0, 0), (24, .iload 5, 26, 0, 0, 0), (26, .ifCond .eq 114, 29, 140, 0, 0), (29, .aload_n 0, 30, 0, 0, 0), (30, .getfield 41, 33, 11, 14, 14), (33, .iconst 3, 34, 0, 0, 0), (34, .iload 6, 36, 0, 0, 0), (36, .imul, 37, 0, 0, 0), (37, .iaload, 38, 0, 0, 0), (38, .istore 7, 40, 0, 0, 0), (40, .iload_n 2, 41, 0, 0, 0), (41, .ifCond .ne 8, 44, 49, 0, 0), (44, .iload 7, 46, 0, 0, 0), (46, .goto 6, 49, 52, 0, 0), (49, .iload 7, 51, 0, 0, 0), (51, .ineg, 52, 0, 0, 0), (52, .istore 8, 54, 0, 0, 0), (54, .aload_n 0, 55, 0, 0, 0), (55, .getfield 20, 58, 11, 4, 4), (58, .iload_n 1, 59, 0, 0, 0), (59, .iaload, 60, 0, 0, 0), (60, .iload 8, 62, 0, 0, 0), (62, .iadd, 63, 0, 0, 0), (63, .aload_n 0, 64, 0, 0, 0), (64, .getfield 7, 67, 11, 0, 0), (67, .irem, 68, 0, 0, 0), (68, .aload_n 0, 69, 0, 0, 0), (69, .getfield 7, 72, 11, 0, 0), (72, .iadd, 73, 0, 0, 0), (73, .aload_n 0, 74, 0, 0, 0), (74, .getfield 7, 77, 11, 0, 0), (77, .irem, 78, 0, 0, 0), (78, .istore 9, 80, 0, 0, 0), (80, .iload 7, 82, 0, 0, 0), (82, .aload_n 0, 83, 0, 0, 0), (83, .getfield 171, 86, 11, 29, 29), (86, .if_icmp .gt 45, 89, 131, 0, 0), (89, .iload 9, 91, 0, 0, 0), (91, .aload_n 0, 92, 0, 0, 0), (92, .getfield 41, 95, 11, 14, 14), (95, .iconst 3, 96, 0, 0, 0), (96, .iload 6, 98, 0, 0, 0), (98, .imul, 99, 0, 0, 0), (99, .iconst 1, 100, 0, 0, 0), (100, .iadd, 101, 0, 0, 0), (101, .iaload, 102, 0, 0, 0), (102, .if_icmp .ne 29, 105, 131, 0, 0), (105, .iload 7, 107, 0, 0, 0), (107, .iload_n 3, 108, 0, 0, 0), (108, .iload 4, 110, 0, 0, 0), (110, .invokestatic 122, 113, 131, 0, 0), (113, .aload_n 0, 114, 0, 0, 0), (114, .getfield 41, 117, 11, 14, 14), (117, .iconst 3, 118, 0, 0, 0), (118, .iload 6, 120, 0, 0, 0), (120, .imul, 121, 0, 0, 0), (121, .iconst 2, 122, 0, 0, 0), (122, .iadd, 123, 0, 0, 0), (123, .iaload, 124, 0, 0, 0), (124, .if_icmp .ne 7, 127, 131, 0, 0), (127, .iconst 1, 128, 0, 0, 0), (128, .goto 4, 131, 132, 0, 0), (131, .iconst 0, 132, 0, 0, 0), (132, .istore 5, 134, 0, 0, 0), (134, .iinc 6 1, 137, 0, 0, 0), (137, .goto (-122), 140, 15, 0, 0), (140, .iload 5, 142, 0, 0, 0), (142, .ireturn, 143, 0, 0, 0)]
def smd_X11_goesBy : smD := (11, yX11_goesBy, cX11_goesBy, 10, (some .boolean), (5, false), (4, 100), smt_X11_goesBy)
/-- X11_who: method 172 -/
def smt_X11_who : List smI := [(0, .iload_n 1, 1, 0, 0, 0), (1, .iconst 0, 2, 0, 0, 0), (2, .iconst 1, 3, 0, 0, 0), (3, .invokestatic 81, 6, 115, 0, 0), (6, .ifCond .ne 6, 9, 12, 0, 0), (9, .bipush (-2), 11, 0, 0, 0), (11, .ireturn, 12, 0, 0, 0), (12, .iconst 0, 13, 0, 0, 0), (13, .istore_n 2, 14, 0, 0, 0), (14, .iconst 0, 15, 0, 0, 0), (15, .istore_n 3, 16, 0, 0, 0), (16, .iconst 0, 17, 0, 0, 0), (17, .istore 4, 19, 0, 0, 0), (19, .iload 4, 21, 0, 0, 0), (21, .iconst 5, 22, 0, 0, 0), (22, .if_icmp .ge 122, 25, 144, 0, 0), (25, .iconst 1, 26, 0, 0, 0), (26, .istore 5, 28, 0, 0, 0), (28, .iload 5, 30, 0, 0, 0), (30, .bipush 37, 32, 0, 0, 0), (32, .if_icmp .ge 106, 35, 138, 0, 0), (35, .iconst 0, 36, 0, 0, 0), (36, .istore 6, 38, 0, 0, 0), (38, .iload 6, 40, 0, 0, 0), (40, .bipush 10, 42, 0, 0, 0), (42, .if_icmp .ge 90, 45, 132, 0, 0), (45, .aload_n 0, 46, 0, 0, 0), (46, .getfield 78, 49, 11, 2, 2), (49, .iload 4, 51, 0, 0, 0), (51, .invokestatic 85, 54, 116, 0, 0), (54, .ifCond .eq 40, 57, 94, 0, 0), (57, .iload 5, 59, 0, 0, 0), (59, .aload_n 0, 60, 0, 0, 0), (60, .getfield 17, 63, 11, 3, 3), (63, .iload 4, 65, 0, 0, 0), (65, .iaload, 66, 0, 0, 0), (66, .if_icmp .gt 28, 69, 94, 0, 0), (69, .aload_n 0, 70, 0, 0, 0), (70, .iload 4, 72, 0, 0, 0), (72, .iload 6, 74, 0, 0, 0), (74, .iconst 5, 75, 0, 0, 0), (75, .idiv, 76, 0, 0, 0), (76, .iload 5, 78, 0, 0, 0), (78, .iload 6, 80, 0, 0, 0), (80, .iconst 5, 81, 0, 0, 0), (81, .irem, 82, 0, 0, 0), (82, .iconst 1, 83, 0, 0, 0), (83, .iadd, 84, 0, 0, 0), (84, .invokevirtual 216, 87, 171, 0, 0), (87, .ifCond .eq 7, 90, 94, 0, 0), (90, .iconst 1, 91, 0, 0, 0), (91, .goto 4, 94, 95, 0, 0), (94, .iconst 0, 95, 0, 0, 0), (95, .istore 7, 97, 0, 0, 0), (97, .iload_n 2, 98, 0, 0, 0), (98, .iload 7, 100, 0, 0, 0), (100, .ifCond .eq 10, 103, 110, 0, 0), (103, .iconst 1, 104, 0, 0, 0), (104, .iload 4, 106, 0, 0, 0), (106, .ishl, 107, 0, 0, 0), (107, .goto 4, 110, 111, 0, 0), (110, .iconst 0, 111, 0, 0, 0), (111, .ior, 112, 0, 0, 0), (112, .istore_n 2, 113, 0, 0, 0), (113, .iload_n 3, 114, 0, 0, 0), (114, .iload 7, 116, 0, 0, 0), (116, .ifCond .eq 7, 119, 123, 0, 0), (119, .iconst 1, 120, 0, 0, 0), (120, .goto 4, 123, 124, 0, 0), (123, .iconst 0, 124, 0, 0, 0), (124, .iadd, 125, 0, 0, 0), (125, .istore_n 3, 126, 0, 0, 0), (126, .iinc 6 1, 129, 0, 0, 0), (129, .goto (-91), 132, 38, 0, 0), (132, .iinc 5 1, 135, 0, 0, 0), (135, .goto (-107), 138, 28, 0, 0), (138, .iinc 4 1, 141, 0, 0, 0), (141, .goto (-122), 144, 19, 0, 0), (144, .iload_n 1, 145, 0, 0, 0), (145, .ifCond .ne 7, 148, 152, 0, 0), (148, .iload_n 2, 149, 0, 0, 0), (149, .goto 4, 152, 153, 0, 0), (152, .iload_n 3, 153, 0, 0, 0), (153, .ireturn, 154, 0, 0, 0)]
def smd_X11_who : smD := (11, yX11_who, cX11_who, 8, (some .int), (2, false), (5, 129), smt_X11_who)
/-- X11_slips: method 173 -/
def smt_X11_slips : List smI := [(0, .aload_n 0, 1, 0, 0, 0), (1, .iload_n 1, 2, 0, 0, 0), (2, .invokevirtual 106, 5, 119, 0, 0), (5, .ifCond .eq 11, 8, 16, 0, 0), (8, .aload_n 0, 9, 0, 0, 0), (9, .iload_n 2, 10, 0, 0, 0), (10, .invokevirtual 106, 13, 119, 0, 0), (13, .ifCond .ne 7, 16, 20, 0, 0), (16, .ldc2_w 219, 19, 1000000000000000001, 0, -1000000000000000001), (19, .lreturn, 20, 0, 0, 0), (20, .iload_n 3, 21, 0, 0, 0), (21, .iload 4, 23, 0, 0, 0), (23, .iload 5, 25, 0, 0, 0), (25, .invokestatic 187, 28, 149, 0, 0), (28, .ifCond .eq 23, 31, 51, 0, 0), (31, .iload 6, 33, 0, 0, 0), (33, .iconst 0, 34, 0, 0, 0), (34, .iconst 5, 35, 0, 0, 0), (35, .invokestatic 81, 38, 115, 0, 0), (38, .ifCond .eq 13, 41, 51, 0, 0), (41, .iload 7, 43, 0, 0, 0), (43, .iconst 0, 44, 0, 0, 0), (44, .iconst 1, 45, 0, 0, 0), (45, .invokestatic 81, 48, 115, 0, 0), (48, .ifCond .ne 7, 51, 55, 0, 0), (51, .ldc2_w 221, 54, 1000000000000000002, 0, -1000000000000000002), (54, .lreturn, 55, 0, 0, 0), (55, .iconst 0, 56, 0, 0, 0), (56, .istore 8, 58, 0, 0, 0), (58, .iconst (-1), 59, 0, 0, 0), (59, .istore 9, 61, 0, 0, 0), (61, .iload 9, 63, 0, 0, 0), (63, .iconst 2, 64, 0, 0, 0), (64, .if_icmp .ge 94, 67, 158, 0, 0), (67, .iload 4, 69, 0, 0, 0), (69, .iload 9, 71, 0, 0, 0), (71, .iadd, 72, 0, 0, 0), (72, .istore 10, 74, 0, 0, 0), (74, .iload 10, 76, 0, 0, 0), (76, .iconst 1, 77, 0, 0, 0), (77, .if_icmp .ge 7, 80, 84, 0, 0), (80, .iconst 1, 81, 0, 0, 0), (81, .goto 17, 84, 98, 0, 0), (84, .iload 10, 86, 0, 0, 0), (86, .bipush 36, 88, 0, 0, 0), (88, .if_icmp .le 8, 91, 96, 0, 0), (91, .bipush 36, 93, 0, 0, 0), (93, .goto 5, 96, 98, 0, 0), (96, .iload 10, 98, 0, 0, 0), (98, .istore 10, 100, 0, 0, 0), (100, .aload_n 0, 101, 0, 0, 0), (101, .iload_n 1, 102, 0, 0, 0), (102, .iload_n 3, 103, 0, 0, 0), (103, .iload 10, 105, 0, 0, 0), (105, .iload 5, 107, 0, 0, 0), (107, .invokevirtual 190, 110, 150, 0, 0), (110, .iload 8, 112, 0, 0, 0), (112, .aload_n 0, 113, 0, 0, 0), (113, .getfield 168, 116, 11, 28, 28), (116, .iconst 2, 117, 0, 0, 0), (117, .if_icmp .ne 31, 120, 148, 0, 0), (120, .aload_n 0, 121, 0, 0, 0), (121, .getfield 174, 124, 11, 31, 31), (124, .iload_n 2, 125, 0, 0, 0), (125, .if_icmp .ne 23, 128, 148, 0, 0), (128, .iload 9, 130, 0, 0, 0), (130, .ifCond .ne 13, 133, 143, 0, 0), (133, .bipush 10, 135, 0, 0, 0), (135, .iconst 2, 136, 0, 0, 0), (136, .iload 6, 138, 0, 0, 0), (138, .imul, 139, 0, 0, 0), (139, .isub, 140, 0, 0, 0), (140, .goto 9, 143, 149, 0, 0), (143, .iload 6, 145, 0, 0, 0), (145, .goto 4, 148, 149, 0, 0), (148, .iconst 0, 149, 0, 0, 0), (149, .iadd, 150, 0, 0, 0), (150, .istore 8, 152, 0, 0, 0), (152, .iinc 9 1, 155, 0, 0, 0), (155, .goto (-94), 158, 61, 0, 0), (158, .iload 8, 160, 0, 0, 0), (160, .istore 9, 162, 0, 0, 0), (162, .bipush 10, 164, 0, 0, 0), (164, .istore 10, 166, 0, 0, 0), (166, .iload 10, 168, 0, 0, 0), (168, .ifCond .eq 21, 171, 189, 0, 0), (171, .iload 9, 173, 0, 0, 0), (173, .iload 10, 175, 0, 0, 0), (175, .irem, 176, 0, 0, 0), (176, .istore 11, 178, 0, 0, 0), (178, .iload 10, 180, 0, 0, 0), (180, .istore 9, 182, 0, 0, 0), (182, .iload 11, 184, 0, 0, 0), (184, .istore 10, 186, 0, 0, 0), (186, .goto (-20), 189, 166, 0, 0), (189, .iload 7, 191, 0, 0, 0), (191, .ifCond .ne 12, 194, 203, 0, 0), (194, .iload 8, 196, 0, 0, 0), (196, .iload 9, 198, 0, 0, 0), (198, .idiv, 199, 0, 0, 0), (199, .i2l, 200, 0, 0, 0), (200, .goto 9, 203, 209, 0, 0), (203, .bipush 10, 205, 0, 0, 0), (205, .iload 9, 207, 0, 0, 0), (207, .idiv, 208, 0, 0, 0), (208, .i2l, 209, 0, 0, 0), (209, .lreturn, 210, 0, 0, 0)]
def smd_X11_slips : smD := (11, yX11_slips, cX11_slips, 12, (some .long), (8, false), (4, 100), smt_X11_slips)
/-- X11_year: method 174 -/
def smt_X11_year : List smI := [(0, .iload_n 1, 1, 0, 0, 0), (1, .iconst 0, 2, 0, 0, 0), (2, .sipush 9999, 5, 0, 0, 0), (5, .invokestatic 81, 8, 115, 0, 0), (8, .ifCond .eq 22, 11, 30, 0, 0), (11, .iload_n 2, 12, 0, 0, 0), (12, .iconst 1, 13, 0, 0, 0), (13, .bipush 99, 15, 0, 0, 0), (15, .invokestatic 81, 18, 115, 0, 0), (18, .ifCond .eq 12, 21, 30, 0, 0), (21, .iload_n 3, 22, 0, 0, 0), (22, .iconst 0, 23, 0, 0, 0), (23, .iconst 2, 24, 0, 0, 0), (24, .invokestatic 81, 27, 115, 0, 0), (27, .ifCond .ne 6, 30, 33, 0, 0), (30, .bipush (-2), 32, 0, 0, 0), (32, .ireturn, 33, 0, 0, 0), (33, .aload_n 0, 34, 0, 0, 0), (34, .invokevirtual 139, 37, 129, 0, 0), (37, .iload_n 1, 38, 0, 0, 0), (38, .istore 4, 40, 0, 0, 0), (40, .iconst 0, 41, 0, 0, 0), (41, .istore 5, 43, 0, 0, 0), (43, .iconst 0, 44, 0, 0, 0), (44, .istore 6, 46, 0, 0, 0), (46, .iload 6, 48, 0, 0, 0), (48, .iload_n 2, 49, 0, 0, 0), (49, .if_icmp .ge 99, 52, 148, 0, 0), (52, .bipush 75, 54, 0, 0, 0), (54, .iload 4, 56, 0, 0, 0), (56, .imul, 57, 0, 0, 0), (57, .bipush 74, 59, 0, 0, 0), (59, .iadd, 60, 0, 0, 0), (60, .ldc 223, 62, 65537, 0, 65537), (62, .irem, 63, 0, 0, 0), (63, .istore 4, 65, 0, 0, 0), (65, .iload 4, 67, 0, 0, 0), (67, .iconst 5, 68, 0, 0, 0), (68, .irem, 69, 0, 0, 0), (69, .istore 7, 71, 0, 0, 0), (71, .aload_n 0, 72, 0, 0, 0), (72, .iload 7, 74, 0, 0, 0), (74, .invokevirtual 106, 77, 119, 0, 0), (77, .ifCond .eq 21, 80, 98, 0, 0), (80, .iload 4, 82, 0, 0, 0), (82, .bipush 10, 84, 0, 0, 0), (84, .idiv, 85, 0, 0, 0), (85, .aload_n 0, 86, 0, 0, 0), (86, .getfield 17, 89, 11, 3, 3), (89, .iload 7, 91, 0, 0, 0), (91, .iaload, 92, 0, 0, 0), (92, .irem, 93, 0, 0, 0), (93, .iconst 1, 94, 0, 0, 0), (94, .iadd, 95, 0, 0, 0), (95, .goto 4, 98, 99, 0, 0), (98, .iconst 1, 99, 0, 0, 0), (99, .istore 8, 101, 0, 0, 0), (101, .aload_n 0, 102, 0, 0, 0), (102, .iload 7, 104, 0, 0, 0), (104, .iload 8, 106, 0, 0, 0), (106, .invokevirtual 151, 109, 136, 0, 0), (109, .ifCond .ne 29, 112, 138, 0, 0), (112, .aload_n 0, 113, 0, 0, 0), (113, .iload 7, 115, 0, 0, 0), (115, .iload 4, 117, 0, 0, 0), (117, .iconst 5, 118, 0, 0, 0), (118, .idiv, 119, 0, 0, 0), (119, .iconst 2, 120, 0, 0, 0), (120, .irem, 121, 0, 0, 0), (121, .iload 8, 123, 0, 0, 0), (123, .iload 4, 125, 0, 0, 0), (125, .bipush 100, 127, 0, 0, 0), (127, .idiv, 128, 0, 0, 0), (128, .iconst 5, 129, 0, 0, 0), (129, .irem, 130, 0, 0, 0), (130, .iconst 1, 131, 0, 0, 0), (131, .iadd, 132, 0, 0, 0), (132, .invokevirtual 154, 135, 137, 0, 0), (135, .iinc 5 1, 138, 0, 0, 0), (138, .aload_n 0, 139, 0, 0, 0), (139, .invokevirtual 148, 142, 135, 0, 0), (142, .iinc 6 1, 145, 0, 0, 0), (145, .goto (-99), 148, 46, 0, 0), (148, .iconst 0, 149, 0, 0, 0), (149, .istore 6, 151, 0, 0, 0), (151, .iconst 0, 152, 0, 0, 0), (152, .istore 7, 154, 0, 0, 0), (154, .iload 7, 156, 0, 0, 0), (156, .bipush 9, 158, 0, 0, 0), (158, .if_icmp .ge 21, 161, 179, 0, 0), (161, .iload 6, 163, 0, 0, 0), (163, .aload_n 0, 164, 0, 0, 0), (164, .getfield 59, 167, 11, 21, 21), (167, .iload 7, 169, 0, 0, 0), (169, .iaload, 170, 0, 0, 0), (170, .iadd, 171, 0, 0, 0), (171, .istore 6, 173, 0, 0, 0), (173, .iinc 7 1, 176, 0, 0, 0), (176, .goto (-22), 179, 154, 0, 0), (179, .iload_n 3, 180, 0, 0, 0), (180, .ifCond .ne 8, 183, 188, 0, 0), (183, .iload 5, 185, 0, 0, 0), (185, .goto 17, 188, 202, 0, 0), (188, .iload_n 3, 189, 0, 0, 0), (189, .iconst 1, 190, 0, 0, 0), (190, .if_icmp .ne 10, 193, 200, 0, 0), (193, .aload_n 0, 194, 0, 0, 0), (194, .getfield 119, 197, 11, 24, 24), (197, .goto 5, 200, 202, 0, 0), (200, .iload 6, 202, 0, 0, 0), (202, .ireturn, 203, 0, 0, 0)]
def smd_X11_year : smD := (11, yX11_year, cX11_year, 9, (some .int), (4, false), (4, 93), smt_X11_year)
/-- X11_image: method 175 -/
def smt_X11_image : List smI := [(0, .iload_n 1, 1, 0, 0, 0), (1, .iconst 0, 2, 0, 0, 0), (2, .iconst 1, 3, 0, 0, 0), (3, .invokestatic 81, 6, 115, 0, 0), (6, .ifCond .ne 6, 9, 12, 0, 0), (9, .bipush (-2), 11, 0, 0, 0), (11, .ireturn, 12, 0, 0, 0), (12, .sipush 220, 15, 0, 0, 0), (15, .iload_n 1, 16, 0, 0, 0), (16, .imul, 17, 0, 0, 0), (17, .istore_n 2, 18, 0, 0, 0), (18, .iconst 0, 19, 0, 0, 0), (19, .istore_n 3, 20, 0, 0, 0), (20, .iload_n 3, 21, 0, 0, 0), (21, .bipush 9, 23, 0, 0, 0), (23, .if_icmp .ge 57, 26, 80, 0, 0), (26, .aload_n 0, 27, 0, 0, 0), (27, .getfield 72, 30, 11, 33, 33), (30, .iload_n 2, 31, 0, 0, 0), (31, .iload_n 3, 32, 0, 0, 0), (32, .iadd, 33, 0, 0, 0), (33, .aload_n 0, 34, 0, 0, 0), (34, .getfield 13, 37, 11, 1, 1), (37, .iload_n 3, 38, 0, 0, 0), (38, .iaload, 39, 0, 0, 0), (39, .iastore, 40, 0, 0, 0), (40, .aload_n 0, 41, 0, 0, 0), (41, .getfield 72, 44, 11, 33, 33), (44, .iload_n 2, 45, 0, 0, 0), (45, .bipush 10, 47, 0, 0, 0), (47, .iadd, 48, 0, 0, 0), (48, .iload_n 3, 49, 0, 0, 0), (49, .iadd, 50, 0, 0, 0), (50, .aload_n 0, 51, 0, 0, 0), (51, .getfield 29, 54, 11, 7, 7), (54, .iload_n 3, 55, 0, 0, 0), (55, .iaload, 56, 0, 0, 0), (56, .iastore, 57, 0, 0, 0), (57, .aload_n 0, 58, 0, 0, 0), (58, .getfield 72, 61, 11, 33, 33), (61, .iload_n 2, 62, 0, 0, 0), (62, .bipush 20, 64, 0, 0, 0), (64, .iadd, 65, 0, 0, 0), (65, .iload_n 3, 66, 0, 0, 0), (66, .iadd, 67, 0, 0, 0), (67, .aload_n 0, 68, 0, 0, 0), (68, .getfield 32, 71, 11, 8, 8), (71, .iload_n 3, 72, 0, 0, 0), (72, .iaload, 73, 0, 0, 0), (73, .iastore, 74, 0, 0, 0), (74, .iinc 3 1, 77, 0, 0, 0), (77, .goto (-57), 80, 20, 0, 0), (80, .iconst 0, 81, 0, 0, 0), (81, .istore_n 3, 82, 0, 0, 0), (82, .iload_n 3, 83, 0, 0, 0), (83, .iconst 5, 84, 0, 0, 0), (84, .if_icmp .ge 77, 87, 161, 0, 0), (87, .aload_n 0, 88, 0, 0, 0), (88, .getfield 72, 91, 11, 33, 33), (91, .iload_n 2, 92, 0, 0, 0), (92, .bipush 30, 94, 0, 0, 0), (94, .iadd, 95, 0, 0, 0), (95, .iload_n 3, 96, 0, 0, 0), (96, .iadd, 97, 0, 0, 0), (97, .aload_n 0, 98, 0, 0, 0), (98, .getfield 17, 101, 11, 3, 3), (101, .iload_n 3, 102, 0, 0, 0), (102, .iaload, 103, 0, 0, 0), (103, .iastore, 104, 0, 0, 0), (104, .aload_n 0, 105, 0, 0, 0), (105, .getfield 72, 108, 11, 33, 33), (108, .iload_n 2, 109, 0, 0, 0), (109, .bipush 35, 111, 0, 0, 0), (111, .iadd, 112, 0, 0, 0), (112, .iload_n 3, 113, 0, 0, 0), (113, .iadd, 114, 0, 0, 0), (114, .aload_n 0, 115, 0, 0, 0), (115, .getfield 20, 118, 11, 4, 4), (118, .iload_n 3, 119, 0, 0, 0), (119, .iaload, 120, 0, 0, 0), (120, .iastore, 121, 0, 0, 0), (121, .aload_n 0, 122, 0, 0, 0), (122, .getfield 72, 125, 11, 33, 33), (125, .iload_n 2, 126, 0, 0, 0), (126, .bipush 40, 128, 0, 0, 0), (128, .iadd, 129, 0, 0, 0), (129, .iload_n 3, 130, 0, 0, 0), (130, .iadd, 131, 0, 0, 0), (131, .aload_n 0, 132, 0, 0, 0), (132, .getfield 23, 135, 11, 5, 5), (135, .iload_n 3, 136, 0, 0, 0), (136, .iaload, 137, 0, 0, 0), (137, .iastore, 138, 0, 0, 0), (138, .aload_n 0, 139, 0, 0, 0), (139, .getfield 72, 142, 11, 33, 33), (142, .iload_n 2, 143, 0, 0, 0), (143, .bipush 45, 145, 0, 0, 0), (145, .iadd, 146, 0, 0, 0), (146, .iload_n 3, 147, 0, 0, 0), (147, .iadd, 148, 0, 0, 0), (148, .aload_n 0, 149, 0, 0, 0), (149, .getfield 26, 152, 11, 6, 6), (152, .iload_n 3, 153, 0, 0, 0), (153, .iaload, 154, 0, 0, 0), (154, .iastore, 155, 0, 0, 0), (155, .iinc 3 1, 158, 0, 0, 0), (158, .goto (-76), 161, 82, 0, 0), (161, .iconst 0, 162, 0, 0, 0), (162, .istore_n 3, 163, 0, 0, 0), (163, .iload_n 3, 164, 0, 0, 0), (164, .bipush 60, 166, 0, 0, 0), (166, .if_icmp .ge 26, 169, 192, 0, 0), (169, .aload_n 0, 170, 0, 0, 0), (170, .getfield 72, 173, 11, 33, 33), (173, .iload_n 2, 174, 0, 0, 0), (174, .bipush 50, 176, 0, 0, 0), (176, .iadd, 177, 0, 0, 0), (177, .iload_n 3, 178, 0, 0, 0), (178, .iadd, 179, 0, 0, 0), (179, .aload_n 0, 180, 0, 0, 0), (180, .getfield 35, 183, 11, 10, 10), (183, .iload_n 3, 184, 0, 0, 0), (184, .iaload, 185, 0, 0, 0), (185, .iastore, 186, 0, 0, 0), (186, .iinc 3 1, 189, 0, 0, 0), (189, .goto (-26), 192, 163, 0, 0), (192, .iconst 0, 193, 0, 0, 0), (193, .istore_n 3, 194, 0, 0, 0), (194, .iload_n 3, 195, 0, 0, 0), (195, .bipush 36, 197, 0, 0, 0), (197, .if_icmp .ge 26, 200, 223, 0, 0), (200, .aload_n 0, 201, 0, 0, 0), (201, .getfield 72, 204, 11, 33, 33), (204, .iload_n 2, 205, 0, 0, 0), (205, .bipush 110, 207, 0, 0, 0), (207, .iadd, 208, 0, 0, 0), (208, .iload_n 3, 209, 0, 0, 0), (209, .iadd, 210, 0, 0, 0), (210, .aload_n 0, 211, 0, 0, 0), (211, .getfield 38, 214, 11, 12, 12), (214, .iload_n 3, 215, 0, 0, 0), (215, .iaload, 216, 0, 0, 0), (216, .iastore, 217, 0, 0, 0), (217, .iinc 3 1, 220, 0, 0, 0), (220, .goto (-26), 223, 194, 0, 0), (223, .iconst 0, 224, 0, 0, 0), (224, .istore_n 3, 225, 0, 0, 0), (225, .iload_n 3, 226, 0, 0, 0), (226, .bipush 18, 228, 0, 0, 0), (228, .if_icmp .ge 27, 231, 255, 0, 0), (231, .aload_n 0, 232, 0, 0, 0), (232, .getfield 72, 235, 11, 33, 33), (235, .iload_n 2, 236, 0, 0, 0), (236, .sipush 150, 239, 0, 0, 0), (239, .iadd, 240, 0, 0, 0), (240, .iload_n 3, 241, 0, 0, 0), (241, .iadd, 242, 0, 0, 0), (242, .aload_n 0, 243, 0, 0, 0), (243, .getfield 41, 246, 11, 14, 14), (246, .iload_n 3, 247, 0, 0, 0), (247, .iaload, 248, 0, 0, 0), (248, .iastore, 249, 0, 0, 0), (249, .iinc 3 1, 252, 0, 0, 0), (252, .goto (-27), 255, 225, 0, 0), (255, .aload_n 0, 256, 0, 0, 0), (256, .getfield 72, 259, 11, 33, 33), (259, .iload_n 2, 260, 0, 0, 0), (260, .sipush 170, 263, 0, 0, 0), (263, .iadd, 264, 0, 0, 0), (264, .aload_n 0, 265, 0, 0, 0), (265, .getfield 7, 268, 11, 0, 0), (268, .iastore, 269, 0, 0, 0), (269, .aload_n 0, 270, 0, 0, 0), (270, .getfield 72, 273, 11, 33, 33), (273, .iload_n 2, 274, 0, 0, 0), (274, .sipush 171, 277, 0, 0, 0), (277, .iadd, 278, 0, 0, 0), (278, .aload_n 0, 279, 0, 0, 0), (279, .getfield 78, 282, 11, 2, 2), (282, .iastore, 283, 0, 0, 0), (283, .aload_n 0, 284, 0, 0, 0), (284, .getfield 72, 287, 11, 33, 33), (287, .iload_n 2, 288, 0, 0, 0), (288, .sipush 172, 291, 0, 0, 0), (291, .iadd, 292, 0, 0, 0), (292, .aload_n 0, 293, 0, 0, 0), (293, .getfield 89, 296, 11, 9, 9), (296, .iastore, 297, 0, 0, 0), (297, .aload_n 0, 298, 0, 0, 0), (298, .getfield 72, 301, 11, 33, 33), (301, .iload_n 2, 302, 0, 0, 0), (302, .sipush 173, 305, 0, 0, 0), (305, .iadd, 306, 0, 0, 0), (306, .aload_n 0, 307, 0, 0, 0), (307, .getfield 92, 310, 11, 11, 11), (310, .iastore, 311, 0, 0, 0), (311, .aload_n 0, 312, 0, 0, 0), (312, .getfield 72, 315, 11, 33, 33), (315, .iload_n 2, 316, 0, 0, 0), (316, .sipush 174, 319, 0, 0, 0), (319, .iadd, 320, 0, 0, 0), (320, .aload_n 0, 321, 0, 0, 0), (321, .getfield 95, 324, 11, 13, 13), (324, .iastore, 325, 0, 0, 0), (325, .aload_n 0, 326, 0, 0, 0), (326, .getfield 75, 329, 11, 34, 34), (329, .iload_n 1, 330, 0, 0, 0), (330, .iconst 1, 331, 0, 0, 0), (331, .bastore, 332, 0, 0, 0), (332, .iconst 1, 333, 0, 0, 0), (333, .ireturn, 334, 0, 0, 0)]
def smd_X11_image : smD := (11, yX11_image, cX11_image, 4, (some .int), (2, false), (1, 22), smt_X11_image)
/-- X11_restore: method 176 -/
def smt_X11_restore : List smI := [(0, .iload_n 1, 1, 0, 0, 0), (1, .iconst 0, 2, 0, 0, 0), (2, .iconst 1, 3, 0, 0, 0), (3, .invokestatic 81, 6, 115, 0, 0), (6, .ifCond .ne 6, 9, 12, 0, 0), (9, .bipush (-2), 11, 0, 0, 0), (11, .ireturn, 12, 0, 0, 0), (12, .aload_n 0, 13, 0, 0, 0), (13, .getfield 75, 16, 11, 34, 34), (16, .iload_n 1, 17, 0, 0, 0), (17, .baload, 18, 0, 0, 0), (18, .ifCond .ne 6, 21, 24, 0, 0), (21, .bipush (-3), 23, 0, 0, 0), (23, .ireturn, 24, 0, 0, 0), (24, .sipush 220, 27, 0, 0, 0), (27, .iload_n 1, 28, 0, 0, 0), (28, .imul, 29, 0, 0, 0), (29, .istore_n 2, 30, 0, 0, 0), (30, .iconst 0, 31, 0, 0, 0), (31, .istore_n 3, 32, 0, 0, 0), (32, .iload_n 3, 33, 0, 0, 0), (33, .bipush 9, 35, 0, 0, 0), (35, .if_icmp .ge 57, 38, 92, 0, 0), (38, .aload_n 0, 39, 0, 0, 0), (39, .getfield 13, 42, 11, 1, 1), (42, .iload_n 3, 43, 0, 0, 0), (43, .aload_n 0, 44, 0, 0, 0), (44, .getfield 72, 47, 11, 33, 33), (47, .iload_n 2, 48, 0, 0, 0), (48, .iload_n 3, 49, 0, 0, 0), (49, .iadd, 50, 0, 0, 0), (50, .iaload, 51, 0, 0, 0), (51, .iastore, 52, 0, 0, 0), (52, .aload_n 0, 53, 0, 0, 0), (53, .getfield 29, 56, 11, 7, 7), (56, .iload_n 3, 57, 0, 0, 0), (57, .aload_n 0, 58, 0, 0, 0), (58, .getfield 72, 61, 11, 33, 33), (61, .iload_n 2, 62, 0, 0, 0), (62, .bipush 10, 64, 0, 0, 0), (64, .iadd, 65, 0, 0, 0), (65, .iload_n 3, 66, 0, 0, 0), (66, .iadd, 67, 0, 0, 0), (67, .iaload, 68, 0, 0, 0), (68, .iastore, 69, 0, 0, 0), (69, .aload_n 0, 70, 0, 0, 0), (70, .getfield 32, 73, 11, 8, 8), (73, .iload_n 3, 74, 0, 0, 0), (74, .aload_n 0, 75, 0, 0, 0), (75, .getfield 72, 78, 11, 33, 33), (78, .iload_n 2, 79, 0, 0, 0), (79, .bipush 20, 81, 0, 0, 0), (81, .iadd, 82, 0, 0, 0), (82, .iload_n 3, 83, 0, 0, 0), (83, .iadd, 84, 0, 0, 0), (84, .iaload, 85, 0, 0, 0), (85, .iastore, 86, 0, 0, 0), (86, .iinc 3 1, 89, 0, 0, 0), (89, .goto (-57), 92, 32, 0, 0), (92, .iconst 0, 93, 0, 0, 0), (93, .istore_n 3, 94, 0, 0, 0), (94, .iload_n 3, 95, 0, 0, 0), (95, .iconst 5, 96, 0, 0, 0), (96, .if_icmp .ge 77, 99, 173, 0, 0), (99, .aload_n 0, 100, 0, 0, 0), (100, .getfield 17, 103, 11, 3, 3), (103, .iload_n 3, 104, 0, 0, 0), (104, .aload_n 0, 105, 0, 0, 0), (105, .getfield 72, 108, 11, 33, 33), (108, .iload_n 2, 109, 0, 0, 0), (109, .bipush 30, 111, 0, 0, 0), (111, .iadd, 112, 0, 0, 0), (112, .iload_n 3, 113, 0, 0, 0), (113, .iadd, 114, 0, 0, 0), (114, .iaload, 115, 0, 0, 0), (115, .iastore, 116, 0, 0, 0), (116, .aload_n 0, 117, 0, 0, 0), (117, .getfield 20, 120, 11, 4, 4), (120, .iload_n 3, 121, 0, 0, 0), (121, .aload_n 0, 122, 0, 0, 0), (122, .getfield 72, 125, 11, 33, 33), (125, .iload_n 2, 126, 0, 0, 0), (126, .bipush 35, 128, 0, 0, 0), (128, .iadd, 129, 0, 0, 0), (129, .iload_n 3, 130, 0, 0, 0), (130, .iadd, 131, 0, 0, 0), (131, .iaload, 132, 0, 0, 0), (132, .iastore, 133, 0, 0, 0), (133, .aload_n 0, 134, 0, 0, 0), (134, .getfield 23, 137, 11, 5, 5), (137, .iload_n 3, 138, 0, 0, 0), (138, .aload_n 0, 139, 0, 0, 0), (139, .getfield 72, 142, 11, 33, 33), (142, .iload_n 2, 143, 0, 0, 0), (143, .bipush 40, 145, 0, 0, 0), (145, .iadd, 146, 0, 0, 0), (146, .iload_n 3, 147, 0, 0, 0), (147, .iadd, 148, 0, 0, 0), (148, .iaload, 149, 0, 0, 0), (149, .iastore, 150, 0, 0, 0), (150, .aload_n 0, 151, 0, 0, 0), (151, .getfield 26, 154, 11, 6, 6), (154, .iload_n 3, 155, 0, 0, 0), (155, .aload_n 0, 156, 0, 0, 0), (156, .getfield 72, 159, 11, 33, 33), (159, .iload_n 2, 160, 0, 0, 0), (160, .bipush 45, 162, 0, 0, 0), (162, .iadd, 163, 0, 0, 0), (163, .iload_n 3, 164, 0, 0, 0), (164, .iadd, 165, 0, 0, 0), (165, .iaload, 166, 0, 0, 0), (166, .iastore, 167, 0, 0, 0), (167, .iinc 3 1, 170, 0, 0, 0), (170, .goto (-76), 173, 94, 0, 0), (173, .iconst 0, 174, 0, 0, 0), (174, .istore_n 3, 175, 0, 0, 0), (175, .iload_n 3, 176, 0, 0, 0), (176, .bipush 60, 178, 0, 0, 0), (178, .if_icmp .ge 26, 181, 204, 0, 0), (181, .aload_n 0, 182, 0, 0, 0), (182, .getfield 35, 185, 11, 10, 10), (185, .iload_n 3, 186, 0, 0, 0), (186, .aload_n 0, 187, 0, 0, 0), (187, .getfield 72, 190, 11, 33, 33), (190, .iload_n 2, 191, 0, 0, 0), (191, .bipush 50, 193, 0, 0, 0), (193, .iadd, 194, 0, 0, 0), (194, .iload_n 3, 195, 0, 0, 0), (195, .iadd, 196, 0, 0, 0), (196, .iaload, 197, 0, 0, 0), (197, .iastore, 198, 0, 0, 0), (198, .iinc 3 1, 201, 0, 0, 0), (201, .goto (-26), 204, 175, 0, 0), (204, .iconst 0, 205, 0, 0, 0), (205, .istore_n 3, 206, 0, 0, 0), (206, .iload_n 3, 207, 0, 0, 0), (207, .bipush 36, 209, 0, 0, 0), (209, .if_icmp .ge 26, 212, 235, 0, 0), (212, .aload_n 0, 213, 0, 0, 0), (213, .getfield 38, 216, 11, 12, 12), (216, .iload_n 3, 217, 0, 0, 0), (217, .aload_n 0, 218, 0, 0, 0), (218, .getfield 72, 221, 11, 33, 33), (221, .iload_n 2, 222, 0, 0, 0), (222, .bipush 110, 224, 0, 0, 0), (224, .iadd, 225, 0, 0, 0), (225, .iload_n 3, 226, 0, 0, 0), (226, .iadd, 227, 0, 0, 0), (227, .iaload, 228, 0, 0, 0), (228, .iastore, 229, 0, 0, 0), (229, .iinc 3 1, 232, 0, 0, 0), (232, .goto (-26), 235, 206, 0, 0), (235, .iconst 0, 236, 0, 0, 0), (236, .istore_n 3, 237, 0, 0, 0), (237, .iload_n 3, 238, 0, 0, 0), (238, .bipush 18, 240, 0, 0, 0), (240, .if_icmp .ge 27, 243, 267, 0, 0), (243, .aload_n 0, 244, 0, 0, 0), (244, .getfield 41, 247, 11, 14, 14), (247, .iload_n 3, 248, 0, 0, 0), (248, .aload_n 0, 249, 0, 0, 0), (249, .getfield 72, 252, 11, 33, 33), (252, .iload_n 2, 253, 0, 0, 0), (253, .sipush 150, 256, 0, 0, 0), (256, .iadd, 257, 0, 0, 0), (257, .iload_n 3, 258, 0, 0, 0), (258, .iadd, 259, 0, 0, 0), (259, .iaload, 260, 0, 0, 0), (260, .iastore, 261, 0, 0, 0), (261, .iinc 3 1, 264, 0, 0, 0), (264, .goto (-27), 267, 237, 0, 0), (267, .aload_n 0, 268, 0, 0, 0), (268, .aload_n 0, 269, 0, 0, 0), (269, .getfield 72, 272, 11, 33, 33), (272, .iload_n 2, 273, 0, 0, 0), (273, .sipush 170, 276, 0, 0, 0), (276, .iadd, 277, 0, 0, 0), (277, .iaload, 278, 0, 0, 0), (278, .putfield 7, 281, 11, 0, 0), (281, .aload_n 0, 282, 0, 0, 0), (282, .aload_n 0, 283, 0, 0, 0), (283, .getfield 72, 286, 11, 33, 33), (286, .iload_n 2, 287, 0, 0, 0), (287, .sipush 171, 290, 0, 0, 0), (290, .iadd, 291, 0, 0, 0), (291, .iaload, 292, 0, 0, 0), (292, .putfield 78, 295, 11, 2, 2), (295, .aload_n 0, 296, 0, 0, 0), (296, .aload_n 0, 297, 0, 0, 0), (297, .getfield 72, 300, 11, 33, 33), (300, .iload_n 2, 301, 0, 0, 0), (301, .sipush 172, 304, 0, 0, 0), (304, .iadd, 305, 0, 0, 0), (305, .iaload, 306, 0, 0, 0), (306, .putfield 89, 309, 11, 9, 9), (309, .aload_n 0, 310, 0, 0, 0), (310, .aload_n 0, 311, 0, 0, 0), (311, .getfield 72, 314, 11, 33, 33), (314, .iload_n 2, 315, 0, 0, 0), (315, .sipush 173, 318, 0, 0, 0), (318, .iadd, 319, 0, 0, 0), (319, .iaload, 320, 0, 0, 0), (320, .putfield 92, 323, 11, 11, 11), (323, .aload_n 0, 324, 0, 0, 0), (324, .aload_n 0, 325, 0, 0, 0), (325, .getfield 72, 328, 11, 33, 33), (328, .iload_n 2, 329, 0, 0, 0), (329, .sipush 174, 332, 0, 0, 0), (332, .iadd, 333, 0, 0, 0), (333, .iaload, 334, 0, 0, 0), (334, .putfield 95, 337, 11, 13, 13), (337, .iconst 1, 338, 0, 0, 0), (338, .ireturn, 339, 0, 0, 0)]
def smd_X11_restore : smD := (11, yX11_restore, cX11_restore, 4, (some .int), (2, false), (1, 22), smt_X11_restore)
/-- X11_told: method 177 -/
def smt_X11_told : List smI := [(0, .iload_n 1, 1, 0, 0, 0), (1, .bipush 10, 3, 0, 0, 0), (3, .irem, 4, 0, 0, 0), (4, .istore_n 2, 5, 0, 0, 0), (5, .iload_n 1, 6, 0, 0, 0), (6, .bipush 10, 8, 0, 0, 0), (8, .bipush 19, 10, 0, 0, 0), (10, .invokestatic 81, 13, 115, 0, 0), (13, .ifCond .eq 23, 16, 36, 0, 0), (16, .aload_n 0, 17, 0, 0, 0), (17, .iload_n 2, 18, 0, 0, 0), (18, .invokevirtual 98, 21, 118, 0, 0), (21, .ifCond .eq 12, 24, 33, 0, 0), (24, .aload_n 0, 25, 0, 0, 0), (25, .getfield 13, 28, 11, 1, 1), (28, .iload_n 2, 29, 0, 0, 0), (29, .iaload, 30, 0, 0, 0), (30, .goto 5, 33, 35, 0, 0), (33, .bipush (-2), 35, 0, 0, 0), (35, .ireturn, 36, 0, 0, 0), (36, .iload_n 1, 37, 0, 0, 0), (37, .bipush 20, 39, 0, 0, 0), (39, .bipush 29, 41, 0, 0, 0), (41, .invokestatic 81, 44, 115, 0, 0), (44, .ifCond .eq 23, 47, 67, 0, 0), (47, .aload_n 0, 48, 0, 0, 0), (48, .iload_n 2, 49, 0, 0, 0), (49, .invokevirtual 106, 52, 119, 0, 0), (52, .ifCond .eq 12, 55, 64, 0, 0), (55, .aload_n 0, 56, 0, 0, 0), (56, .getfield 17, 59, 11, 3, 3), (59, .iload_n 2, 60, 0, 0, 0), (60, .iaload, 61, 0, 0, 0), (61, .goto 5, 64, 66, 0, 0), (64, .bipush (-2), 66, 0, 0, 0), (66, .ireturn, 67, 0, 0, 0), (67, .iload_n 1, 68, 0, 0, 0), (68, .tableswitch 61 0 4 #[36, 41, 46, 51, 56], 104, 0, 36, 0), (104, .aload_n 0, 105, 0, 0, 0), (105, .getfield 109, 108, 11, 15, 15), (108, .ireturn, 109, 0, 0, 0), (109, .aload_n 0, 110, 0, 0, 0), (110, .getfield 7, 113, 11, 0, 0), (113, .ireturn, 114, 0, 0, 0), (114, .aload_n 0, 115, 0, 0, 0), (115, .getfield 78, 118, 11, 2, 2), (118, .ireturn, 119, 0, 0, 0), (119, .aload_n 0, 120, 0, 0, 0), (120, .getfield 89, 123, 11, 9, 9), (123, .ireturn, 124, 0, 0, 0), (124, .aload_n 0, 125, 0, 0, 0), (125, .getfield 92, 128, 11, 11, 11), (128, .ireturn, 129, 0, 0, 0), (129, .iload_n 1, 130, 0, 0, 0), (130, .iconst 5, 131, 0, 0, 0), (131, .if_icmp .ne 10, 134, 141, 0, 0), (134, .aload_n 0, 135, 0, 0, 0), (135, .getfield 95, 138, 11, 13, 13), (138, .goto 5, 141, 143, 0, 0), (141, .bipush (-2), 143, 0, 0, 0), (143, .ireturn, 144, 0, 0, 0)]
def smd_X11_told : smD := (11, yX11_told, cX11_told, 3, (some .int), (2, false), (2, 43), smt_X11_told)
def smMs : List smD := [smd_X10_nextPlace, smd_X10_heightBehind, smd_X10_isCatchable, smd_X2_go, smd_X2_isCaughtBy, smd_X0_noteThrow, smd_X0_noteHedges, smd_X0_search, smd_X0_lowestNeed, smd_X0_tellThrow, smd_X0_tellBest, smd_X1_takeFrom, smd_X1_add, smd_X1_moveOn, smd_X1_moveStone, smd_X1_height, smd_X1_countAt, smd_X1_tellStone, smd_X1_fallingBits, smd_X2_isLowAt, smd_X2_tellEnd, smd_X9_takeFrom, smd_X8_takeFrom, smd_X7_takeFrom, smd_X3_takeFrom, smd_X8_fly, smd_X4_isInRow, smd_X4_firstCommon, smd_X4_firstMeeting, smd_X10_within, smd_X8_has, smd_X4_noteMeetings, smd_J6_bitCount_0f7a4, smd_X4_keepsApart, smd_X4_fewestForbidden, smd_X4_markRow, smd_X4_markLow, smd_X4_countMarks, smd_X4_firstMark, smd_X4_catchPlaces, smd_X4_catchesAll, smd_X4_fewestHands, smd_X5_write, smd_X5_signAt, smd_X5_number, smd_X5_nextStage, smd_X5_firstWrong, smd_X9_hasPerson, smd_X9_leastAt, smd_X9_endInHedgesAndHands, smd_X9_fallDown, smd_X9_passMinute, smd_X9_whyNoThrow, smd_X9_throwStone, smd_X9_pickUp, smd_X9_walk, smd_X5_playEvent, smd_X5_eventLength, smd_X5_play, smd_X6_look, smd_X7_note, smd_X7_fitHeights, smd_X7_fit, smd_X8_setWay, smd_X8_setTimes, smd_X9_begin, smd_X9_hasPlace, smd_X9_put, smd_X9_tellPerson, smd_X9_emptyHands, smd_X9_distance, smd_X9_lostInAll, smd_X9_drawThrow, smd_X10_places, smd_X10_hedge, smd_X10_lay, smd_X10_person, smd_X10_leave, smd_X10_say, smd_X10_wipe, smd_X10_fault, smd_X10_tryDay, smd_X10_judge, smd_X10_done, smd_X10_state, smd_X10_behind, smd_X10_stones, smd_X10_air, smd_X10_isThrow, smd_X10_flight, smd_X10_gets, smd_X10_goesTo, smd_X10_comesRound, smd_X10_round, smd_X10_keptOff, smd_X10_offerStone, smd_X10_laid, smd_X10_list, smd_X10_strike, smd_X10_meet, smd_X10_forbidden, smd_X10_duck, smd_X10_hands, smd_X10_seen, smd_X10_forget, smd_X10_fitsSights, smd_X10_fittingThrows, smd_X10_who, smd_X10_sharedWithTen, smd_X10_slips, smd_X10_year, smd_X10_imageOf, smd_X10_image, smd_X10_restore, smd_X10_told, smd_X11_in, smd_X11_has, smd_X11_bits, smd_X11_isPlace, smd_X11_isThere, smd_X11_places, smd_X11_hedge, smd_X11_lay, smd_X11_person, smd_X11_leave, smd_X11_say, smd_X11_wipe, smd_X11_faultOf, smd_X11_fault, smd_X11_asNow, smd_X11_step, smd_X11_heightOf, smd_X11_heightNow, smd_X11_firstAt, smd_X11_fall, smd_X11_pass, smd_X11_whyNot, smd_X11_fling, smd_X11_go, smd_X11_goDay, smd_X11_judge, smd_X11_barOfDay, smd_X11_done, smd_X11_state, smd_X11_behind, smd_X11_stones, smd_X11_air, smd_X11_standsAt, smd_X11_fly, smd_X11_isThrow, smd_X11_flyFrom, smd_X11_flight, smd_X11_gets, smd_X11_round, smd_X11_isCaught, smd_X11_keptOff, smd_X11_laid, smd_X11_isListed, smd_X11_list, smd_X11_strike, smd_X11_flyListed, smd_X11_wasThrown, smd_X11_placeBehind, smd_X11_heightBehind, smd_X11_meetOf, smd_X11_meet, smd_X11_forbidden, smd_X11_duck, smd_X11_hands, smd_X11_seen, smd_X11_forget, smd_X11_goesBy, smd_X11_who, smd_X11_slips, smd_X11_year, smd_X11_image, smd_X11_restore, smd_X11_told]
def smMd (k : Nat) : smD := match smMs[k]? with
  | some d => d
  | none => (99, yL_law, cL_law, 0, none, (0, true), (0, 0), [])
def smFl : Nat → List (Nat × Nat × Nat × Nat)
  | 0 => [(9, 0, 1, 304), (15, 0, 2, 306), (18, 0, 0, 302), (25, 0, 3, 307), (28, 0, 4, 308), (31, 9, 6, 125), (36, 9, 5, 122), (49, 2, 1, 273), (67, 2, 3, 279), (70, 2, 4, 283)]
  | 1 => [(9, 1, 1, 89), (15, 1, 2, 91), (18, 1, 3, 92), (21, 1, 4, 93), (24, 1, 5, 94), (27, 1, 0, 86)]
  | 2 => [(9, 2, 3, 277), (15, 2, 4, 281), (18, 2, 1, 271), (22, 2, 0, 270), (25, 2, 2, 276), (28, 6, 0, 251), (40, 6, 1, 254), (47, 6, 2, 256)]
  | 3 => [(10, 3, 0, 204), (19, 3, 1, 206), (26, 3, 2, 208)]
  | 4 => [(12, 4, 0, 328), (18, 4, 1, 329), (21, 4, 2, 330), (25, 4, 3, 331), (35, 2, 1, 272), (39, 2, 3, 278), (42, 2, 4, 282), (45, 8, 1, 162), (48, 8, 2, 164), (69, 8, 0, 160), (101, 6, 0, 252)]
  | 5 => [(9, 5, 3, 234), (15, 5, 0, 228), (35, 5, 1, 230), (38, 5, 2, 232)]
  | 6 => [(9, 6, 0, 250), (15, 6, 1, 253), (19, 6, 2, 255), (22, 9, 0, 110), (25, 9, 1, 113)]
  | 7 => [(9, 7, 1, 192), (15, 7, 2, 193), (18, 7, 3, 194), (21, 7, 0, 190), (35, 2, 1, 274), (40, 2, 3, 280), (43, 2, 4, 284)]
  | 8 => [(9, 8, 1, 161), (15, 8, 2, 163), (18, 8, 3, 165), (21, 8, 4, 166), (24, 8, 5, 167), (27, 8, 6, 168), (30, 8, 0, 158)]
  | 9 => [(9, 9, 0, 109), (15, 9, 1, 112), (19, 9, 2, 115), (22, 9, 3, 117), (25, 9, 5, 121), (28, 9, 6, 124), (31, 9, 7, 127), (34, 9, 8, 128), (40, 9, 9, 129), (44, 9, 4, 119), (47, 1, 0, 87), (104, 1, 1, 90)]
  | 10 => [(10, 10, 0, 341), (16, 10, 1, 342), (19, 10, 2, 343), (25, 10, 3, 344), (32, 10, 4, 345), (39, 10, 5, 346), (46, 10, 6, 347), (53, 10, 7, 348), (60, 10, 8, 349), (64, 10, 9, 350), (72, 3, 0, 205), (75, 9, 0, 111), (83, 3, 1, 207), (87, 8, 0, 159), (92, 3, 2, 209), (96, 7, 0, 191), (105, 9, 1, 114), (108, 9, 2, 116), (115, 9, 4, 120), (130, 5, 0, 229), (139, 5, 1, 231), (142, 5, 2, 233), (153, 9, 3, 118), (156, 9, 9, 130), (165, 1, 0, 88), (176, 9, 5, 123), (197, 0, 0, 303), (203, 0, 1, 305), (288, 3, 3, 210), (292, 9, 6, 126), (302, 2, 1, 275)]
  | 11 => [(7, 11, 0, 876), (13, 11, 1, 877), (17, 11, 3, 879), (20, 11, 4, 880), (23, 11, 5, 881), (26, 11, 6, 882), (29, 11, 7, 883), (32, 11, 8, 884), (35, 11, 10, 886), (38, 11, 12, 888), (41, 11, 14, 890), (44, 11, 16, 892), (47, 11, 17, 893), (50, 11, 18, 894), (53, 11, 19, 895), (56, 11, 20, 896), (59, 11, 21, 897), (62, 11, 23, 899), (65, 11, 25, 901), (69, 11, 32, 908), (72, 11, 33, 909), (75, 11, 34, 910), (78, 11, 2, 878), (89, 11, 9, 885), (92, 11, 11, 887), (95, 11, 13, 889), (109, 11, 15, 891), (116, 11, 22, 898), (119, 11, 24, 900), (142, 11, 27, 903), (145, 11, 26, 902), (168, 11, 28, 904), (171, 11, 29, 905), (174, 11, 31, 907), (180, 11, 30, 906)]
  | _ => []
def smMl : Nat → List (Nat × Nat × Nat × Nat)
  | 0 => [(39, 3, 0, 612), (45, 4, 0, 613), (52, 5, 0, 617), (56, 6, 0, 622), (60, 0, 4, 621), (73, 0, 3, 627), (76, 9, 0, 634)]
  | 1 => [(31, 0, 2, 468), (37, 0, 1, 2), (41, 1, 1, 3), (44, 15, 0, 522)]
  | 2 => [(33, 0, 1, 6), (37, 1, 1, 7), (43, 2, 1, 8)]
  | 3 => [(30, 21, 0, 851), (34, 22, 0, 852), (37, 23, 0, 857)]
  | 4 => [(28, 25, 0, 708), (51, 27, 0, 714), (55, 0, 4, 720), (61, 26, 0, 717), (65, 31, 0, 729), (72, 32, 0, 735), (78, 33, 0, 736), (82, 30, 0, 733), (85, 28, 0, 734), (89, 19, 0, 748), (93, 35, 0, 752), (97, 39, 0, 772), (106, 40, 0, 777), (109, 2, 1, 10)]
  | 5 => [(19, 43, 0, 438), (23, 45, 0, 443), (27, 29, 1, 1), (31, 44, 0, 446), (41, 56, 0, 473), (45, 57, 0, 544), (48, 51, 0, 477), (54, 53, 0, 523), (58, 54, 0, 535), (61, 55, 0, 539)]
  | 6 => [(26, 48, 0, 591)]
  | 7 => [(25, 0, 2, 861), (31, 1, 1, 11)]
  | 8 => [(34, 0, 2, 856), (40, 29, 1, 9), (44, 3, 0, 712)]
  | 9 => [(50, 0, 2, 461), (56, 11, 0, 464), (60, 29, 1, 0), (64, 47, 0, 509), (68, 0, 5, 675), (74, 0, 4, 678), (78, 52, 0, 527), (81, 12, 0, 531), (85, 0, 1, 5), (89, 53, 0, 833), (93, 13, 0, 481), (97, 49, 0, 488), (101, 50, 0, 514), (107, 15, 0, 492), (110, 2, 1, 4), (113, 48, 0, 505), (116, 14, 0, 510), (120, 18, 0, 518)]
  | 10 => [(68, 29, 0, 376), (79, 65, 0, 379), (101, 66, 0, 387), (111, 67, 0, 400), (118, 32, 0, 404), (124, 47, 0, 414), (127, 42, 0, 422), (131, 46, 0, 434), (135, 81, 0, 453), (145, 21, 0, 457), (149, 68, 0, 556), (160, 16, 0, 568), (166, 17, 0, 576), (169, 88, 0, 584), (172, 59, 0, 587), (179, 3, 0, 592), (183, 20, 0, 599), (186, 7, 0, 607), (190, 10, 0, 630), (193, 92, 0, 641), (200, 8, 0, 654), (206, 69, 0, 662), (210, 0, 4, 499), (215, 95, 0, 667), (219, 63, 0, 683), (223, 64, 0, 687), (227, 30, 0, 695), (230, 28, 0, 704), (234, 34, 0, 725), (238, 36, 0, 744), (242, 37, 0, 756), (245, 38, 0, 760), (248, 41, 0, 768), (251, 60, 0, 785), (254, 106, 0, 797), (261, 0, 3, 820), (264, 91, 0, 645), (268, 108, 0, 821), (272, 72, 0, 829), (275, 51, 0, 834), (278, 71, 0, 835), (281, 111, 0, 843), (285, 24, 0, 847), (295, 58, 0, 469), (299, 4, 0, 649), (305, 70, 0, 671), (308, 61, 0, 801), (311, 105, 0, 806), (315, 62, 0, 810)]
  | 11 => [(81, 115, 0, 987), (85, 116, 0, 1017), (98, 118, 0, 994), (102, 117, 0, 1006), (106, 119, 0, 1013), (112, 127, 0, 1032), (122, 131, 0, 1060), (126, 130, 0, 1052), (130, 132, 0, 1056), (133, 133, 0, 1063), (136, 134, 0, 1067), (139, 129, 0, 1044), (148, 135, 0, 1048), (151, 136, 0, 1071), (154, 137, 0, 1075), (158, 138, 0, 1079), (162, 139, 0, 1040), (165, 141, 0, 1087), (177, 147, 0, 1122), (183, 148, 0, 1118), (187, 149, 0, 1111), (190, 150, 0, 1114), (194, 154, 0, 1139), (198, 157, 0, 1155), (201, 160, 0, 1167), (204, 161, 0, 1171), (207, 162, 0, 1175), (210, 163, 0, 1179), (213, 164, 0, 1163), (216, 171, 0, 1207)]
  | 12 => [(13, 73, 0, 372), (17, 120, 0, 983), (18, 74, 0, 383), (22, 121, 0, 990), (23, 75, 0, 392), (26, 122, 0, 998), (27, 76, 0, 396), (31, 123, 0, 1002), (32, 77, 0, 410), (35, 124, 0, 1009), (36, 78, 0, 418), (39, 125, 0, 1020), (40, 79, 0, 426), (44, 126, 0, 1024), (45, 80, 0, 430), (48, 128, 0, 1028), (49, 82, 0, 449), (52, 140, 0, 1036), (53, 83, 0, 548), (56, 142, 0, 1083), (57, 84, 0, 552), (60, 143, 0, 1091), (61, 85, 0, 560), (64, 144, 0, 1095), (65, 86, 0, 564), (68, 145, 0, 1099), (69, 87, 0, 572), (72, 146, 0, 1103), (73, 89, 0, 580), (77, 151, 0, 1107), (78, 90, 0, 603), (82, 152, 0, 1126), (83, 93, 0, 637), (86, 153, 0, 1131), (87, 94, 0, 650), (90, 155, 0, 1135), (91, 96, 0, 658), (94, 156, 0, 1143), (95, 97, 0, 679), (99, 158, 0, 1147), (100, 98, 0, 691), (103, 159, 0, 1151), (104, 99, 0, 700), (107, 165, 0, 1159), (108, 100, 0, 721), (111, 166, 0, 1183), (112, 101, 0, 740), (115, 167, 0, 1187), (116, 102, 0, 764), (119, 168, 0, 1191), (120, 103, 0, 781), (123, 169, 0, 1195), (124, 104, 0, 789), (127, 170, 0, 1199), (128, 107, 0, 793), (131, 172, 0, 1203), (132, 109, 0, 814), (136, 173, 0, 1211), (137, 110, 0, 824), (140, 174, 0, 1217), (141, 112, 0, 839), (144, 175, 0, 1222), (145, 113, 0, 862), (148, 176, 0, 1226), (149, 114, 0, 866), (152, 177, 0, 1230)]
  | _ => []
def smCn : Nat → List (Nat × Nat × Nat)
  | 0 => [(24, 2147483647, 611), (66, 1000000, 626)]
  | 4 => [(34, 1000000, 713)]
  | 10 => [(209, 1000000, 666), (271, 65537, 828)]
  | 11 => [(193, 1000000, 1130), (223, 65537, 1221)]
  | 13 => [(265, 1431655765, 407), (266, 858993459, 408), (267, 252645135, 409)]
  | _ => []
def smCl : Nat → List (Nat × Nat × Nat)
  | 10 => [(257, 1000000000000000001, 818), (259, 1000000000000000002, 819)]
  | 11 => [(219, 1000000000000000001, 1215), (221, 1000000000000000002, 1216)]
  | _ => []
def smNe : List (String × Nat × MethodName × String) := [(RX9, 60, yX10_within, "StoneRound"), (RX5, 27, yX10_within, "StoneRound"), (RX1, 37, yX10_nextPlace, "StoneRound"), (RX1, 41, yX10_heightBehind, "StoneRound"), (RX9, 110, yX10_isCatchable, "StoneRound"), (RX9, 85, yX10_nextPlace, "StoneRound"), (RX2, 33, yX10_nextPlace, "StoneRound"), (RX2, 37, yX10_heightBehind, "StoneRound"), (RX2, 43, yX10_isCatchable, "StoneRound"), (RX8, 40, yX10_within, "StoneRound"), (RX4, 109, yX10_isCatchable, "StoneRound"), (RX7, 31, yX10_heightBehind, "StoneRound")]
def smTs : List Cond := lw_tbl.filter goodWord
theorem smTs_of {w : Cond} {i : Nat} (h : lw_tbl[i]? = some w) (g : goodWord w = true) : w ∈ smTs := List.mem_filter.mpr ⟨List.mem_of_getElem? h, g⟩
theorem smTs_good : GoodIn smTs smTs := fun w h => ⟨h, good_of_word (List.mem_filter.mp h).2⟩
theorem smTs_in : ∀ w ∈ smTs, w ∈ lw_tbl := fun w h => (List.mem_filter.mp h).1
end
section
/-! a small machine over whole numbers: its words, and what they mean on the machine of the claim -/
def smOwn (k : Nat) : Nat := (smMd k).1
def smNm (k : Nat) : MethodName := (smMd k).2.1
def smCd (k : Nat) : ByteArray := (smMd k).2.2.1
def smMx (k : Nat) : Nat := (smMd k).2.2.2.1
def smRt (k : Nat) : Option FieldType := (smMd k).2.2.2.2.1
def smNa (k : Nat) : Nat := (smMd k).2.2.2.2.2.1.1
def smSt (k : Nat) : Bool := (smMd k).2.2.2.2.2.1.2
def smFr (k : Nat) : Nat := (smMd k).2.2.2.2.2.2.1.1
def smLo (k : Nat) : Nat := (smMd k).2.2.2.2.2.2.1.2
def smTb (k : Nat) : List smI := (smMd k).2.2.2.2.2.2.2
def smRm (k : Nat) : Room := { frames := smFr k, cells := 0, slots := 0, locals := smLo k }
def smTx : Nat → u_T
  | 0 => TX0
  | 1 => TX1
  | 2 => TX2
  | 3 => TX3
  | 4 => TX4
  | 5 => TX5
  | 6 => TX6
  | 7 => TX7
  | 8 => TX8
  | 9 => TX9
  | 10 => TX10
  | _ => TX11
def smTn (c : Nat) : Nat := (smLay c).length
def smTy : Nat → Nat → FieldType
  | 0 => tyX0
  | 1 => tyX1
  | 2 => tyX2
  | 3 => tyX3
  | 4 => tyX4
  | 5 => tyX5
  | 6 => tyX6
  | 7 => tyX7
  | 8 => tyX8
  | 9 => tyX9
  | 10 => tyX10
  | _ => tyX11
def smClOk (ci : Nat) : Prop := (∀ w ∈ u_ws (smRn ci) (smTx ci) (smTn ci), w ∈ smTs) ∧ vwCl[ci]? = some (smRn ci, smTx ci, smTn ci) ∧ (∀ k, k < smTn ci → parseFieldDescriptor ((smTx ci) k).2.2.1 = some (smTy ci k)) ∧ (∀ a, a < smTn ci → ∀ b, b < smTn ci → a ≠ b → ((smTx ci) a).2.1 ≠ ((smTx ci) b).2.1)
theorem smTs_ps {ws : List Cond} (ps : List Nat) (h1 : ws = ps.filterMap (fun i => lw_tbl[i]?)) (h2 : ws.all goodWord = true) : ∀ w ∈ ws, w ∈ smTs := by
  intro w hw
  have hg := List.all_eq_true.mp h2 w hw
  rw [h1] at hw
  obtain ⟨i, -, hi⟩ := List.mem_filterMap.mp hw
  exact smTs_of hi hg
theorem smcl_0 : ∀ w ∈ u_ws RX0 TX0 5, w ∈ smTs := smTs_ps [309, 311, 313, 315, 317] (by decide +kernel) (by decide +kernel)
theorem smcl_1 : ∀ w ∈ u_ws RX1 TX1 6, w ∈ smTs := smTs_ps [95, 97, 99, 101, 103, 105] (by decide +kernel) (by decide +kernel)
theorem smcl_2 : ∀ w ∈ u_ws RX2 TX2 5, w ∈ smTs := smTs_ps [285, 287, 289, 291, 293] (by decide +kernel) (by decide +kernel)
theorem smcl_3 : ∀ w ∈ u_ws RX3 TX3 4, w ∈ smTs := smTs_ps [211, 213, 215, 217] (by decide +kernel) (by decide +kernel)
theorem smcl_4 : ∀ w ∈ u_ws RX4 TX4 4, w ∈ smTs := smTs_ps [332, 334, 336, 338] (by decide +kernel) (by decide +kernel)
theorem smcl_5 : ∀ w ∈ u_ws RX5 TX5 4, w ∈ smTs := smTs_ps [235, 237, 239, 241] (by decide +kernel) (by decide +kernel)
theorem smcl_6 : ∀ w ∈ u_ws RX6 TX6 3, w ∈ smTs := smTs_ps [257, 259, 261] (by decide +kernel) (by decide +kernel)
theorem smcl_7 : ∀ w ∈ u_ws RX7 TX7 4, w ∈ smTs := smTs_ps [195, 197, 199, 201] (by decide +kernel) (by decide +kernel)
theorem smcl_8 : ∀ w ∈ u_ws RX8 TX8 7, w ∈ smTs := smTs_ps [169, 171, 173, 175, 177, 179, 181] (by decide +kernel) (by decide +kernel)
theorem smcl_9 : ∀ w ∈ u_ws RX9 TX9 10, w ∈ smTs := smTs_ps [131, 133, 135, 137, 139, 141, 143, 145, 147, 149] (by decide +kernel) (by decide +kernel)
theorem smcl_10 : ∀ w ∈ u_ws RX10 TX10 10, w ∈ smTs := smTs_ps [351, 353, 355, 357, 359, 361, 363, 365, 367, 369] (by decide +kernel) (by decide +kernel)
theorem smcl_11 : ∀ w ∈ u_ws RX11 TX11 35, w ∈ smTs := smTs_ps [911, 913, 915, 917, 919, 921, 923, 925, 927, 929, 931, 933, 935, 937, 939, 941, 943, 945, 947, 949, 951, 953, 955, 957, 959, 961, 963, 965, 967, 969, 971, 973, 975, 977, 979] (by decide +kernel) (by decide +kernel)
theorem smCl_ok : ∀ ci, ci < 12 → smClOk ci
  | 0, _ => ⟨smcl_0, rfl, tyX0_ok, nmX0⟩
  | 1, _ => ⟨smcl_1, rfl, tyX1_ok, nmX1⟩
  | 2, _ => ⟨smcl_2, rfl, tyX2_ok, nmX2⟩
  | 3, _ => ⟨smcl_3, rfl, tyX3_ok, nmX3⟩
  | 4, _ => ⟨smcl_4, rfl, tyX4_ok, nmX4⟩
  | 5, _ => ⟨smcl_5, rfl, tyX5_ok, nmX5⟩
  | 6, _ => ⟨smcl_6, rfl, tyX6_ok, nmX6⟩
  | 7, _ => ⟨smcl_7, rfl, tyX7_ok, nmX7⟩
  | 8, _ => ⟨smcl_8, rfl, tyX8_ok, nmX8⟩
  | 9, _ => ⟨smcl_9, rfl, tyX9_ok, nmX9⟩
  | 10, _ => ⟨smcl_10, rfl, tyX10_ok, nmX10⟩
  | 11, _ => ⟨smcl_11, rfl, tyX11_ok, nmX11⟩
  | n + 12, h => absurd h (by omega)
/-- the fields of a class as the layout has them -/
def smIsI : FieldType → Bool
  | .int => true
  | _ => false
def smIsZ : FieldType → Bool
  | .boolean => true
  | _ => false
def smLayB : Bool := (List.range 12).all fun ci => (List.range (smTn ci)).all fun b => match (smLay ci)[b]? with
  | some (.inl 0) => smIsI (smTy ci b) && !((smTx ci) b).2.2.2
  | some (.inl 1) => smIsZ (smTy ci b) && !((smTx ci) b).2.2.2
  | _ => true
theorem smLayB_ok : smLayB = true := by decide +kernel
theorem smIsI_eq {t : FieldType} (h : smIsI t = true) : t = .int := by
  cases t <;> first | rfl | cases h
theorem smIsZ_eq {t : FieldType} (h : smIsZ t = true) : t = .boolean := by
  cases t <;> first | rfl | cases h
theorem smLay_ok {ci b : Nat} (hc : ci < 12) (hb : b < smTn ci) : ((smLay ci)[b]? = some (.inl 0) → smTy ci b = .int ∧ ((smTx ci) b).2.2.2 = false) ∧ ((smLay ci)[b]? = some (.inl 1) → smTy ci b = .boolean ∧ ((smTx ci) b).2.2.2 = false) := by
  have h1 := List.all_eq_true.mp (List.all_eq_true.mp smLayB_ok ci (List.mem_range.mpr hc)) b (List.mem_range.mpr hb)
  refine ⟨fun h => ?_, fun h => ?_⟩
  · simp only [h, Bool.and_eq_true, Bool.not_eq_true'] at h1
    exact ⟨smIsI_eq h1.1, h1.2⟩
  · simp only [h, Bool.and_eq_true, Bool.not_eq_true'] at h1
    exact ⟨smIsZ_eq h1.1, h1.2⟩
def smShB : Bool := (List.range 136).all fun k => match smSh[k]? with
  | some (.inl c) => decide (c < 12) && (smLay c).all (fun e => match e with
    | .inr q => decide (smSh[k + q.2]? = some q.1)
    | _ => true)
  | some (.inr _) => true
  | none => false
theorem smShB_ok : smShB = true := by decide +kernel
theorem smSh_len : smSh.length = 136 := by decide +kernel
theorem smSh_lt {k : Nat} {t : smT} (h : smSh[k]? = some t) : k < 136 := by
  have := (List.getElem?_eq_some_iff.mp h).1
  rw [smSh_len] at this
  exact this
theorem smSh_cls {k c : Nat} (h : smSh[k]? = some (.inl c)) : c < 12 ∧ ∀ (b : Nat) (q : smT × Nat), (smLay c)[b]? = some (.inr q) → smSh[k + q.2]? = some q.1 := by
  have h1 := List.all_eq_true.mp smShB_ok k (List.mem_range.mpr (smSh_lt h))
  simp only [h, Bool.and_eq_true, decide_eq_true_eq] at h1
  refine ⟨h1.1, fun b q hq => ?_⟩
  have h2 := List.all_eq_true.mp h1.2 _ (List.mem_of_getElem? hq)
  simpa using h2
/-- the values of an object's fields -/
def smFv (ad : Nat → Nat) (mem : smM) (k : Nat) : List (Nat ⊕ (smT × Nat)) → Nat → List Value
  | [], _ => []
  | .inl _ :: r, j => .int (Int32.ofInt (mem k (j : Int))) :: smFv ad mem k r (j + 1)
  | .inr q :: r, j => .ref (ad (k + q.2)) :: smFv ad mem k r (j + 1)
def smF1 (ad : Nat → Nat) (mem : smM) (k j : Nat) : Nat ⊕ (smT × Nat) → Value
  | .inl _ => .int (Int32.ofInt (mem k (j : Int)))
  | .inr q => .ref (ad (k + q.2))
theorem smFv_get (ad : Nat → Nat) (mem : smM) (k : Nat) : ∀ (l : List (Nat ⊕ (smT × Nat))) (j i : Nat), (smFv ad mem k l j)[i]? = (l[i]?).map (smF1 ad mem k (j + i))
  | [], j, i => by simp [smFv]
  | .inl n :: r, j, 0 => by simp [smFv, smF1]
  | .inr q :: r, j, 0 => by simp [smFv, smF1]
  | .inl n :: r, j, i + 1 => by
    simp only [smFv, List.getElem?_cons_succ]
    rw [smFv_get ad mem k r (j + 1) i, Nat.add_right_comm j 1 i, Nat.add_assoc]
  | .inr q :: r, j, i + 1 => by
    simp only [smFv, List.getElem?_cons_succ]
    rw [smFv_get ad mem k r (j + 1) i, Nat.add_right_comm j 1 i, Nat.add_assoc]
theorem smFv_len (ad : Nat → Nat) (mem : smM) (k : Nat) : ∀ (l : List (Nat ⊕ (smT × Nat))) (j : Nat), (smFv ad mem k l j).length = l.length
  | [], j => rfl
  | .inl n :: r, j => by simp [smFv, smFv_len ad mem k r]
  | .inr q :: r, j => by simp [smFv, smFv_len ad mem k r]
abbrev smE : Type := va_G × (ClassId × ClassId) × (Nat → Nat)
def smCe (E : smE) (mem : smM) (k : Nat) : smT → va_E
  | .inl c => .inr (c, smFv E.2.2 mem k (smLay c) 0)
  | .inr (false, n) => .inl (E.2.1.1, n, .inl (fun j => Int32.ofInt (mem k (j : Int))))
  | .inr (true, n) => .inl (E.2.1.2, n, .inl (fun j => Int32.ofInt (mem k (j : Int))))
def smWs (E : smE) (mem : smM) : va_W := smSh.mapIdx (fun k t => (E.2.2 k, smCe E mem k t))
theorem smWs_get (E : smE) (mem : smM) (k : Nat) : (smWs E mem)[k]? = (smSh[k]?).map (fun t => (E.2.2 k, smCe E mem k t)) := by
  simp [smWs]
theorem smWs_at {E : smE} {mem : smM} {k : Nat} {t : smT} (h : smSh[k]? = some t) : (smWs E mem)[k]? = some (E.2.2 k, smCe E mem k t) := by
  rw [smWs_get, h]; rfl
theorem smFv_congr (ad : Nat → Nat) {mem mem' : smM} {k : Nat} (h : ∀ i, mem' k i = mem k i) : ∀ (l : List (Nat ⊕ (smT × Nat))) (j : Nat), smFv ad mem' k l j = smFv ad mem k l j
  | [], j => rfl
  | .inl n :: r, j => by simp [smFv, smFv_congr ad h r, h]
  | .inr q :: r, j => by simp [smFv, smFv_congr ad h r]
theorem smCe_congr (E : smE) {mem mem' : smM} {k : Nat} (h : ∀ i, mem' k i = mem k i) (t : smT) : smCe E mem' k t = smCe E mem k t := by
  rcases t with c | ⟨b, n⟩
  · simp only [smCe, smFv_congr E.2.2 h]
  · cases b <;> simp only [smCe, h]
theorem smWs_set {E : smE} {mem mem' : smM} {k : Nat} {t : smT} (hk : smSh[k]? = some t) {e : va_E} (h1 : smCe E mem' k t = e) (h2 : ∀ j, j ≠ k → ∀ i, mem' j i = mem j i) : (smWs E mem).set k (E.2.2 k, e) = smWs E mem' := by
  apply List.ext_getElem?
  intro i
  by_cases hi : i = k
  · subst hi
    rw [smWs_at hk, h1, List.getElem?_set_self]
    exact (List.getElem?_eq_some_iff.mp (smWs_at (E := E) (mem := mem) hk)).1
  · rw [List.getElem?_set_ne (Ne.symm hi), smWs_get, smWs_get]
    cases hs : smSh[i]? with
    | none => rfl
    | some t' => simp only [Option.map_some, smCe_congr E (h2 i hi)]
def smInj (E : smE) : Prop := ∀ i j, i < 136 → j < 136 → E.2.2 i = E.2.2 j → i = j
def smA (E : smE) (sz : Nat) : Nat → Prop := fun q => (∃ k, k < 136 ∧ q = E.2.2 k) ∨ sz ≤ q
theorem smWs_inv {E : smE} {mem : smM} {k : Nat} {q : Nat × va_E} (h : (smWs E mem)[k]? = some q) : k < 136 ∧ q.1 = E.2.2 k := by
  rw [smWs_get] at h
  cases hs : smSh[k]? with
  | none => rw [hs] at h; cases h
  | some t =>
    rw [hs] at h
    cases h
    exact ⟨smSh_lt hs, rfl⟩
theorem smD_of {E : smE} (hi : smInj E) (sz : Nat) (mem : smM) : va_D (smA E sz) (smWs E mem) := by
  refine ⟨fun i j p q h1 h2 h => ?_, fun k q h => ?_⟩
  · obtain ⟨a1, a2⟩ := smWs_inv h1
    obtain ⟨b1, b2⟩ := smWs_inv h2
    exact hi i j a1 b1 (by rw [← a2, ← b2, h])
  · obtain ⟨a1, a2⟩ := smWs_inv h
    exact Or.inl ⟨k, a1, a2⟩
theorem smA_mono {E : smE} {a b q : Nat} (h : a ≤ b) (hq : smA E b q) : smA E a q := by
  rcases hq with h1 | h1
  · exact Or.inl h1
  · exact Or.inr (Nat.le_trans h h1)
def smU (mem : smM) (k : Nat) (j v : Int) : smM := fun k' j' => if k' = k ∧ j' = j then v else mem k' j'
theorem smU_ne {mem : smM} {k : Nat} {j v : Int} {k' : Nat} (h : k' ≠ k) (j' : Int) : smU mem k j v k' j' = mem k' j' := by
  simp [smU, h]
def smCp (mem : smM) (k0 k1 : Nat) (n : Int) : smM := fun k j => if k = k1 ∧ 0 ≤ j ∧ j < n then mem k0 j else mem k j
/-- whole numbers as the machine's -/
def smIR (a : Int) : Prop := -2147483648 ≤ a ∧ a ≤ 2147483647
theorem smIR_toInt {a : Int} (h : smIR a) : (Int32.ofInt a).toInt = a := by
  obtain ⟨h1, h2⟩ := h
  exact Int32.toInt_ofInt_of_le (by simpa using h1) (by omega)
theorem sm_lt {a b : Int} (ha : smIR a) (hb : smIR b) : Int32.ofInt a < Int32.ofInt b ↔ a < b := by
  rw [Int32.lt_iff_toInt_lt, smIR_toInt ha, smIR_toInt hb]
theorem sm_le {a b : Int} (ha : smIR a) (hb : smIR b) : Int32.ofInt a ≤ Int32.ofInt b ↔ a ≤ b := by
  rw [Int32.le_iff_toInt_le, smIR_toInt ha, smIR_toInt hb]
theorem sm_eq {a b : Int} (ha : smIR a) (hb : smIR b) : Int32.ofInt a = Int32.ofInt b ↔ a = b := by
  rw [← Int32.toInt_inj, smIR_toInt ha, smIR_toInt hb]
theorem sm_0 : Int32.ofInt 0 = 0 := rfl
theorem smIR_0 : smIR 0 := ⟨by decide, by decide⟩
theorem sm_ofToInt (x : Int32) : Int32.ofInt x.toInt = x := by simp
theorem sm_idx {i : Int} {n : Nat} (h0 : 0 ≤ i) (h1 : i < n) (hn : n < 2 ^ 31) : vp_in (Int32.ofInt i) n ∧ (Int32.ofInt i).toNatClampNeg = i.toNat := by
  have hr : smIR i := ⟨by omega, by omega⟩
  have ht := smIR_toInt hr
  refine ⟨vp_in_iff.mpr ⟨by rw [ht]; exact h0, by rw [ht]; exact h1⟩, ?_⟩
  show (Int32.ofInt i).toInt.toNat = i.toNat
  rw [ht]
def smAnd (a b : Int) : Int := (Int32.ofInt a &&& Int32.ofInt b).toInt
def smOr (a b : Int) : Int := (Int32.ofInt a ||| Int32.ofInt b).toInt
def smXor (a b : Int) : Int := (Int32.ofInt a ^^^ Int32.ofInt b).toInt
def smShl (a b : Int) : Int := (Int32.ofInt a <<< (Int32.ofInt b &&& 31)).toInt
def smShr (a b : Int) : Int := (Int32.ofInt a >>> (Int32.ofInt b &&& 31)).toInt
def smUsh (a b : Int) : Int := ((Int32.ofInt a).toUInt32 >>> ((Int32.ofInt b).toUInt32 &&& Int32.toUInt32 31)).toInt32.toInt
theorem sm_div {a b : Int} (ha : smIR a) (hb : smIR b) (h0 : 0 < b) : Int32.ofInt a / Int32.ofInt b = Int32.ofInt (a.tdiv b) := by
  apply Int32.toInt_inj.mp
  have hq : smIR (a.tdiv b) := by
    obtain ⟨h1, h2⟩ := ha
    have hn := Int.natAbs_tdiv_le_natAbs a b
    have h3 : (a.tdiv b).natAbs ≤ a.natAbs := hn
    by_cases hs : 0 ≤ a
    · have := Int.tdiv_nonneg hs (Int.le_of_lt h0)
      constructor <;> omega
    · constructor
      · omega
      · have h5 : (-a).tdiv b = -(a.tdiv b) := Int.neg_tdiv a b
        have h6 := Int.tdiv_nonneg (show 0 ≤ -a by omega) (Int.le_of_lt h0)
        omega
  rw [smIR_toInt hq, Int32.toInt_div_of_ne_right _ _ (by
    intro h
    have := congrArg Int32.toInt h
    rw [smIR_toInt hb] at this
    have h9 : (-1 : Int32).toInt = -1 := rfl
    rw [h9] at this
    omega), smIR_toInt ha, smIR_toInt hb]
theorem sm_ne0 {b : Int} (hb : smIR b) (h0 : 0 < b) : ¬ Int32.ofInt b = 0 := by
  intro h
  have h1 : Int32.ofInt b = Int32.ofInt 0 := h
  have := (sm_eq hb smIR_0).mp h1
  omega
theorem sm_rem {a b : Int} (ha : smIR a) (hb : smIR b) (h0 : 0 < b) : Int32.ofInt a - Int32.ofInt a / Int32.ofInt b * Int32.ofInt b = Int32.ofInt (a.tmod b) := by
  rw [sm_div ha hb h0, ← Int32.ofInt_mul, ← Int32.ofInt_sub]
  congr 1
  have := Int.tmod_add_tdiv_mul a b
  omega
/-- values -/
def smOK : smV → Prop
  | .inr (.inl q) => smSh[q.2]? = some q.1
  | _ => True
def smC1 : smV → Bool
  | .inr (.inr _) => false
  | _ => true
def smCat : smV → Nat
  | .inr (.inr _) => 2
  | _ => 1
def smCv (ad : Nat → Nat) : smV → Value
  | .inl a => .int (Int32.ofInt a)
  | .inr (.inl q) => .ref (ad q.2)
  | .inr (.inr x) => .long (Int64.ofInt x)
theorem smCv_cat (ad : Nat → Nat) (v : smV) : (smCv ad v).category = smCat v := by
  rcases v with a | q | x <;> rfl
theorem smCv_c1 (ad : Nat → Nat) {v : smV} (h : smC1 v = true) : (smCv ad v).category = 1 := by
  rcases v with a | q | x
  · rfl
  · rfl
  · cases h
/-- what is known of the locals -/
def smLs (ad : Nat → Nat) (ls : Array Slot) (n : Nat) (L : List (Option smV)) : Prop := ls.size = n ∧ lv_wf ls ∧ ∀ (i : Nat) (v : smV), L[i]? = some (some v) → ls[i]? = some (.val (smCv ad v)) ∧ smOK v ∧ smC1 v = true
def smPr (ad : Nat → Nat) (L : List (Option smV)) : List (Nat × Value) := L.zipIdx.filterMap (fun q => q.1.map (fun v => (q.2, smCv ad v)))
theorem smPr_mem {ad : Nat → Nat} {L : List (Option smV)} {i : Nat} {v : smV} (h : L[i]? = some (some v)) : (i, smCv ad v) ∈ smPr ad L := by
  refine List.mem_filterMap.mpr ⟨(some v, i), ?_, rfl⟩
  rw [List.mem_iff_getElem?]
  exact ⟨i, by simp [List.getElem?_zipIdx, h]⟩
theorem smPr_inv {ad : Nat → Nat} {L : List (Option smV)} {q : Nat × Value} (h : q ∈ smPr ad L) : ∃ v, L[q.1]? = some (some v) ∧ q.2 = smCv ad v := by
  obtain ⟨⟨o, i⟩, h1, h2⟩ := List.mem_filterMap.mp h
  cases o with
  | none => cases h2
  | some v =>
    cases h2
    obtain ⟨j, hj⟩ := List.mem_iff_getElem?.mp h1
    rw [List.getElem?_zipIdx] at hj
    cases hL : L[j]? with
    | none => rw [hL] at hj; cases hj
    | some o =>
      rw [hL] at hj
      simp at hj
      obtain ⟨rfl, rfl⟩ := hj
      exact ⟨v, hL, rfl⟩
theorem smLs_has {ad : Nat → Nat} {ls : Array Slot} {n : Nat} {L : List (Option smV)} (h : smLs ad ls n L) : lv_has ls n (smPr ad L) := by
  refine ⟨h.1, h.2.1, fun q hq => ?_⟩
  obtain ⟨v, h1, h2⟩ := smPr_inv hq
  rw [h2]
  exact (h.2.2 _ v h1).1
theorem smLs_set {ad : Nat → Nat} {ls ls' : Array Slot} {n : Nat} {L : List (Option smV)} {i : Nat} {v : smV} (h : smLs ad ls n L) (hv : smOK v) (hc : smC1 v = true)
    (h' : lv_has ls' n ((i, smCv ad v) :: (smPr ad L).filter (fun q => !(q.1 == i) && !(q.1 + 1 == i && q.2.category == 2)))) : smLs ad ls' n (L.set i (some v)) := by
  refine ⟨h'.1, h'.2.1, fun j w hj => ?_⟩
  by_cases hji : j = i
  · subst hji
    have hl : j < L.length := by
      have := (List.getElem?_eq_some_iff.mp hj).1
      simpa using this
    rw [List.getElem?_set_self hl] at hj
    cases hj
    exact ⟨h'.2.2 _ List.mem_cons_self, hv, hc⟩
  · rw [List.getElem?_set_ne (Ne.symm hji)] at hj
    obtain ⟨h1, h2, h3⟩ := h.2.2 j w hj
    refine ⟨h'.2.2 (j, smCv ad w) (List.mem_cons_of_mem _ (List.mem_filter.mpr ⟨smPr_mem hj, ?_⟩)), h2, h3⟩
    have hc1 := smCv_c1 ad h3
    simp [hji, hc1]
/-- the world at a state -/
def smNw (U : State) : Prop := ∀ q ∈ smNe, va_Nw (.methodLinkNest q.1 q.2.1 q.2.2.1 q.2.2.2) U
def smKs (E : smE) (U : State) : Prop := va_K E.1 vwCl [(E.2.1.1, .int), (E.2.1.2, .boolean)] U ∧ smNw U
theorem smKs_warm {E : smE} {s U : State} (hW : s.WarmedH U.vm) (h : smKs E s) : smKs E U := ⟨va_K.moved hW.alike h.1, fun q hq => va_Nw.warmM hW (h.2 q hq)⟩
def smPc (E : smE) (args : List smV) (mem : smM) (sz : Nat) : Array Value → State → Prop := va_Pc (args.map (smCv E.2.2)) (fun U => U.heap.size = sz ∧ va_P E.1 vwCl (smWs E mem) U.heap ∧ smKs E U)
def smQc (E : smE) (sz : Nat) (Post : Option smV → smM → Prop) : Array Value → State → Outcome → State → Prop := fun _ st oc t => (∃ (v : Option smV) (mem' : smM), oc = .returned (v.map (smCv E.2.2)) ∧ Post v mem' ∧ (∀ w, v = some w → smOK w) ∧ va_P E.1 vwCl (smWs E mem') t.heap) ∧ va_F (smA E sz) st t
def smWd (k : Nat) : List Cond := .code (smNm k) (smCd k) (smMx k) (smRt k) :: smTs
/-- a method's run, whoever calls it -/
def smRunB (k : Nat) (args : List smV) (mem : smM) (Post : Option smV → smM → Prop) : Prop :=
  (∀ v ∈ args, smOK v ∧ smC1 v = true) → ∀ (l : Launch) (E : smE) (sz : Nat), smInj E → Met l (smNm k) (smWd k) (smRm k) (smPc E args mem sz) (smQc E sz Post) 0 0 (smA E sz)
def smRun (k : Nat) (args : List smV) (mem : smM) (Post : Option smV → smM → Prop) : Prop := smRunB k args mem Post = True
/-- what holds all through a method's frame -/
def smCx (k : Nat) (p : Program) (s : State) (m : MethodId) (args : Array Value) (meth : Method) (c : Code) (E : smE) : Prop :=
  p.tables.exec = Jvm.exec ∧ c.code = smCd k ∧ c.maxLocals = smMx k ∧ meth.sig.returnType = smRt k ∧ meth.locks = false ∧ s.vm.findClass (smRn (smOwn k)) = some m.cls ∧ (∀ w ∈ smTs, w.before args s = true) ∧ smKs E s ∧ smInj E
/-- from here on, in this method: it returns with Post -/
def smWpB (k : Nat) (pc : Nat) (L : List (Option smV)) (st : List smV) (mem : smM) (Post : Option smV → smM → Prop) : Prop :=
  ∀ (p : Program) (l : Launch) (e : Env) (s : State) (m : MethodId) (args : Array Value) (below : List Frame) (meth : Method) (c : Code) (E : smE) (H : Heap) (locs : List Loc) (ls : Array Slot),
    smCx k p s m args meth c E → va_P E.1 vwCl (smWs E mem) H → va_S (smA E s.heap.size) s.heap H locs → smLs E.2.2 ls (smMx k) L → (∀ v ∈ st, smOK v) →
    W p l e (smRm k) s m args below meth c H locs 0 0 (MQ below (smQc E s.heap.size Post) args s 0 0 (smA E s.heap.size)) (F0 m pc ls (st.map (smCv E.2.2)))
def smWp (k : Nat) (pc : Nat) (L : List (Option smV)) (st : List smV) (mem : smM) (Post : Option smV → smM → Prop) : Prop := smWpB k pc L st mem Post = True
end
section
/-! the tables hold: each instruction is what the bytes say, each link stands in the claim's words -/
def smLen (b : Nat) : Instr → Nat
  | .bipush _ => 2
  | .sipush _ => 3
  | .ldc _ => 2
  | .ldc_w _ => 3
  | .ldc2_w _ => 3
  | .iload _ => 2
  | .aload _ => 2
  | .istore _ => 2
  | .astore _ => 2
  | .iinc _ _ => 3
  | .if_icmp _ _ => 3
  | .ifCond _ _ => 3
  | .goto _ => 3
  | .getfield _ => 3
  | .putfield _ => 3
  | .invokevirtual _ => 3
  | .invokestatic _ => 3
  | .tableswitch _ _ _ _ => b
  | .lookupswitch _ _ => b
  | _ => 1
def smRoom (d : smD) (a b : Nat) : Bool := if b ≤ 1 then decide (smFr a + 1 ≤ d.2.2.2.2.2.2.1.1) && decide (8 + (smMx a + 11) + smLo a ≤ d.2.2.2.2.2.2.1.2) && decide (a < smMs.length) else decide (1 ≤ d.2.2.2.2.2.2.1.1) && decide (26 ≤ d.2.2.2.2.2.2.1.2)
def smChi (d : smD) (pc a b : Nat) : Instr → Bool
  | .bipush n => decide ((Int8.ofInt n).toInt32 = Int32.ofInt n)
  | .sipush n => decide ((Int16.ofInt n).toInt32 = Int32.ofInt n)
  | .ldc i => (smCn d.1).any (fun q => q.1 == i && q.2.1 == a)
  | .ldc_w i => (smCn d.1).any (fun q => q.1 == i && q.2.1 == a)
  | .ldc2_w i => (smCl d.1).any (fun q => q.1 == i && q.2.1 == a)
  | .istore_n i => decide ((i : Nat) < d.2.2.2.1)
  | .istore i => decide (i < d.2.2.2.1)
  | .astore_n i => decide ((i : Nat) < d.2.2.2.1)
  | .astore i => decide (i < d.2.2.2.1)
  | .iinc i _ => decide (i < d.2.2.2.1)
  | .if_icmp _ off => decide ((pc : Int) + off = (a : Int))
  | .ifCond _ off => decide ((pc : Int) + off = (a : Int))
  | .goto off => decide ((pc : Int) + off = (a : Int))
  | .getfield i => (smFl d.1).any (fun q => q.1 == i && q.2.1 == a && q.2.2.1 == b) && decide (b < smTn a) && decide (a < 12)
  | .putfield i => (smFl d.1).any (fun q => q.1 == i && q.2.1 == a && q.2.2.1 == b) && decide (b < smTn a) && decide (a < 12)
  | .invokevirtual i => (smMl d.1).any (fun q => q.1 == i && q.2.1 == a && q.2.2.1 == b) && b == 0 && !smSt a && smRoom d a b
  | .invokestatic i => (smMl d.1).any (fun q => q.1 == i && q.2.1 == a && q.2.2.1 == b) && (decide (2 ≤ b) || smSt a) && smRoom d a b
  | .tableswitch df lo hi offs => decide ((offs.size : Int) = hi - lo + 1) && decide (0 ≤ (pc : Int) + df) && offs.toList.all (fun o => decide (0 ≤ (pc : Int) + o))
  | .lookupswitch df ps => (ps.toList.zip (ps.toList.drop 1)).all (fun (a, next) => a.1 < next.1) && decide (0 ≤ (pc : Int) + df) && ps.toList.all (fun o => decide (0 ≤ (pc : Int) + o.2))
  | _ => true
def smChz (a b : Nat) (z : Int) : Instr → Bool
  | .getfield _ => decide (z = (b : Int))
  | .putfield _ => decide (z = (b : Int))
  | .ldc _ => decide (z = (a : Int))
  | .ldc_w _ => decide (z = (a : Int))
  | .ldc2_w _ => decide (z = -(a : Int))
  | _ => true
def smChk (d : smD) : smI → Bool
  | (pc, i, nx, a, b, z) => decide (decode d.2.2.1 pc = .ok (i, smLen b i)) && smChi d pc a b i && decide (nx = pc + smLen b i) && smChz a b z i
/-- what must hold of a method -/
def smMok (d : smD) : Prop :=
  plainName d.2.1.cls = true ∧ d.2.1.cls = smRn d.1 ∧ (d.2.1.cls ≠ "java/lang/invoke/MethodHandle" ∧ d.2.1.cls ≠ "java/lang/invoke/VarHandle") ∧ (parseMethodDescriptor d.2.1.desc).map (fun z => z.parameters.length) = some (if d.2.2.2.2.2.1.2 then d.2.2.2.2.2.1.1 else d.2.2.2.2.2.1.1 - 1) ∧
  Cond.code d.2.1 d.2.2.1 d.2.2.2.1 d.2.2.2.2.1 ∈ smTs ∧ Cond.initialized d.2.1.cls ∈ smTs ∧ (d.2.2.2.2.2.1.2 = true → Cond.static d.2.1 ∈ smTs) ∧ (d.2.2.2.2.2.1.2 = false → Cond.instanceMethod d.2.1 ∈ smTs ∧ Cond.selects d.2.1.cls d.2.1 d.2.1 ∈ smTs ∧ 1 ≤ d.2.2.2.2.2.1.1 ∧ d.1 < 12) ∧
  d.2.2.2.2.2.2.2.all (smChk d) = true
theorem smMok_s {d : smD} (i1 i2 i3 : Nat) (h1 : plainName d.2.1.cls = true) (h2 : d.2.1.cls = smRn d.1) (h3 : d.2.1.cls ≠ "java/lang/invoke/MethodHandle" ∧ d.2.1.cls ≠ "java/lang/invoke/VarHandle") (h4 : (parseMethodDescriptor d.2.1.desc).map (fun z => z.parameters.length) = some (if d.2.2.2.2.2.1.2 then d.2.2.2.2.2.1.1 else d.2.2.2.2.2.1.1 - 1))
    (h5 : lw_tbl[i1]? = some (.code d.2.1 d.2.2.1 d.2.2.2.1 d.2.2.2.2.1)) (h5g : goodWord (.code d.2.1 d.2.2.1 d.2.2.2.1 d.2.2.2.2.1) = true) (h6 : lw_tbl[i2]? = some (.initialized d.2.1.cls)) (h7 : lw_tbl[i3]? = some (.static d.2.1)) (h7g : goodWord (.static d.2.1) = true) (hst : d.2.2.2.2.2.1.2 = true) (h8 : d.2.2.2.2.2.2.2.all (smChk d) = true) : smMok d :=
  ⟨h1, h2, h3, h4, smTs_of h5 h5g, smTs_of h6 rfl, fun _ => smTs_of h7 h7g, fun h => (by rw [hst] at h; cases h), h8⟩
theorem smMok_v {d : smD} (i1 i2 i3 i4 : Nat) (h1 : plainName d.2.1.cls = true) (h2 : d.2.1.cls = smRn d.1) (h3 : d.2.1.cls ≠ "java/lang/invoke/MethodHandle" ∧ d.2.1.cls ≠ "java/lang/invoke/VarHandle") (h4 : (parseMethodDescriptor d.2.1.desc).map (fun z => z.parameters.length) = some (if d.2.2.2.2.2.1.2 then d.2.2.2.2.2.1.1 else d.2.2.2.2.2.1.1 - 1))
    (h5 : lw_tbl[i1]? = some (.code d.2.1 d.2.2.1 d.2.2.2.1 d.2.2.2.2.1)) (h5g : goodWord (.code d.2.1 d.2.2.1 d.2.2.2.1 d.2.2.2.2.1) = true) (h6 : lw_tbl[i2]? = some (.initialized d.2.1.cls)) (h7 : lw_tbl[i3]? = some (.instanceMethod d.2.1)) (h7g : goodWord (.instanceMethod d.2.1) = true) (h9 : lw_tbl[i4]? = some (.selects d.2.1.cls d.2.1 d.2.1)) (h9g : goodWord (.selects d.2.1.cls d.2.1 d.2.1) = true) (hst : d.2.2.2.2.2.1.2 = false ∧ 1 ≤ d.2.2.2.2.2.1.1 ∧ d.1 < 12) (h8 : d.2.2.2.2.2.2.2.all (smChk d) = true) : smMok d :=
  ⟨h1, h2, h3, h4, smTs_of h5 h5g, smTs_of h6 rfl, fun h => (by rw [hst.1] at h; cases h), fun _ => ⟨smTs_of h7 h7g, smTs_of h9 h9g, hst.2⟩, h8⟩
def smWf (c : Nat) (q : Nat × Nat × Nat × Nat) : Cond := .fieldLink (smRn c) q.1 (smTx q.2.1 q.2.2.1).1 (smTx q.2.1 q.2.2.1).2.1 (smTx q.2.1 q.2.2.1).2.2.1
def smWm (c : Nat) (q : Nat × Nat × Nat × Nat) (y : MethodName) : Cond := .methodLink (smRn c) q.1 y
def smWc (c : Nat) (q : Nat × Nat × Nat) : Cond := .constant (smRn c) q.1 (Int32.ofInt (q.2.1 : Int))
def smWl (c : Nat) (q : Nat × Nat × Nat) : Cond := .constantLong (smRn c) q.1 (Int64.ofInt (-(q.2.1 : Int)))
theorem smfl_0 : ∀ q ∈ smFl 0, lw_tbl[q.2.2.2]? = some (smWf 0 q) ∧ goodWord (smWf 0 q) = true := by decide +kernel
theorem smml_0 : ∀ q ∈ smMl 0, q.2.2.1 = 0 → lw_tbl[q.2.2.2]? = some (smWm 0 q (smNm q.2.1)) ∧ goodWord (smWm 0 q (smNm q.2.1)) = true := by decide +kernel
theorem smmn_0 : ∀ q ∈ smMl 0, q.2.2.1 = 1 → smNe[q.2.2.2]? = some (smRn 0, q.1, smNm q.2.1, "StoneRound") := by decide +kernel
theorem smmx2_0 : ∀ q ∈ smMl 0, q.2.2.1 = 2 → lw_tbl[q.2.2.2]? = some (smWm 0 q arraycopyName) ∧ goodWord (smWm 0 q arraycopyName) = true := by decide +kernel
theorem smmx3_0 : ∀ q ∈ smMl 0, q.2.2.1 = 3 → lw_tbl[q.2.2.2]? = some (smWm 0 q Lib.Math.max.name) ∧ goodWord (smWm 0 q Lib.Math.max.name) = true := by decide +kernel
theorem smmx4_0 : ∀ q ∈ smMl 0, q.2.2.1 = 4 → lw_tbl[q.2.2.2]? = some (smWm 0 q Lib.Math.min.name) ∧ goodWord (smWm 0 q Lib.Math.min.name) = true := by decide +kernel
theorem smmx5_0 : ∀ q ∈ smMl 0, q.2.2.1 = 5 → lw_tbl[q.2.2.2]? = some (smWm 0 q Lib.Math.abs.name) ∧ goodWord (smWm 0 q Lib.Math.abs.name) = true := by decide +kernel
theorem smfl_1 : ∀ q ∈ smFl 1, lw_tbl[q.2.2.2]? = some (smWf 1 q) ∧ goodWord (smWf 1 q) = true := by decide +kernel
theorem smml_1 : ∀ q ∈ smMl 1, q.2.2.1 = 0 → lw_tbl[q.2.2.2]? = some (smWm 1 q (smNm q.2.1)) ∧ goodWord (smWm 1 q (smNm q.2.1)) = true := by decide +kernel
theorem smmn_1 : ∀ q ∈ smMl 1, q.2.2.1 = 1 → smNe[q.2.2.2]? = some (smRn 1, q.1, smNm q.2.1, "StoneRound") := by decide +kernel
theorem smmx2_1 : ∀ q ∈ smMl 1, q.2.2.1 = 2 → lw_tbl[q.2.2.2]? = some (smWm 1 q arraycopyName) ∧ goodWord (smWm 1 q arraycopyName) = true := by decide +kernel
theorem smmx3_1 : ∀ q ∈ smMl 1, q.2.2.1 = 3 → lw_tbl[q.2.2.2]? = some (smWm 1 q Lib.Math.max.name) ∧ goodWord (smWm 1 q Lib.Math.max.name) = true := by decide +kernel
theorem smmx4_1 : ∀ q ∈ smMl 1, q.2.2.1 = 4 → lw_tbl[q.2.2.2]? = some (smWm 1 q Lib.Math.min.name) ∧ goodWord (smWm 1 q Lib.Math.min.name) = true := by decide +kernel
theorem smmx5_1 : ∀ q ∈ smMl 1, q.2.2.1 = 5 → lw_tbl[q.2.2.2]? = some (smWm 1 q Lib.Math.abs.name) ∧ goodWord (smWm 1 q Lib.Math.abs.name) = true := by decide +kernel
theorem smfl_2 : ∀ q ∈ smFl 2, lw_tbl[q.2.2.2]? = some (smWf 2 q) ∧ goodWord (smWf 2 q) = true := by decide +kernel
theorem smml_2 : ∀ q ∈ smMl 2, q.2.2.1 = 0 → lw_tbl[q.2.2.2]? = some (smWm 2 q (smNm q.2.1)) ∧ goodWord (smWm 2 q (smNm q.2.1)) = true := by decide +kernel
theorem smmn_2 : ∀ q ∈ smMl 2, q.2.2.1 = 1 → smNe[q.2.2.2]? = some (smRn 2, q.1, smNm q.2.1, "StoneRound") := by decide +kernel
theorem smmx2_2 : ∀ q ∈ smMl 2, q.2.2.1 = 2 → lw_tbl[q.2.2.2]? = some (smWm 2 q arraycopyName) ∧ goodWord (smWm 2 q arraycopyName) = true := by decide +kernel
theorem smmx3_2 : ∀ q ∈ smMl 2, q.2.2.1 = 3 → lw_tbl[q.2.2.2]? = some (smWm 2 q Lib.Math.max.name) ∧ goodWord (smWm 2 q Lib.Math.max.name) = true := by decide +kernel
theorem smmx4_2 : ∀ q ∈ smMl 2, q.2.2.1 = 4 → lw_tbl[q.2.2.2]? = some (smWm 2 q Lib.Math.min.name) ∧ goodWord (smWm 2 q Lib.Math.min.name) = true := by decide +kernel
theorem smmx5_2 : ∀ q ∈ smMl 2, q.2.2.1 = 5 → lw_tbl[q.2.2.2]? = some (smWm 2 q Lib.Math.abs.name) ∧ goodWord (smWm 2 q Lib.Math.abs.name) = true := by decide +kernel
theorem smfl_3 : ∀ q ∈ smFl 3, lw_tbl[q.2.2.2]? = some (smWf 3 q) ∧ goodWord (smWf 3 q) = true := by decide +kernel
theorem smml_3 : ∀ q ∈ smMl 3, q.2.2.1 = 0 → lw_tbl[q.2.2.2]? = some (smWm 3 q (smNm q.2.1)) ∧ goodWord (smWm 3 q (smNm q.2.1)) = true := by decide +kernel
theorem smmn_3 : ∀ q ∈ smMl 3, q.2.2.1 = 1 → smNe[q.2.2.2]? = some (smRn 3, q.1, smNm q.2.1, "StoneRound") := by decide +kernel
theorem smmx2_3 : ∀ q ∈ smMl 3, q.2.2.1 = 2 → lw_tbl[q.2.2.2]? = some (smWm 3 q arraycopyName) ∧ goodWord (smWm 3 q arraycopyName) = true := by decide +kernel
theorem smmx3_3 : ∀ q ∈ smMl 3, q.2.2.1 = 3 → lw_tbl[q.2.2.2]? = some (smWm 3 q Lib.Math.max.name) ∧ goodWord (smWm 3 q Lib.Math.max.name) = true := by decide +kernel
theorem smmx4_3 : ∀ q ∈ smMl 3, q.2.2.1 = 4 → lw_tbl[q.2.2.2]? = some (smWm 3 q Lib.Math.min.name) ∧ goodWord (smWm 3 q Lib.Math.min.name) = true := by decide +kernel
theorem smmx5_3 : ∀ q ∈ smMl 3, q.2.2.1 = 5 → lw_tbl[q.2.2.2]? = some (smWm 3 q Lib.Math.abs.name) ∧ goodWord (smWm 3 q Lib.Math.abs.name) = true := by decide +kernel
theorem smfl_4 : ∀ q ∈ smFl 4, lw_tbl[q.2.2.2]? = some (smWf 4 q) ∧ goodWord (smWf 4 q) = true := by decide +kernel
theorem smml_4 : ∀ q ∈ smMl 4, q.2.2.1 = 0 → lw_tbl[q.2.2.2]? = some (smWm 4 q (smNm q.2.1)) ∧ goodWord (smWm 4 q (smNm q.2.1)) = true := by decide +kernel
theorem smmn_4 : ∀ q ∈ smMl 4, q.2.2.1 = 1 → smNe[q.2.2.2]? = some (smRn 4, q.1, smNm q.2.1, "StoneRound") := by decide +kernel
theorem smmx2_4 : ∀ q ∈ smMl 4, q.2.2.1 = 2 → lw_tbl[q.2.2.2]? = some (smWm 4 q arraycopyName) ∧ goodWord (smWm 4 q arraycopyName) = true := by decide +kernel
theorem smmx3_4 : ∀ q ∈ smMl 4, q.2.2.1 = 3 → lw_tbl[q.2.2.2]? = some (smWm 4 q Lib.Math.max.name) ∧ goodWord (smWm 4 q Lib.Math.max.name) = true := by decide +kernel
theorem smmx4_4 : ∀ q ∈ smMl 4, q.2.2.1 = 4 → lw_tbl[q.2.2.2]? = some (smWm 4 q Lib.Math.min.name) ∧ goodWord (smWm 4 q Lib.Math.min.name) = true := by decide +kernel
theorem smmx5_4 : ∀ q ∈ smMl 4, q.2.2.1 = 5 → lw_tbl[q.2.2.2]? = some (smWm 4 q Lib.Math.abs.name) ∧ goodWord (smWm 4 q Lib.Math.abs.name) = true := by decide +kernel
theorem smfl_5 : ∀ q ∈ smFl 5, lw_tbl[q.2.2.2]? = some (smWf 5 q) ∧ goodWord (smWf 5 q) = true := by decide +kernel
theorem smml_5 : ∀ q ∈ smMl 5, q.2.2.1 = 0 → lw_tbl[q.2.2.2]? = some (smWm 5 q (smNm q.2.1)) ∧ goodWord (smWm 5 q (smNm q.2.1)) = true := by decide +kernel
theorem smmn_5 : ∀ q ∈ smMl 5, q.2.2.1 = 1 → smNe[q.2.2.2]? = some (smRn 5, q.1, smNm q.2.1, "StoneRound") := by decide +kernel
theorem smmx2_5 : ∀ q ∈ smMl 5, q.2.2.1 = 2 → lw_tbl[q.2.2.2]? = some (smWm 5 q arraycopyName) ∧ goodWord (smWm 5 q arraycopyName) = true := by decide +kernel
theorem smmx3_5 : ∀ q ∈ smMl 5, q.2.2.1 = 3 → lw_tbl[q.2.2.2]? = some (smWm 5 q Lib.Math.max.name) ∧ goodWord (smWm 5 q Lib.Math.max.name) = true := by decide +kernel
theorem smmx4_5 : ∀ q ∈ smMl 5, q.2.2.1 = 4 → lw_tbl[q.2.2.2]? = some (smWm 5 q Lib.Math.min.name) ∧ goodWord (smWm 5 q Lib.Math.min.name) = true := by decide +kernel
theorem smmx5_5 : ∀ q ∈ smMl 5, q.2.2.1 = 5 → lw_tbl[q.2.2.2]? = some (smWm 5 q Lib.Math.abs.name) ∧ goodWord (smWm 5 q Lib.Math.abs.name) = true := by decide +kernel
theorem smfl_6 : ∀ q ∈ smFl 6, lw_tbl[q.2.2.2]? = some (smWf 6 q) ∧ goodWord (smWf 6 q) = true := by decide +kernel
theorem smml_6 : ∀ q ∈ smMl 6, q.2.2.1 = 0 → lw_tbl[q.2.2.2]? = some (smWm 6 q (smNm q.2.1)) ∧ goodWord (smWm 6 q (smNm q.2.1)) = true := by decide +kernel
theorem smmn_6 : ∀ q ∈ smMl 6, q.2.2.1 = 1 → smNe[q.2.2.2]? = some (smRn 6, q.1, smNm q.2.1, "StoneRound") := by decide +kernel
theorem smmx2_6 : ∀ q ∈ smMl 6, q.2.2.1 = 2 → lw_tbl[q.2.2.2]? = some (smWm 6 q arraycopyName) ∧ goodWord (smWm 6 q arraycopyName) = true := by decide +kernel
theorem smmx3_6 : ∀ q ∈ smMl 6, q.2.2.1 = 3 → lw_tbl[q.2.2.2]? = some (smWm 6 q Lib.Math.max.name) ∧ goodWord (smWm 6 q Lib.Math.max.name) = true := by decide +kernel
theorem smmx4_6 : ∀ q ∈ smMl 6, q.2.2.1 = 4 → lw_tbl[q.2.2.2]? = some (smWm 6 q Lib.Math.min.name) ∧ goodWord (smWm 6 q Lib.Math.min.name) = true := by decide +kernel
theorem smmx5_6 : ∀ q ∈ smMl 6, q.2.2.1 = 5 → lw_tbl[q.2.2.2]? = some (smWm 6 q Lib.Math.abs.name) ∧ goodWord (smWm 6 q Lib.Math.abs.name) = true := by decide +kernel
theorem smfl_7 : ∀ q ∈ smFl 7, lw_tbl[q.2.2.2]? = some (smWf 7 q) ∧ goodWord (smWf 7 q) = true := by decide +kernel
theorem smml_7 : ∀ q ∈ smMl 7, q.2.2.1 = 0 → lw_tbl[q.2.2.2]? = some (smWm 7 q (smNm q.2.1)) ∧ goodWord (smWm 7 q (smNm q.2.1)) = true := by decide +kernel
theorem smmn_7 : ∀ q ∈ smMl 7, q.2.2.1 = 1 → smNe[q.2.2.2]? = some (smRn 7, q.1, smNm q.2.1, "StoneRound") := by decide +kernel
theorem smmx2_7 : ∀ q ∈ smMl 7, q.2.2.1 = 2 → lw_tbl[q.2.2.2]? = some (smWm 7 q arraycopyName) ∧ goodWord (smWm 7 q arraycopyName) = true := by decide +kernel
theorem smmx3_7 : ∀ q ∈ smMl 7, q.2.2.1 = 3 → lw_tbl[q.2.2.2]? = some (smWm 7 q Lib.Math.max.name) ∧ goodWord (smWm 7 q Lib.Math.max.name) = true := by decide +kernel
theorem smmx4_7 : ∀ q ∈ smMl 7, q.2.2.1 = 4 → lw_tbl[q.2.2.2]? = some (smWm 7 q Lib.Math.min.name) ∧ goodWord (smWm 7 q Lib.Math.min.name) = true := by decide +kernel
theorem smmx5_7 : ∀ q ∈ smMl 7, q.2.2.1 = 5 → lw_tbl[q.2.2.2]? = some (smWm 7 q Lib.Math.abs.name) ∧ goodWord (smWm 7 q Lib.Math.abs.name) = true := by decide +kernel
theorem smfl_8 : ∀ q ∈ smFl 8, lw_tbl[q.2.2.2]? = some (smWf 8 q) ∧ goodWord (smWf 8 q) = true := by decide +kernel
theorem smml_8 : ∀ q ∈ smMl 8, q.2.2.1 = 0 → lw_tbl[q.2.2.2]? = some (smWm 8 q (smNm q.2.1)) ∧ goodWord (smWm 8 q (smNm q.2.1)) = true := by decide +kernel
theorem smmn_8 : ∀ q ∈ smMl 8, q.2.2.1 = 1 → smNe[q.2.2.2]? = some (smRn 8, q.1, smNm q.2.1, "StoneRound") := by decide +kernel
theorem smmx2_8 : ∀ q ∈ smMl 8, q.2.2.1 = 2 → lw_tbl[q.2.2.2]? = some (smWm 8 q arraycopyName) ∧ goodWord (smWm 8 q arraycopyName) = true := by decide +kernel
theorem smmx3_8 : ∀ q ∈ smMl 8, q.2.2.1 = 3 → lw_tbl[q.2.2.2]? = some (smWm 8 q Lib.Math.max.name) ∧ goodWord (smWm 8 q Lib.Math.max.name) = true := by decide +kernel
theorem smmx4_8 : ∀ q ∈ smMl 8, q.2.2.1 = 4 → lw_tbl[q.2.2.2]? = some (smWm 8 q Lib.Math.min.name) ∧ goodWord (smWm 8 q Lib.Math.min.name) = true := by decide +kernel
theorem smmx5_8 : ∀ q ∈ smMl 8, q.2.2.1 = 5 → lw_tbl[q.2.2.2]? = some (smWm 8 q Lib.Math.abs.name) ∧ goodWord (smWm 8 q Lib.Math.abs.name) = true := by decide +kernel
theorem smfl_9 : ∀ q ∈ smFl 9, lw_tbl[q.2.2.2]? = some (smWf 9 q) ∧ goodWord (smWf 9 q) = true := by decide +kernel
theorem smml_9 : ∀ q ∈ smMl 9, q.2.2.1 = 0 → lw_tbl[q.2.2.2]? = some (smWm 9 q (smNm q.2.1)) ∧ goodWord (smWm 9 q (smNm q.2.1)) = true := by decide +kernel
theorem smmn_9 : ∀ q ∈ smMl 9, q.2.2.1 = 1 → smNe[q.2.2.2]? = some (smRn 9, q.1, smNm q.2.1, "StoneRound") := by decide +kernel
theorem smmx2_9 : ∀ q ∈ smMl 9, q.2.2.1 = 2 → lw_tbl[q.2.2.2]? = some (smWm 9 q arraycopyName) ∧ goodWord (smWm 9 q arraycopyName) = true := by decide +kernel
theorem smmx3_9 : ∀ q ∈ smMl 9, q.2.2.1 = 3 → lw_tbl[q.2.2.2]? = some (smWm 9 q Lib.Math.max.name) ∧ goodWord (smWm 9 q Lib.Math.max.name) = true := by decide +kernel
theorem smmx4_9 : ∀ q ∈ smMl 9, q.2.2.1 = 4 → lw_tbl[q.2.2.2]? = some (smWm 9 q Lib.Math.min.name) ∧ goodWord (smWm 9 q Lib.Math.min.name) = true := by decide +kernel
theorem smmx5_9 : ∀ q ∈ smMl 9, q.2.2.1 = 5 → lw_tbl[q.2.2.2]? = some (smWm 9 q Lib.Math.abs.name) ∧ goodWord (smWm 9 q Lib.Math.abs.name) = true := by decide +kernel
theorem smfl_10 : ∀ q ∈ smFl 10, lw_tbl[q.2.2.2]? = some (smWf 10 q) ∧ goodWord (smWf 10 q) = true := by decide +kernel
theorem smml_10 : ∀ q ∈ smMl 10, q.2.2.1 = 0 → lw_tbl[q.2.2.2]? = some (smWm 10 q (smNm q.2.1)) ∧ goodWord (smWm 10 q (smNm q.2.1)) = true := by decide +kernel
theorem smmn_10 : ∀ q ∈ smMl 10, q.2.2.1 = 1 → smNe[q.2.2.2]? = some (smRn 10, q.1, smNm q.2.1, "StoneRound") := by decide +kernel
theorem smmx2_10 : ∀ q ∈ smMl 10, q.2.2.1 = 2 → lw_tbl[q.2.2.2]? = some (smWm 10 q arraycopyName) ∧ goodWord (smWm 10 q arraycopyName) = true := by decide +kernel
theorem smmx3_10 : ∀ q ∈ smMl 10, q.2.2.1 = 3 → lw_tbl[q.2.2.2]? = some (smWm 10 q Lib.Math.max.name) ∧ goodWord (smWm 10 q Lib.Math.max.name) = true := by decide +kernel
theorem smmx4_10 : ∀ q ∈ smMl 10, q.2.2.1 = 4 → lw_tbl[q.2.2.2]? = some (smWm 10 q Lib.Math.min.name) ∧ goodWord (smWm 10 q Lib.Math.min.name) = true := by decide +kernel
theorem smmx5_10 : ∀ q ∈ smMl 10, q.2.2.1 = 5 → lw_tbl[q.2.2.2]? = some (smWm 10 q Lib.Math.abs.name) ∧ goodWord (smWm 10 q Lib.Math.abs.name) = true := by decide +kernel
theorem smfl_11 : ∀ q ∈ smFl 11, lw_tbl[q.2.2.2]? = some (smWf 11 q) ∧ goodWord (smWf 11 q) = true := by decide +kernel
theorem smml_11 : ∀ q ∈ smMl 11, q.2.2.1 = 0 → lw_tbl[q.2.2.2]? = some (smWm 11 q (smNm q.2.1)) ∧ goodWord (smWm 11 q (smNm q.2.1)) = true := by decide +kernel
theorem smmn_11 : ∀ q ∈ smMl 11, q.2.2.1 = 1 → smNe[q.2.2.2]? = some (smRn 11, q.1, smNm q.2.1, "StoneRound") := by decide +kernel
theorem smmx2_11 : ∀ q ∈ smMl 11, q.2.2.1 = 2 → lw_tbl[q.2.2.2]? = some (smWm 11 q arraycopyName) ∧ goodWord (smWm 11 q arraycopyName) = true := by decide +kernel
theorem smmx3_11 : ∀ q ∈ smMl 11, q.2.2.1 = 3 → lw_tbl[q.2.2.2]? = some (smWm 11 q Lib.Math.max.name) ∧ goodWord (smWm 11 q Lib.Math.max.name) = true := by decide +kernel
theorem smmx4_11 : ∀ q ∈ smMl 11, q.2.2.1 = 4 → lw_tbl[q.2.2.2]? = some (smWm 11 q Lib.Math.min.name) ∧ goodWord (smWm 11 q Lib.Math.min.name) = true := by decide +kernel
theorem smmx5_11 : ∀ q ∈ smMl 11, q.2.2.1 = 5 → lw_tbl[q.2.2.2]? = some (smWm 11 q Lib.Math.abs.name) ∧ goodWord (smWm 11 q Lib.Math.abs.name) = true := by decide +kernel
theorem smml_12 : ∀ q ∈ smMl 12, q.2.2.1 = 0 → lw_tbl[q.2.2.2]? = some (smWm 12 q (smNm q.2.1)) ∧ goodWord (smWm 12 q (smNm q.2.1)) = true := by decide +kernel
theorem smcn_0 : ∀ q ∈ smCn 0, lw_tbl[q.2.2]? = some (smWc 0 q) ∧ goodWord (smWc 0 q) = true := by decide +kernel
theorem smcn_4 : ∀ q ∈ smCn 4, lw_tbl[q.2.2]? = some (smWc 4 q) ∧ goodWord (smWc 4 q) = true := by decide +kernel
theorem smcn_10 : ∀ q ∈ smCn 10, lw_tbl[q.2.2]? = some (smWc 10 q) ∧ goodWord (smWc 10 q) = true := by decide +kernel
theorem smcn_11 : ∀ q ∈ smCn 11, lw_tbl[q.2.2]? = some (smWc 11 q) ∧ goodWord (smWc 11 q) = true := by decide +kernel
theorem smcn_13 : ∀ q ∈ smCn 13, lw_tbl[q.2.2]? = some (smWc 13 q) ∧ goodWord (smWc 13 q) = true := by decide +kernel
theorem smclo_10 : ∀ q ∈ smCl 10, lw_tbl[q.2.2]? = some (smWl 10 q) ∧ goodWord (smWl 10 q) = true := by decide +kernel
theorem smclo_11 : ∀ q ∈ smCl 11, lw_tbl[q.2.2]? = some (smWl 11 q) ∧ goodWord (smWl 11 q) = true := by decide +kernel
theorem smlaw_n : ∀ q ∈ smMl 12, q.2.2.1 = 0 := by decide +kernel
theorem smFl_in : ∀ (c : Nat), ∀ q ∈ smFl c, smWf c q ∈ smTs
  | 0 => fun q h => smTs_of (smfl_0 q h).1 (smfl_0 q h).2
  | 1 => fun q h => smTs_of (smfl_1 q h).1 (smfl_1 q h).2
  | 2 => fun q h => smTs_of (smfl_2 q h).1 (smfl_2 q h).2
  | 3 => fun q h => smTs_of (smfl_3 q h).1 (smfl_3 q h).2
  | 4 => fun q h => smTs_of (smfl_4 q h).1 (smfl_4 q h).2
  | 5 => fun q h => smTs_of (smfl_5 q h).1 (smfl_5 q h).2
  | 6 => fun q h => smTs_of (smfl_6 q h).1 (smfl_6 q h).2
  | 7 => fun q h => smTs_of (smfl_7 q h).1 (smfl_7 q h).2
  | 8 => fun q h => smTs_of (smfl_8 q h).1 (smfl_8 q h).2
  | 9 => fun q h => smTs_of (smfl_9 q h).1 (smfl_9 q h).2
  | 10 => fun q h => smTs_of (smfl_10 q h).1 (smfl_10 q h).2
  | 11 => fun q h => smTs_of (smfl_11 q h).1 (smfl_11 q h).2
  | 12 => fun q h => absurd h List.not_mem_nil
  | 13 => fun q h => absurd h List.not_mem_nil
  | n + 14 => fun q h => absurd h List.not_mem_nil
theorem smMl_in : ∀ (c : Nat), ∀ q ∈ smMl c, q.2.2.1 = 0 → smWm c q (smNm q.2.1) ∈ smTs
  | 0 => fun q h e => smTs_of (smml_0 q h e).1 (smml_0 q h e).2
  | 1 => fun q h e => smTs_of (smml_1 q h e).1 (smml_1 q h e).2
  | 2 => fun q h e => smTs_of (smml_2 q h e).1 (smml_2 q h e).2
  | 3 => fun q h e => smTs_of (smml_3 q h e).1 (smml_3 q h e).2
  | 4 => fun q h e => smTs_of (smml_4 q h e).1 (smml_4 q h e).2
  | 5 => fun q h e => smTs_of (smml_5 q h e).1 (smml_5 q h e).2
  | 6 => fun q h e => smTs_of (smml_6 q h e).1 (smml_6 q h e).2
  | 7 => fun q h e => smTs_of (smml_7 q h e).1 (smml_7 q h e).2
  | 8 => fun q h e => smTs_of (smml_8 q h e).1 (smml_8 q h e).2
  | 9 => fun q h e => smTs_of (smml_9 q h e).1 (smml_9 q h e).2
  | 10 => fun q h e => smTs_of (smml_10 q h e).1 (smml_10 q h e).2
  | 11 => fun q h e => smTs_of (smml_11 q h e).1 (smml_11 q h e).2
  | 12 => fun q h e => smTs_of (smml_12 q h e).1 (smml_12 q h e).2
  | 13 => fun q h => absurd h List.not_mem_nil
  | n + 14 => fun q h => absurd h List.not_mem_nil
theorem smMn_in : ∀ (c : Nat), ∀ q ∈ smMl c, q.2.2.1 = 1 → smNe[q.2.2.2]? = some (smRn c, q.1, smNm q.2.1, "StoneRound")
  | 0 => smmn_0
  | 1 => smmn_1
  | 2 => smmn_2
  | 3 => smmn_3
  | 4 => smmn_4
  | 5 => smmn_5
  | 6 => smmn_6
  | 7 => smmn_7
  | 8 => smmn_8
  | 9 => smmn_9
  | 10 => smmn_10
  | 11 => smmn_11
  | 12 => fun q h e => absurd ((smlaw_n q h).symm.trans e) (by decide)
  | 13 => fun q h => absurd h List.not_mem_nil
  | n + 14 => fun q h => absurd h List.not_mem_nil
theorem smMx2_in : ∀ (c : Nat), ∀ q ∈ smMl c, q.2.2.1 = 2 → smWm c q arraycopyName ∈ smTs
  | 0 => fun q h e => smTs_of (smmx2_0 q h e).1 (smmx2_0 q h e).2
  | 1 => fun q h e => smTs_of (smmx2_1 q h e).1 (smmx2_1 q h e).2
  | 2 => fun q h e => smTs_of (smmx2_2 q h e).1 (smmx2_2 q h e).2
  | 3 => fun q h e => smTs_of (smmx2_3 q h e).1 (smmx2_3 q h e).2
  | 4 => fun q h e => smTs_of (smmx2_4 q h e).1 (smmx2_4 q h e).2
  | 5 => fun q h e => smTs_of (smmx2_5 q h e).1 (smmx2_5 q h e).2
  | 6 => fun q h e => smTs_of (smmx2_6 q h e).1 (smmx2_6 q h e).2
  | 7 => fun q h e => smTs_of (smmx2_7 q h e).1 (smmx2_7 q h e).2
  | 8 => fun q h e => smTs_of (smmx2_8 q h e).1 (smmx2_8 q h e).2
  | 9 => fun q h e => smTs_of (smmx2_9 q h e).1 (smmx2_9 q h e).2
  | 10 => fun q h e => smTs_of (smmx2_10 q h e).1 (smmx2_10 q h e).2
  | 11 => fun q h e => smTs_of (smmx2_11 q h e).1 (smmx2_11 q h e).2
  | 12 => fun q h e => absurd ((smlaw_n q h).symm.trans e) (by decide)
  | 13 => fun q h => absurd h List.not_mem_nil
  | n + 14 => fun q h => absurd h List.not_mem_nil
theorem smMx3_in : ∀ (c : Nat), ∀ q ∈ smMl c, q.2.2.1 = 3 → smWm c q Lib.Math.max.name ∈ smTs
  | 0 => fun q h e => smTs_of (smmx3_0 q h e).1 (smmx3_0 q h e).2
  | 1 => fun q h e => smTs_of (smmx3_1 q h e).1 (smmx3_1 q h e).2
  | 2 => fun q h e => smTs_of (smmx3_2 q h e).1 (smmx3_2 q h e).2
  | 3 => fun q h e => smTs_of (smmx3_3 q h e).1 (smmx3_3 q h e).2
  | 4 => fun q h e => smTs_of (smmx3_4 q h e).1 (smmx3_4 q h e).2
  | 5 => fun q h e => smTs_of (smmx3_5 q h e).1 (smmx3_5 q h e).2
  | 6 => fun q h e => smTs_of (smmx3_6 q h e).1 (smmx3_6 q h e).2
  | 7 => fun q h e => smTs_of (smmx3_7 q h e).1 (smmx3_7 q h e).2
  | 8 => fun q h e => smTs_of (smmx3_8 q h e).1 (smmx3_8 q h e).2
  | 9 => fun q h e => smTs_of (smmx3_9 q h e).1 (smmx3_9 q h e).2
  | 10 => fun q h e => smTs_of (smmx3_10 q h e).1 (smmx3_10 q h e).2
  | 11 => fun q h e => smTs_of (smmx3_11 q h e).1 (smmx3_11 q h e).2
  | 12 => fun q h e => absurd ((smlaw_n q h).symm.trans e) (by decide)
  | 13 => fun q h => absurd h List.not_mem_nil
  | n + 14 => fun q h => absurd h List.not_mem_nil
theorem smMx4_in : ∀ (c : Nat), ∀ q ∈ smMl c, q.2.2.1 = 4 → smWm c q Lib.Math.min.name ∈ smTs
  | 0 => fun q h e => smTs_of (smmx4_0 q h e).1 (smmx4_0 q h e).2
  | 1 => fun q h e => smTs_of (smmx4_1 q h e).1 (smmx4_1 q h e).2
  | 2 => fun q h e => smTs_of (smmx4_2 q h e).1 (smmx4_2 q h e).2
  | 3 => fun q h e => smTs_of (smmx4_3 q h e).1 (smmx4_3 q h e).2
  | 4 => fun q h e => smTs_of (smmx4_4 q h e).1 (smmx4_4 q h e).2
  | 5 => fun q h e => smTs_of (smmx4_5 q h e).1 (smmx4_5 q h e).2
  | 6 => fun q h e => smTs_of (smmx4_6 q h e).1 (smmx4_6 q h e).2
  | 7 => fun q h e => smTs_of (smmx4_7 q h e).1 (smmx4_7 q h e).2
  | 8 => fun q h e => smTs_of (smmx4_8 q h e).1 (smmx4_8 q h e).2
  | 9 => fun q h e => smTs_of (smmx4_9 q h e).1 (smmx4_9 q h e).2
  | 10 => fun q h e => smTs_of (smmx4_10 q h e).1 (smmx4_10 q h e).2
  | 11 => fun q h e => smTs_of (smmx4_11 q h e).1 (smmx4_11 q h e).2
  | 12 => fun q h e => absurd ((smlaw_n q h).symm.trans e) (by decide)
  | 13 => fun q h => absurd h List.not_mem_nil
  | n + 14 => fun q h => absurd h List.not_mem_nil
theorem smMx5_in : ∀ (c : Nat), ∀ q ∈ smMl c, q.2.2.1 = 5 → smWm c q Lib.Math.abs.name ∈ smTs
  | 0 => fun q h e => smTs_of (smmx5_0 q h e).1 (smmx5_0 q h e).2
  | 1 => fun q h e => smTs_of (smmx5_1 q h e).1 (smmx5_1 q h e).2
  | 2 => fun q h e => smTs_of (smmx5_2 q h e).1 (smmx5_2 q h e).2
  | 3 => fun q h e => smTs_of (smmx5_3 q h e).1 (smmx5_3 q h e).2
  | 4 => fun q h e => smTs_of (smmx5_4 q h e).1 (smmx5_4 q h e).2
  | 5 => fun q h e => smTs_of (smmx5_5 q h e).1 (smmx5_5 q h e).2
  | 6 => fun q h e => smTs_of (smmx5_6 q h e).1 (smmx5_6 q h e).2
  | 7 => fun q h e => smTs_of (smmx5_7 q h e).1 (smmx5_7 q h e).2
  | 8 => fun q h e => smTs_of (smmx5_8 q h e).1 (smmx5_8 q h e).2
  | 9 => fun q h e => smTs_of (smmx5_9 q h e).1 (smmx5_9 q h e).2
  | 10 => fun q h e => smTs_of (smmx5_10 q h e).1 (smmx5_10 q h e).2
  | 11 => fun q h e => smTs_of (smmx5_11 q h e).1 (smmx5_11 q h e).2
  | 12 => fun q h e => absurd ((smlaw_n q h).symm.trans e) (by decide)
  | 13 => fun q h => absurd h List.not_mem_nil
  | n + 14 => fun q h => absurd h List.not_mem_nil
theorem smCn_in : ∀ (c : Nat), ∀ q ∈ smCn c, smWc c q ∈ smTs
  | 0 => fun q h => smTs_of (smcn_0 q h).1 (smcn_0 q h).2
  | 1 => fun q h => absurd h List.not_mem_nil
  | 2 => fun q h => absurd h List.not_mem_nil
  | 3 => fun q h => absurd h List.not_mem_nil
  | 4 => fun q h => smTs_of (smcn_4 q h).1 (smcn_4 q h).2
  | 5 => fun q h => absurd h List.not_mem_nil
  | 6 => fun q h => absurd h List.not_mem_nil
  | 7 => fun q h => absurd h List.not_mem_nil
  | 8 => fun q h => absurd h List.not_mem_nil
  | 9 => fun q h => absurd h List.not_mem_nil
  | 10 => fun q h => smTs_of (smcn_10 q h).1 (smcn_10 q h).2
  | 11 => fun q h => smTs_of (smcn_11 q h).1 (smcn_11 q h).2
  | 12 => fun q h => absurd h List.not_mem_nil
  | 13 => fun q h => smTs_of (smcn_13 q h).1 (smcn_13 q h).2
  | n + 14 => fun q h => absurd h List.not_mem_nil
theorem smCl_in : ∀ (c : Nat), ∀ q ∈ smCl c, smWl c q ∈ smTs
  | 0 => fun q h => absurd h List.not_mem_nil
  | 1 => fun q h => absurd h List.not_mem_nil
  | 2 => fun q h => absurd h List.not_mem_nil
  | 3 => fun q h => absurd h List.not_mem_nil
  | 4 => fun q h => absurd h List.not_mem_nil
  | 5 => fun q h => absurd h List.not_mem_nil
  | 6 => fun q h => absurd h List.not_mem_nil
  | 7 => fun q h => absurd h List.not_mem_nil
  | 8 => fun q h => absurd h List.not_mem_nil
  | 9 => fun q h => absurd h List.not_mem_nil
  | 10 => fun q h => smTs_of (smclo_10 q h).1 (smclo_10 q h).2
  | 11 => fun q h => smTs_of (smclo_11 q h).1 (smclo_11 q h).2
  | 12 => fun q h => absurd h List.not_mem_nil
  | 13 => fun q h => absurd h List.not_mem_nil
  | n + 14 => fun q h => absurd h List.not_mem_nil
theorem smw_mathI : Cond.initialized "java/lang/Math" ∈ smTs := smTs_of (i := 59) (by decide +kernel) rfl
theorem smw_sysI : Cond.initialized "java/lang/System" ∈ smTs := smTs_of (i := 58) (by decide +kernel) rfl
theorem smw_acS : Cond.static arraycopyName ∈ smTs := smTs_of (i := 462) (by decide +kernel) (by decide +kernel)
theorem smw_acN : Cond.native arraycopyName ∈ smTs := smTs_of (i := 463) (by decide +kernel) (by decide +kernel)
theorem smw_maxS : Cond.static Lib.Math.max.name ∈ smTs := smTs_of (i := 628) (by decide +kernel) (by decide +kernel)
set_option maxRecDepth 20000 in
theorem smw_maxC : Cond.code Lib.Math.max.name Lib.Math.max.code 2 (some .int) ∈ smTs := smTs_of (i := 629) rfl rfl
theorem smw_minS : Cond.static Lib.Math.min.name ∈ smTs := smTs_of (i := 500) (by decide +kernel) (by decide +kernel)
set_option maxRecDepth 20000 in
theorem smw_minC : Cond.code Lib.Math.min.name Lib.Math.min.code 2 (some .int) ∈ smTs := smTs_of (i := 501) rfl rfl
theorem smw_absS : Cond.static Lib.Math.abs.name ∈ smTs := smTs_of (i := 676) (by decide +kernel) (by decide +kernel)
set_option maxRecDepth 20000 in
theorem smw_absC : Cond.code Lib.Math.abs.name Lib.Math.abs.code 1 (some .int) ∈ smTs := smTs_of (i := 677) rfl rfl
end
section
set_option maxRecDepth 20000 in
theorem smo_X10_nextPlace : smMok smd_X10_nextPlace := smMok_s 487 45 486 (by decide +kernel) rfl (by decide +kernel) (by decide +kernel) rfl rfl (by decide +kernel) (by decide +kernel) (by decide +kernel) rfl (by decide +kernel)
set_option maxRecDepth 20000 in
theorem smo_X10_heightBehind : smMok smd_X10_heightBehind := smMok_s 498 45 497 (by decide +kernel) rfl (by decide +kernel) (by decide +kernel) rfl rfl (by decide +kernel) (by decide +kernel) (by decide +kernel) rfl (by decide +kernel)
set_option maxRecDepth 20000 in
theorem smo_X10_isCatchable : smMok smd_X10_isCatchable := smMok_s 504 45 503 (by decide +kernel) rfl (by decide +kernel) (by decide +kernel) rfl rfl (by decide +kernel) (by decide +kernel) (by decide +kernel) rfl (by decide +kernel)
set_option maxRecDepth 20000 in
theorem smo_X2_go : smMok smd_X2_go := smMok_v 595 53 593 594 (by decide +kernel) rfl (by decide +kernel) (by decide +kernel) rfl rfl (by decide +kernel) (by decide +kernel) (by decide +kernel) (by decide +kernel) (by decide +kernel) (by decide +kernel) (by decide +kernel)
set_option maxRecDepth 20000 in
theorem smo_X2_isCaughtBy : smMok smd_X2_isCaughtBy := smMok_v 616 53 614 615 (by decide +kernel) rfl (by decide +kernel) (by decide +kernel) rfl rfl (by decide +kernel) (by decide +kernel) (by decide +kernel) (by decide +kernel) (by decide +kernel) (by decide +kernel) (by decide +kernel)
set_option maxRecDepth 20000 in
theorem smo_X0_noteThrow : smMok smd_X0_noteThrow := smMok_v 620 54 619 6 (by decide +kernel) rfl (by decide +kernel) (by decide +kernel) rfl rfl (by decide +kernel) (by decide +kernel) (by decide +kernel) (by decide +kernel) (by decide +kernel) (by decide +kernel) (by decide +kernel)
set_option maxRecDepth 20000 in
theorem smo_X0_noteHedges : smMok smd_X0_noteHedges := smMok_v 625 54 624 7 (by decide +kernel) rfl (by decide +kernel) (by decide +kernel) rfl rfl (by decide +kernel) (by decide +kernel) (by decide +kernel) (by decide +kernel) (by decide +kernel) (by decide +kernel) (by decide +kernel)
set_option maxRecDepth 20000 in
theorem smo_X0_search : smMok smd_X0_search := smMok_v 610 54 608 609 (by decide +kernel) rfl (by decide +kernel) (by decide +kernel) rfl rfl (by decide +kernel) (by decide +kernel) (by decide +kernel) (by decide +kernel) (by decide +kernel) (by decide +kernel) (by decide +kernel)
set_option maxRecDepth 20000 in
theorem smo_X0_lowestNeed : smMok smd_X0_lowestNeed := smMok_v 657 54 655 656 (by decide +kernel) rfl (by decide +kernel) (by decide +kernel) rfl rfl (by decide +kernel) (by decide +kernel) (by decide +kernel) (by decide +kernel) (by decide +kernel) (by decide +kernel) (by decide +kernel)
set_option maxRecDepth 20000 in
theorem smo_X0_tellThrow : smMok smd_X0_tellThrow := smMok_s 636 54 635 (by decide +kernel) rfl (by decide +kernel) (by decide +kernel) rfl rfl (by decide +kernel) (by decide +kernel) (by decide +kernel) rfl (by decide +kernel)
set_option maxRecDepth 20000 in
theorem smo_X0_tellBest : smMok smd_X0_tellBest := smMok_v 633 54 631 632 (by decide +kernel) rfl (by decide +kernel) (by decide +kernel) rfl rfl (by decide +kernel) (by decide +kernel) (by decide +kernel) (by decide +kernel) (by decide +kernel) (by decide +kernel) (by decide +kernel)
set_option maxRecDepth 20000 in
theorem smo_X1_takeFrom : smMok smd_X1_takeFrom := smMok_v 467 48 465 466 (by decide +kernel) rfl (by decide +kernel) (by decide +kernel) rfl rfl (by decide +kernel) (by decide +kernel) (by decide +kernel) (by decide +kernel) (by decide +kernel) (by decide +kernel) (by decide +kernel)
set_option maxRecDepth 20000 in
theorem smo_X1_add : smMok smd_X1_add := smMok_v 534 48 532 533 (by decide +kernel) rfl (by decide +kernel) (by decide +kernel) rfl rfl (by decide +kernel) (by decide +kernel) (by decide +kernel) (by decide +kernel) (by decide +kernel) (by decide +kernel) (by decide +kernel)
set_option maxRecDepth 20000 in
theorem smo_X1_moveOn : smMok smd_X1_moveOn := smMok_v 484 48 482 483 (by decide +kernel) rfl (by decide +kernel) (by decide +kernel) rfl rfl (by decide +kernel) (by decide +kernel) (by decide +kernel) (by decide +kernel) (by decide +kernel) (by decide +kernel) (by decide +kernel)
set_option maxRecDepth 20000 in
theorem smo_X1_moveStone : smMok smd_X1_moveStone := smMok_v 513 48 511 512 (by decide +kernel) rfl (by decide +kernel) (by decide +kernel) rfl rfl (by decide +kernel) (by decide +kernel) (by decide +kernel) (by decide +kernel) (by decide +kernel) (by decide +kernel) (by decide +kernel)
set_option maxRecDepth 20000 in
theorem smo_X1_height : smMok smd_X1_height := smMok_v 495 48 493 494 (by decide +kernel) rfl (by decide +kernel) (by decide +kernel) rfl rfl (by decide +kernel) (by decide +kernel) (by decide +kernel) (by decide +kernel) (by decide +kernel) (by decide +kernel) (by decide +kernel)
set_option maxRecDepth 20000 in
theorem smo_X1_countAt : smMok smd_X1_countAt := smMok_v 571 48 569 570 (by decide +kernel) rfl (by decide +kernel) (by decide +kernel) rfl rfl (by decide +kernel) (by decide +kernel) (by decide +kernel) (by decide +kernel) (by decide +kernel) (by decide +kernel) (by decide +kernel)
set_option maxRecDepth 20000 in
theorem smo_X1_tellStone : smMok smd_X1_tellStone := smMok_v 579 48 577 578 (by decide +kernel) rfl (by decide +kernel) (by decide +kernel) rfl rfl (by decide +kernel) (by decide +kernel) (by decide +kernel) (by decide +kernel) (by decide +kernel) (by decide +kernel) (by decide +kernel)
set_option maxRecDepth 20000 in
theorem smo_X1_fallingBits : smMok smd_X1_fallingBits := smMok_v 521 48 519 520 (by decide +kernel) rfl (by decide +kernel) (by decide +kernel) rfl rfl (by decide +kernel) (by decide +kernel) (by decide +kernel) (by decide +kernel) (by decide +kernel) (by decide +kernel) (by decide +kernel)
set_option maxRecDepth 20000 in
theorem smo_X2_isLowAt : smMok smd_X2_isLowAt := smMok_v 751 53 749 750 (by decide +kernel) rfl (by decide +kernel) (by decide +kernel) rfl rfl (by decide +kernel) (by decide +kernel) (by decide +kernel) (by decide +kernel) (by decide +kernel) (by decide +kernel) (by decide +kernel)
set_option maxRecDepth 20000 in
theorem smo_X2_tellEnd : smMok smd_X2_tellEnd := smMok_v 602 53 600 601 (by decide +kernel) rfl (by decide +kernel) (by decide +kernel) rfl rfl (by decide +kernel) (by decide +kernel) (by decide +kernel) (by decide +kernel) (by decide +kernel) (by decide +kernel) (by decide +kernel)
set_option maxRecDepth 20000 in
theorem smo_X9_takeFrom : smMok smd_X9_takeFrom := smMok_v 460 47 458 459 (by decide +kernel) rfl (by decide +kernel) (by decide +kernel) rfl rfl (by decide +kernel) (by decide +kernel) (by decide +kernel) (by decide +kernel) (by decide +kernel) (by decide +kernel) (by decide +kernel)
set_option maxRecDepth 20000 in
theorem smo_X8_takeFrom : smMok smd_X8_takeFrom := smMok_v 855 49 853 854 (by decide +kernel) rfl (by decide +kernel) (by decide +kernel) rfl rfl (by decide +kernel) (by decide +kernel) (by decide +kernel) (by decide +kernel) (by decide +kernel) (by decide +kernel) (by decide +kernel)
set_option maxRecDepth 20000 in
theorem smo_X7_takeFrom : smMok smd_X7_takeFrom := smMok_v 860 50 858 859 (by decide +kernel) rfl (by decide +kernel) (by decide +kernel) rfl rfl (by decide +kernel) (by decide +kernel) (by decide +kernel) (by decide +kernel) (by decide +kernel) (by decide +kernel) (by decide +kernel)
set_option maxRecDepth 20000 in
theorem smo_X3_takeFrom : smMok smd_X3_takeFrom := smMok_v 850 46 848 849 (by decide +kernel) rfl (by decide +kernel) (by decide +kernel) rfl rfl (by decide +kernel) (by decide +kernel) (by decide +kernel) (by decide +kernel) (by decide +kernel) (by decide +kernel) (by decide +kernel)
set_option maxRecDepth 20000 in
theorem smo_X8_fly : smMok smd_X8_fly := smMok_v 711 49 709 710 (by decide +kernel) rfl (by decide +kernel) (by decide +kernel) rfl rfl (by decide +kernel) (by decide +kernel) (by decide +kernel) (by decide +kernel) (by decide +kernel) (by decide +kernel) (by decide +kernel)
set_option maxRecDepth 20000 in
theorem smo_X4_isInRow : smMok smd_X4_isInRow := smMok_s 719 55 718 (by decide +kernel) rfl (by decide +kernel) (by decide +kernel) rfl rfl (by decide +kernel) (by decide +kernel) (by decide +kernel) rfl (by decide +kernel)
set_option maxRecDepth 20000 in
theorem smo_X4_firstCommon : smMok smd_X4_firstCommon := smMok_s 716 55 715 (by decide +kernel) rfl (by decide +kernel) (by decide +kernel) rfl rfl (by decide +kernel) (by decide +kernel) (by decide +kernel) rfl (by decide +kernel)
set_option maxRecDepth 20000 in
theorem smo_X4_firstMeeting : smMok smd_X4_firstMeeting := smMok_v 707 55 705 706 (by decide +kernel) rfl (by decide +kernel) (by decide +kernel) rfl rfl (by decide +kernel) (by decide +kernel) (by decide +kernel) (by decide +kernel) (by decide +kernel) (by decide +kernel) (by decide +kernel)
set_option maxRecDepth 20000 in
theorem smo_X10_within : smMok smd_X10_within := smMok_s 378 45 377 (by decide +kernel) rfl (by decide +kernel) (by decide +kernel) rfl rfl (by decide +kernel) (by decide +kernel) (by decide +kernel) rfl (by decide +kernel)
set_option maxRecDepth 20000 in
theorem smo_X8_has : smMok smd_X8_has := smMok_v 698 49 696 697 (by decide +kernel) rfl (by decide +kernel) (by decide +kernel) rfl rfl (by decide +kernel) (by decide +kernel) (by decide +kernel) (by decide +kernel) (by decide +kernel) (by decide +kernel) (by decide +kernel)
set_option maxRecDepth 20000 in
theorem smo_X4_noteMeetings : smMok smd_X4_noteMeetings := smMok_v 732 55 731 11 (by decide +kernel) rfl (by decide +kernel) (by decide +kernel) rfl rfl (by decide +kernel) (by decide +kernel) (by decide +kernel) (by decide +kernel) (by decide +kernel) (by decide +kernel) (by decide +kernel)
set_option maxRecDepth 20000 in
theorem smo_J6_bitCount_0f7a4 : smMok smd_J6_bitCount_0f7a4 := smMok_s 406 57 405 (by decide +kernel) rfl (by decide +kernel) (by decide +kernel) rfl rfl (by decide +kernel) (by decide +kernel) (by decide +kernel) rfl (by decide +kernel)
set_option maxRecDepth 20000 in
theorem smo_X4_keepsApart : smMok smd_X4_keepsApart := smMok_v 739 55 738 12 (by decide +kernel) rfl (by decide +kernel) (by decide +kernel) rfl rfl (by decide +kernel) (by decide +kernel) (by decide +kernel) (by decide +kernel) (by decide +kernel) (by decide +kernel) (by decide +kernel)
set_option maxRecDepth 20000 in
theorem smo_X4_fewestForbidden : smMok smd_X4_fewestForbidden := smMok_v 728 55 726 727 (by decide +kernel) rfl (by decide +kernel) (by decide +kernel) rfl rfl (by decide +kernel) (by decide +kernel) (by decide +kernel) (by decide +kernel) (by decide +kernel) (by decide +kernel) (by decide +kernel)
set_option maxRecDepth 20000 in
theorem smo_X4_markRow : smMok smd_X4_markRow := smMok_v 755 55 754 13 (by decide +kernel) rfl (by decide +kernel) (by decide +kernel) rfl rfl (by decide +kernel) (by decide +kernel) (by decide +kernel) (by decide +kernel) (by decide +kernel) (by decide +kernel) (by decide +kernel)
set_option maxRecDepth 20000 in
theorem smo_X4_markLow : smMok smd_X4_markLow := smMok_v 747 55 745 746 (by decide +kernel) rfl (by decide +kernel) (by decide +kernel) rfl rfl (by decide +kernel) (by decide +kernel) (by decide +kernel) (by decide +kernel) (by decide +kernel) (by decide +kernel) (by decide +kernel)
set_option maxRecDepth 20000 in
theorem smo_X4_countMarks : smMok smd_X4_countMarks := smMok_v 759 55 757 758 (by decide +kernel) rfl (by decide +kernel) (by decide +kernel) rfl rfl (by decide +kernel) (by decide +kernel) (by decide +kernel) (by decide +kernel) (by decide +kernel) (by decide +kernel) (by decide +kernel)
set_option maxRecDepth 20000 in
theorem smo_X4_firstMark : smMok smd_X4_firstMark := smMok_v 763 55 761 762 (by decide +kernel) rfl (by decide +kernel) (by decide +kernel) rfl rfl (by decide +kernel) (by decide +kernel) (by decide +kernel) (by decide +kernel) (by decide +kernel) (by decide +kernel) (by decide +kernel)
set_option maxRecDepth 20000 in
theorem smo_X4_catchPlaces : smMok smd_X4_catchPlaces := smMok_v 775 55 774 14 (by decide +kernel) rfl (by decide +kernel) (by decide +kernel) rfl rfl (by decide +kernel) (by decide +kernel) (by decide +kernel) (by decide +kernel) (by decide +kernel) (by decide +kernel) (by decide +kernel)
set_option maxRecDepth 20000 in
theorem smo_X4_catchesAll : smMok smd_X4_catchesAll := smMok_v 780 55 779 15 (by decide +kernel) rfl (by decide +kernel) (by decide +kernel) rfl rfl (by decide +kernel) (by decide +kernel) (by decide +kernel) (by decide +kernel) (by decide +kernel) (by decide +kernel) (by decide +kernel)
set_option maxRecDepth 20000 in
theorem smo_X4_fewestHands : smMok smd_X4_fewestHands := smMok_v 771 55 769 770 (by decide +kernel) rfl (by decide +kernel) (by decide +kernel) rfl rfl (by decide +kernel) (by decide +kernel) (by decide +kernel) (by decide +kernel) (by decide +kernel) (by decide +kernel) (by decide +kernel)
set_option maxRecDepth 20000 in
theorem smo_X5_write : smMok smd_X5_write := smMok_v 425 51 423 424 (by decide +kernel) rfl (by decide +kernel) (by decide +kernel) rfl rfl (by decide +kernel) (by decide +kernel) (by decide +kernel) (by decide +kernel) (by decide +kernel) (by decide +kernel) (by decide +kernel)
set_option maxRecDepth 20000 in
theorem smo_X5_signAt : smMok smd_X5_signAt := smMok_v 441 51 440 0 (by decide +kernel) rfl (by decide +kernel) (by decide +kernel) rfl rfl (by decide +kernel) (by decide +kernel) (by decide +kernel) (by decide +kernel) (by decide +kernel) (by decide +kernel) (by decide +kernel)
set_option maxRecDepth 20000 in
theorem smo_X5_number : smMok smd_X5_number := smMok_s 448 51 447 (by decide +kernel) rfl (by decide +kernel) (by decide +kernel) rfl rfl (by decide +kernel) (by decide +kernel) (by decide +kernel) rfl (by decide +kernel)
set_option maxRecDepth 20000 in
theorem smo_X5_nextStage : smMok smd_X5_nextStage := smMok_s 445 51 444 (by decide +kernel) rfl (by decide +kernel) (by decide +kernel) rfl rfl (by decide +kernel) (by decide +kernel) (by decide +kernel) rfl (by decide +kernel)
set_option maxRecDepth 20000 in
theorem smo_X5_firstWrong : smMok smd_X5_firstWrong := smMok_v 437 51 435 436 (by decide +kernel) rfl (by decide +kernel) (by decide +kernel) rfl rfl (by decide +kernel) (by decide +kernel) (by decide +kernel) (by decide +kernel) (by decide +kernel) (by decide +kernel) (by decide +kernel)
set_option maxRecDepth 20000 in
theorem smo_X9_hasPerson : smMok smd_X9_hasPerson := smMok_v 417 47 415 416 (by decide +kernel) rfl (by decide +kernel) (by decide +kernel) rfl rfl (by decide +kernel) (by decide +kernel) (by decide +kernel) (by decide +kernel) (by decide +kernel) (by decide +kernel) (by decide +kernel)
set_option maxRecDepth 20000 in
theorem smo_X9_leastAt : smMok smd_X9_leastAt := smMok_v 508 47 506 507 (by decide +kernel) rfl (by decide +kernel) (by decide +kernel) rfl rfl (by decide +kernel) (by decide +kernel) (by decide +kernel) (by decide +kernel) (by decide +kernel) (by decide +kernel) (by decide +kernel)
set_option maxRecDepth 20000 in
theorem smo_X9_endInHedgesAndHands : smMok smd_X9_endInHedgesAndHands := smMok_v 491 47 490 3 (by decide +kernel) rfl (by decide +kernel) (by decide +kernel) rfl rfl (by decide +kernel) (by decide +kernel) (by decide +kernel) (by decide +kernel) (by decide +kernel) (by decide +kernel) (by decide +kernel)
set_option maxRecDepth 20000 in
theorem smo_X9_fallDown : smMok smd_X9_fallDown := smMok_v 517 47 516 4 (by decide +kernel) rfl (by decide +kernel) (by decide +kernel) rfl rfl (by decide +kernel) (by decide +kernel) (by decide +kernel) (by decide +kernel) (by decide +kernel) (by decide +kernel) (by decide +kernel)
set_option maxRecDepth 20000 in
theorem smo_X9_passMinute : smMok smd_X9_passMinute := smMok_v 480 47 478 479 (by decide +kernel) rfl (by decide +kernel) (by decide +kernel) rfl rfl (by decide +kernel) (by decide +kernel) (by decide +kernel) (by decide +kernel) (by decide +kernel) (by decide +kernel) (by decide +kernel)
set_option maxRecDepth 20000 in
theorem smo_X9_whyNoThrow : smMok smd_X9_whyNoThrow := smMok_v 530 47 528 529 (by decide +kernel) rfl (by decide +kernel) (by decide +kernel) rfl rfl (by decide +kernel) (by decide +kernel) (by decide +kernel) (by decide +kernel) (by decide +kernel) (by decide +kernel) (by decide +kernel)
set_option maxRecDepth 20000 in
theorem smo_X9_throwStone : smMok smd_X9_throwStone := smMok_v 526 47 524 525 (by decide +kernel) rfl (by decide +kernel) (by decide +kernel) rfl rfl (by decide +kernel) (by decide +kernel) (by decide +kernel) (by decide +kernel) (by decide +kernel) (by decide +kernel) (by decide +kernel)
set_option maxRecDepth 20000 in
theorem smo_X9_pickUp : smMok smd_X9_pickUp := smMok_v 538 47 536 537 (by decide +kernel) rfl (by decide +kernel) (by decide +kernel) rfl rfl (by decide +kernel) (by decide +kernel) (by decide +kernel) (by decide +kernel) (by decide +kernel) (by decide +kernel) (by decide +kernel)
set_option maxRecDepth 20000 in
theorem smo_X9_walk : smMok smd_X9_walk := smMok_v 542 47 540 541 (by decide +kernel) rfl (by decide +kernel) (by decide +kernel) rfl rfl (by decide +kernel) (by decide +kernel) (by decide +kernel) (by decide +kernel) (by decide +kernel) (by decide +kernel) (by decide +kernel)
set_option maxRecDepth 20000 in
theorem smo_X5_playEvent : smMok smd_X5_playEvent := smMok_v 476 51 475 2 (by decide +kernel) rfl (by decide +kernel) (by decide +kernel) rfl rfl (by decide +kernel) (by decide +kernel) (by decide +kernel) (by decide +kernel) (by decide +kernel) (by decide +kernel) (by decide +kernel)
set_option maxRecDepth 20000 in
theorem smo_X5_eventLength : smMok smd_X5_eventLength := smMok_v 547 51 546 5 (by decide +kernel) rfl (by decide +kernel) (by decide +kernel) rfl rfl (by decide +kernel) (by decide +kernel) (by decide +kernel) (by decide +kernel) (by decide +kernel) (by decide +kernel) (by decide +kernel)
set_option maxRecDepth 20000 in
theorem smo_X5_play : smMok smd_X5_play := smMok_v 472 51 470 471 (by decide +kernel) rfl (by decide +kernel) (by decide +kernel) rfl rfl (by decide +kernel) (by decide +kernel) (by decide +kernel) (by decide +kernel) (by decide +kernel) (by decide +kernel) (by decide +kernel)
set_option maxRecDepth 20000 in
theorem smo_X6_look : smMok smd_X6_look := smMok_v 590 52 588 589 (by decide +kernel) rfl (by decide +kernel) (by decide +kernel) rfl rfl (by decide +kernel) (by decide +kernel) (by decide +kernel) (by decide +kernel) (by decide +kernel) (by decide +kernel) (by decide +kernel)
end
section
set_option maxRecDepth 20000 in
theorem smo_X7_note : smMok smd_X7_note := smMok_v 788 50 786 787 (by decide +kernel) rfl (by decide +kernel) (by decide +kernel) rfl rfl (by decide +kernel) (by decide +kernel) (by decide +kernel) (by decide +kernel) (by decide +kernel) (by decide +kernel) (by decide +kernel)
set_option maxRecDepth 20000 in
theorem smo_X7_fitHeights : smMok smd_X7_fitHeights := smMok_v 804 50 802 803 (by decide +kernel) rfl (by decide +kernel) (by decide +kernel) rfl rfl (by decide +kernel) (by decide +kernel) (by decide +kernel) (by decide +kernel) (by decide +kernel) (by decide +kernel) (by decide +kernel)
set_option maxRecDepth 20000 in
theorem smo_X7_fit : smMok smd_X7_fit := smMok_v 813 50 811 812 (by decide +kernel) rfl (by decide +kernel) (by decide +kernel) rfl rfl (by decide +kernel) (by decide +kernel) (by decide +kernel) (by decide +kernel) (by decide +kernel) (by decide +kernel) (by decide +kernel)
set_option maxRecDepth 20000 in
theorem smo_X8_setWay : smMok smd_X8_setWay := smMok_v 686 49 684 685 (by decide +kernel) rfl (by decide +kernel) (by decide +kernel) rfl rfl (by decide +kernel) (by decide +kernel) (by decide +kernel) (by decide +kernel) (by decide +kernel) (by decide +kernel) (by decide +kernel)
set_option maxRecDepth 20000 in
theorem smo_X8_setTimes : smMok smd_X8_setTimes := smMok_v 690 49 688 689 (by decide +kernel) rfl (by decide +kernel) (by decide +kernel) rfl rfl (by decide +kernel) (by decide +kernel) (by decide +kernel) (by decide +kernel) (by decide +kernel) (by decide +kernel) (by decide +kernel)
set_option maxRecDepth 20000 in
theorem smo_X9_begin : smMok smd_X9_begin := smMok_v 382 47 380 381 (by decide +kernel) rfl (by decide +kernel) (by decide +kernel) rfl rfl (by decide +kernel) (by decide +kernel) (by decide +kernel) (by decide +kernel) (by decide +kernel) (by decide +kernel) (by decide +kernel)
set_option maxRecDepth 20000 in
theorem smo_X9_hasPlace : smMok smd_X9_hasPlace := smMok_v 390 47 388 389 (by decide +kernel) rfl (by decide +kernel) (by decide +kernel) rfl rfl (by decide +kernel) (by decide +kernel) (by decide +kernel) (by decide +kernel) (by decide +kernel) (by decide +kernel) (by decide +kernel)
set_option maxRecDepth 20000 in
theorem smo_X9_put : smMok smd_X9_put := smMok_v 403 47 401 402 (by decide +kernel) rfl (by decide +kernel) (by decide +kernel) rfl rfl (by decide +kernel) (by decide +kernel) (by decide +kernel) (by decide +kernel) (by decide +kernel) (by decide +kernel) (by decide +kernel)
set_option maxRecDepth 20000 in
theorem smo_X9_tellPerson : smMok smd_X9_tellPerson := smMok_v 559 47 557 558 (by decide +kernel) rfl (by decide +kernel) (by decide +kernel) rfl rfl (by decide +kernel) (by decide +kernel) (by decide +kernel) (by decide +kernel) (by decide +kernel) (by decide +kernel) (by decide +kernel)
set_option maxRecDepth 20000 in
theorem smo_X9_emptyHands : smMok smd_X9_emptyHands := smMok_v 665 47 663 664 (by decide +kernel) rfl (by decide +kernel) (by decide +kernel) rfl rfl (by decide +kernel) (by decide +kernel) (by decide +kernel) (by decide +kernel) (by decide +kernel) (by decide +kernel) (by decide +kernel)
set_option maxRecDepth 20000 in
theorem smo_X9_distance : smMok smd_X9_distance := smMok_v 674 47 672 673 (by decide +kernel) rfl (by decide +kernel) (by decide +kernel) rfl rfl (by decide +kernel) (by decide +kernel) (by decide +kernel) (by decide +kernel) (by decide +kernel) (by decide +kernel) (by decide +kernel)
set_option maxRecDepth 20000 in
theorem smo_X9_lostInAll : smMok smd_X9_lostInAll := smMok_v 838 47 836 837 (by decide +kernel) rfl (by decide +kernel) (by decide +kernel) rfl rfl (by decide +kernel) (by decide +kernel) (by decide +kernel) (by decide +kernel) (by decide +kernel) (by decide +kernel) (by decide +kernel)
set_option maxRecDepth 20000 in
theorem smo_X9_drawThrow : smMok smd_X9_drawThrow := smMok_v 832 47 830 831 (by decide +kernel) rfl (by decide +kernel) (by decide +kernel) rfl rfl (by decide +kernel) (by decide +kernel) (by decide +kernel) (by decide +kernel) (by decide +kernel) (by decide +kernel) (by decide +kernel)
set_option maxRecDepth 20000 in
theorem smo_X10_places : smMok smd_X10_places := smMok_v 375 45 373 374 (by decide +kernel) rfl (by decide +kernel) (by decide +kernel) rfl rfl (by decide +kernel) (by decide +kernel) (by decide +kernel) (by decide +kernel) (by decide +kernel) (by decide +kernel) (by decide +kernel)
set_option maxRecDepth 20000 in
theorem smo_X10_hedge : smMok smd_X10_hedge := smMok_v 386 45 384 385 (by decide +kernel) rfl (by decide +kernel) (by decide +kernel) rfl rfl (by decide +kernel) (by decide +kernel) (by decide +kernel) (by decide +kernel) (by decide +kernel) (by decide +kernel) (by decide +kernel)
set_option maxRecDepth 20000 in
theorem smo_X10_lay : smMok smd_X10_lay := smMok_v 395 45 393 394 (by decide +kernel) rfl (by decide +kernel) (by decide +kernel) rfl rfl (by decide +kernel) (by decide +kernel) (by decide +kernel) (by decide +kernel) (by decide +kernel) (by decide +kernel) (by decide +kernel)
set_option maxRecDepth 20000 in
theorem smo_X10_person : smMok smd_X10_person := smMok_v 399 45 397 398 (by decide +kernel) rfl (by decide +kernel) (by decide +kernel) rfl rfl (by decide +kernel) (by decide +kernel) (by decide +kernel) (by decide +kernel) (by decide +kernel) (by decide +kernel) (by decide +kernel)
set_option maxRecDepth 20000 in
theorem smo_X10_leave : smMok smd_X10_leave := smMok_v 413 45 411 412 (by decide +kernel) rfl (by decide +kernel) (by decide +kernel) rfl rfl (by decide +kernel) (by decide +kernel) (by decide +kernel) (by decide +kernel) (by decide +kernel) (by decide +kernel) (by decide +kernel)
set_option maxRecDepth 20000 in
theorem smo_X10_say : smMok smd_X10_say := smMok_v 421 45 419 420 (by decide +kernel) rfl (by decide +kernel) (by decide +kernel) rfl rfl (by decide +kernel) (by decide +kernel) (by decide +kernel) (by decide +kernel) (by decide +kernel) (by decide +kernel) (by decide +kernel)
set_option maxRecDepth 20000 in
theorem smo_X10_wipe : smMok smd_X10_wipe := smMok_v 429 45 427 428 (by decide +kernel) rfl (by decide +kernel) (by decide +kernel) rfl rfl (by decide +kernel) (by decide +kernel) (by decide +kernel) (by decide +kernel) (by decide +kernel) (by decide +kernel) (by decide +kernel)
set_option maxRecDepth 20000 in
theorem smo_X10_fault : smMok smd_X10_fault := smMok_v 433 45 431 432 (by decide +kernel) rfl (by decide +kernel) (by decide +kernel) rfl rfl (by decide +kernel) (by decide +kernel) (by decide +kernel) (by decide +kernel) (by decide +kernel) (by decide +kernel) (by decide +kernel)
set_option maxRecDepth 20000 in
theorem smo_X10_tryDay : smMok smd_X10_tryDay := smMok_v 456 45 455 1 (by decide +kernel) rfl (by decide +kernel) (by decide +kernel) rfl rfl (by decide +kernel) (by decide +kernel) (by decide +kernel) (by decide +kernel) (by decide +kernel) (by decide +kernel) (by decide +kernel)
set_option maxRecDepth 20000 in
theorem smo_X10_judge : smMok smd_X10_judge := smMok_v 452 45 450 451 (by decide +kernel) rfl (by decide +kernel) (by decide +kernel) rfl rfl (by decide +kernel) (by decide +kernel) (by decide +kernel) (by decide +kernel) (by decide +kernel) (by decide +kernel) (by decide +kernel)
set_option maxRecDepth 20000 in
theorem smo_X10_done : smMok smd_X10_done := smMok_v 551 45 549 550 (by decide +kernel) rfl (by decide +kernel) (by decide +kernel) rfl rfl (by decide +kernel) (by decide +kernel) (by decide +kernel) (by decide +kernel) (by decide +kernel) (by decide +kernel) (by decide +kernel)
set_option maxRecDepth 20000 in
theorem smo_X10_state : smMok smd_X10_state := smMok_v 555 45 553 554 (by decide +kernel) rfl (by decide +kernel) (by decide +kernel) rfl rfl (by decide +kernel) (by decide +kernel) (by decide +kernel) (by decide +kernel) (by decide +kernel) (by decide +kernel) (by decide +kernel)
set_option maxRecDepth 20000 in
theorem smo_X10_behind : smMok smd_X10_behind := smMok_v 563 45 561 562 (by decide +kernel) rfl (by decide +kernel) (by decide +kernel) rfl rfl (by decide +kernel) (by decide +kernel) (by decide +kernel) (by decide +kernel) (by decide +kernel) (by decide +kernel) (by decide +kernel)
set_option maxRecDepth 20000 in
theorem smo_X10_stones : smMok smd_X10_stones := smMok_v 567 45 565 566 (by decide +kernel) rfl (by decide +kernel) (by decide +kernel) rfl rfl (by decide +kernel) (by decide +kernel) (by decide +kernel) (by decide +kernel) (by decide +kernel) (by decide +kernel) (by decide +kernel)
set_option maxRecDepth 20000 in
theorem smo_X10_air : smMok smd_X10_air := smMok_v 575 45 573 574 (by decide +kernel) rfl (by decide +kernel) (by decide +kernel) rfl rfl (by decide +kernel) (by decide +kernel) (by decide +kernel) (by decide +kernel) (by decide +kernel) (by decide +kernel) (by decide +kernel)
set_option maxRecDepth 20000 in
theorem smo_X10_isThrow : smMok smd_X10_isThrow := smMok_s 586 45 585 (by decide +kernel) rfl (by decide +kernel) (by decide +kernel) rfl rfl (by decide +kernel) (by decide +kernel) (by decide +kernel) rfl (by decide +kernel)
set_option maxRecDepth 20000 in
theorem smo_X10_flight : smMok smd_X10_flight := smMok_v 583 45 581 582 (by decide +kernel) rfl (by decide +kernel) (by decide +kernel) rfl rfl (by decide +kernel) (by decide +kernel) (by decide +kernel) (by decide +kernel) (by decide +kernel) (by decide +kernel) (by decide +kernel)
set_option maxRecDepth 20000 in
theorem smo_X10_gets : smMok smd_X10_gets := smMok_v 606 45 604 605 (by decide +kernel) rfl (by decide +kernel) (by decide +kernel) rfl rfl (by decide +kernel) (by decide +kernel) (by decide +kernel) (by decide +kernel) (by decide +kernel) (by decide +kernel) (by decide +kernel)
set_option maxRecDepth 20000 in
theorem smo_X10_goesTo : smMok smd_X10_goesTo := smMok_v 648 45 647 9 (by decide +kernel) rfl (by decide +kernel) (by decide +kernel) rfl rfl (by decide +kernel) (by decide +kernel) (by decide +kernel) (by decide +kernel) (by decide +kernel) (by decide +kernel) (by decide +kernel)
set_option maxRecDepth 20000 in
theorem smo_X10_comesRound : smMok smd_X10_comesRound := smMok_v 644 45 643 8 (by decide +kernel) rfl (by decide +kernel) (by decide +kernel) rfl rfl (by decide +kernel) (by decide +kernel) (by decide +kernel) (by decide +kernel) (by decide +kernel) (by decide +kernel) (by decide +kernel)
set_option maxRecDepth 20000 in
theorem smo_X10_round : smMok smd_X10_round := smMok_v 640 45 638 639 (by decide +kernel) rfl (by decide +kernel) (by decide +kernel) rfl rfl (by decide +kernel) (by decide +kernel) (by decide +kernel) (by decide +kernel) (by decide +kernel) (by decide +kernel) (by decide +kernel)
set_option maxRecDepth 20000 in
theorem smo_X10_keptOff : smMok smd_X10_keptOff := smMok_v 653 45 651 652 (by decide +kernel) rfl (by decide +kernel) (by decide +kernel) rfl rfl (by decide +kernel) (by decide +kernel) (by decide +kernel) (by decide +kernel) (by decide +kernel) (by decide +kernel) (by decide +kernel)
set_option maxRecDepth 20000 in
theorem smo_X10_offerStone : smMok smd_X10_offerStone := smMok_v 670 45 669 10 (by decide +kernel) rfl (by decide +kernel) (by decide +kernel) rfl rfl (by decide +kernel) (by decide +kernel) (by decide +kernel) (by decide +kernel) (by decide +kernel) (by decide +kernel) (by decide +kernel)
set_option maxRecDepth 20000 in
theorem smo_X10_laid : smMok smd_X10_laid := smMok_v 661 45 659 660 (by decide +kernel) rfl (by decide +kernel) (by decide +kernel) rfl rfl (by decide +kernel) (by decide +kernel) (by decide +kernel) (by decide +kernel) (by decide +kernel) (by decide +kernel) (by decide +kernel)
set_option maxRecDepth 20000 in
theorem smo_X10_list : smMok smd_X10_list := smMok_v 682 45 680 681 (by decide +kernel) rfl (by decide +kernel) (by decide +kernel) rfl rfl (by decide +kernel) (by decide +kernel) (by decide +kernel) (by decide +kernel) (by decide +kernel) (by decide +kernel) (by decide +kernel)
set_option maxRecDepth 20000 in
theorem smo_X10_strike : smMok smd_X10_strike := smMok_v 694 45 692 693 (by decide +kernel) rfl (by decide +kernel) (by decide +kernel) rfl rfl (by decide +kernel) (by decide +kernel) (by decide +kernel) (by decide +kernel) (by decide +kernel) (by decide +kernel) (by decide +kernel)
set_option maxRecDepth 20000 in
theorem smo_X10_meet : smMok smd_X10_meet := smMok_v 703 45 701 702 (by decide +kernel) rfl (by decide +kernel) (by decide +kernel) rfl rfl (by decide +kernel) (by decide +kernel) (by decide +kernel) (by decide +kernel) (by decide +kernel) (by decide +kernel) (by decide +kernel)
set_option maxRecDepth 20000 in
theorem smo_X10_forbidden : smMok smd_X10_forbidden := smMok_v 724 45 722 723 (by decide +kernel) rfl (by decide +kernel) (by decide +kernel) rfl rfl (by decide +kernel) (by decide +kernel) (by decide +kernel) (by decide +kernel) (by decide +kernel) (by decide +kernel) (by decide +kernel)
set_option maxRecDepth 20000 in
theorem smo_X10_duck : smMok smd_X10_duck := smMok_v 743 45 741 742 (by decide +kernel) rfl (by decide +kernel) (by decide +kernel) rfl rfl (by decide +kernel) (by decide +kernel) (by decide +kernel) (by decide +kernel) (by decide +kernel) (by decide +kernel) (by decide +kernel)
set_option maxRecDepth 20000 in
theorem smo_X10_hands : smMok smd_X10_hands := smMok_v 767 45 765 766 (by decide +kernel) rfl (by decide +kernel) (by decide +kernel) rfl rfl (by decide +kernel) (by decide +kernel) (by decide +kernel) (by decide +kernel) (by decide +kernel) (by decide +kernel) (by decide +kernel)
set_option maxRecDepth 20000 in
theorem smo_X10_seen : smMok smd_X10_seen := smMok_v 784 45 782 783 (by decide +kernel) rfl (by decide +kernel) (by decide +kernel) rfl rfl (by decide +kernel) (by decide +kernel) (by decide +kernel) (by decide +kernel) (by decide +kernel) (by decide +kernel) (by decide +kernel)
set_option maxRecDepth 20000 in
theorem smo_X10_forget : smMok smd_X10_forget := smMok_v 792 45 790 791 (by decide +kernel) rfl (by decide +kernel) (by decide +kernel) rfl rfl (by decide +kernel) (by decide +kernel) (by decide +kernel) (by decide +kernel) (by decide +kernel) (by decide +kernel) (by decide +kernel)
set_option maxRecDepth 20000 in
theorem smo_X10_fitsSights : smMok smd_X10_fitsSights := smMok_v 809 45 808 17 (by decide +kernel) rfl (by decide +kernel) (by decide +kernel) rfl rfl (by decide +kernel) (by decide +kernel) (by decide +kernel) (by decide +kernel) (by decide +kernel) (by decide +kernel) (by decide +kernel)
set_option maxRecDepth 20000 in
theorem smo_X10_fittingThrows : smMok smd_X10_fittingThrows := smMok_v 800 45 799 16 (by decide +kernel) rfl (by decide +kernel) (by decide +kernel) rfl rfl (by decide +kernel) (by decide +kernel) (by decide +kernel) (by decide +kernel) (by decide +kernel) (by decide +kernel) (by decide +kernel)
set_option maxRecDepth 20000 in
theorem smo_X10_who : smMok smd_X10_who := smMok_v 796 45 794 795 (by decide +kernel) rfl (by decide +kernel) (by decide +kernel) rfl rfl (by decide +kernel) (by decide +kernel) (by decide +kernel) (by decide +kernel) (by decide +kernel) (by decide +kernel) (by decide +kernel)
set_option maxRecDepth 20000 in
theorem smo_X10_sharedWithTen : smMok smd_X10_sharedWithTen := smMok_s 823 45 822 (by decide +kernel) rfl (by decide +kernel) (by decide +kernel) rfl rfl (by decide +kernel) (by decide +kernel) (by decide +kernel) rfl (by decide +kernel)
set_option maxRecDepth 20000 in
theorem smo_X10_slips : smMok smd_X10_slips := smMok_v 817 45 815 816 (by decide +kernel) rfl (by decide +kernel) (by decide +kernel) rfl rfl (by decide +kernel) (by decide +kernel) (by decide +kernel) (by decide +kernel) (by decide +kernel) (by decide +kernel) (by decide +kernel)
set_option maxRecDepth 20000 in
theorem smo_X10_year : smMok smd_X10_year := smMok_v 827 45 825 826 (by decide +kernel) rfl (by decide +kernel) (by decide +kernel) rfl rfl (by decide +kernel) (by decide +kernel) (by decide +kernel) (by decide +kernel) (by decide +kernel) (by decide +kernel) (by decide +kernel)
set_option maxRecDepth 20000 in
theorem smo_X10_imageOf : smMok smd_X10_imageOf := smMok_v 846 45 845 18 (by decide +kernel) rfl (by decide +kernel) (by decide +kernel) rfl rfl (by decide +kernel) (by decide +kernel) (by decide +kernel) (by decide +kernel) (by decide +kernel) (by decide +kernel) (by decide +kernel)
set_option maxRecDepth 20000 in
theorem smo_X10_image : smMok smd_X10_image := smMok_v 842 45 840 841 (by decide +kernel) rfl (by decide +kernel) (by decide +kernel) rfl rfl (by decide +kernel) (by decide +kernel) (by decide +kernel) (by decide +kernel) (by decide +kernel) (by decide +kernel) (by decide +kernel)
set_option maxRecDepth 20000 in
theorem smo_X10_restore : smMok smd_X10_restore := smMok_v 865 45 863 864 (by decide +kernel) rfl (by decide +kernel) (by decide +kernel) rfl rfl (by decide +kernel) (by decide +kernel) (by decide +kernel) (by decide +kernel) (by decide +kernel) (by decide +kernel) (by decide +kernel)
set_option maxRecDepth 20000 in
theorem smo_X10_told : smMok smd_X10_told := smMok_v 869 45 867 868 (by decide +kernel) rfl (by decide +kernel) (by decide +kernel) rfl rfl (by decide +kernel) (by decide +kernel) (by decide +kernel) (by decide +kernel) (by decide +kernel) (by decide +kernel) (by decide +kernel)
end
section
set_option maxRecDepth 20000 in
theorem smo_X11_in : smMok smd_X11_in := smMok_s 989 56 988 (by decide +kernel) rfl (by decide +kernel) (by decide +kernel) rfl rfl (by decide +kernel) (by decide +kernel) (by decide +kernel) rfl (by decide +kernel)
set_option maxRecDepth 20000 in
theorem smo_X11_has : smMok smd_X11_has := smMok_s 1019 56 1018 (by decide +kernel) rfl (by decide +kernel) (by decide +kernel) rfl rfl (by decide +kernel) (by decide +kernel) (by decide +kernel) rfl (by decide +kernel)
set_option maxRecDepth 20000 in
theorem smo_X11_bits : smMok smd_X11_bits := smMok_s 1008 56 1007 (by decide +kernel) rfl (by decide +kernel) (by decide +kernel) rfl rfl (by decide +kernel) (by decide +kernel) (by decide +kernel) rfl (by decide +kernel)
set_option maxRecDepth 20000 in
theorem smo_X11_isPlace : smMok smd_X11_isPlace := smMok_v 997 56 996 19 (by decide +kernel) rfl (by decide +kernel) (by decide +kernel) rfl rfl (by decide +kernel) (by decide +kernel) (by decide +kernel) (by decide +kernel) (by decide +kernel) (by decide +kernel) (by decide +kernel)
set_option maxRecDepth 20000 in
theorem smo_X11_isThere : smMok smd_X11_isThere := smMok_v 1016 56 1015 20 (by decide +kernel) rfl (by decide +kernel) (by decide +kernel) rfl rfl (by decide +kernel) (by decide +kernel) (by decide +kernel) (by decide +kernel) (by decide +kernel) (by decide +kernel) (by decide +kernel)
set_option maxRecDepth 20000 in
theorem smo_X11_places : smMok smd_X11_places := smMok_v 986 56 984 985 (by decide +kernel) rfl (by decide +kernel) (by decide +kernel) rfl rfl (by decide +kernel) (by decide +kernel) (by decide +kernel) (by decide +kernel) (by decide +kernel) (by decide +kernel) (by decide +kernel)
set_option maxRecDepth 20000 in
theorem smo_X11_hedge : smMok smd_X11_hedge := smMok_v 993 56 991 992 (by decide +kernel) rfl (by decide +kernel) (by decide +kernel) rfl rfl (by decide +kernel) (by decide +kernel) (by decide +kernel) (by decide +kernel) (by decide +kernel) (by decide +kernel) (by decide +kernel)
set_option maxRecDepth 20000 in
theorem smo_X11_lay : smMok smd_X11_lay := smMok_v 1001 56 999 1000 (by decide +kernel) rfl (by decide +kernel) (by decide +kernel) rfl rfl (by decide +kernel) (by decide +kernel) (by decide +kernel) (by decide +kernel) (by decide +kernel) (by decide +kernel) (by decide +kernel)
set_option maxRecDepth 20000 in
theorem smo_X11_person : smMok smd_X11_person := smMok_v 1005 56 1003 1004 (by decide +kernel) rfl (by decide +kernel) (by decide +kernel) rfl rfl (by decide +kernel) (by decide +kernel) (by decide +kernel) (by decide +kernel) (by decide +kernel) (by decide +kernel) (by decide +kernel)
set_option maxRecDepth 20000 in
theorem smo_X11_leave : smMok smd_X11_leave := smMok_v 1012 56 1010 1011 (by decide +kernel) rfl (by decide +kernel) (by decide +kernel) rfl rfl (by decide +kernel) (by decide +kernel) (by decide +kernel) (by decide +kernel) (by decide +kernel) (by decide +kernel) (by decide +kernel)
set_option maxRecDepth 20000 in
theorem smo_X11_say : smMok smd_X11_say := smMok_v 1023 56 1021 1022 (by decide +kernel) rfl (by decide +kernel) (by decide +kernel) rfl rfl (by decide +kernel) (by decide +kernel) (by decide +kernel) (by decide +kernel) (by decide +kernel) (by decide +kernel) (by decide +kernel)
set_option maxRecDepth 20000 in
theorem smo_X11_wipe : smMok smd_X11_wipe := smMok_v 1027 56 1025 1026 (by decide +kernel) rfl (by decide +kernel) (by decide +kernel) rfl rfl (by decide +kernel) (by decide +kernel) (by decide +kernel) (by decide +kernel) (by decide +kernel) (by decide +kernel) (by decide +kernel)
set_option maxRecDepth 20000 in
theorem smo_X11_faultOf : smMok smd_X11_faultOf := smMok_v 1035 56 1034 21 (by decide +kernel) rfl (by decide +kernel) (by decide +kernel) rfl rfl (by decide +kernel) (by decide +kernel) (by decide +kernel) (by decide +kernel) (by decide +kernel) (by decide +kernel) (by decide +kernel)
set_option maxRecDepth 20000 in
theorem smo_X11_fault : smMok smd_X11_fault := smMok_v 1031 56 1029 1030 (by decide +kernel) rfl (by decide +kernel) (by decide +kernel) rfl rfl (by decide +kernel) (by decide +kernel) (by decide +kernel) (by decide +kernel) (by decide +kernel) (by decide +kernel) (by decide +kernel)
set_option maxRecDepth 20000 in
theorem smo_X11_asNow : smMok smd_X11_asNow := smMok_v 1047 56 1046 23 (by decide +kernel) rfl (by decide +kernel) (by decide +kernel) rfl rfl (by decide +kernel) (by decide +kernel) (by decide +kernel) (by decide +kernel) (by decide +kernel) (by decide +kernel) (by decide +kernel)
set_option maxRecDepth 20000 in
theorem smo_X11_step : smMok smd_X11_step := smMok_v 1055 56 1054 25 (by decide +kernel) rfl (by decide +kernel) (by decide +kernel) rfl rfl (by decide +kernel) (by decide +kernel) (by decide +kernel) (by decide +kernel) (by decide +kernel) (by decide +kernel) (by decide +kernel)
set_option maxRecDepth 20000 in
theorem smo_X11_heightOf : smMok smd_X11_heightOf := smMok_s 1062 56 1061 (by decide +kernel) rfl (by decide +kernel) (by decide +kernel) rfl rfl (by decide +kernel) (by decide +kernel) (by decide +kernel) rfl (by decide +kernel)
set_option maxRecDepth 20000 in
theorem smo_X11_heightNow : smMok smd_X11_heightNow := smMok_v 1059 56 1058 26 (by decide +kernel) rfl (by decide +kernel) (by decide +kernel) rfl rfl (by decide +kernel) (by decide +kernel) (by decide +kernel) (by decide +kernel) (by decide +kernel) (by decide +kernel) (by decide +kernel)
set_option maxRecDepth 20000 in
theorem smo_X11_firstAt : smMok smd_X11_firstAt := smMok_v 1066 56 1065 27 (by decide +kernel) rfl (by decide +kernel) (by decide +kernel) rfl rfl (by decide +kernel) (by decide +kernel) (by decide +kernel) (by decide +kernel) (by decide +kernel) (by decide +kernel) (by decide +kernel)
set_option maxRecDepth 20000 in
theorem smo_X11_fall : smMok smd_X11_fall := smMok_v 1070 56 1069 28 (by decide +kernel) rfl (by decide +kernel) (by decide +kernel) rfl rfl (by decide +kernel) (by decide +kernel) (by decide +kernel) (by decide +kernel) (by decide +kernel) (by decide +kernel) (by decide +kernel)
set_option maxRecDepth 20000 in
theorem smo_X11_pass : smMok smd_X11_pass := smMok_v 1051 56 1050 24 (by decide +kernel) rfl (by decide +kernel) (by decide +kernel) rfl rfl (by decide +kernel) (by decide +kernel) (by decide +kernel) (by decide +kernel) (by decide +kernel) (by decide +kernel) (by decide +kernel)
set_option maxRecDepth 20000 in
theorem smo_X11_whyNot : smMok smd_X11_whyNot := smMok_v 1074 56 1073 29 (by decide +kernel) rfl (by decide +kernel) (by decide +kernel) rfl rfl (by decide +kernel) (by decide +kernel) (by decide +kernel) (by decide +kernel) (by decide +kernel) (by decide +kernel) (by decide +kernel)
set_option maxRecDepth 20000 in
theorem smo_X11_fling : smMok smd_X11_fling := smMok_v 1078 56 1077 30 (by decide +kernel) rfl (by decide +kernel) (by decide +kernel) rfl rfl (by decide +kernel) (by decide +kernel) (by decide +kernel) (by decide +kernel) (by decide +kernel) (by decide +kernel) (by decide +kernel)
set_option maxRecDepth 20000 in
theorem smo_X11_go : smMok smd_X11_go := smMok_v 1082 56 1081 31 (by decide +kernel) rfl (by decide +kernel) (by decide +kernel) rfl rfl (by decide +kernel) (by decide +kernel) (by decide +kernel) (by decide +kernel) (by decide +kernel) (by decide +kernel) (by decide +kernel)
set_option maxRecDepth 20000 in
theorem smo_X11_goDay : smMok smd_X11_goDay := smMok_v 1043 56 1042 22 (by decide +kernel) rfl (by decide +kernel) (by decide +kernel) rfl rfl (by decide +kernel) (by decide +kernel) (by decide +kernel) (by decide +kernel) (by decide +kernel) (by decide +kernel) (by decide +kernel)
set_option maxRecDepth 20000 in
theorem smo_X11_judge : smMok smd_X11_judge := smMok_v 1039 56 1037 1038 (by decide +kernel) rfl (by decide +kernel) (by decide +kernel) rfl rfl (by decide +kernel) (by decide +kernel) (by decide +kernel) (by decide +kernel) (by decide +kernel) (by decide +kernel) (by decide +kernel)
set_option maxRecDepth 20000 in
theorem smo_X11_barOfDay : smMok smd_X11_barOfDay := smMok_v 1090 56 1089 32 (by decide +kernel) rfl (by decide +kernel) (by decide +kernel) rfl rfl (by decide +kernel) (by decide +kernel) (by decide +kernel) (by decide +kernel) (by decide +kernel) (by decide +kernel) (by decide +kernel)
set_option maxRecDepth 20000 in
theorem smo_X11_done : smMok smd_X11_done := smMok_v 1086 56 1084 1085 (by decide +kernel) rfl (by decide +kernel) (by decide +kernel) rfl rfl (by decide +kernel) (by decide +kernel) (by decide +kernel) (by decide +kernel) (by decide +kernel) (by decide +kernel) (by decide +kernel)
set_option maxRecDepth 20000 in
theorem smo_X11_state : smMok smd_X11_state := smMok_v 1094 56 1092 1093 (by decide +kernel) rfl (by decide +kernel) (by decide +kernel) rfl rfl (by decide +kernel) (by decide +kernel) (by decide +kernel) (by decide +kernel) (by decide +kernel) (by decide +kernel) (by decide +kernel)
set_option maxRecDepth 20000 in
theorem smo_X11_behind : smMok smd_X11_behind := smMok_v 1098 56 1096 1097 (by decide +kernel) rfl (by decide +kernel) (by decide +kernel) rfl rfl (by decide +kernel) (by decide +kernel) (by decide +kernel) (by decide +kernel) (by decide +kernel) (by decide +kernel) (by decide +kernel)
set_option maxRecDepth 20000 in
theorem smo_X11_stones : smMok smd_X11_stones := smMok_v 1102 56 1100 1101 (by decide +kernel) rfl (by decide +kernel) (by decide +kernel) rfl rfl (by decide +kernel) (by decide +kernel) (by decide +kernel) (by decide +kernel) (by decide +kernel) (by decide +kernel) (by decide +kernel)
set_option maxRecDepth 20000 in
theorem smo_X11_air : smMok smd_X11_air := smMok_v 1106 56 1104 1105 (by decide +kernel) rfl (by decide +kernel) (by decide +kernel) rfl rfl (by decide +kernel) (by decide +kernel) (by decide +kernel) (by decide +kernel) (by decide +kernel) (by decide +kernel) (by decide +kernel)
set_option maxRecDepth 20000 in
theorem smo_X11_standsAt : smMok smd_X11_standsAt := smMok_v 1125 56 1124 35 (by decide +kernel) rfl (by decide +kernel) (by decide +kernel) rfl rfl (by decide +kernel) (by decide +kernel) (by decide +kernel) (by decide +kernel) (by decide +kernel) (by decide +kernel) (by decide +kernel)
set_option maxRecDepth 20000 in
theorem smo_X11_fly : smMok smd_X11_fly := smMok_v 1121 56 1120 34 (by decide +kernel) rfl (by decide +kernel) (by decide +kernel) rfl rfl (by decide +kernel) (by decide +kernel) (by decide +kernel) (by decide +kernel) (by decide +kernel) (by decide +kernel) (by decide +kernel)
set_option maxRecDepth 20000 in
theorem smo_X11_isThrow : smMok smd_X11_isThrow := smMok_s 1113 56 1112 (by decide +kernel) rfl (by decide +kernel) (by decide +kernel) rfl rfl (by decide +kernel) (by decide +kernel) (by decide +kernel) rfl (by decide +kernel)
set_option maxRecDepth 20000 in
theorem smo_X11_flyFrom : smMok smd_X11_flyFrom := smMok_v 1117 56 1116 33 (by decide +kernel) rfl (by decide +kernel) (by decide +kernel) rfl rfl (by decide +kernel) (by decide +kernel) (by decide +kernel) (by decide +kernel) (by decide +kernel) (by decide +kernel) (by decide +kernel)
set_option maxRecDepth 20000 in
theorem smo_X11_flight : smMok smd_X11_flight := smMok_v 1110 56 1108 1109 (by decide +kernel) rfl (by decide +kernel) (by decide +kernel) rfl rfl (by decide +kernel) (by decide +kernel) (by decide +kernel) (by decide +kernel) (by decide +kernel) (by decide +kernel) (by decide +kernel)
set_option maxRecDepth 20000 in
theorem smo_X11_gets : smMok smd_X11_gets := smMok_v 1129 56 1127 1128 (by decide +kernel) rfl (by decide +kernel) (by decide +kernel) rfl rfl (by decide +kernel) (by decide +kernel) (by decide +kernel) (by decide +kernel) (by decide +kernel) (by decide +kernel) (by decide +kernel)
set_option maxRecDepth 20000 in
theorem smo_X11_round : smMok smd_X11_round := smMok_v 1134 56 1132 1133 (by decide +kernel) rfl (by decide +kernel) (by decide +kernel) rfl rfl (by decide +kernel) (by decide +kernel) (by decide +kernel) (by decide +kernel) (by decide +kernel) (by decide +kernel) (by decide +kernel)
set_option maxRecDepth 20000 in
theorem smo_X11_isCaught : smMok smd_X11_isCaught := smMok_v 1142 56 1141 36 (by decide +kernel) rfl (by decide +kernel) (by decide +kernel) rfl rfl (by decide +kernel) (by decide +kernel) (by decide +kernel) (by decide +kernel) (by decide +kernel) (by decide +kernel) (by decide +kernel)
set_option maxRecDepth 20000 in
theorem smo_X11_keptOff : smMok smd_X11_keptOff := smMok_v 1138 56 1136 1137 (by decide +kernel) rfl (by decide +kernel) (by decide +kernel) rfl rfl (by decide +kernel) (by decide +kernel) (by decide +kernel) (by decide +kernel) (by decide +kernel) (by decide +kernel) (by decide +kernel)
set_option maxRecDepth 20000 in
theorem smo_X11_laid : smMok smd_X11_laid := smMok_v 1146 56 1144 1145 (by decide +kernel) rfl (by decide +kernel) (by decide +kernel) rfl rfl (by decide +kernel) (by decide +kernel) (by decide +kernel) (by decide +kernel) (by decide +kernel) (by decide +kernel) (by decide +kernel)
set_option maxRecDepth 20000 in
theorem smo_X11_isListed : smMok smd_X11_isListed := smMok_v 1158 56 1157 37 (by decide +kernel) rfl (by decide +kernel) (by decide +kernel) rfl rfl (by decide +kernel) (by decide +kernel) (by decide +kernel) (by decide +kernel) (by decide +kernel) (by decide +kernel) (by decide +kernel)
set_option maxRecDepth 20000 in
theorem smo_X11_list : smMok smd_X11_list := smMok_v 1150 56 1148 1149 (by decide +kernel) rfl (by decide +kernel) (by decide +kernel) rfl rfl (by decide +kernel) (by decide +kernel) (by decide +kernel) (by decide +kernel) (by decide +kernel) (by decide +kernel) (by decide +kernel)
set_option maxRecDepth 20000 in
theorem smo_X11_strike : smMok smd_X11_strike := smMok_v 1154 56 1152 1153 (by decide +kernel) rfl (by decide +kernel) (by decide +kernel) rfl rfl (by decide +kernel) (by decide +kernel) (by decide +kernel) (by decide +kernel) (by decide +kernel) (by decide +kernel) (by decide +kernel)
set_option maxRecDepth 20000 in
theorem smo_X11_flyListed : smMok smd_X11_flyListed := smMok_v 1170 56 1169 39 (by decide +kernel) rfl (by decide +kernel) (by decide +kernel) rfl rfl (by decide +kernel) (by decide +kernel) (by decide +kernel) (by decide +kernel) (by decide +kernel) (by decide +kernel) (by decide +kernel)
set_option maxRecDepth 20000 in
theorem smo_X11_wasThrown : smMok smd_X11_wasThrown := smMok_v 1174 56 1173 40 (by decide +kernel) rfl (by decide +kernel) (by decide +kernel) rfl rfl (by decide +kernel) (by decide +kernel) (by decide +kernel) (by decide +kernel) (by decide +kernel) (by decide +kernel) (by decide +kernel)
set_option maxRecDepth 20000 in
theorem smo_X11_placeBehind : smMok smd_X11_placeBehind := smMok_v 1178 56 1177 41 (by decide +kernel) rfl (by decide +kernel) (by decide +kernel) rfl rfl (by decide +kernel) (by decide +kernel) (by decide +kernel) (by decide +kernel) (by decide +kernel) (by decide +kernel) (by decide +kernel)
set_option maxRecDepth 20000 in
theorem smo_X11_heightBehind : smMok smd_X11_heightBehind := smMok_v 1182 56 1181 42 (by decide +kernel) rfl (by decide +kernel) (by decide +kernel) rfl rfl (by decide +kernel) (by decide +kernel) (by decide +kernel) (by decide +kernel) (by decide +kernel) (by decide +kernel) (by decide +kernel)
set_option maxRecDepth 20000 in
theorem smo_X11_meetOf : smMok smd_X11_meetOf := smMok_v 1166 56 1165 38 (by decide +kernel) rfl (by decide +kernel) (by decide +kernel) rfl rfl (by decide +kernel) (by decide +kernel) (by decide +kernel) (by decide +kernel) (by decide +kernel) (by decide +kernel) (by decide +kernel)
set_option maxRecDepth 20000 in
theorem smo_X11_meet : smMok smd_X11_meet := smMok_v 1162 56 1160 1161 (by decide +kernel) rfl (by decide +kernel) (by decide +kernel) rfl rfl (by decide +kernel) (by decide +kernel) (by decide +kernel) (by decide +kernel) (by decide +kernel) (by decide +kernel) (by decide +kernel)
set_option maxRecDepth 20000 in
theorem smo_X11_forbidden : smMok smd_X11_forbidden := smMok_v 1186 56 1184 1185 (by decide +kernel) rfl (by decide +kernel) (by decide +kernel) rfl rfl (by decide +kernel) (by decide +kernel) (by decide +kernel) (by decide +kernel) (by decide +kernel) (by decide +kernel) (by decide +kernel)
set_option maxRecDepth 20000 in
theorem smo_X11_duck : smMok smd_X11_duck := smMok_v 1190 56 1188 1189 (by decide +kernel) rfl (by decide +kernel) (by decide +kernel) rfl rfl (by decide +kernel) (by decide +kernel) (by decide +kernel) (by decide +kernel) (by decide +kernel) (by decide +kernel) (by decide +kernel)
set_option maxRecDepth 20000 in
theorem smo_X11_hands : smMok smd_X11_hands := smMok_v 1194 56 1192 1193 (by decide +kernel) rfl (by decide +kernel) (by decide +kernel) rfl rfl (by decide +kernel) (by decide +kernel) (by decide +kernel) (by decide +kernel) (by decide +kernel) (by decide +kernel) (by decide +kernel)
set_option maxRecDepth 20000 in
theorem smo_X11_seen : smMok smd_X11_seen := smMok_v 1198 56 1196 1197 (by decide +kernel) rfl (by decide +kernel) (by decide +kernel) rfl rfl (by decide +kernel) (by decide +kernel) (by decide +kernel) (by decide +kernel) (by decide +kernel) (by decide +kernel) (by decide +kernel)
set_option maxRecDepth 20000 in
theorem smo_X11_forget : smMok smd_X11_forget := smMok_v 1202 56 1200 1201 (by decide +kernel) rfl (by decide +kernel) (by decide +kernel) rfl rfl (by decide +kernel) (by decide +kernel) (by decide +kernel) (by decide +kernel) (by decide +kernel) (by decide +kernel) (by decide +kernel)
set_option maxRecDepth 20000 in
theorem smo_X11_goesBy : smMok smd_X11_goesBy := smMok_v 1210 56 1209 43 (by decide +kernel) rfl (by decide +kernel) (by decide +kernel) rfl rfl (by decide +kernel) (by decide +kernel) (by decide +kernel) (by decide +kernel) (by decide +kernel) (by decide +kernel) (by decide +kernel)
set_option maxRecDepth 20000 in
theorem smo_X11_who : smMok smd_X11_who := smMok_v 1206 56 1204 1205 (by decide +kernel) rfl (by decide +kernel) (by decide +kernel) rfl rfl (by decide +kernel) (by decide +kernel) (by decide +kernel) (by decide +kernel) (by decide +kernel) (by decide +kernel) (by decide +kernel)
set_option maxRecDepth 20000 in
theorem smo_X11_slips : smMok smd_X11_slips := smMok_v 1214 56 1212 1213 (by decide +kernel) rfl (by decide +kernel) (by decide +kernel) rfl rfl (by decide +kernel) (by decide +kernel) (by decide +kernel) (by decide +kernel) (by decide +kernel) (by decide +kernel) (by decide +kernel)
set_option maxRecDepth 20000 in
theorem smo_X11_year : smMok smd_X11_year := smMok_v 1220 56 1218 1219 (by decide +kernel) rfl (by decide +kernel) (by decide +kernel) rfl rfl (by decide +kernel) (by decide +kernel) (by decide +kernel) (by decide +kernel) (by decide +kernel) (by decide +kernel) (by decide +kernel)
set_option maxRecDepth 20000 in
theorem smo_X11_image : smMok smd_X11_image := smMok_v 1225 56 1223 1224 (by decide +kernel) rfl (by decide +kernel) (by decide +kernel) rfl rfl (by decide +kernel) (by decide +kernel) (by decide +kernel) (by decide +kernel) (by decide +kernel) (by decide +kernel) (by decide +kernel)
set_option maxRecDepth 20000 in
theorem smo_X11_restore : smMok smd_X11_restore := smMok_v 1229 56 1227 1228 (by decide +kernel) rfl (by decide +kernel) (by decide +kernel) rfl rfl (by decide +kernel) (by decide +kernel) (by decide +kernel) (by decide +kernel) (by decide +kernel) (by decide +kernel) (by decide +kernel)
set_option maxRecDepth 20000 in
theorem smo_X11_told : smMok smd_X11_told := smMok_v 1233 56 1231 1232 (by decide +kernel) rfl (by decide +kernel) (by decide +kernel) rfl rfl (by decide +kernel) (by decide +kernel) (by decide +kernel) (by decide +kernel) (by decide +kernel) (by decide +kernel) (by decide +kernel)
theorem smMs_ok : ∀ d ∈ smMs, smMok d := by
  unfold smMs
  refine List.forall_mem_cons.mpr ⟨smo_X10_nextPlace, ?_⟩
  refine List.forall_mem_cons.mpr ⟨smo_X10_heightBehind, ?_⟩
  refine List.forall_mem_cons.mpr ⟨smo_X10_isCatchable, ?_⟩
  refine List.forall_mem_cons.mpr ⟨smo_X2_go, ?_⟩
  refine List.forall_mem_cons.mpr ⟨smo_X2_isCaughtBy, ?_⟩
  refine List.forall_mem_cons.mpr ⟨smo_X0_noteThrow, ?_⟩
  refine List.forall_mem_cons.mpr ⟨smo_X0_noteHedges, ?_⟩
  refine List.forall_mem_cons.mpr ⟨smo_X0_search, ?_⟩
  refine List.forall_mem_cons.mpr ⟨smo_X0_lowestNeed, ?_⟩
  refine List.forall_mem_cons.mpr ⟨smo_X0_tellThrow, ?_⟩
  refine List.forall_mem_cons.mpr ⟨smo_X0_tellBest, ?_⟩
  refine List.forall_mem_cons.mpr ⟨smo_X1_takeFrom, ?_⟩
  refine List.forall_mem_cons.mpr ⟨smo_X1_add, ?_⟩
  refine List.forall_mem_cons.mpr ⟨smo_X1_moveOn, ?_⟩
  refine List.forall_mem_cons.mpr ⟨smo_X1_moveStone, ?_⟩
  refine List.forall_mem_cons.mpr ⟨smo_X1_height, ?_⟩
  refine List.forall_mem_cons.mpr ⟨smo_X1_countAt, ?_⟩
  refine List.forall_mem_cons.mpr ⟨smo_X1_tellStone, ?_⟩
  refine List.forall_mem_cons.mpr ⟨smo_X1_fallingBits, ?_⟩
  refine List.forall_mem_cons.mpr ⟨smo_X2_isLowAt, ?_⟩
  refine List.forall_mem_cons.mpr ⟨smo_X2_tellEnd, ?_⟩
  refine List.forall_mem_cons.mpr ⟨smo_X9_takeFrom, ?_⟩
  refine List.forall_mem_cons.mpr ⟨smo_X8_takeFrom, ?_⟩
  refine List.forall_mem_cons.mpr ⟨smo_X7_takeFrom, ?_⟩
  refine List.forall_mem_cons.mpr ⟨smo_X3_takeFrom, ?_⟩
  refine List.forall_mem_cons.mpr ⟨smo_X8_fly, ?_⟩
  refine List.forall_mem_cons.mpr ⟨smo_X4_isInRow, ?_⟩
  refine List.forall_mem_cons.mpr ⟨smo_X4_firstCommon, ?_⟩
  refine List.forall_mem_cons.mpr ⟨smo_X4_firstMeeting, ?_⟩
  refine List.forall_mem_cons.mpr ⟨smo_X10_within, ?_⟩
  refine List.forall_mem_cons.mpr ⟨smo_X8_has, ?_⟩
  refine List.forall_mem_cons.mpr ⟨smo_X4_noteMeetings, ?_⟩
  refine List.forall_mem_cons.mpr ⟨smo_J6_bitCount_0f7a4, ?_⟩
  refine List.forall_mem_cons.mpr ⟨smo_X4_keepsApart, ?_⟩
  refine List.forall_mem_cons.mpr ⟨smo_X4_fewestForbidden, ?_⟩
  refine List.forall_mem_cons.mpr ⟨smo_X4_markRow, ?_⟩
  refine List.forall_mem_cons.mpr ⟨smo_X4_markLow, ?_⟩
  refine List.forall_mem_cons.mpr ⟨smo_X4_countMarks, ?_⟩
  refine List.forall_mem_cons.mpr ⟨smo_X4_firstMark, ?_⟩
  refine List.forall_mem_cons.mpr ⟨smo_X4_catchPlaces, ?_⟩
  refine List.forall_mem_cons.mpr ⟨smo_X4_catchesAll, ?_⟩
  refine List.forall_mem_cons.mpr ⟨smo_X4_fewestHands, ?_⟩
  refine List.forall_mem_cons.mpr ⟨smo_X5_write, ?_⟩
  refine List.forall_mem_cons.mpr ⟨smo_X5_signAt, ?_⟩
  refine List.forall_mem_cons.mpr ⟨smo_X5_number, ?_⟩
  refine List.forall_mem_cons.mpr ⟨smo_X5_nextStage, ?_⟩
  refine List.forall_mem_cons.mpr ⟨smo_X5_firstWrong, ?_⟩
  refine List.forall_mem_cons.mpr ⟨smo_X9_hasPerson, ?_⟩
  refine List.forall_mem_cons.mpr ⟨smo_X9_leastAt, ?_⟩
  refine List.forall_mem_cons.mpr ⟨smo_X9_endInHedgesAndHands, ?_⟩
  refine List.forall_mem_cons.mpr ⟨smo_X9_fallDown, ?_⟩
  refine List.forall_mem_cons.mpr ⟨smo_X9_passMinute, ?_⟩
  refine List.forall_mem_cons.mpr ⟨smo_X9_whyNoThrow, ?_⟩
  refine List.forall_mem_cons.mpr ⟨smo_X9_throwStone, ?_⟩
  refine List.forall_mem_cons.mpr ⟨smo_X9_pickUp, ?_⟩
  refine List.forall_mem_cons.mpr ⟨smo_X9_walk, ?_⟩
  refine List.forall_mem_cons.mpr ⟨smo_X5_playEvent, ?_⟩
  refine List.forall_mem_cons.mpr ⟨smo_X5_eventLength, ?_⟩
  refine List.forall_mem_cons.mpr ⟨smo_X5_play, ?_⟩
  refine List.forall_mem_cons.mpr ⟨smo_X6_look, ?_⟩
  refine List.forall_mem_cons.mpr ⟨smo_X7_note, ?_⟩
  refine List.forall_mem_cons.mpr ⟨smo_X7_fitHeights, ?_⟩
  refine List.forall_mem_cons.mpr ⟨smo_X7_fit, ?_⟩
  refine List.forall_mem_cons.mpr ⟨smo_X8_setWay, ?_⟩
  refine List.forall_mem_cons.mpr ⟨smo_X8_setTimes, ?_⟩
  refine List.forall_mem_cons.mpr ⟨smo_X9_begin, ?_⟩
  refine List.forall_mem_cons.mpr ⟨smo_X9_hasPlace, ?_⟩
  refine List.forall_mem_cons.mpr ⟨smo_X9_put, ?_⟩
  refine List.forall_mem_cons.mpr ⟨smo_X9_tellPerson, ?_⟩
  refine List.forall_mem_cons.mpr ⟨smo_X9_emptyHands, ?_⟩
  refine List.forall_mem_cons.mpr ⟨smo_X9_distance, ?_⟩
  refine List.forall_mem_cons.mpr ⟨smo_X9_lostInAll, ?_⟩
  refine List.forall_mem_cons.mpr ⟨smo_X9_drawThrow, ?_⟩
  refine List.forall_mem_cons.mpr ⟨smo_X10_places, ?_⟩
  refine List.forall_mem_cons.mpr ⟨smo_X10_hedge, ?_⟩
  refine List.forall_mem_cons.mpr ⟨smo_X10_lay, ?_⟩
  refine List.forall_mem_cons.mpr ⟨smo_X10_person, ?_⟩
  refine List.forall_mem_cons.mpr ⟨smo_X10_leave, ?_⟩
  refine List.forall_mem_cons.mpr ⟨smo_X10_say, ?_⟩
  refine List.forall_mem_cons.mpr ⟨smo_X10_wipe, ?_⟩
  refine List.forall_mem_cons.mpr ⟨smo_X10_fault, ?_⟩
  refine List.forall_mem_cons.mpr ⟨smo_X10_tryDay, ?_⟩
  refine List.forall_mem_cons.mpr ⟨smo_X10_judge, ?_⟩
  refine List.forall_mem_cons.mpr ⟨smo_X10_done, ?_⟩
  refine List.forall_mem_cons.mpr ⟨smo_X10_state, ?_⟩
  refine List.forall_mem_cons.mpr ⟨smo_X10_behind, ?_⟩
  refine List.forall_mem_cons.mpr ⟨smo_X10_stones, ?_⟩
  refine List.forall_mem_cons.mpr ⟨smo_X10_air, ?_⟩
  refine List.forall_mem_cons.mpr ⟨smo_X10_isThrow, ?_⟩
  refine List.forall_mem_cons.mpr ⟨smo_X10_flight, ?_⟩
  refine List.forall_mem_cons.mpr ⟨smo_X10_gets, ?_⟩
  refine List.forall_mem_cons.mpr ⟨smo_X10_goesTo, ?_⟩
  refine List.forall_mem_cons.mpr ⟨smo_X10_comesRound, ?_⟩
  refine List.forall_mem_cons.mpr ⟨smo_X10_round, ?_⟩
  refine List.forall_mem_cons.mpr ⟨smo_X10_keptOff, ?_⟩
  refine List.forall_mem_cons.mpr ⟨smo_X10_offerStone, ?_⟩
  refine List.forall_mem_cons.mpr ⟨smo_X10_laid, ?_⟩
  refine List.forall_mem_cons.mpr ⟨smo_X10_list, ?_⟩
  refine List.forall_mem_cons.mpr ⟨smo_X10_strike, ?_⟩
  refine List.forall_mem_cons.mpr ⟨smo_X10_meet, ?_⟩
  refine List.forall_mem_cons.mpr ⟨smo_X10_forbidden, ?_⟩
  refine List.forall_mem_cons.mpr ⟨smo_X10_duck, ?_⟩
  refine List.forall_mem_cons.mpr ⟨smo_X10_hands, ?_⟩
  refine List.forall_mem_cons.mpr ⟨smo_X10_seen, ?_⟩
  refine List.forall_mem_cons.mpr ⟨smo_X10_forget, ?_⟩
  refine List.forall_mem_cons.mpr ⟨smo_X10_fitsSights, ?_⟩
  refine List.forall_mem_cons.mpr ⟨smo_X10_fittingThrows, ?_⟩
  refine List.forall_mem_cons.mpr ⟨smo_X10_who, ?_⟩
  refine List.forall_mem_cons.mpr ⟨smo_X10_sharedWithTen, ?_⟩
  refine List.forall_mem_cons.mpr ⟨smo_X10_slips, ?_⟩
  refine List.forall_mem_cons.mpr ⟨smo_X10_year, ?_⟩
  refine List.forall_mem_cons.mpr ⟨smo_X10_imageOf, ?_⟩
  refine List.forall_mem_cons.mpr ⟨smo_X10_image, ?_⟩
  refine List.forall_mem_cons.mpr ⟨smo_X10_restore, ?_⟩
  refine List.forall_mem_cons.mpr ⟨smo_X10_told, ?_⟩
  refine List.forall_mem_cons.mpr ⟨smo_X11_in, ?_⟩
  refine List.forall_mem_cons.mpr ⟨smo_X11_has, ?_⟩
  refine List.forall_mem_cons.mpr ⟨smo_X11_bits, ?_⟩
  refine List.forall_mem_cons.mpr ⟨smo_X11_isPlace, ?_⟩
  refine List.forall_mem_cons.mpr ⟨smo_X11_isThere, ?_⟩
  refine List.forall_mem_cons.mpr ⟨smo_X11_places, ?_⟩
  refine List.forall_mem_cons.mpr ⟨smo_X11_hedge, ?_⟩
  refine List.forall_mem_cons.mpr ⟨smo_X11_lay, ?_⟩
  refine List.forall_mem_cons.mpr ⟨smo_X11_person, ?_⟩
  refine List.forall_mem_cons.mpr ⟨smo_X11_leave, ?_⟩
  refine List.forall_mem_cons.mpr ⟨smo_X11_say, ?_⟩
  refine List.forall_mem_cons.mpr ⟨smo_X11_wipe, ?_⟩
  refine List.forall_mem_cons.mpr ⟨smo_X11_faultOf, ?_⟩
  refine List.forall_mem_cons.mpr ⟨smo_X11_fault, ?_⟩
  refine List.forall_mem_cons.mpr ⟨smo_X11_asNow, ?_⟩
  refine List.forall_mem_cons.mpr ⟨smo_X11_step, ?_⟩
  refine List.forall_mem_cons.mpr ⟨smo_X11_heightOf, ?_⟩
  refine List.forall_mem_cons.mpr ⟨smo_X11_heightNow, ?_⟩
  refine List.forall_mem_cons.mpr ⟨smo_X11_firstAt, ?_⟩
  refine List.forall_mem_cons.mpr ⟨smo_X11_fall, ?_⟩
  refine List.forall_mem_cons.mpr ⟨smo_X11_pass, ?_⟩
  refine List.forall_mem_cons.mpr ⟨smo_X11_whyNot, ?_⟩
  refine List.forall_mem_cons.mpr ⟨smo_X11_fling, ?_⟩
  refine List.forall_mem_cons.mpr ⟨smo_X11_go, ?_⟩
  refine List.forall_mem_cons.mpr ⟨smo_X11_goDay, ?_⟩
  refine List.forall_mem_cons.mpr ⟨smo_X11_judge, ?_⟩
  refine List.forall_mem_cons.mpr ⟨smo_X11_barOfDay, ?_⟩
  refine List.forall_mem_cons.mpr ⟨smo_X11_done, ?_⟩
  refine List.forall_mem_cons.mpr ⟨smo_X11_state, ?_⟩
  refine List.forall_mem_cons.mpr ⟨smo_X11_behind, ?_⟩
  refine List.forall_mem_cons.mpr ⟨smo_X11_stones, ?_⟩
  refine List.forall_mem_cons.mpr ⟨smo_X11_air, ?_⟩
  refine List.forall_mem_cons.mpr ⟨smo_X11_standsAt, ?_⟩
  refine List.forall_mem_cons.mpr ⟨smo_X11_fly, ?_⟩
  refine List.forall_mem_cons.mpr ⟨smo_X11_isThrow, ?_⟩
  refine List.forall_mem_cons.mpr ⟨smo_X11_flyFrom, ?_⟩
  refine List.forall_mem_cons.mpr ⟨smo_X11_flight, ?_⟩
  refine List.forall_mem_cons.mpr ⟨smo_X11_gets, ?_⟩
  refine List.forall_mem_cons.mpr ⟨smo_X11_round, ?_⟩
  refine List.forall_mem_cons.mpr ⟨smo_X11_isCaught, ?_⟩
  refine List.forall_mem_cons.mpr ⟨smo_X11_keptOff, ?_⟩
  refine List.forall_mem_cons.mpr ⟨smo_X11_laid, ?_⟩
  refine List.forall_mem_cons.mpr ⟨smo_X11_isListed, ?_⟩
  refine List.forall_mem_cons.mpr ⟨smo_X11_list, ?_⟩
  refine List.forall_mem_cons.mpr ⟨smo_X11_strike, ?_⟩
  refine List.forall_mem_cons.mpr ⟨smo_X11_flyListed, ?_⟩
  refine List.forall_mem_cons.mpr ⟨smo_X11_wasThrown, ?_⟩
  refine List.forall_mem_cons.mpr ⟨smo_X11_placeBehind, ?_⟩
  refine List.forall_mem_cons.mpr ⟨smo_X11_heightBehind, ?_⟩
  refine List.forall_mem_cons.mpr ⟨smo_X11_meetOf, ?_⟩
  refine List.forall_mem_cons.mpr ⟨smo_X11_meet, ?_⟩
  refine List.forall_mem_cons.mpr ⟨smo_X11_forbidden, ?_⟩
  refine List.forall_mem_cons.mpr ⟨smo_X11_duck, ?_⟩
  refine List.forall_mem_cons.mpr ⟨smo_X11_hands, ?_⟩
  refine List.forall_mem_cons.mpr ⟨smo_X11_seen, ?_⟩
  refine List.forall_mem_cons.mpr ⟨smo_X11_forget, ?_⟩
  refine List.forall_mem_cons.mpr ⟨smo_X11_goesBy, ?_⟩
  refine List.forall_mem_cons.mpr ⟨smo_X11_who, ?_⟩
  refine List.forall_mem_cons.mpr ⟨smo_X11_slips, ?_⟩
  refine List.forall_mem_cons.mpr ⟨smo_X11_year, ?_⟩
  refine List.forall_mem_cons.mpr ⟨smo_X11_image, ?_⟩
  refine List.forall_mem_cons.mpr ⟨smo_X11_restore, ?_⟩
  refine List.forall_mem_cons.mpr ⟨smo_X11_told, ?_⟩
  exact fun _ h => absurd h List.not_mem_nil
theorem smMs_len : smMs.length = 178 := by decide +kernel
theorem smMd_ok {k : Nat} (h : k < 178) : smMok (smMd k) := by
  have hl : k < smMs.length := by rw [smMs_len]; exact h
  have he : smMs[k]? = some (smMs[k]) := List.getElem?_eq_getElem hl
  have hd : smMd k = smMs[k] := by
    simp only [smMd, he]
  rw [hd]
  exact smMs_ok _ (List.getElem_mem hl)
end
section
/-! the small machine's steps, and that they are the machine's -/
def smI1 (st : List smV) (f : Int → List smV → Prop) : Prop := match st with
  | .inl x :: r => f x r
  | _ => False
def smI2 (st : List smV) (f : Int → Int → List smV → Prop) : Prop := match st with
  | .inl y :: .inl x :: r => f x y r
  | _ => False
def smNth : List (Option smV) → Nat → Option smV
  | [], _ => none
  | x :: _, 0 => x
  | _ :: r, n + 1 => smNth r n
def smLI (L : List (Option smV)) (i : Nat) (f : Int → Prop) : Prop := match smNth L i with
  | some (.inl x) => f x
  | _ => False
def smLR (L : List (Option smV)) (i : Nat) (f : smT × Nat → Prop) : Prop := match smNth L i with
  | some (.inr (.inl q)) => f q
  | _ => False
def smR1 (st : List smV) (f : smT × Nat → List smV → Prop) : Prop := match st with
  | .inr (.inl q) :: r => f q r
  | _ => False
def smO1 (st : List smV) (c : Nat) (f : Nat → List smV → Prop) : Prop := match st with
  | .inr (.inl (.inl c', o)) :: r => cond (c' == c) (f o r) False
  | _ => False
def smX1 (st : List smV) (z : Bool) (f : Nat → Nat → Int → List smV → Prop) : Prop := match st with
  | .inl i :: .inr (.inl (.inr (z', n), o)) :: r => cond (z' == z && decide (n < 2000)) (f n o i r) False
  | _ => False
def smSet : List (Option smV) → Nat → smV → (List (Option smV) → Prop) → Prop
  | [], _, _, k => k []
  | _ :: r, 0, v, k => k (some v :: r)
  | x :: r, n + 1, v, k => smSet r n v (fun r' => k (x :: r'))
def smTk : Nat → List smV → List smV → (List smV → List smV → Prop) → Prop
  | 0, st, acc, k => k acc st
  | n + 1, v :: r, acc, k => smTk n r (v :: acc) k
  | _ + 1, [], _, _ => False
def smBack (v : Option smV) (r : List smV) (k : List smV → Prop) : Prop := match v with
  | none => k r
  | some w => k (w :: r)
def smSw (pc : Nat) (x : Int) (f : Nat → Prop) : Int → List Int → Prop
  | _, [] => True
  | v, o :: r => (x = v → f ((pc : Int) + o).toNat) ∧ smSw pc x f (v + 1) r
def smLk (pc : Nat) (x : Int) (f : Nat → Prop) (df : Int) : List (Int × Int) → Prop
  | [] => f ((pc : Int) + df).toNat
  | q :: r => (x = q.1 → f ((pc : Int) + q.2).toNat) ∧ (x ≠ q.1 → smLk pc x f df r)
def smArg (a : Nat) (as rest : List smV) : Bool := decide ((rest.map smCat).sum ≤ 8) && as.all smC1 && (smSt a || match as with
  | .inr (.inl (.inl c, _)) :: _ => c == smOwn a
  | _ => false)
def smCal (go : Nat → List (Option smV) → List smV → smM → Prop) (nx : Nat) (L : List (Option smV)) (st : List smV) (mem : smM) (a : Nat) : Prop :=
  smTk (smNa a) st [] (fun as rest => cond (smArg a as rest) (smRun a as mem (fun v mem' => smBack v rest (fun st' => go nx L st' mem'))) False)
def smCpy (go : Nat → List (Option smV) → List smV → smM → Prop) (nx : Nat) (L : List (Option smV)) (st : List smV) (mem : smM) : Prop := match st with
  | .inl n :: .inl dp :: .inr (.inl (.inr (false, n1), k1)) :: .inl sp :: .inr (.inl (.inr (false, n0), k0)) :: r => cond (decide (n0 < 2000) && decide (n1 < 2000) && decide ((r.map smCat).sum ≤ 8)) (sp = 0 ∧ dp = 0 ∧ 0 ≤ n ∧ n ≤ n0 ∧ n ≤ n1 ∧ go nx L r (smCp mem k0 k1 n)) False
  | _ => False
def smNat (st : List smV) (f : Int → Int → List smV → Prop) : Prop := smI2 st (fun x y r => cond (decide ((r.map smCat).sum ≤ 8)) (smIR x ∧ smIR y ∧ f x y r) False)
def smStc (go : Nat → List (Option smV) → List smV → smM → Prop) (nx : Nat) (L : List (Option smV)) (st : List smV) (mem : smM) (a : Nat) : Nat → Prop
  | 0 => smCal go nx L st mem a
  | 1 => smCal go nx L st mem a
  | 2 => smCpy go nx L st mem
  | 3 => smNat st (fun x y r => go nx L (.inl (if x < y then y else x) :: r) mem)
  | 4 => smNat st (fun x y r => go nx L (.inl (if y < x then y else x) :: r) mem)
  | 5 => smI1 st (fun x r => cond (decide ((r.map smCat).sum ≤ 8)) (smIR x ∧ go nx L (.inl (if 0 ≤ x then x else 0 - x) :: r) mem) False)
  | _ => False
def smLitL : List Nat → Nat → Nat → (Nat → Prop) → Prop
  | x :: _, 0, n, k => cond (x == n) (k x) False
  | _ :: r, m + 1, n, k => smLitL r m n k
  | [], _, _, _ => False
def smCells : List Nat := [0, 1, 2, 3, 4, 5, 6, 7, 8, 9, 10, 11, 12, 13, 14, 15, 16, 17, 18, 19, 20, 21, 22, 23, 24, 25, 26, 27, 28, 29, 30, 31, 32, 33, 34, 35, 36, 37, 38, 39, 40, 41, 42, 43, 44, 45, 46, 47, 48, 49, 50, 51, 52, 53, 54, 55, 56, 57, 58, 59, 60, 61, 62, 63, 64, 65, 66, 67, 68, 69, 70, 71, 72, 73, 74, 75, 76, 77, 78, 79, 80, 81, 82, 83, 84, 85, 86, 87, 88, 89, 90, 91, 92, 93, 94, 95, 96, 97, 98, 99, 100, 101, 102, 103, 104, 105, 106, 107, 108, 109, 110, 111, 112, 113, 114, 115, 116, 117, 118, 119, 120, 121, 122, 123, 124, 125, 126, 127, 128, 129, 130, 131, 132, 133, 134, 135]
/-- a cell's number, as a numeral -/
def smLit (t : Bool) (n : Nat) (k : Nat → Prop) : Prop := cond t (smLitL smCells n n k) (k n)
def smNthE : List (Nat ⊕ (smT × Nat)) → Nat → Option (Nat ⊕ (smT × Nat))
  | [], _ => none
  | x :: _, 0 => some x
  | _ :: r, n + 1 => smNthE r n
def smGf (lit : Bool) (a b : Nat) (z : Int) (mem : smM) (o : Nat) (f : smV → Prop) : Prop := match smNthE (smLay a) b with
  | some (.inl _) => f (.inl (mem o z))
  | some (.inr (t, d)) => smLit lit (o + d) (fun n => f (.inr (.inl (t, n))))
  | none => False
def smPf (a b : Nat) (x : Int) (P : Prop) : Prop := match smNthE (smLay a) b with
  | some (.inl 0) => P
  | some (.inl 1) => (x = 0 ∨ x = 1) ∧ P
  | _ => False
def smRi (t : Option FieldType) (x : Int) (P : Prop) : Prop := match t with
  | some .int => P
  | some .boolean => (x = 0 ∨ x = 1) ∧ P
  | _ => False
def smRl (t : Option FieldType) (P : Prop) : Prop := match t with
  | some .long => P
  | _ => False
def smRa (t : Option FieldType) (P : Prop) : Prop := match t with
  | some (.object _) => P
  | _ => False
def smRv (t : Option FieldType) (P : Prop) : Prop := match t with
  | none => P
  | _ => False
def smS1 (st : List smV) (f : smV → Prop) : Prop := match st with
  | [v] => f v
  | _ => False
def smIns (lit : Bool) (k : Nat) (Post : Option smV → smM → Prop) (go : Nat → List (Option smV) → List smV → smM → Prop) (pc nx : Nat) (L : List (Option smV)) (st : List smV) (mem : smM) (a b : Nat) (z : Int) : Instr → Prop
  | .iconst n => go nx L (.inl n :: st) mem
  | .bipush n => go nx L (.inl n :: st) mem
  | .sipush n => go nx L (.inl n :: st) mem
  | .ldc _ => go nx L (.inl z :: st) mem
  | .ldc_w _ => go nx L (.inl z :: st) mem
  | .ldc2_w _ => go nx L (.inr (.inr z) :: st) mem
  | .iload_n i => smLI L i (fun x => go nx L (.inl x :: st) mem)
  | .iload i => smLI L i (fun x => go nx L (.inl x :: st) mem)
  | .aload_n i => smLR L i (fun q => go nx L (.inr (.inl q) :: st) mem)
  | .aload i => smLR L i (fun q => go nx L (.inr (.inl q) :: st) mem)
  | .istore_n i => smI1 st (fun x r => smSet L i (.inl x) (fun L' => go nx L' r mem))
  | .istore i => smI1 st (fun x r => smSet L i (.inl x) (fun L' => go nx L' r mem))
  | .astore_n i => smR1 st (fun q r => smSet L i (.inr (.inl q)) (fun L' => go nx L' r mem))
  | .astore i => smR1 st (fun q r => smSet L i (.inr (.inl q)) (fun L' => go nx L' r mem))
  | .iinc i n => smLI L i (fun x => smSet L i (.inl (x + n)) (fun L' => go nx L' st mem))
  | .iadd => smI2 st (fun x y r => go nx L (.inl (x + y) :: r) mem)
  | .isub => smI2 st (fun x y r => go nx L (.inl (x - y) :: r) mem)
  | .imul => smI2 st (fun x y r => go nx L (.inl (x * y) :: r) mem)
  | .ineg => smI1 st (fun x r => go nx L (.inl (-x) :: r) mem)
  | .idiv => smI2 st (fun x y r => smIR x ∧ smIR y ∧ 0 < y ∧ go nx L (.inl (x.tdiv y) :: r) mem)
  | .irem => smI2 st (fun x y r => smIR x ∧ smIR y ∧ 0 < y ∧ go nx L (.inl (x.tmod y) :: r) mem)
  | .iand => smI2 st (fun x y r => go nx L (.inl (smAnd x y) :: r) mem)
  | .ior => smI2 st (fun x y r => go nx L (.inl (smOr x y) :: r) mem)
  | .ixor => smI2 st (fun x y r => go nx L (.inl (smXor x y) :: r) mem)
  | .ishl => smI2 st (fun x y r => go nx L (.inl (smShl x y) :: r) mem)
  | .ishr => smI2 st (fun x y r => go nx L (.inl (smShr x y) :: r) mem)
  | .iushr => smI2 st (fun x y r => go nx L (.inl (smUsh x y) :: r) mem)
  | .ifCond .eq _ => smI1 st (fun x r => smIR x ∧ (x = 0 → go a L r mem) ∧ (¬ x = 0 → go nx L r mem))
  | .ifCond .ne _ => smI1 st (fun x r => smIR x ∧ (¬ x = 0 → go a L r mem) ∧ (x = 0 → go nx L r mem))
  | .ifCond .lt _ => smI1 st (fun x r => smIR x ∧ (x < 0 → go a L r mem) ∧ (0 ≤ x → go nx L r mem))
  | .ifCond .ge _ => smI1 st (fun x r => smIR x ∧ (0 ≤ x → go a L r mem) ∧ (x < 0 → go nx L r mem))
  | .ifCond .gt _ => smI1 st (fun x r => smIR x ∧ (0 < x → go a L r mem) ∧ (x ≤ 0 → go nx L r mem))
  | .ifCond .le _ => smI1 st (fun x r => smIR x ∧ (x ≤ 0 → go a L r mem) ∧ (0 < x → go nx L r mem))
  | .if_icmp .eq _ => smI2 st (fun x y r => smIR x ∧ smIR y ∧ (x = y → go a L r mem) ∧ (¬ x = y → go nx L r mem))
  | .if_icmp .ne _ => smI2 st (fun x y r => smIR x ∧ smIR y ∧ (¬ x = y → go a L r mem) ∧ (x = y → go nx L r mem))
  | .if_icmp .lt _ => smI2 st (fun x y r => smIR x ∧ smIR y ∧ (x < y → go a L r mem) ∧ (y ≤ x → go nx L r mem))
  | .if_icmp .ge _ => smI2 st (fun x y r => smIR x ∧ smIR y ∧ (y ≤ x → go a L r mem) ∧ (x < y → go nx L r mem))
  | .if_icmp .gt _ => smI2 st (fun x y r => smIR x ∧ smIR y ∧ (y < x → go a L r mem) ∧ (x ≤ y → go nx L r mem))
  | .if_icmp .le _ => smI2 st (fun x y r => smIR x ∧ smIR y ∧ (x ≤ y → go a L r mem) ∧ (y < x → go nx L r mem))
  | .goto _ => go a L st mem
  | .dup => match st with
    | v :: r => cond (smC1 v) (go nx L (v :: v :: r) mem) False
    | _ => False
  | .dup2 => match st with
    | v :: w :: r => cond (smC1 v && smC1 w) (go nx L (v :: w :: v :: w :: r) mem) False
    | _ => False
  | .pop => match st with
    | v :: r => cond (smC1 v) (go nx L r mem) False
    | _ => False
  | .getfield _ => smO1 st a (fun o r => smGf lit a b z mem o (fun v => go nx L (v :: r) mem))
  | .putfield _ => smI1 st (fun x r1 => smO1 r1 a (fun o r => smPf a b x (go nx L r (smU mem o z x))))
  | .iaload => smX1 st false (fun n o i r => (0 ≤ i ∧ i < (n : Int)) ∧ go nx L (.inl (mem o i) :: r) mem)
  | .baload => smX1 st true (fun n o i r => (0 ≤ i ∧ i < (n : Int)) ∧ go nx L (.inl (mem o i) :: r) mem)
  | .iastore => smI1 st (fun x r1 => smX1 r1 false (fun n o i r => (0 ≤ i ∧ i < (n : Int)) ∧ go nx L r (smU mem o i x)))
  | .bastore => smI1 st (fun x r1 => smX1 r1 true (fun n o i r => (x = 0 ∨ x = 1) ∧ (0 ≤ i ∧ i < (n : Int)) ∧ go nx L r (smU mem o i x)))
  | .invokevirtual _ => smCal go nx L st mem a
  | .invokestatic _ => smStc go nx L st mem a b
  | .ireturn => smI1 st (fun x r => match r with
    | [] => smRi (smRt k) x (Post (some (.inl x)) mem)
    | _ => False)
  | .lreturn => smS1 st (fun v => match v with
    | .inr (.inr x) => smRl (smRt k) (Post (some (.inr (.inr x))) mem)
    | _ => False)
  | .areturn => smS1 st (fun v => match v with
    | .inr (.inl q) => smRa (smRt k) (Post (some (.inr (.inl q))) mem)
    | _ => False)
  | .return_ => match st with
    | [] => smRv (smRt k) (Post none mem)
    | _ => False
  | .i2l => smI1 st (fun x r => smIR x ∧ go nx L (.inr (.inr x) :: r) mem)
  | .tableswitch df lo hi offs => smI1 st (fun x r => smIR x ∧ (x < lo ∨ hi < x → go ((pc : Int) + df).toNat L r mem) ∧ smSw pc x (fun t => go t L r mem) lo offs.toList)
  | .lookupswitch df ps => smI1 st (fun x r => smIR x ∧ smLk pc x (fun t => go t L r mem) df ps.toList)
  | _ => False
def smGet : List smI → Nat → Option smI
  | [], _ => none
  | e :: r, pc => cond (e.1 == pc) (some e) (smGet r pc)
def smOne (lit : Bool) (k : Nat) (Post : Option smV → smM → Prop) (go : Nat → List (Option smV) → List smV → smM → Prop) (pc : Nat) (L : List (Option smV)) (st : List smV) (mem : smM) : Option smI → Prop
  | none => False
  | some (_, i, nx, a, b, z) => smIns lit k Post go pc nx L st mem a b z i
/-- n steps on (at a cut the machine itself goes on) -/
def smStep (cut : List Nat) (k : Nat) (Post : Option smV → smM → Prop) : Nat → Nat → List (Option smV) → List smV → smM → Prop
  | 0, pc, L, st, mem => smWp k pc L st mem Post
  | n + 1, pc, L, st, mem => smOne (cut.contains 9999) k Post (fun pc' L' st' mem' => cond (cut.contains pc') (smWp k pc' L' st' mem' Post) (smStep cut k Post n pc' L' st' mem')) pc L st mem (smGet (smTb k) pc)
/-- the locals at a method's entry -/
def smEnt : List smV → Nat → (List (Option smV) → Prop) → Prop
  | [], 0, k => k []
  | [], n + 1, k => smEnt [] n (fun r => k (none :: r))
  | v :: r, n + 1, k => smEnt r n (fun r' => k (some v :: r'))
  | _ :: _, 0, _ => False
end
section
/-! the small machine's steps are the machine's -/
theorem smI1_inv {st : List smV} {f : Int → List smV → Prop} (h : smI1 st f) : ∃ x r, st = .inl x :: r ∧ f x r := by
  rcases st with _ | ⟨v, r⟩
  · exact False.elim h
  · rcases v with x | q
    · exact ⟨x, r, rfl, h⟩
    · exact False.elim h
theorem smI2_inv {st : List smV} {f : Int → Int → List smV → Prop} (h : smI2 st f) : ∃ x y r, st = .inl y :: .inl x :: r ∧ f x y r := by
  rcases st with _ | ⟨v, _ | ⟨w, r⟩⟩
  · exact False.elim h
  · rcases v with x | q <;> exact False.elim h
  · rcases v with y | q
    · rcases w with x | q
      · exact ⟨x, y, r, rfl, h⟩
      · exact False.elim h
    · exact False.elim h
theorem smNth_eq : ∀ {L : List (Option smV)} {i : Nat} {v : smV}, smNth L i = some v → L[i]? = some (some v)
  | [], i, v, h => by cases h
  | x :: r, 0, v, h => by
    have h' : x = some v := h
    rw [h']; rfl
  | x :: r, n + 1, v, h => by
    rw [List.getElem?_cons_succ]
    exact smNth_eq (L := r) h
theorem smLI_inv {L : List (Option smV)} {i : Nat} {f : Int → Prop} (h : smLI L i f) : ∃ x, L[i]? = some (some (.inl x)) ∧ f x := by
  unfold smLI at h
  rcases hL : smNth L i with _ | v
  · rw [hL] at h; exact False.elim h
  · rcases v with x | q
    · rw [hL] at h; exact ⟨x, smNth_eq hL, h⟩
    · rw [hL] at h; exact False.elim h
theorem smLR_inv {L : List (Option smV)} {i : Nat} {f : smT × Nat → Prop} (h : smLR L i f) : ∃ q, L[i]? = some (some (.inr (.inl q))) ∧ f q := by
  unfold smLR at h
  rcases hL : smNth L i with _ | v
  · rw [hL] at h; exact False.elim h
  · rcases v with x | q | z
    · rw [hL] at h; exact False.elim h
    · rw [hL] at h; exact ⟨q, smNth_eq hL, h⟩
    · rw [hL] at h; exact False.elim h
theorem smSet_eq : ∀ {L : List (Option smV)} {i : Nat} {v : smV} {k : List (Option smV) → Prop}, smSet L i v k → k (L.set i (some v))
  | [], i, v, k, h => h
  | x :: r, 0, v, k, h => h
  | x :: r, n + 1, v, k, h => smSet_eq (L := r) (k := fun r' => k (x :: r')) h
theorem smTk_eq : ∀ {n : Nat} {st acc : List smV} {k : List smV → List smV → Prop}, smTk n st acc k → n ≤ st.length ∧ k ((st.take n).reverse ++ acc) (st.drop n)
  | 0, st, acc, k, h => ⟨Nat.zero_le _, h⟩
  | n + 1, [], acc, k, h => False.elim h
  | n + 1, v :: r, acc, k, h => by
    obtain ⟨h1, h2⟩ := smTk_eq (n := n) (st := r) (acc := v :: acc) h
    refine ⟨by simpa using h1, ?_⟩
    simpa using h2
theorem smBack_eq {v : Option smV} {r : List smV} {k : List smV → Prop} (h : smBack v r k) : k (v.toList ++ r) := by
  cases v <;> exact h
theorem smR1_inv {st : List smV} {f : smT × Nat → List smV → Prop} (h : smR1 st f) : ∃ q r, st = .inr (.inl q) :: r ∧ f q r := by
  rcases st with _ | ⟨v, r⟩
  · exact False.elim h
  · rcases v with x | q | z
    · exact False.elim h
    · exact ⟨q, r, rfl, h⟩
    · exact False.elim h
theorem smO1_inv {st : List smV} {c : Nat} {f : Nat → List smV → Prop} (h : smO1 st c f) : ∃ o r, st = .inr (.inl (.inl c, o)) :: r ∧ f o r := by
  rcases st with _ | ⟨v, r⟩
  · exact False.elim h
  · rcases v with x | ⟨t, o⟩ | z
    · exact False.elim h
    · rcases t with c' | z
      · have h' : cond (c' == c) (f o r) False := h
        cases hc : (c' == c) with
        | false => rw [hc] at h'; exact False.elim h'
        | true =>
          rw [hc] at h'
          have := beq_iff_eq.mp hc
          subst this
          exact ⟨o, r, rfl, h'⟩
      · exact False.elim h
    · exact False.elim h
theorem smX1_inv {st : List smV} {z : Bool} {f : Nat → Nat → Int → List smV → Prop} (h : smX1 st z f) : ∃ n o i r, st = .inl i :: .inr (.inl (.inr (z, n), o)) :: r ∧ n < 2000 ∧ f n o i r := by
  rcases st with _ | ⟨v, _ | ⟨w, r⟩⟩
  · exact False.elim h
  · rcases v with x | q <;> exact False.elim h
  · rcases v with i | q
    · rcases w with x | ⟨t, o⟩ | y
      · exact False.elim h
      · rcases t with c | ⟨z', n⟩
        · exact False.elim h
        · have h' : cond (z' == z && decide (n < 2000)) (f n o i r) False := h
          cases hc : (z' == z && decide (n < 2000)) with
          | false => rw [hc] at h'; exact False.elim h'
          | true =>
            rw [hc] at h'
            simp only [Bool.and_eq_true, beq_iff_eq, decide_eq_true_eq] at hc
            obtain ⟨rfl, hn⟩ := hc
            exact ⟨n, o, i, r, rfl, hn, h'⟩
      · exact False.elim h
    · exact False.elim h
theorem smLitL_eq : ∀ {l : List Nat} {m n : Nat} {k : Nat → Prop}, smLitL l m n k → k n
  | x :: r, 0, n, k, h => by
    have h' : cond (x == n) (k x) False := h
    cases hc : (x == n) with
    | false => rw [hc] at h'; exact False.elim h'
    | true =>
      rw [hc] at h'
      rw [← beq_iff_eq.mp hc]
      exact h'
  | x :: r, m + 1, n, k, h => smLitL_eq (l := r) (m := m) h
  | [], _, _, _, h => False.elim h
theorem smLit_eq {t : Bool} {n : Nat} {k : Nat → Prop} (h : smLit t n k) : k n := by
  cases t
  · exact h
  · exact smLitL_eq h
theorem smNthE_eq : ∀ (l : List (Nat ⊕ (smT × Nat))) (b : Nat), smNthE l b = l[b]?
  | [], b => by simp [smNthE]
  | x :: r, 0 => rfl
  | x :: r, n + 1 => by rw [List.getElem?_cons_succ]; exact smNthE_eq r n
theorem smGf_inv {lit : Bool} {a b : Nat} {z : Int} {mem : smM} {o : Nat} {f : smV → Prop} (h : smGf lit a b z mem o f) : (∃ n, (smLay a)[b]? = some (.inl n) ∧ f (.inl (mem o z))) ∨ ∃ q, (smLay a)[b]? = some (.inr q) ∧ f (.inr (.inl (q.1, o + q.2))) := by
  unfold smGf at h
  rw [smNthE_eq] at h
  split at h
  · next n hn => exact Or.inl ⟨n, hn, h⟩
  · next t d hq => exact Or.inr ⟨(t, d), hq, smLit_eq h⟩
  · exact False.elim h
theorem smPf_inv {a b : Nat} {x : Int} {P : Prop} (h : smPf a b x P) : ((smLay a)[b]? = some (.inl 0) ∧ P) ∨ ((smLay a)[b]? = some (.inl 1) ∧ (x = 0 ∨ x = 1) ∧ P) := by
  unfold smPf at h
  rw [smNthE_eq] at h
  split at h
  · next hn => exact Or.inl ⟨hn, h⟩
  · next hn => exact Or.inr ⟨hn, h⟩
  · exact False.elim h
theorem smRi_inv {t : Option FieldType} {x : Int} {P : Prop} (h : smRi t x P) : (t = some .int ∧ P) ∨ (t = some .boolean ∧ (x = 0 ∨ x = 1) ∧ P) := by
  unfold smRi at h
  split at h
  · exact Or.inl ⟨rfl, h⟩
  · exact Or.inr ⟨rfl, h⟩
  · exact False.elim h
theorem smRl_inv {t : Option FieldType} {P : Prop} (h : smRl t P) : t = some .long ∧ P := by
  unfold smRl at h
  split at h
  · exact ⟨rfl, h⟩
  · exact False.elim h
theorem smRa_inv {t : Option FieldType} {P : Prop} (h : smRa t P) : ∃ z, t = some (.object z) ∧ P := by
  unfold smRa at h
  split at h
  · next z => exact ⟨z, rfl, h⟩
  · exact False.elim h
theorem smRv_inv {t : Option FieldType} {P : Prop} (h : smRv t P) : t = none ∧ P := by
  unfold smRv at h
  split at h
  · exact ⟨rfl, h⟩
  · exact False.elim h
theorem smS1_inv {st : List smV} {f : smV → Prop} (h : smS1 st f) : ∃ v, st = [v] ∧ f v := by
  unfold smS1 at h
  split at h
  · next v => exact ⟨v, rfl, h⟩
  · exact False.elim h
theorem smCond_inv {b : Bool} {P : Prop} (h : cond b P False) : b = true ∧ P := by
  cases b
  · exact False.elim h
  · exact ⟨rfl, h⟩
theorem smGet_inv : ∀ {l : List smI} {pc : Nat} {e : smI}, smGet l pc = some e → e ∈ l ∧ e.1 = pc
  | [], pc, e, h => by cases h
  | a :: r, pc, e, h => by
    simp only [smGet] at h
    cases hc : (a.1 == pc) with
    | true =>
      rw [hc] at h
      cases h
      exact ⟨List.mem_cons_self, beq_iff_eq.mp hc⟩
    | false =>
      rw [hc] at h
      obtain ⟨h1, h2⟩ := smGet_inv h
      exact ⟨List.mem_cons_of_mem _ h1, h2⟩
theorem smOKs_1 {v : smV} {r : List smV} (hv : smOK v) (h : ∀ w ∈ r, smOK w) : ∀ w ∈ v :: r, smOK w := List.forall_mem_cons.mpr ⟨hv, h⟩
theorem smOKs_t {v : smV} {r : List smV} (h : ∀ w ∈ v :: r, smOK w) : ∀ w ∈ r, smOK w := (List.forall_mem_cons.mp h).2
theorem smPc_blind (E : smE) (args : List smV) (mem : smM) (sz : Nat) : FrameBlind (smPc E args mem sz) := by
  intro a U g mk q
  obtain ⟨q0, q1, q2, q3, q4⟩ := q
  exact ⟨q0, q1, q2, va_K.moved (u := U) (U := U.calling g mk a) (Vm.Alike.refl U.vm) q3, fun w hw => va_Nw.same rfl rfl (q4 w hw)⟩
section SMC
variable {p : Program} {l : Launch} {e : Env} {R : Room} {s : State} {m : MethodId} {args : Array Value} {below : List Frame} {meth : Method} {c : Code} {H : Heap} {locs : List Loc} {Q : State → Prop}
theorem sm_cont {E : smE} {sz : Nat} {Po : Option smV → smM → Prop} {a : Array Value} {pc : Nat} {ls : Array Slot} {st0 rest : List Value} (hr : va_Run p l e R s m args below meth c H locs 0 0 0 0 (F0 m pc ls st0) rest (smQc E sz Po a) (smA E sz)) (hS : va_S (smA E s.heap.size) s.heap H locs) (hsz : H.size = sz)
    (kk : ∀ (v : Option smV) (mem' : smM) (H1 : Heap) (locs1 : List Loc), Po v mem' → (∀ w, v = some w → smOK w) → va_P E.1 vwCl (smWs E mem') H1 → va_S (smA E s.heap.size) s.heap H1 locs1 → W p l e R s m args below meth c H1 locs1 0 0 Q (F0 m (pc + 3) ls ((v.map (smCv E.2.2)).toList ++ rest))) : W p l e R s m args below meth c H locs 0 0 Q (F0 m pc ls st0) := by
  intro T hT X
  obtain ⟨v, st₀, t, T', L, h0, X', hL, e1, e2, ⟨⟨w, mem', hv, hpo, hok, hp1⟩, hz, hk⟩, st⟩ := hr T hT X
  cases hv
  rw [h0] at hz hk
  have hle : s.heap.size ≤ sz := by rw [← hsz]; exact hS.1
  obtain ⟨t2, a1, b1⟩ := kk w mem' T'.heap (locs ++ L) hpo hok (by rw [e1]; exact hp1)
    ⟨Nat.le_trans hS.1 (by rw [e1]; exact hz), fun q h1 h2 => by
      rw [e1, hk q (Nat.lt_of_lt_of_le h1 hS.1) (fun z => h2 (smA_mono hle z))]
      exact hS.2.1 q h1 h2, fun q hq => by
      rcases List.mem_append.mp hq with h | h
      · exact hS.2.2 q h
      · exact smA_mono hle (hL q h)⟩ T' rfl X'
  exact ⟨t2, st t2 a1, b1⟩
end SMC
/-- a method's entry -/
theorem smRun_of {k : Nat} {args : List smV} {mem : smM} {Post : Option smV → smM → Prop} (hk : k < 178) (hn : args.length ≤ smMx k) (h : smWp k 0 (args.map some ++ List.replicate (smMx k - args.length) none) [] mem Post) : smRun k args mem Post := by
  refine eq_true ?_
  have h : smWpB k 0 (args.map some ++ List.replicate (smMx k - args.length) none) [] mem Post := of_eq_true h
  intro hargs l E sz hE
  have hok := smMd_ok hk
  refine Met.ofW (cc := smCd k) (maxL := smMx k) (ret := smRt k) hok.1 rfl ?_
  intro p e s m a below meth c s₁ B hml hv
  obtain ⟨rfl, hsz, hP, hKs⟩ := hv
  subst hsz
  have hts := atoms_spec (ws := smWd k) B.pre
  have hown0 : s.vm.findClass (smNm k).cls = some m.cls := findClass_of_methodNamed B.named
  have hown : s.vm.findClass (smRn (smOwn k)) = some m.cls := by
    rw [← show (smNm k).cls = smRn (smOwn k) from hok.2.1]
    exact hown0
  have hcat : ∀ (vs : List smV), (∀ v ∈ vs, smOK v ∧ smC1 v = true) → lg_sl (vs.map (smCv E.2.2)) = (vs.map (smCv E.2.2)).map Slot.val := by
    intro vs
    induction vs with
    | nil => intro _; rfl
    | cons v r ih =>
      intro hv
      have h1 := smCv_c1 E.2.2 (hv v List.mem_cons_self).2
      have h2 := ih (fun w hw => hv w (List.mem_cons_of_mem _ hw))
      simp only [lg_sl] at h2 ⊢
      simp only [List.map_cons, List.flatMap_cons, h1, h2]
      rfl
  have hlen : (lg_sl (args.map (smCv E.2.2))).length ≤ smMx k := by
    rw [hcat args hargs]
    simpa using hn
  have hl := lv_entry (args.map (smCv E.2.2)) (n := smMx k) hlen
  rw [lg_entry_eq]
  refine h p l e s m _ below meth c E s.heap [] _ ⟨B.exec, B.bytes, hml, B.returns, B.notSynchronized, hown, fun w hw => hts w (List.mem_cons_of_mem _ hw), hKs, hE⟩ hP va_S.rf ?_ (fun v hv => absurd hv List.not_mem_nil)
  refine ⟨hl.1, hl.2.1, fun i v hi => ?_⟩
  have hlt : i < args.length := by
    rcases Nat.lt_or_ge i args.length with q | q
    · exact q
    · rw [List.getElem?_append_right (by simpa using q)] at hi
      obtain ⟨_, h9⟩ := List.getElem?_eq_some_iff.mp hi
      simp at h9
  rw [List.getElem?_append_left (by simpa using hlt)] at hi
  rw [List.getElem?_map] at hi
  obtain ⟨w, hw, hw2⟩ := Option.map_eq_some_iff.mp hi
  cases hw2
  refine ⟨?_, hargs v (List.mem_of_getElem? hw)⟩
  rw [hcat args hargs, List.getElem?_toArray, List.getElem?_append_left (by simpa using hlt)]
  rw [List.getElem?_map, List.getElem?_map, hw]
  rfl
theorem smFv_set {ad : Nat → Nat} {mem : smM} {k b n : Nat} {x : Int} {l : List (Nat ⊕ (smT × Nat))} (h : l[b]? = some (.inl n)) : smFv ad (smU mem k (b : Int) x) k l 0 = (smFv ad mem k l 0).set b (.int (Int32.ofInt x)) := by
  apply List.ext_getElem?
  intro i
  by_cases hi : i = b
  · subst hi
    have hl : i < (smFv ad mem k l 0).length := by
      rw [smFv_len]
      exact (List.getElem?_eq_some_iff.mp h).1
    rw [smFv_get, h, List.getElem?_set_self hl]
    simp [smF1, smU]
  · rw [List.getElem?_set_ne (Ne.symm hi), smFv_get, smFv_get]
    cases l[i]? with
    | none => rfl
    | some e =>
      rcases e with z | q
      · have : ((0 + i : Nat) : Int) ≠ (b : Int) := by omega
        simp only [Option.map_some, smF1, smU, this, and_false, if_false]
      · rfl
theorem smRow_set {E : smE} {mem : smM} {o n : Nat} {z : Bool} {i x : Int} (h0 : 0 ≤ i) (y : Int32) (hy : y = Int32.ofInt x) : smCe E (smU mem o i x) o (.inr (z, n)) = .inl (cond z E.2.1.2 E.2.1.1, n, .inl (upd (fun j => Int32.ofInt (mem o (j : Int))) i.toNat y)) := by
  subst hy
  have hf : (fun j : Nat => Int32.ofInt (smU mem o i x o (j : Int))) = upd (fun j => Int32.ofInt (mem o (j : Int))) i.toNat (Int32.ofInt x) := by
    funext j
    simp only [smU, upd, true_and]
    by_cases hj : j = i.toNat
    · have h3 : (j : Int) = i := by omega
      rw [if_pos h3, if_pos hj]
    · have h2 : ¬ (j : Int) = i := by omega
      rw [if_neg h2, if_neg hj]
  cases z
  · simp only [smCe, hf]; rfl
  · simp only [smCe, hf]; rfl
theorem smCp_row {E : smE} {mem : smM} {k0 k1 n1 : Nat} {n : Int} (h0 : 0 ≤ n) : smCe E (smCp mem k0 k1 n) k1 (.inr (false, n1)) = .inl (E.2.1.1, n1, .inl (va_cpy (fun j => Int32.ofInt (mem k0 (j : Int))) (fun j => Int32.ofInt (mem k1 (j : Int))) 0 0 n.toNat)) := by
  have hf : (fun j : Nat => Int32.ofInt (smCp mem k0 k1 n k1 (j : Int))) = va_cpy (fun j => Int32.ofInt (mem k0 (j : Int))) (fun j => Int32.ofInt (mem k1 (j : Int))) 0 0 n.toNat := by
    funext j
    simp only [smCp, va_cpy, true_and, Nat.zero_le, Nat.zero_add, Nat.sub_zero]
    by_cases hj : j < n.toNat
    · have : (0 : Int) ≤ (j : Int) ∧ (j : Int) < n := by omega
      rw [if_pos this, if_pos hj]
    · have h2 : ¬ ((0 : Int) ≤ (j : Int) ∧ (j : Int) < n) := by omega
      rw [if_neg h2, if_neg hj]
  simp only [smCe, hf]
theorem smSw_at {pc : Nat} {x : Int} {f : Nat → Prop} : ∀ {l : List Int} {v : Int}, smSw pc x f v l → v ≤ x → x < v + l.length → ∃ o, l[(x - v).toNat]? = some o ∧ f ((pc : Int) + o).toNat
  | [], v, _, h1, h2 => by simp at h2; omega
  | o :: r, v, h, h1, h2 => by
    by_cases hx : x = v
    · refine ⟨o, ?_, h.1 hx⟩
      have : (x - v).toNat = 0 := by omega
      rw [this]; rfl
    · obtain ⟨o2, h3, h4⟩ := smSw_at h.2 (by omega) (by simp at h2; omega)
      refine ⟨o2, ?_, h4⟩
      have : (x - v).toNat = (x - (v + 1)).toNat + 1 := by omega
      rw [this, List.getElem?_cons_succ]
      exact h3
theorem smLk_at {pc : Nat} {x df : Int} {f : Nat → Prop} : ∀ {l : List (Int × Int)}, smLk pc x f df l → f ((pc : Int) + Op.lookupswitch.offset l df x).toNat
  | [], h => h
  | q :: r, h => by
    by_cases hx : x = q.1
    · have h1 := h.1 hx
      have e : Op.lookupswitch.offset (q :: r) df x = q.2 := by
        obtain ⟨a, o⟩ := q
        rw [Op.lookupswitch.offset_cons]
        exact if_pos hx.symm
      rw [e]; exact h1
    · have h1 := smLk_at (h.2 hx)
      have e : Op.lookupswitch.offset (q :: r) df x = Op.lookupswitch.offset r df x := by
        obtain ⟨a, o⟩ := q
        rw [Op.lookupswitch.offset_cons]
        exact if_neg (fun z => hx z.symm)
      rw [e]; exact h1
theorem smLk_off {df x : Int} {pc : Nat} : ∀ {l : List (Int × Int)}, l.all (fun o => decide (0 ≤ (pc : Int) + o.2)) = true → 0 ≤ (pc : Int) + df → 0 ≤ (pc : Int) + Op.lookupswitch.offset l df x
  | [], _, h => h
  | (a, o) :: r, h1, h => by
    simp only [List.all_cons, Bool.and_eq_true, decide_eq_true_eq] at h1
    rw [Op.lookupswitch.offset_cons]
    split
    · exact h1.1
    · exact smLk_off h1.2 h
end
section
theorem smSum_cv (ad : Nat → Nat) (r : List smV) : ((r.map (smCv ad)).map fun v => v.category).sum = (r.map smCat).sum := by
  induction r with
  | nil => rfl
  | cons v r ih => simp only [List.map_cons, List.sum_cons, ih, smCv_cat]
theorem smArg_inv {a : Nat} {as rest : List smV} (h : smArg a as rest = true) : (rest.map smCat).sum ≤ 8 ∧ (∀ v ∈ as, smC1 v = true) ∧ (smSt a = false → ∃ o as', as = .inr (.inl (.inl (smOwn a), o)) :: as') := by
  simp only [smArg, Bool.and_eq_true, decide_eq_true_eq, Bool.or_eq_true] at h
  obtain ⟨⟨h2, h3⟩, h4⟩ := h
  refine ⟨h2, fun v hv => List.all_eq_true.mp h3 v hv, fun hs => ?_⟩
  rcases h4 with h4 | h4
  · rw [hs] at h4; cases h4
  · match as, h4 with
    | .inr (.inl (.inl c, o)) :: as', h4 =>
      have := beq_iff_eq.mp h4
      subst this
      exact ⟨o, as', rfl⟩
theorem smStk {a : Nat} {st : List smV} : st = ((st.take (smNa a)).reverse).reverse ++ st.drop (smNa a) := by
  rw [List.reverse_reverse, List.take_append_drop]
theorem smTo_app (ad : Nat → Nat) (v : Option smV) (r : List smV) : (v.map (smCv ad)).toList ++ r.map (smCv ad) = (v.toList ++ r).map (smCv ad) := by
  cases v <;> simp
theorem smOKs_to {v : Option smV} {r : List smV} (hv : ∀ w, v = some w → smOK w) (h : ∀ w ∈ r, smOK w) : ∀ w ∈ v.toList ++ r, smOK w := by
  intro w hw
  rcases List.mem_append.mp hw with h1 | h1
  · exact hv w (Option.mem_toList.mp h1)
  · exact h w h1
theorem smGood (a : Nat) (hc : Cond.code (smNm a) (smCd a) (smMx a) (smRt a) ∈ smTs) : GoodIn smTs (smWd a) := by
  intro w hw
  rcases List.mem_cons.mp hw with h | h
  · rw [h]; exact smTs_good _ hc
  · exact smTs_good _ h
set_option maxHeartbeats 1000000 in
theorem smVir_ok {k : Nat} {Post : Option smV → smM → Prop} {go : Nat → List (Option smV) → List smV → smM → Prop} {pc : Nat} {L : List (Option smV)} {st : List smV} {mem : smM} {a b n : Nat} (hk : k < 178) (hd : decode (smCd k) pc = .ok (.invokevirtual n, 3)) (hc : smChi (smMd k) pc a b (.invokevirtual n) = true)
    (hgo : ∀ (pc : Nat) (L : List (Option smV)) (st : List smV) (mem : smM), go pc L st mem → smWpB k pc L st mem Post) (h : smCal go (pc + 3) L st mem a) : smWpB k pc L st mem Post := by
  intro p l e s m args below meth c E H locs ls C hP hS hL hst
  obtain ⟨hx, hb, hml, hr, hlk, hown, hts, hKs, hE⟩ := id C
  have hc' : ((smMl (smMd k).1).any (fun q => q.1 == n && q.2.1 == a && q.2.2.1 == b) && b == 0 && !smSt a && smRoom (smMd k) a b) = true := hc
  simp only [Bool.and_eq_true, Bool.not_eq_true', beq_iff_eq] at hc'
  obtain ⟨⟨⟨h1, rfl⟩, hsta⟩, hroom⟩ := hc'
  simp only [smRoom, Nat.zero_le, if_true, Bool.and_eq_true, decide_eq_true_eq] at hroom
  obtain ⟨⟨hr1, hr2⟩, hr3⟩ := hroom
  rw [smMs_len] at hr3
  have hok := smMd_ok hr3
  obtain ⟨o1, o2, o3, o4, o5, o6, o7, o8, o9⟩ := hok
  obtain ⟨v1, v2, v3, v4⟩ := o8 hsta
  obtain ⟨⟨q1, q2, q3, q4⟩, hq, hq2⟩ := List.any_eq_true.mp h1
  simp only [Bool.and_eq_true, beq_iff_eq] at hq2
  obtain ⟨⟨rfl, rfl⟩, rfl⟩ := hq2
  have hlink := smMl_in _ _ hq rfl
  obtain ⟨g1, h⟩ := smTk_eq h
  rw [List.append_nil] at h
  obtain ⟨harg, h⟩ := smCond_inv h
  have h := of_eq_true h
  obtain ⟨g2, g3, g4⟩ := smArg_inv harg
  obtain ⟨o, as, hrv⟩ := g4 hsta
  have hokA : ∀ v ∈ (st.take (smNa q2)).reverse, smOK v ∧ smC1 v = true := fun v hv => ⟨hst v (List.mem_of_mem_take (List.mem_reverse.mp hv)), g3 v hv⟩
  have hM := h hokA l E H.size hE
  have hsh : smSh[o]? = some (.inl (smOwn q2)) := (hokA (.inr (.inl (.inl (smOwn q2), o))) (by rw [hrv]; exact List.mem_cons_self)).1
  have hat : (smWs E mem)[o]? = some (E.2.2 o, .inr (smOwn q2, smFv E.2.2 mem o (smLay (smOwn q2)) 0)) := smWs_at hsh
  have hlen : as.length = smNa q2 - 1 := by
    have h9 : ((st.take (smNa q2)).reverse).length = smNa q2 := by rw [List.length_reverse, List.length_take, Nat.min_eq_left g1]
    rw [hrv, List.length_cons] at h9
    omega
  have hcls := (smCl_ok (smOwn q2) v4).2.1
  have hG : GoodIn smTs (wsV (smRn (smOwn k)) q1 (smNm q2).cls (smNm q2) (smWd q2)) := by
    intro w hw
    rcases List.mem_append.mp hw with h9 | h9
    · have : w ∈ smTs := by
        simp only [List.mem_cons, List.not_mem_nil, or_false] at h9
        rcases h9 with rfl | rfl | rfl | rfl
        · exact hlink
        · exact v1
        · exact v2
        · exact o6
      exact smTs_good _ this
    · exact smGood q2 o5 w h9
  have hcw : CallW (smRm k) s args (smRn (smOwn k)) (smNm q2).cls q1 (smNm q2) (smCd q2) (smMx q2) (smRt q2) (smWd q2) (smRm q2) 0 0 (smNa q2 - 1) := by
    refine cwV (smNa q2 - 1) hts hG rfl rfl rfl ⟨rfl, o3.1, o3.2, ?_⟩ ⟨hr1, hr2⟩
    have o4' := o4
    rw [show (smMd q2).2.2.2.2.2.1.2 = false from hsta] at o4'
    exact o4'
  have hpre : PreV s H (smNm q2).cls (E.2.2 o) (smPc E ((st.take (smNa q2)).reverse) mem H.size) (as.map (smCv E.2.2)) := by
    refine ⟨smPc_blind _ _ _ _, ?_, fun U hU hW => ⟨by rw [hrv]; rfl, by rw [hU], by rw [hU]; exact hP, smKs_warm hW hKs⟩⟩
    have := va_recv hKs.1 hP hcls hat
    rw [show (smNm q2).cls = smRn (smOwn q2) from o2]
    exact this
  have hstk : st.map (smCv E.2.2) = (as.map (smCv E.2.2)).reverse ++ .ref (E.2.2 o) :: (st.drop (smNa q2)).map (smCv E.2.2) := by
    conv => lhs; rw [smStk (a := q2) (st := st), hrv]
    simp [smCv]
  have run := va_runV (g := F0 m pc ls (st.map (smCv E.2.2))) (rest := (st.drop (smNa q2)).map (smCv E.2.2)) (cells := 0) (slots := 0) (locs := locs) (below := below) (e := e) (meth := meth) ⟨hx, hb, hml, hown, hts⟩ hM hcw hpre rfl (by rw [List.length_map]; exact hlen) hL.1 hstk (lv_room (by rw [smSum_cv]; exact g2)) hd ⟨Nat.le_refl 0, Nat.le_refl 0⟩
  refine sm_cont run hS rfl (fun v mem' H1 locs1 hpo hvo hP1 hS1 => ?_)
  rw [smTo_app]
  exact hgo _ _ _ _ (smBack_eq hpo) p l e s m args below meth c E H1 locs1 ls C hP1 hS1 hL (smOKs_to hvo (fun w hw => hst w (List.mem_of_mem_drop hw)))
set_option maxHeartbeats 1000000 in
theorem smStb_ok {k : Nat} {Post : Option smV → smM → Prop} {go : Nat → List (Option smV) → List smV → smM → Prop} {pc : Nat} {L : List (Option smV)} {st : List smV} {mem : smM} {a b n : Nat} (hk : k < 178) (hb01 : b = 0 ∨ b = 1) (hd : decode (smCd k) pc = .ok (.invokestatic n, 3)) (hc : smChi (smMd k) pc a b (.invokestatic n) = true)
    (hgo : ∀ (pc : Nat) (L : List (Option smV)) (st : List smV) (mem : smM), go pc L st mem → smWpB k pc L st mem Post) (h : smCal go (pc + 3) L st mem a) : smWpB k pc L st mem Post := by
  intro p l e s m args below meth c E H locs ls C hP hS hL hst
  obtain ⟨hx, hb, hml, hr, hlk, hown, hts, hKs, hE⟩ := id C
  have hc' : ((smMl (smMd k).1).any (fun q => q.1 == n && q.2.1 == a && q.2.2.1 == b) && (decide (2 ≤ b) || smSt a) && smRoom (smMd k) a b) = true := hc
  simp only [Bool.and_eq_true, Bool.or_eq_true, decide_eq_true_eq] at hc'
  obtain ⟨⟨h1, hsta⟩, hroom⟩ := hc'
  have hb1 : b ≤ 1 := by omega
  have hst1 : smSt a = true := by
    rcases hsta with q | q
    · omega
    · exact q
  simp only [smRoom, hb1, if_true, Bool.and_eq_true, decide_eq_true_eq] at hroom
  obtain ⟨⟨hr1, hr2⟩, hr3⟩ := hroom
  rw [smMs_len] at hr3
  have hok := smMd_ok hr3
  obtain ⟨o1, o2, o3, o4, o5, o6, o7, o8, o9⟩ := hok
  have v1 := o7 hst1
  obtain ⟨⟨q1, q2, q3, q4⟩, hq, hq2⟩ := List.any_eq_true.mp h1
  simp only [Bool.and_eq_true, beq_iff_eq] at hq2
  obtain ⟨⟨rfl, rfl⟩, rfl⟩ := hq2
  obtain ⟨g1, h⟩ := smTk_eq h
  rw [List.append_nil] at h
  obtain ⟨harg, h⟩ := smCond_inv h
  have h := of_eq_true h
  obtain ⟨g2, g3, g4⟩ := smArg_inv harg
  have hokA : ∀ v ∈ (st.take (smNa q2)).reverse, smOK v ∧ smC1 v = true := fun v hv => ⟨hst v (List.mem_of_mem_take (List.mem_reverse.mp hv)), g3 v hv⟩
  have hM := h hokA l E H.size hE
  have hlen : ((st.take (smNa q2)).reverse).length = smNa q2 := by rw [List.length_reverse, List.length_take, Nat.min_eq_left g1]
  have hG := smGood q2 o5
  have hdd : (smNm q2).cls ≠ "java/lang/invoke/MethodHandle" ∧ (smNm q2).cls ≠ "java/lang/invoke/VarHandle" ∧ (parseMethodDescriptor (smNm q2).desc).map (fun d => d.parameters.length) = some (smNa q2) := by
    refine ⟨o3.1, o3.2, ?_⟩
    have o4' := o4
    rw [show (smMd q2).2.2.2.2.2.1.2 = true from hst1] at o4'
    exact o4'
  have hpre : PreS s H (smPc E ((st.take (smNa q2)).reverse) mem H.size) (((st.take (smNa q2)).reverse).map (smCv E.2.2)) :=
    ⟨smPc_blind _ _ _ _, fun U hU hW => ⟨rfl, by rw [hU], by rw [hU]; exact hP, smKs_warm hW hKs⟩⟩
  have hstk : st.map (smCv E.2.2) = (((st.take (smNa q2)).reverse).map (smCv E.2.2)).reverse ++ (st.drop (smNa q2)).map (smCv E.2.2) := by
    conv => lhs; rw [smStk (a := q2) (st := st)]
    simp
  have hini : (Cond.initialized (smNm q2).cls).before args s = true := hts _ o6
  have run : va_Run p l e (smRm k) s m args below meth c H locs 0 0 0 0 (F0 m pc ls (st.map (smCv E.2.2))) ((st.drop (smNa q2)).map (smCv E.2.2)) (smQc E H.size (fun v mem' => smBack v (st.drop (smNa q2)) (fun st' => go (pc + 3) L st' mem')) (((st.take (smNa q2)).reverse).map (smCv E.2.2)).toArray) (smA E H.size) := by
    rcases hb01 with h0 | h0
    · have hlink := smMl_in _ _ hq h0
      exact va_runS (g := F0 m pc ls (st.map (smCv E.2.2))) ⟨hx, hb, hml, hown, hts⟩ hM ⟨callB_of (ws' := smTs) (smNa q2) hts hG rfl rfl rfl hini (hts _ hlink) hdd ⟨hr1, hr2⟩, hts _ v1⟩ hpre rfl (by rw [List.length_map]; exact hlen) hL.1 hstk (lv_room (by rw [smSum_cv]; exact g2)) hd ⟨Nat.le_refl 0, Nat.le_refl 0⟩
    · have hne := smMn_in _ _ hq h0
      have hnw := hKs.2 _ (List.mem_of_getElem? hne)
      exact va_runSN (g := F0 m pc ls (st.map (smCv E.2.2))) ⟨hx, hb, hml, hown, hts⟩ hM ⟨va_cnB (ws' := smTs) (smNa q2) hts hG rfl rfl rfl hnw hini hdd ⟨hr1, hr2⟩, hts _ v1, trivial⟩ hpre rfl (by rw [List.length_map]; exact hlen) hL.1 hstk (lv_room (by rw [smSum_cv]; exact g2)) hd ⟨Nat.le_refl 0, Nat.le_refl 0⟩
  refine sm_cont run hS rfl (fun v mem' H1 locs1 hpo hvo hP1 hS1 => ?_)
  rw [smTo_app]
  exact hgo _ _ _ _ (smBack_eq hpo) p l e s m args below meth c E H1 locs1 ls C hP1 hS1 hL (smOKs_to hvo (fun w hw => hst w (List.mem_of_mem_drop hw)))
theorem smNat_inv {st : List smV} {f : Int → Int → List smV → Prop} (h : smNat st f) : ∃ x y r, st = .inl y :: .inl x :: r ∧ (r.map smCat).sum ≤ 8 ∧ smIR x ∧ smIR y ∧ f x y r := by
  obtain ⟨x, y, r, h1, h2⟩ := smI2_inv h
  obtain ⟨h3, h4⟩ := smCond_inv h2
  exact ⟨x, y, r, h1, of_decide_eq_true h3, h4⟩
set_option maxHeartbeats 1000000 in
theorem smSta_ok {k : Nat} {Post : Option smV → smM → Prop} {go : Nat → List (Option smV) → List smV → smM → Prop} {pc : Nat} {L : List (Option smV)} {st : List smV} {mem : smM} {a b n : Nat} (hk : k < 178) (hd : decode (smCd k) pc = .ok (.invokestatic n, 3)) (hc : smChi (smMd k) pc a b (.invokestatic n) = true)
    (hgo : ∀ (pc : Nat) (L : List (Option smV)) (st : List smV) (mem : smM), go pc L st mem → smWpB k pc L st mem Post) (h : smStc go (pc + 3) L st mem a b) : smWpB k pc L st mem Post := by
  match b, hc, h with
  | 0, hc, h => exact smStb_ok hk (Or.inl rfl) hd hc hgo h
  | 1, hc, h => exact smStb_ok hk (Or.inr rfl) hd hc hgo h
  | 2, hc, h =>
    intro p l e s m args below meth c E H locs ls C hP hS hL hst
    obtain ⟨hx, hb, hml, hr, hlk, hown, hts, hKs, hE⟩ := id C
    have hc' : ((smMl (smMd k).1).any (fun q => q.1 == n && q.2.1 == a && q.2.2.1 == 2) && (decide (2 ≤ 2) || smSt a) && smRoom (smMd k) a 2) = true := hc
    simp only [Bool.and_eq_true] at hc'
    obtain ⟨⟨h1, -⟩, hroom⟩ := hc'
    have hroom' : (decide (1 ≤ smFr k) && decide (26 ≤ smLo k)) = true := hroom
    simp only [Bool.and_eq_true, decide_eq_true_eq] at hroom'
    obtain ⟨⟨q1, q2, q3, q4⟩, hq, hq2⟩ := List.any_eq_true.mp h1
    simp only [Bool.and_eq_true, beq_iff_eq] at hq2
    obtain ⟨⟨rfl, rfl⟩, rfl⟩ := hq2
    have hlink := smMx2_in _ _ hq rfl
    match st, h, hst with
    | .inl n :: .inl dp :: .inr (.inl (.inr (false, n1), k1)) :: .inl sp :: .inr (.inl (.inr (false, n0), k0)) :: r, h, hst =>
      obtain ⟨hb9, rfl, rfl, h0, h3, h4, h⟩ := smCond_inv h
      simp only [Bool.and_eq_true, decide_eq_true_eq] at hb9
      obtain ⟨⟨b1, b2⟩, b3⟩ := hb9
      have s1 : smSh[k1]? = some (.inr (false, n1)) := hst (.inr (.inl (.inr (false, n1), k1))) (by simp)
      have s0 : smSh[k0]? = some (.inr (false, n0)) := hst (.inr (.inl (.inr (false, n0), k0))) (by simp)
      have a1 : (smWs E mem)[k1]? = some (E.2.2 k1, .inl (E.2.1.1, n1, .inl (fun j => Int32.ofInt (mem k1 (j : Int))))) := smWs_at s1
      have a0 : (smWs E mem)[k0]? = some (E.2.2 k0, .inl (E.2.1.1, n0, .inl (fun j => Int32.ofInt (mem k0 (j : Int))))) := smWs_at s0
      have hnr : smIR n := ⟨by omega, by omega⟩
      have hnt : (Int32.ofInt n).toNatClampNeg = n.toNat := by
        show (Int32.ofInt n).toInt.toNat = n.toNat
        rw [smIR_toInt hnr]
      have hz : (Int32.ofInt 0).toNatClampNeg = 0 := rfl
      have h26 : nativeFrameWords "java/lang/System" "arraycopy" 5 + 11 = 18 := by decide +kernel
      have hloc : ((r.map (smCv E.2.2)).map fun v => v.category).sum + (nativeFrameWords "java/lang/System" "arraycopy" 5 + 11) ≤ (smRm k).locals := by
        rw [smSum_cv, h26]
        show _ ≤ smLo k
        omega
      refine va_copyi (A := smA E s.heap.size) (ty := .int) (sp := Int32.ofInt 0) (dp := Int32.ofInt 0) (n := Int32.ofInt n) hx hb (hml.trans hL.1.symm) hown (hts _ hlink) (hts _ smw_acN) (hts _ smw_acS) (hts _ smw_sysI) hKs.1 hP (smD_of hE _ _) hS k0 k1 0 0 a0 a1 rfl rfl rfl (by decide) (by decide) (fun z => by have := (sm_lt hnr smIR_0).mp z; omega) (by rw [hz, hnt]; omega) (by rw [hz, hnt]; omega) (fun i _ => rfl) hroom'.1 hloc hd (fun H1 locs1 hP1 _ hS1 => ?_)
      rw [hz, hnt, smWs_set (mem' := smCp mem k0 k1 n) s1 (smCp_row h0) (fun j hj i => by simp [smCp, hj])] at hP1
      exact hgo _ _ _ _ h p l e s m args below meth c E H1 locs1 ls C hP1 hS1 hL (fun w hw => hst w (by simp [hw]))
  | 3, hc, h =>
    intro p l e s m args below meth c E H locs ls C hP hS hL hst
    obtain ⟨hx, hb, hml, hr, hlk, hown, hts, hKs, hE⟩ := id C
    have hc' : ((smMl (smMd k).1).any (fun q => q.1 == n && q.2.1 == a && q.2.2.1 == 3) && (decide (2 ≤ 3) || smSt a) && smRoom (smMd k) a 3) = true := hc
    simp only [Bool.and_eq_true] at hc'
    obtain ⟨⟨h1, -⟩, hroom⟩ := hc'
    have hroom' : (decide (1 ≤ smFr k) && decide (26 ≤ smLo k)) = true := hroom
    simp only [Bool.and_eq_true, decide_eq_true_eq] at hroom'
    obtain ⟨⟨q1, q2, q3, q4⟩, hq, hq2⟩ := List.any_eq_true.mp h1
    simp only [Bool.and_eq_true, beq_iff_eq] at hq2
    obtain ⟨⟨rfl, rfl⟩, rfl⟩ := hq2
    have hlink := smMx3_in _ _ hq rfl
    obtain ⟨x, y, r, rfl, hsum, i1, i2, h⟩ := smNat_inv h
    have K := hgo _ _ _ _ h p l e s m args below meth c E H locs ls C hP hS hL (smOKs_1 trivial (smOKs_t (smOKs_t hst)))
    refine va_mmax hx hb (hml.trans hL.1.symm) hown (hts _ hlink) (hts _ smw_maxS) (hts _ smw_mathI) (hts _ smw_maxC) hroom'.1 (by rw [smSum_cv]; show _ ≤ smLo k; omega) (Nat.le_refl 0) (Nat.le_refl 0) hd ?_
    rw [show (if Int32.ofInt x < Int32.ofInt y then Int32.ofInt y else Int32.ofInt x) = Int32.ofInt (if x < y then y else x) from by simp only [sm_lt i1 i2]; split <;> rfl]
    exact K
  | 4, hc, h =>
    intro p l e s m args below meth c E H locs ls C hP hS hL hst
    obtain ⟨hx, hb, hml, hr, hlk, hown, hts, hKs, hE⟩ := id C
    have hc' : ((smMl (smMd k).1).any (fun q => q.1 == n && q.2.1 == a && q.2.2.1 == 4) && (decide (2 ≤ 4) || smSt a) && smRoom (smMd k) a 4) = true := hc
    simp only [Bool.and_eq_true] at hc'
    obtain ⟨⟨h1, -⟩, hroom⟩ := hc'
    have hroom' : (decide (1 ≤ smFr k) && decide (26 ≤ smLo k)) = true := hroom
    simp only [Bool.and_eq_true, decide_eq_true_eq] at hroom'
    obtain ⟨⟨q1, q2, q3, q4⟩, hq, hq2⟩ := List.any_eq_true.mp h1
    simp only [Bool.and_eq_true, beq_iff_eq] at hq2
    obtain ⟨⟨rfl, rfl⟩, rfl⟩ := hq2
    have hlink := smMx4_in _ _ hq rfl
    obtain ⟨x, y, r, rfl, hsum, i1, i2, h⟩ := smNat_inv h
    have K := hgo _ _ _ _ h p l e s m args below meth c E H locs ls C hP hS hL (smOKs_1 trivial (smOKs_t (smOKs_t hst)))
    refine va_mmin hx hb (hml.trans hL.1.symm) hown (hts _ hlink) (hts _ smw_minS) (hts _ smw_mathI) (hts _ smw_minC) hroom'.1 (by rw [smSum_cv]; show _ ≤ smLo k; omega) (Nat.le_refl 0) (Nat.le_refl 0) hd ?_
    rw [show (if Int32.ofInt y < Int32.ofInt x then Int32.ofInt y else Int32.ofInt x) = Int32.ofInt (if y < x then y else x) from by simp only [sm_lt i2 i1]; split <;> rfl]
    exact K
  | 5, hc, h =>
    intro p l e s m args below meth c E H locs ls C hP hS hL hst
    obtain ⟨hx, hb, hml, hr, hlk, hown, hts, hKs, hE⟩ := id C
    have hc' : ((smMl (smMd k).1).any (fun q => q.1 == n && q.2.1 == a && q.2.2.1 == 5) && (decide (2 ≤ 5) || smSt a) && smRoom (smMd k) a 5) = true := hc
    simp only [Bool.and_eq_true] at hc'
    obtain ⟨⟨h1, -⟩, hroom⟩ := hc'
    have hroom' : (decide (1 ≤ smFr k) && decide (26 ≤ smLo k)) = true := hroom
    simp only [Bool.and_eq_true, decide_eq_true_eq] at hroom'
    obtain ⟨⟨q1, q2, q3, q4⟩, hq, hq2⟩ := List.any_eq_true.mp h1
    simp only [Bool.and_eq_true, beq_iff_eq] at hq2
    obtain ⟨⟨rfl, rfl⟩, rfl⟩ := hq2
    have hlink := smMx5_in _ _ hq rfl
    obtain ⟨x, r, rfl, h⟩ := smI1_inv h
    obtain ⟨hsum, i1, h⟩ := smCond_inv h
    have hsum := of_decide_eq_true hsum
    have K := hgo _ _ _ _ h p l e s m args below meth c E H locs ls C hP hS hL (smOKs_1 trivial (smOKs_t hst))
    refine va_mabs hx hb (hml.trans hL.1.symm) hown (hts _ hlink) (hts _ smw_absS) (hts _ smw_mathI) (hts _ smw_absC) hroom'.1 (by rw [smSum_cv]; show _ ≤ smLo k; omega) (Nat.le_refl 0) (Nat.le_refl 0) hd ?_
    rw [show (if 0 ≤ Int32.ofInt x then Int32.ofInt x else 0 - Int32.ofInt x) = Int32.ofInt (if 0 ≤ x then x else 0 - x) from by
      rw [← sm_0]
      simp only [sm_le smIR_0 i1]
      split
      · rfl
      · rw [Int32.ofInt_sub]]
    exact K
  | n + 6, hc, h => exact False.elim h
set_option maxHeartbeats 4000000 in
theorem smIns_ok {lit : Bool} {k : Nat} {Post : Option smV → smM → Prop} {go : Nat → List (Option smV) → List smV → smM → Prop} {pc : Nat} {L : List (Option smV)} {st : List smV} {mem : smM} {a b nx : Nat} {z : Int} {i : Instr} (hk : k < 178) (hd : decode (smCd k) pc = .ok (i, smLen b i)) (hc : smChi (smMd k) pc a b i = true) (hnx : nx = pc + smLen b i) (hz : smChz a b z i = true)
    (hgo : ∀ (pc : Nat) (L : List (Option smV)) (st : List smV) (mem : smM), go pc L st mem → smWpB k pc L st mem Post) (h : smIns lit k Post go pc nx L st mem a b z i) : smWpB k pc L st mem Post := by
  subst hnx
  cases i
  case iconst n =>
    intro p l e s m args below meth c E H locs ls C hP hS hL hst
    obtain ⟨hx, hb, hml, hr, hlk, hown, hts, hKs, hE⟩ := id C
    exact lv_iconst hx hb hd rfl (hgo _ _ _ _ h p l e s m args below meth c E H locs ls C hP hS hL (smOKs_1 trivial hst))
  case bipush n =>
    intro p l e s m args below meth c E H locs ls C hP hS hL hst
    obtain ⟨hx, hb, hml, hr, hlk, hown, hts, hKs, hE⟩ := id C
    exact lv_bipush hx hb hd (of_decide_eq_true hc) (hgo _ _ _ _ h p l e s m args below meth c E H locs ls C hP hS hL (smOKs_1 trivial hst))
  case sipush n =>
    intro p l e s m args below meth c E H locs ls C hP hS hL hst
    obtain ⟨hx, hb, hml, hr, hlk, hown, hts, hKs, hE⟩ := id C
    exact lv_sipush hx hb hd (of_decide_eq_true hc) (hgo _ _ _ _ h p l e s m args below meth c E H locs ls C hP hS hL (smOKs_1 trivial hst))
  case ldc n =>
    intro p l e s m args below meth c E H locs ls C hP hS hL hst
    obtain ⟨hx, hb, hml, hr, hlk, hown, hts, hKs, hE⟩ := id C
    obtain ⟨⟨q1, q2, q3⟩, hq, hq2⟩ := List.any_eq_true.mp hc
    simp only [Bool.and_eq_true, beq_iff_eq] at hq2
    obtain ⟨rfl, rfl⟩ := hq2
    have hz' := of_decide_eq_true hz
    subst hz'
    exact lv_ldc hx hb hown (hts _ (smCn_in _ _ hq)) hd (hgo _ _ _ _ h p l e s m args below meth c E H locs ls C hP hS hL (smOKs_1 trivial hst))
  case ldc_w n =>
    intro p l e s m args below meth c E H locs ls C hP hS hL hst
    obtain ⟨hx, hb, hml, hr, hlk, hown, hts, hKs, hE⟩ := id C
    obtain ⟨⟨q1, q2, q3⟩, hq, hq2⟩ := List.any_eq_true.mp hc
    simp only [Bool.and_eq_true, beq_iff_eq] at hq2
    obtain ⟨rfl, rfl⟩ := hq2
    have hz' := of_decide_eq_true hz
    subst hz'
    exact lv_ldcw hx hb hown (hts _ (smCn_in _ _ hq)) hd (hgo _ _ _ _ h p l e s m args below meth c E H locs ls C hP hS hL (smOKs_1 trivial hst))
  case ldc2_w n =>
    intro p l e s m args below meth c E H locs ls C hP hS hL hst
    obtain ⟨hx, hb, hml, hr, hlk, hown, hts, hKs, hE⟩ := id C
    obtain ⟨⟨q1, q2, q3⟩, hq, hq2⟩ := List.any_eq_true.mp hc
    simp only [Bool.and_eq_true, beq_iff_eq] at hq2
    obtain ⟨rfl, rfl⟩ := hq2
    have hz' := of_decide_eq_true hz
    subst hz'
    exact lv_ldc2 hx hb hown (hts _ (smCl_in _ _ hq)) hd (hgo _ _ _ _ h p l e s m args below meth c E H locs ls C hP hS hL (smOKs_1 trivial hst))
  case iload_n n =>
    intro p l e s m args below meth c E H locs ls C hP hS hL hst
    obtain ⟨hx, hb, hml, hr, hlk, hown, hts, hKs, hE⟩ := id C
    obtain ⟨x, hi, h⟩ := smLI_inv h
    exact lv_iload_n hx hb hd rfl (hL.2.2 _ _ hi).1 (hgo _ _ _ _ h p l e s m args below meth c E H locs ls C hP hS hL (smOKs_1 trivial hst))
  case iload n =>
    intro p l e s m args below meth c E H locs ls C hP hS hL hst
    obtain ⟨hx, hb, hml, hr, hlk, hown, hts, hKs, hE⟩ := id C
    obtain ⟨x, hi, h⟩ := smLI_inv h
    exact lv_iload hx hb hd (hL.2.2 _ _ hi).1 (hgo _ _ _ _ h p l e s m args below meth c E H locs ls C hP hS hL (smOKs_1 trivial hst))
  case aload_n n =>
    intro p l e s m args below meth c E H locs ls C hP hS hL hst
    obtain ⟨hx, hb, hml, hr, hlk, hown, hts, hKs, hE⟩ := id C
    obtain ⟨x, hi, h⟩ := smLR_inv h
    exact lv_aload_n hx hb hd rfl (hL.2.2 _ _ hi).1 (hgo _ _ _ _ h p l e s m args below meth c E H locs ls C hP hS hL (smOKs_1 (hL.2.2 _ _ hi).2.1 hst))
  case aload n =>
    intro p l e s m args below meth c E H locs ls C hP hS hL hst
    obtain ⟨hx, hb, hml, hr, hlk, hown, hts, hKs, hE⟩ := id C
    obtain ⟨x, hi, h⟩ := smLR_inv h
    exact lv_aload hx hb hd (hL.2.2 _ _ hi).1 (hgo _ _ _ _ h p l e s m args below meth c E H locs ls C hP hS hL (smOKs_1 (hL.2.2 _ _ hi).2.1 hst))
  case istore_n n =>
    intro p l e s m args below meth c E H locs ls C hP hS hL hst
    obtain ⟨hx, hb, hml, hr, hlk, hown, hts, hKs, hE⟩ := id C
    obtain ⟨x, r, rfl, h⟩ := smI1_inv h
    exact lv_istore_n hx hb hd rfl (smLs_has hL) (of_decide_eq_true hc) rfl (fun ls2 h2 => hgo _ _ _ _ (smSet_eq h) p l e s m args below meth c E H locs ls2 C hP hS (smLs_set hL trivial rfl h2) (smOKs_t hst))
  case istore n =>
    intro p l e s m args below meth c E H locs ls C hP hS hL hst
    obtain ⟨hx, hb, hml, hr, hlk, hown, hts, hKs, hE⟩ := id C
    obtain ⟨x, r, rfl, h⟩ := smI1_inv h
    exact lv_istore hx hb hd (smLs_has hL) (of_decide_eq_true hc) rfl (fun ls2 h2 => hgo _ _ _ _ (smSet_eq h) p l e s m args below meth c E H locs ls2 C hP hS (smLs_set hL trivial rfl h2) (smOKs_t hst))
  case astore_n n =>
    intro p l e s m args below meth c E H locs ls C hP hS hL hst
    obtain ⟨hx, hb, hml, hr, hlk, hown, hts, hKs, hE⟩ := id C
    obtain ⟨q, r, rfl, h⟩ := smR1_inv h
    exact lv_astore_n hx hb hd rfl (smLs_has hL) (of_decide_eq_true hc) rfl (fun ls2 h2 => hgo _ _ _ _ (smSet_eq h) p l e s m args below meth c E H locs ls2 C hP hS (smLs_set hL (hst _ List.mem_cons_self) rfl h2) (smOKs_t hst))
  case astore n =>
    intro p l e s m args below meth c E H locs ls C hP hS hL hst
    obtain ⟨hx, hb, hml, hr, hlk, hown, hts, hKs, hE⟩ := id C
    obtain ⟨q, r, rfl, h⟩ := smR1_inv h
    exact lv_astore hx hb hd (smLs_has hL) (of_decide_eq_true hc) rfl (fun ls2 h2 => hgo _ _ _ _ (smSet_eq h) p l e s m args below meth c E H locs ls2 C hP hS (smLs_set hL (hst _ List.mem_cons_self) rfl h2) (smOKs_t hst))
  case iinc n v =>
    intro p l e s m args below meth c E H locs ls C hP hS hL hst
    obtain ⟨hx, hb, hml, hr, hlk, hown, hts, hKs, hE⟩ := id C
    obtain ⟨x, hi, h⟩ := smLI_inv h
    obtain ⟨j, hj⟩ := List.getElem?_of_mem (smPr_mem (ad := E.2.2) hi)
    exact lv_iinc (v := Int32.ofInt (x + v)) hx hb hd (smLs_has hL) (k := j) hj (by rw [Int32.ofInt_add]) (of_decide_eq_true hc) rfl (fun ls2 h2 => hgo _ _ _ _ (smSet_eq h) p l e s m args below meth c E H locs ls2 C hP hS (smLs_set (v := .inl (x + v)) hL trivial rfl h2) hst)
  case iadd =>
    intro p l e s m args below meth c E H locs ls C hP hS hL hst
    obtain ⟨hx, hb, hml, hr, hlk, hown, hts, hKs, hE⟩ := id C
    obtain ⟨x, y, r, rfl, h⟩ := smI2_inv h
    have K := hgo _ _ _ _ h p l e s m args below meth c E H locs ls C hP hS hL (smOKs_1 trivial (smOKs_t (smOKs_t hst)))
    refine lv_iadd hx hb hd ?_
    rw [← Int32.ofInt_add]
    exact K
  case isub =>
    intro p l e s m args below meth c E H locs ls C hP hS hL hst
    obtain ⟨hx, hb, hml, hr, hlk, hown, hts, hKs, hE⟩ := id C
    obtain ⟨x, y, r, rfl, h⟩ := smI2_inv h
    have K := hgo _ _ _ _ h p l e s m args below meth c E H locs ls C hP hS hL (smOKs_1 trivial (smOKs_t (smOKs_t hst)))
    refine lv_isub hx hb hd ?_
    rw [← Int32.ofInt_sub]
    exact K
  case imul =>
    intro p l e s m args below meth c E H locs ls C hP hS hL hst
    obtain ⟨hx, hb, hml, hr, hlk, hown, hts, hKs, hE⟩ := id C
    obtain ⟨x, y, r, rfl, h⟩ := smI2_inv h
    have K := hgo _ _ _ _ h p l e s m args below meth c E H locs ls C hP hS hL (smOKs_1 trivial (smOKs_t (smOKs_t hst)))
    refine lv_imul hx hb hd ?_
    rw [← Int32.ofInt_mul]
    exact K
  case ineg =>
    intro p l e s m args below meth c E H locs ls C hP hS hL hst
    obtain ⟨hx, hb, hml, hr, hlk, hown, hts, hKs, hE⟩ := id C
    obtain ⟨x, r, rfl, h⟩ := smI1_inv h
    have K := hgo _ _ _ _ h p l e s m args below meth c E H locs ls C hP hS hL (smOKs_1 trivial (smOKs_t hst))
    refine lv_ineg hx hb hd ?_
    rw [← Int32.ofInt_neg]
    exact K
  case idiv =>
    intro p l e s m args below meth c E H locs ls C hP hS hL hst
    obtain ⟨hx, hb, hml, hr, hlk, hown, hts, hKs, hE⟩ := id C
    obtain ⟨x, y, r, rfl, h1, h2, h3, h⟩ := smI2_inv h
    have K := hgo _ _ _ _ h p l e s m args below meth c E H locs ls C hP hS hL (smOKs_1 trivial (smOKs_t (smOKs_t hst)))
    refine lv_idiv hx hb hd (sm_ne0 h2 h3) ?_
    rw [sm_div h1 h2 h3]
    exact K
  case irem =>
    intro p l e s m args below meth c E H locs ls C hP hS hL hst
    obtain ⟨hx, hb, hml, hr, hlk, hown, hts, hKs, hE⟩ := id C
    obtain ⟨x, y, r, rfl, h1, h2, h3, h⟩ := smI2_inv h
    have K := hgo _ _ _ _ h p l e s m args below meth c E H locs ls C hP hS hL (smOKs_1 trivial (smOKs_t (smOKs_t hst)))
    refine lv_irem hx hb hd (sm_ne0 h2 h3) ?_
    rw [sm_rem h1 h2 h3]
    exact K
  case iand =>
    intro p l e s m args below meth c E H locs ls C hP hS hL hst
    obtain ⟨hx, hb, hml, hr, hlk, hown, hts, hKs, hE⟩ := id C
    obtain ⟨x, y, r, rfl, h⟩ := smI2_inv h
    have K := hgo _ _ _ _ h p l e s m args below meth c E H locs ls C hP hS hL (smOKs_1 trivial (smOKs_t (smOKs_t hst)))
    refine lv_iand hx hb hd ?_
    simp only [List.map_cons, smCv, smAnd, sm_ofToInt] at K
    exact K
  case ior =>
    intro p l e s m args below meth c E H locs ls C hP hS hL hst
    obtain ⟨hx, hb, hml, hr, hlk, hown, hts, hKs, hE⟩ := id C
    obtain ⟨x, y, r, rfl, h⟩ := smI2_inv h
    have K := hgo _ _ _ _ h p l e s m args below meth c E H locs ls C hP hS hL (smOKs_1 trivial (smOKs_t (smOKs_t hst)))
    refine lv_ior hx hb hd ?_
    simp only [List.map_cons, smCv, smOr, sm_ofToInt] at K
    exact K
  case ixor =>
    intro p l e s m args below meth c E H locs ls C hP hS hL hst
    obtain ⟨hx, hb, hml, hr, hlk, hown, hts, hKs, hE⟩ := id C
    obtain ⟨x, y, r, rfl, h⟩ := smI2_inv h
    have K := hgo _ _ _ _ h p l e s m args below meth c E H locs ls C hP hS hL (smOKs_1 trivial (smOKs_t (smOKs_t hst)))
    refine lv_ixor hx hb hd ?_
    simp only [List.map_cons, smCv, smXor, sm_ofToInt] at K
    exact K
  case ishl =>
    intro p l e s m args below meth c E H locs ls C hP hS hL hst
    obtain ⟨hx, hb, hml, hr, hlk, hown, hts, hKs, hE⟩ := id C
    obtain ⟨x, y, r, rfl, h⟩ := smI2_inv h
    have K := hgo _ _ _ _ h p l e s m args below meth c E H locs ls C hP hS hL (smOKs_1 trivial (smOKs_t (smOKs_t hst)))
    refine lv_ishl hx hb hd ?_
    simp only [List.map_cons, smCv, smShl, sm_ofToInt] at K
    exact K
  case ishr =>
    intro p l e s m args below meth c E H locs ls C hP hS hL hst
    obtain ⟨hx, hb, hml, hr, hlk, hown, hts, hKs, hE⟩ := id C
    obtain ⟨x, y, r, rfl, h⟩ := smI2_inv h
    have K := hgo _ _ _ _ h p l e s m args below meth c E H locs ls C hP hS hL (smOKs_1 trivial (smOKs_t (smOKs_t hst)))
    refine lv_ishr hx hb hd ?_
    simp only [List.map_cons, smCv, smShr, sm_ofToInt] at K
    exact K
  case iushr =>
    intro p l e s m args below meth c E H locs ls C hP hS hL hst
    obtain ⟨hx, hb, hml, hr, hlk, hown, hts, hKs, hE⟩ := id C
    obtain ⟨x, y, r, rfl, h⟩ := smI2_inv h
    have K := hgo _ _ _ _ h p l e s m args below meth c E H locs ls C hP hS hL (smOKs_1 trivial (smOKs_t (smOKs_t hst)))
    simp only [List.map_cons, smCv, smUsh, sm_ofToInt] at K
    exact lv_iushr hx hb hd rfl K
  case ifCond cn off =>
    intro p l e s m args below meth c E H locs ls C hP hS hL hst
    obtain ⟨hx, hb, hml, hr, hlk, hown, hts, hKs, hE⟩ := id C
    cases cn
    · obtain ⟨x, r, rfl, h1, ht, hf⟩ := smI1_inv h
      exact lv_if_eq hx hb hd (of_decide_eq_true hc) (fun z => hgo _ _ _ _ (ht ((sm_eq h1 smIR_0).mp z)) p l e s m args below meth c E H locs ls C hP hS hL (smOKs_t hst)) (fun z => hgo _ _ _ _ (hf (fun w => z ((sm_eq h1 smIR_0).mpr w))) p l e s m args below meth c E H locs ls C hP hS hL (smOKs_t hst))
    · obtain ⟨x, r, rfl, h1, ht, hf⟩ := smI1_inv h
      exact lv_if_ne hx hb hd (of_decide_eq_true hc) (fun z => hgo _ _ _ _ (ht (fun w => z ((sm_eq h1 smIR_0).mpr w))) p l e s m args below meth c E H locs ls C hP hS hL (smOKs_t hst)) (fun z => hgo _ _ _ _ (hf ((sm_eq h1 smIR_0).mp z)) p l e s m args below meth c E H locs ls C hP hS hL (smOKs_t hst))
    · obtain ⟨x, r, rfl, h1, ht, hf⟩ := smI1_inv h
      exact lv_if_lt hx hb hd (of_decide_eq_true hc) (fun z => hgo _ _ _ _ (ht ((sm_lt h1 smIR_0).mp z)) p l e s m args below meth c E H locs ls C hP hS hL (smOKs_t hst)) (fun z => hgo _ _ _ _ (hf (Int.not_lt.mp (fun w => z ((sm_lt h1 smIR_0).mpr w)))) p l e s m args below meth c E H locs ls C hP hS hL (smOKs_t hst))
    · obtain ⟨x, r, rfl, h1, ht, hf⟩ := smI1_inv h
      exact lv_if_ge hx hb hd (of_decide_eq_true hc) (fun z => hgo _ _ _ _ (ht ((sm_le smIR_0 h1).mp z)) p l e s m args below meth c E H locs ls C hP hS hL (smOKs_t hst)) (fun z => hgo _ _ _ _ (hf (Int.not_le.mp (fun w => z ((sm_le smIR_0 h1).mpr w)))) p l e s m args below meth c E H locs ls C hP hS hL (smOKs_t hst))
    · obtain ⟨x, r, rfl, h1, ht, hf⟩ := smI1_inv h
      exact lv_if_gt hx hb hd (of_decide_eq_true hc) (fun z => hgo _ _ _ _ (ht ((sm_lt smIR_0 h1).mp z)) p l e s m args below meth c E H locs ls C hP hS hL (smOKs_t hst)) (fun z => hgo _ _ _ _ (hf (Int.not_lt.mp (fun w => z ((sm_lt smIR_0 h1).mpr w)))) p l e s m args below meth c E H locs ls C hP hS hL (smOKs_t hst))
    · obtain ⟨x, r, rfl, h1, ht, hf⟩ := smI1_inv h
      exact lv_if_le hx hb hd (of_decide_eq_true hc) (fun z => hgo _ _ _ _ (ht ((sm_le h1 smIR_0).mp z)) p l e s m args below meth c E H locs ls C hP hS hL (smOKs_t hst)) (fun z => hgo _ _ _ _ (hf (Int.not_le.mp (fun w => z ((sm_le h1 smIR_0).mpr w)))) p l e s m args below meth c E H locs ls C hP hS hL (smOKs_t hst))
  case if_icmp cn off =>
    intro p l e s m args below meth c E H locs ls C hP hS hL hst
    obtain ⟨hx, hb, hml, hr, hlk, hown, hts, hKs, hE⟩ := id C
    cases cn
    · obtain ⟨x, y, r, rfl, h1, h2, ht, hf⟩ := smI2_inv h
      exact lv_icmp_eq hx hb hd (of_decide_eq_true hc) (fun z => hgo _ _ _ _ (ht ((sm_eq h1 h2).mp z)) p l e s m args below meth c E H locs ls C hP hS hL (smOKs_t (smOKs_t hst))) (fun z => hgo _ _ _ _ (hf (fun w => z ((sm_eq h1 h2).mpr w))) p l e s m args below meth c E H locs ls C hP hS hL (smOKs_t (smOKs_t hst)))
    · obtain ⟨x, y, r, rfl, h1, h2, ht, hf⟩ := smI2_inv h
      exact lv_icmp_ne hx hb hd (of_decide_eq_true hc) (fun z => hgo _ _ _ _ (ht (fun w => z ((sm_eq h1 h2).mpr w))) p l e s m args below meth c E H locs ls C hP hS hL (smOKs_t (smOKs_t hst))) (fun z => hgo _ _ _ _ (hf ((sm_eq h1 h2).mp z)) p l e s m args below meth c E H locs ls C hP hS hL (smOKs_t (smOKs_t hst)))
    · obtain ⟨x, y, r, rfl, h1, h2, ht, hf⟩ := smI2_inv h
      exact lv_icmp_lt hx hb hd (of_decide_eq_true hc) (fun z => hgo _ _ _ _ (ht ((sm_lt h1 h2).mp z)) p l e s m args below meth c E H locs ls C hP hS hL (smOKs_t (smOKs_t hst))) (fun z => hgo _ _ _ _ (hf (Int.not_lt.mp (fun w => z ((sm_lt h1 h2).mpr w)))) p l e s m args below meth c E H locs ls C hP hS hL (smOKs_t (smOKs_t hst)))
    · obtain ⟨x, y, r, rfl, h1, h2, ht, hf⟩ := smI2_inv h
      exact lv_icmp_ge hx hb hd (of_decide_eq_true hc) (fun z => hgo _ _ _ _ (ht ((sm_le h2 h1).mp z)) p l e s m args below meth c E H locs ls C hP hS hL (smOKs_t (smOKs_t hst))) (fun z => hgo _ _ _ _ (hf (Int.not_le.mp (fun w => z ((sm_le h2 h1).mpr w)))) p l e s m args below meth c E H locs ls C hP hS hL (smOKs_t (smOKs_t hst)))
    · obtain ⟨x, y, r, rfl, h1, h2, ht, hf⟩ := smI2_inv h
      exact lv_icmp_gt hx hb hd (of_decide_eq_true hc) (fun z => hgo _ _ _ _ (ht ((sm_lt h2 h1).mp z)) p l e s m args below meth c E H locs ls C hP hS hL (smOKs_t (smOKs_t hst))) (fun z => hgo _ _ _ _ (hf (Int.not_lt.mp (fun w => z ((sm_lt h2 h1).mpr w)))) p l e s m args below meth c E H locs ls C hP hS hL (smOKs_t (smOKs_t hst)))
    · obtain ⟨x, y, r, rfl, h1, h2, ht, hf⟩ := smI2_inv h
      exact lv_icmp_le hx hb hd (of_decide_eq_true hc) (fun z => hgo _ _ _ _ (ht ((sm_le h1 h2).mp z)) p l e s m args below meth c E H locs ls C hP hS hL (smOKs_t (smOKs_t hst))) (fun z => hgo _ _ _ _ (hf (Int.not_le.mp (fun w => z ((sm_le h1 h2).mpr w)))) p l e s m args below meth c E H locs ls C hP hS hL (smOKs_t (smOKs_t hst)))
  case goto off =>
    intro p l e s m args below meth c E H locs ls C hP hS hL hst
    obtain ⟨hx, hb, hml, hr, hlk, hown, hts, hKs, hE⟩ := id C
    exact lv_goto hx hb hd (of_decide_eq_true hc) (hgo _ _ _ _ h p l e s m args below meth c E H locs ls C hP hS hL hst)
  case dup =>
    intro p l e s m args below meth c E H locs ls C hP hS hL hst
    obtain ⟨hx, hb, hml, hr, hlk, hown, hts, hKs, hE⟩ := id C
    rcases st with _ | ⟨v, r⟩
    · exact False.elim h
    · obtain ⟨h1, h⟩ := smCond_inv h
      exact lv_dup hx hb hd (smCv_c1 _ h1) (hgo _ _ _ _ h p l e s m args below meth c E H locs ls C hP hS hL (smOKs_1 (hst _ List.mem_cons_self) hst))
  case dup2 =>
    intro p l e s m args below meth c E H locs ls C hP hS hL hst
    obtain ⟨hx, hb, hml, hr, hlk, hown, hts, hKs, hE⟩ := id C
    rcases st with _ | ⟨v, _ | ⟨w, r⟩⟩
    · exact False.elim h
    · exact False.elim h
    · obtain ⟨h1, h⟩ := smCond_inv h
      simp only [Bool.and_eq_true] at h1
      exact lv_dup2_11 hx hb hd (smCv_c1 _ h1.1) (smCv_c1 _ h1.2) (hgo _ _ _ _ h p l e s m args below meth c E H locs ls C hP hS hL (smOKs_1 (hst _ List.mem_cons_self) (smOKs_1 (hst _ (List.mem_cons_of_mem _ List.mem_cons_self)) hst)))
  case pop =>
    intro p l e s m args below meth c E H locs ls C hP hS hL hst
    obtain ⟨hx, hb, hml, hr, hlk, hown, hts, hKs, hE⟩ := id C
    rcases st with _ | ⟨v, r⟩
    · exact False.elim h
    · obtain ⟨h1, h⟩ := smCond_inv h
      exact lv_pop hx hb hd (smCv_c1 _ h1) (hgo _ _ _ _ h p l e s m args below meth c E H locs ls C hP hS hL (smOKs_t hst))
  case getfield n =>
    intro p l e s m args below meth c E H locs ls C hP hS hL hst
    obtain ⟨hx, hb, hml, hr, hlk, hown, hts, hKs, hE⟩ := id C
    have hc' : ((smFl (smMd k).1).any (fun q => q.1 == n && q.2.1 == a && q.2.2.1 == b) && decide (b < smTn a) && decide (a < 12)) = true := hc
    simp only [Bool.and_eq_true, decide_eq_true_eq] at hc'
    obtain ⟨⟨h1, hbn⟩, ha⟩ := hc'
    obtain ⟨⟨q1, q2, q3, q4⟩, hq, hq2⟩ := List.any_eq_true.mp h1
    simp only [Bool.and_eq_true, beq_iff_eq] at hq2
    obtain ⟨⟨rfl, rfl⟩, rfl⟩ := hq2
    have hw := hts _ (smFl_in _ _ hq)
    have hz' := of_decide_eq_true hz
    subst hz'
    have hcl := smCl_ok q2 ha
    obtain ⟨o, r, rfl, hA⟩ := smO1_inv h
    have hsh : smSh[o]? = some (.inl q2) := hst _ List.mem_cons_self
    have hat : (smWs E mem)[o]? = some (E.2.2 o, .inr (q2, smFv E.2.2 mem o (smLay q2) 0)) := smWs_at hsh
    rcases smGf_inv hA with ⟨z, hlb, h⟩ | ⟨q, hlb, h⟩
    · exact va_get (D := E.1) (ci := q2) (v := .int (Int32.ofInt (mem o (q3 : Int)))) (C := smRn q2) (T := smTx q2) (N := smTn q2) hx hb hts hcl.1 hown hKs.1 hP o hat hcl.2.1 q3 hbn hw (fun _ h9 => h9) (by rw [smFv_get, hlb]; simp [smF1]) hd (hgo _ _ _ _ h p l e s m args below meth c E H locs ls C hP hS hL (smOKs_1 trivial (smOKs_t hst)))
    · exact va_get (D := E.1) (ci := q2) (v := .ref (E.2.2 (o + q.2))) (C := smRn q2) (T := smTx q2) (N := smTn q2) hx hb hts hcl.1 hown hKs.1 hP o hat hcl.2.1 q3 hbn hw (fun _ h9 => h9) (by rw [smFv_get, hlb]; simp [smF1]) hd (hgo _ _ _ _ h p l e s m args below meth c E H locs ls C hP hS hL (smOKs_1 ((smSh_cls hsh).2 q3 q hlb) (smOKs_t hst)))
  case putfield n =>
    intro p l e s m args below meth c E H locs ls C hP hS hL hst
    obtain ⟨hx, hb, hml, hr, hlk, hown, hts, hKs, hE⟩ := id C
    have hc' : ((smFl (smMd k).1).any (fun q => q.1 == n && q.2.1 == a && q.2.2.1 == b) && decide (b < smTn a) && decide (a < 12)) = true := hc
    simp only [Bool.and_eq_true, decide_eq_true_eq] at hc'
    obtain ⟨⟨h1, hbn⟩, ha⟩ := hc'
    obtain ⟨⟨q1, q2, q3, q4⟩, hq, hq2⟩ := List.any_eq_true.mp h1
    simp only [Bool.and_eq_true, beq_iff_eq] at hq2
    obtain ⟨⟨rfl, rfl⟩, rfl⟩ := hq2
    have hw := hts _ (smFl_in _ _ hq)
    have hz' := of_decide_eq_true hz
    subst hz'
    have hcl := smCl_ok q2 ha
    obtain ⟨x, r1, rfl, hA⟩ := smI1_inv h
    obtain ⟨o, r, rfl, hB⟩ := smO1_inv hA
    have hsh : smSh[o]? = some (.inl q2) := hst _ (List.mem_cons_of_mem _ List.mem_cons_self)
    have hat : (smWs E mem)[o]? = some (E.2.2 o, .inr (q2, smFv E.2.2 mem o (smLay q2) 0)) := smWs_at hsh
    rcases smPf_inv hB with ⟨hlb, h⟩ | ⟨hlb, h⟩
    · have hty := (smLay_ok ha hbn).1 hlb
      refine va_put (D := E.1) (ci := q2) (v := .int (Int32.ofInt x)) (ty := .int) (A := smA E s.heap.size) (C := smRn q2) (T := smTx q2) (N := smTn q2) hx hb hts hcl.1 (smTy q2) hcl.2.2.1 hcl.2.2.2 hown hKs.1 hP (smD_of hE _ _) hS o hat hcl.2.1 q3 hbn hw (fun _ h9 => h9) hty.2 (by rw [hcl.2.2.1 q3 hbn, hty.1]) rfl rfl (by rw [smFv_len]; exact hbn) hd (fun H1 locs1 hP1 _ hS1 => ?_)
      rw [smWs_set (mem' := smU mem o (q3 : Int) x) hsh (by simp only [smCe]; rw [smFv_set hlb]) (fun j hj i => smU_ne hj i)] at hP1
      exact hgo _ _ _ _ h p l e s m args below meth c E H1 locs1 ls C hP1 hS1 hL (smOKs_t (smOKs_t hst))
    · have hty := (smLay_ok ha hbn).2 hlb
      have hx2 : narrow .boolean (.int (Int32.ofInt x)) = .int (Int32.ofInt x) ∧ fits .boolean (.int (Int32.ofInt x)) = true := by
        rcases h.1 with rfl | rfl <;> exact ⟨rfl, rfl⟩
      refine va_put (D := E.1) (ci := q2) (v := .int (Int32.ofInt x)) (ty := .boolean) (A := smA E s.heap.size) (C := smRn q2) (T := smTx q2) (N := smTn q2) hx hb hts hcl.1 (smTy q2) hcl.2.2.1 hcl.2.2.2 hown hKs.1 hP (smD_of hE _ _) hS o hat hcl.2.1 q3 hbn hw (fun _ h9 => h9) hty.2 (by rw [hcl.2.2.1 q3 hbn, hty.1]) hx2.1 hx2.2 (by rw [smFv_len]; exact hbn) hd (fun H1 locs1 hP1 _ hS1 => ?_)
      rw [smWs_set (mem' := smU mem o (q3 : Int) x) hsh (by simp only [smCe]; rw [smFv_set hlb]) (fun j hj i => smU_ne hj i)] at hP1
      exact hgo _ _ _ _ h.2 p l e s m args below meth c E H1 locs1 ls C hP1 hS1 hL (smOKs_t (smOKs_t hst))
  case iaload =>
    intro p l e s m args below meth c E H locs ls C hP hS hL hst
    obtain ⟨hx, hb, hml, hr, hlk, hown, hts, hKs, hE⟩ := id C
    obtain ⟨n, o, i, r, rfl, hn, ⟨h0, h1⟩, h⟩ := smX1_inv h
    have hsh : smSh[o]? = some (.inr (false, n)) := hst _ (List.mem_cons_of_mem _ List.mem_cons_self)
    have hat : (smWs E mem)[o]? = some (E.2.2 o, .inl (E.2.1.1, n, .inl (fun j => Int32.ofInt (mem o (j : Int))))) := smWs_at hsh
    obtain ⟨hi1, hi2⟩ := sm_idx h0 h1 (by omega)
    have K := hgo _ _ _ _ h p l e s m args below meth c E H locs ls C hP hS hL (smOKs_1 trivial (smOKs_t (smOKs_t hst)))
    refine va_iald hx hb hKs.1 hP o 0 hat rfl hi1 hd ?_
    rw [hi2, Int.toNat_of_nonneg h0]
    exact K
  case baload =>
    intro p l e s m args below meth c E H locs ls C hP hS hL hst
    obtain ⟨hx, hb, hml, hr, hlk, hown, hts, hKs, hE⟩ := id C
    obtain ⟨n, o, i, r, rfl, hn, ⟨h0, h1⟩, h⟩ := smX1_inv h
    have hsh : smSh[o]? = some (.inr (true, n)) := hst _ (List.mem_cons_of_mem _ List.mem_cons_self)
    have hat : (smWs E mem)[o]? = some (E.2.2 o, .inl (E.2.1.2, n, .inl (fun j => Int32.ofInt (mem o (j : Int))))) := smWs_at hsh
    obtain ⟨hi1, hi2⟩ := sm_idx h0 h1 (by omega)
    have K := hgo _ _ _ _ h p l e s m args below meth c E H locs ls C hP hS hL (smOKs_1 trivial (smOKs_t (smOKs_t hst)))
    refine va_zald hx hb hKs.1 hP o 1 hat rfl hi1 hd ?_
    rw [hi2, Int.toNat_of_nonneg h0]
    exact K
  case iastore =>
    intro p l e s m args below meth c E H locs ls C hP hS hL hst
    obtain ⟨hx, hb, hml, hr, hlk, hown, hts, hKs, hE⟩ := id C
    obtain ⟨x, r1, rfl, h⟩ := smI1_inv h
    obtain ⟨n, o, i, r, rfl, hn, ⟨h0, h1⟩, h⟩ := smX1_inv h
    have hsh : smSh[o]? = some (.inr (false, n)) := hst _ (List.mem_cons_of_mem _ (List.mem_cons_of_mem _ List.mem_cons_self))
    have hat : (smWs E mem)[o]? = some (E.2.2 o, .inl (E.2.1.1, n, .inl (fun j => Int32.ofInt (mem o (j : Int))))) := smWs_at hsh
    obtain ⟨hi1, hi2⟩ := sm_idx h0 h1 (by omega)
    refine va_iast (A := smA E s.heap.size) hx hb hKs.1 hP (smD_of hE _ _) hS o 0 hat rfl hi1 hd (fun H1 locs1 hP1 _ hS1 => ?_)
    rw [hi2] at hP1
    have hset := smWs_set (E := E) (mem := mem) (mem' := smU mem o i x) hsh (smRow_set (z := false) h0 (Int32.ofInt x) rfl) (fun j hj i => smU_ne hj i)
    simp only [cond_true, cond_false] at hset
    rw [hset] at hP1
    exact hgo _ _ _ _ h p l e s m args below meth c E H1 locs1 ls C hP1 hS1 hL (smOKs_t (smOKs_t (smOKs_t hst)))
  case bastore =>
    intro p l e s m args below meth c E H locs ls C hP hS hL hst
    obtain ⟨hx, hb, hml, hr, hlk, hown, hts, hKs, hE⟩ := id C
    obtain ⟨x, r1, rfl, h⟩ := smI1_inv h
    obtain ⟨n, o, i, r, rfl, hn, hz, ⟨h0, h1⟩, h⟩ := smX1_inv h
    have hsh : smSh[o]? = some (.inr (true, n)) := hst _ (List.mem_cons_of_mem _ (List.mem_cons_of_mem _ List.mem_cons_self))
    have hat : (smWs E mem)[o]? = some (E.2.2 o, .inl (E.2.1.2, n, .inl (fun j => Int32.ofInt (mem o (j : Int))))) := smWs_at hsh
    obtain ⟨hi1, hi2⟩ := sm_idx h0 h1 (by omega)
    refine va_zast (A := smA E s.heap.size) hx hb hKs.1 hP (smD_of hE _ _) hS o 1 hat rfl hi1 hd (fun H1 locs1 hP1 _ hS1 => ?_)
    rw [hi2] at hP1
    have hset := smWs_set (E := E) (mem := mem) (mem' := smU mem o i x) hsh (smRow_set (z := true) h0 (vp_nar .boolean (Int32.ofInt x)) (by rcases hz with rfl | rfl <;> rfl)) (fun j hj i => smU_ne hj i)
    simp only [cond_true, cond_false] at hset
    rw [hset] at hP1
    exact hgo _ _ _ _ h p l e s m args below meth c E H1 locs1 ls C hP1 hS1 hL (smOKs_t (smOKs_t (smOKs_t hst)))
  case ireturn =>
    intro p l e s m args below meth c E H locs ls C hP hS hL hst
    obtain ⟨hx, hb, hml, hr, hlk, hown, hts, hKs, hE⟩ := id C
    obtain ⟨x, r, rfl, hA⟩ := smI1_inv h
    rcases r with _ | ⟨w, r⟩
    · rcases smRi_inv hA with ⟨hrt, h⟩ | ⟨hrt, h⟩
      · exact W.iret (v := Int32.ofInt x) hx hb (hr.trans hrt) (fun t ht hW => ⟨⟨some (.inl x), mem, rfl, h, fun w hw => by cases hw; trivial, by rw [ht]; exact hP⟩, hS.F ht⟩) hS.2.2 hd hlk
      · exact W.zret (v := Int32.ofInt x) hx hb (hr.trans hrt) (by rcases h.1 with rfl | rfl <;> rfl) (fun t ht hW => ⟨⟨some (.inl x), mem, rfl, h.2, fun w hw => by cases hw; trivial, by rw [ht]; exact hP⟩, hS.F ht⟩) hS.2.2 hd hlk
    · exact False.elim hA
  case lreturn =>
    intro p l e s m args below meth c E H locs ls C hP hS hL hst
    obtain ⟨hx, hb, hml, hr, hlk, hown, hts, hKs, hE⟩ := id C
    obtain ⟨v, rfl, hA⟩ := smS1_inv h
    rcases v with x | q | x
    · exact False.elim h
    · exact False.elim h
    · obtain ⟨hrt, h⟩ := smRl_inv hA
      exact W.lret (v := Int64.ofInt x) hx hb (hr.trans hrt) (fun t ht hW => ⟨⟨some (.inr (.inr x)), mem, rfl, h, fun w hw => by cases hw; trivial, by rw [ht]; exact hP⟩, hS.F ht⟩) hS.2.2 hd hlk
  case areturn =>
    intro p l e s m args below meth c E H locs ls C hP hS hL hst
    obtain ⟨hx, hb, hml, hr, hlk, hown, hts, hKs, hE⟩ := id C
    obtain ⟨v, rfl, hA⟩ := smS1_inv h
    rcases v with x | q | x
    · exact False.elim h
    · obtain ⟨z, hrt, h⟩ := smRa_inv hA
      exact W.aret (v := .ref (E.2.2 q.2)) hx hb (hr.trans hrt) (Or.inl ⟨z, rfl⟩) (Or.inr ⟨_, rfl⟩) (fun t ht hW => ⟨⟨some (.inr (.inl q)), mem, rfl, h, fun w hw => by cases hw; exact hst _ List.mem_cons_self, by rw [ht]; exact hP⟩, hS.F ht⟩) hS.2.2 hd hlk
    · exact False.elim h
  case return_ =>
    intro p l e s m args below meth c E H locs ls C hP hS hL hst
    obtain ⟨hx, hb, hml, hr, hlk, hown, hts, hKs, hE⟩ := id C
    rcases st with _ | ⟨v, r⟩
    · obtain ⟨hrt, h⟩ := smRv_inv h
      exact W.vret hx hb (hr.trans hrt) (fun t ht hW => ⟨⟨none, mem, rfl, h, fun w hw => (by cases hw), by rw [ht]; exact hP⟩, hS.F ht⟩) hS.2.2 hd hlk
    · exact False.elim h
  case i2l =>
    intro p l e s m args below meth c E H locs ls C hP hS hL hst
    obtain ⟨hx, hb, hml, hr, hlk, hown, hts, hKs, hE⟩ := id C
    obtain ⟨x, r, rfl, h1, h⟩ := smI1_inv h
    have K := hgo _ _ _ _ h p l e s m args below meth c E H locs ls C hP hS hL (smOKs_1 trivial (smOKs_t hst))
    refine lv_i2l (v := Int64.ofInt x) hx hb hd ?_ K
    apply Int64.toInt_inj.mp
    rw [Int32.toInt_toInt64, smIR_toInt h1, Int64.toInt_ofInt_of_le (by have := h1.1; omega) (by have := h1.2; omega)]
  case tableswitch df lo hi offs =>
    intro p l e s m args below meth c E H locs ls C hP hS hL hst
    obtain ⟨hx, hb, hml, hr, hlk, hown, hts, hKs, hE⟩ := id C
    obtain ⟨x, r, rfl, h1, ho, hin⟩ := smI1_inv h
    have hc' : (decide ((offs.size : Int) = hi - lo + 1) && decide (0 ≤ (pc : Int) + df) && offs.toList.all (fun o => decide (0 ≤ (pc : Int) + o))) = true := hc
    simp only [Bool.and_eq_true, decide_eq_true_eq] at hc'
    obtain ⟨⟨c1, c2⟩, c3⟩ := hc'
    have hxi := smIR_toInt h1
    by_cases hout : x < lo ∨ hi < x
    · exact lv_tableOut hx hb hd (by rw [hxi]; exact hout) (by rw [Int.toNat_of_nonneg c2]) (hgo _ _ _ _ (ho hout) p l e s m args below meth c E H locs ls C hP hS hL (smOKs_t hst))
    · obtain ⟨of, g1, g2⟩ := smSw_at hin (by omega) (by rw [Array.length_toList]; omega)
      have g3 := of_decide_eq_true (List.all_eq_true.mp c3 of (List.mem_of_getElem? g1))
      exact lv_tableIn hx hb hd (by rw [hxi]; omega) (by rw [hxi]; omega) (by rw [hxi, ← Array.getElem?_toList]; exact g1) (by rw [Int.toNat_of_nonneg g3]) (hgo _ _ _ _ g2 p l e s m args below meth c E H locs ls C hP hS hL (smOKs_t hst))
  case lookupswitch df ps =>
    intro p l e s m args below meth c E H locs ls C hP hS hL hst
    obtain ⟨hx, hb, hml, hr, hlk, hown, hts, hKs, hE⟩ := id C
    obtain ⟨x, r, rfl, h1, ho⟩ := smI1_inv h
    have hc' : ((ps.toList.zip (ps.toList.drop 1)).all (fun (a, next) => a.1 < next.1) && decide (0 ≤ (pc : Int) + df) && ps.toList.all (fun o => decide (0 ≤ (pc : Int) + o.2))) = true := hc
    simp only [Bool.and_eq_true, decide_eq_true_eq] at hc'
    obtain ⟨⟨c1, c2⟩, c3⟩ := hc'
    have hxi := smIR_toInt h1
    exact lv_lookup hx hb hd c1 rfl (by rw [hxi, Int.toNat_of_nonneg (smLk_off c3 c2)]) (hgo _ _ _ _ (smLk_at ho) p l e s m args below meth c E H locs ls C hP hS hL (smOKs_t hst))
  case invokevirtual n => exact smVir_ok hk hd hc hgo h
  case invokestatic n => exact smSta_ok hk hd hc hgo h
  all_goals exact False.elim h
theorem smStep_ok {cut : List Nat} {k : Nat} {Post : Option smV → smM → Prop} (hk : k < 178) : ∀ (n pc : Nat) (L : List (Option smV)) (st : List smV) (mem : smM), smStep cut k Post n pc L st mem → smWp k pc L st mem Post
  | 0, pc, L, st, mem, h => h
  | n + 1, pc, L, st, mem, h => by
    simp only [smStep] at h
    cases hg : smGet (smTb k) pc with
    | none => rw [hg] at h; exact False.elim h
    | some e =>
      rw [hg] at h
      obtain ⟨h1, h2⟩ := smGet_inv hg
      have hok := smMd_ok hk
      have h3 := List.all_eq_true.mp hok.2.2.2.2.2.2.2.2 e h1
      obtain ⟨pc0, i, nx, a, b, z⟩ := e
      have h2' : pc0 = pc := h2
      subst h2'
      simp only [smChk, Bool.and_eq_true, decide_eq_true_eq] at h3
      obtain ⟨⟨⟨c1, c2⟩, c3⟩, c4⟩ := h3
      simp only [smOne] at h
      refine eq_true (smIns_ok hk c1 c2 c3 c4 ?_ h)
      intro pc' L' st' mem' hg'
      cases hc : cut.contains pc' with
      | true => rw [hc] at hg'; exact of_eq_true hg'
      | false => rw [hc] at hg'; exact of_eq_true (smStep_ok hk n pc' L' st' mem' hg')
theorem smEnt_eq : ∀ {as : List smV} {n : Nat} {k : List (Option smV) → Prop}, smEnt as n k → as.length ≤ n ∧ k (as.map some ++ List.replicate (n - as.length) none)
  | [], 0, k, h => ⟨Nat.le_refl _, h⟩
  | [], n + 1, k, h => by
    obtain ⟨h1, h2⟩ := smEnt_eq (as := []) (n := n) (k := fun r => k (none :: r)) h
    exact ⟨Nat.zero_le _, h2⟩
  | v :: r, n + 1, k, h => by
    obtain ⟨h1, h2⟩ := smEnt_eq (as := r) (n := n) (k := fun r' => k (some v :: r')) h
    refine ⟨by simpa using h1, ?_⟩
    simpa using h2
  | _ :: _, 0, _, h => False.elim h
theorem smGo {k : Nat} {args : List smV} {mem : smM} {Post : Option smV → smM → Prop} (cut : List Nat) (n : Nat) (hk : Nat.blt k 178 = true) (h : smEnt args (smMx k) (fun L => smStep cut k Post n 0 L [] mem)) : smRun k args mem Post := by
  have hk' : k < 178 := Nat.le_of_ble_eq_true hk
  obtain ⟨h1, h2⟩ := smEnt_eq h
  exact smRun_of hk' h1 (smStep_ok hk' n _ _ _ _ h2)
theorem smAt {k pc : Nat} {L : List (Option smV)} {st : List smV} {mem : smM} {Post : Option smV → smM → Prop} (cut : List Nat) (n : Nat) (hk : Nat.blt k 178 = true) (h : smStep cut k Post n pc L st mem) : smWp k pc L st mem Post := smStep_ok (Nat.le_of_ble_eq_true hk) n _ _ _ _ h
end
section
/-! pure words, and the leaves of the class and of the reference -/
theorem smIR_toI (x : Int32) : smIR x.toInt := ⟨Int32.le_toInt x, by have := Int32.toInt_lt x; omega⟩
theorem smIR_and (a b : Int) : smIR (smAnd a b) := smIR_toI _
theorem smIR_or (a b : Int) : smIR (smOr a b) := smIR_toI _
theorem smIR_xor (a b : Int) : smIR (smXor a b) := smIR_toI _
theorem smIR_shl (a b : Int) : smIR (smShl a b) := smIR_toI _
theorem smIR_shr (a b : Int) : smIR (smShr a b) := smIR_toI _
/-- finite things of whole numbers -/
theorem fin1 {P : Int → Prop} (n : Nat) (h : ∀ a : Nat, a < n → P (a : Int)) : ∀ a : Int, 0 ≤ a → a < n → P a := by
  intro a h0 h1
  obtain ⟨k, rfl⟩ := Int.eq_ofNat_of_zero_le h0
  exact h k (by omega)
theorem fin2 {P : Int → Int → Prop} (n m : Nat) (h : ∀ a : Nat, a < n → ∀ b : Nat, b < m → P (a : Int) (b : Int)) : ∀ a b : Int, 0 ≤ a → a < n → 0 ≤ b → b < m → P a b := by
  intro a b h0 h1 h2 h3
  obtain ⟨k, rfl⟩ := Int.eq_ofNat_of_zero_le h0
  obtain ⟨j, rfl⟩ := Int.eq_ofNat_of_zero_le h2
  exact h k (by omega) j (by omega)
def fNx (p w n : Int) : Int := if w = 0 then (if p + 1 < n then p + 1 else 0) else (if 0 < p then p - 1 else n - 1)
def fH (k r t : Int) : Int := if k < r - k then (if k < t then k else t) else (if r - k < t then r - k else t)
def fLow (h : Int) : Prop := h = 1 ∨ h = 2
abbrev bB (s k : Int) : Prop := smAnd (smShr s k) 1 = 1
theorem and1 (x : Int) : smAnd x 1 = 0 ∨ smAnd x 1 = 1 := by
  have h := pk_and (Int32.ofInt x) (m := 1) 1 (by decide)
  have h2 : Int32.ofInt 1 = 1 := rfl
  unfold smAnd
  rw [h2, h]
  rcases Nat.mod_two_eq_zero_or_one ((Int32.ofInt x).toBitVec.toNat) with q | q
  · left; rw [show (2 : Nat) ^ 1 = 2 from rfl, q]; rfl
  · right; rw [show (2 : Nat) ^ 1 = 2 from rfl, q]; rfl
theorem bB_n0 {s k : Int} (h : ¬ smAnd (smShr s k) 1 = 0) : bB s k := (and1 _).resolve_left h
theorem bB_0 {s k : Int} (h : smAnd (smShr s k) 1 = 0) : ¬ bB s k := fun h2 => by unfold bB at h2; omega
theorem or_lt32 : ∀ s q : Int, 0 ≤ s → s < (32 : Nat) → 0 ≤ q → q < (5 : Nat) → 0 ≤ smOr s (smShl 1 q) ∧ smOr s (smShl 1 q) < 32 := fin2 32 5 (by decide +kernel)
theorem clr_lt32 : ∀ s q : Int, 0 ≤ s → s < (32 : Nat) → 0 ≤ q → q < (5 : Nat) → 0 ≤ smAnd s (smXor (smShl 1 q) (-1)) ∧ smAnd s (smXor (smShl 1 q) (-1)) < 32 := fin2 32 5 (by decide +kernel)
theorem or_bB32 : ∀ s q : Int, 0 ≤ s → s < (32 : Nat) → 0 ≤ q → q < (5 : Nat) → ∀ j : Nat, j < 5 → (smAnd (smShr (smOr s (smShl 1 q)) (j : Int)) 1 = 1 ↔ smAnd (smShr s (j : Int)) 1 = 1 ∨ (j : Int) = q) := fin2 32 5 (by decide +kernel)
theorem clr_bB32 : ∀ s q : Int, 0 ≤ s → s < (32 : Nat) → 0 ≤ q → q < (5 : Nat) → ∀ j : Nat, j < 5 → (smAnd (smShr (smAnd s (smXor (smShl 1 q) (-1))) (j : Int)) 1 = 1 ↔ smAnd (smShr s (j : Int)) 1 = 1 ∧ ¬ (j : Int) = q) := fin2 32 5 (by decide +kernel)
theorem bB_00 : ∀ j : Int, 0 ≤ j → j < (5 : Nat) → ¬ smAnd (smShr 0 j) 1 = 1 := fin1 5 (by decide +kernel)
theorem or_lt64 : ∀ s q : Int, 0 ≤ s → s < (64 : Nat) → 0 ≤ q → q < (6 : Nat) → 0 ≤ smOr s (smShl 1 q) ∧ smOr s (smShl 1 q) < 64 := fin2 64 6 (by decide +kernel)
theorem clr_lt64 : ∀ s q : Int, 0 ≤ s → s < (64 : Nat) → 0 ≤ q → q < (6 : Nat) → 0 ≤ smAnd s (smXor (smShl 1 q) (-1)) ∧ smAnd s (smXor (smShl 1 q) (-1)) < 64 := fin2 64 6 (by decide +kernel)
theorem or_bB64 : ∀ s q : Int, 0 ≤ s → s < (64 : Nat) → 0 ≤ q → q < (6 : Nat) → ∀ j : Nat, j < 6 → (smAnd (smShr (smOr s (smShl 1 q)) (j : Int)) 1 = 1 ↔ smAnd (smShr s (j : Int)) 1 = 1 ∨ (j : Int) = q) := fin2 64 6 (by decide +kernel)
theorem clr_bB64 : ∀ s q : Int, 0 ≤ s → s < (64 : Nat) → 0 ≤ q → q < (6 : Nat) → ∀ j : Nat, j < 6 → (smAnd (smShr (smAnd s (smXor (smShl 1 q) (-1))) (j : Int)) 1 = 1 ↔ smAnd (smShr s (j : Int)) 1 = 1 ∧ ¬ (j : Int) = q) := fin2 64 6 (by decide +kernel)
theorem bB_006 : ∀ j : Int, 0 ≤ j → j < (6 : Nat) → ¬ smAnd (smShr 0 j) 1 = 1 := fin1 6 (by decide +kernel)
/-- how many bits, of the first nine -/
def fPc (s : Int) : Int := smAnd (smShr s 0) 1 + smAnd (smShr s 1) 1 + smAnd (smShr s 2) 1 + smAnd (smShr s 3) 1 + smAnd (smShr s 4) 1 + smAnd (smShr s 5) 1 + smAnd (smShr s 6) 1 + smAnd (smShr s 7) 1 + smAnd (smShr s 8) 1
abbrev oR (c : Nat) (o : Nat) : smV := .inr (.inl (.inl c, o))
abbrev iV (x : Int) : smV := .inl x
abbrev aR (n : Nat) (o : Nat) : smV := .inr (.inl (.inr (false, n), o))
end
section
section
variable {mem : smM} {Post : Option smV → smM → Prop}
theorem ru_within (x a b : Int) (hx : smIR x) (ha : smIR a) (hb : smIR b) (h1 : a ≤ x ∧ x ≤ b → Post (some (.inl 1)) mem) (h0 : x < a ∨ b < x → Post (some (.inl 0)) mem) : smRun 29 [.inl x, .inl a, .inl b] mem Post := by
  refine smGo [] 20 rfl ?_
  unfold smIR at hx ha hb
  repeat' first
    | refine And.intro ?_ ?_
    | intro _
    | exact h1 (by omega)
    | exact h0 (by omega)
  all_goals try omega
theorem ru_in (x a b : Int) (hx : smIR x) (ha : smIR a) (hb : smIR b) (h1 : a ≤ x ∧ x ≤ b → Post (some (.inl 1)) mem) (h0 : x < a ∨ b < x → Post (some (.inl 0)) mem) : smRun 115 [.inl x, .inl a, .inl b] mem Post := by
  refine smGo [] 20 rfl ?_
  unfold smIR at hx ha hb
  repeat' first
    | refine And.intro ?_ ?_
    | intro _
    | exact h1 (by omega)
    | exact h0 (by omega)
  all_goals try omega
theorem ru_isCatchable (x : Int) (hx : smIR x) (h1 : fLow x → Post (some (.inl 1)) mem) (h0 : ¬ fLow x → Post (some (.inl 0)) mem) : smRun 2 [.inl x] mem Post := by
  refine smGo [] 20 rfl ?_
  unfold smIR at hx
  unfold fLow at h1 h0
  repeat' first
    | refine And.intro ?_ ?_
    | intro _
    | exact h1 (by omega)
    | exact h0 (by omega)
  all_goals try omega
theorem ru_nextPlace (p w n : Int) (hp : 0 ≤ p ∧ p < 1000) (hw : w = 0 ∨ w = 1) (hn : 0 < n ∧ n < 1000) (h : Post (some (.inl (fNx p w n))) mem) : smRun 0 [.inl p, .inl w, .inl n] mem Post := by
  refine smGo [] 30 rfl ?_
  unfold fNx at h
  repeat' first
    | refine And.intro ?_ ?_
    | intro _
  all_goals try omega
  all_goals (first | (rw [if_pos (by omega), if_pos (by omega)] at h; exact h) | (rw [if_pos (by omega), if_neg (by omega)] at h; exact h) | (rw [if_neg (by omega), if_pos (by omega)] at h; exact h) | (rw [if_neg (by omega), if_neg (by omega)] at h; exact h))
theorem ru_step (p w : Int) (hp : 0 ≤ p ∧ p < mem 114 0) (hw : w = 0 ∨ w = 1) (hn : 0 < mem 114 0 ∧ mem 114 0 < 1000) (h : Post (some (.inl (fNx p w (mem 114 0)))) mem) : smRun 130 [oR 11 114, .inl p, .inl w] mem Post := by
  refine smGo [9999] 30 rfl ?_
  unfold fNx at h
  repeat' first
    | refine And.intro ?_ ?_
    | intro _
  all_goals try omega
  · have e : (p + (mem 114 0 - 1)).tmod (mem 114 0) = if 0 < p then p - 1 else mem 114 0 - 1 := by
      rw [Int.tmod_eq_emod_of_nonneg (by omega)]
      split
      · rw [show p + (mem 114 0 - 1) = (p - 1) + mem 114 0 by omega, Int.add_emod_right]
        exact Int.emod_eq_of_lt (by omega) (by omega)
      · rw [show p + (mem 114 0 - 1) = mem 114 0 - 1 by omega]
        exact Int.emod_eq_of_lt (by omega) (by omega)
    rw [if_neg (by omega), ← e] at h
    exact h
  · have e : (p + 1).tmod (mem 114 0) = if p + 1 < mem 114 0 then p + 1 else 0 := by
      rw [Int.tmod_eq_emod_of_nonneg (by omega)]
      split
      · exact Int.emod_eq_of_lt (by omega) (by omega)
      · rw [show p + 1 = mem 114 0 by omega, Int.emod_self]
    rw [if_pos (by omega), ← e] at h
    exact h
theorem ru_heightBehind (k r t : Int) (hk : -1000 ≤ k ∧ k < 1000) (hr : -1000 ≤ r ∧ r < 1000) (ht : -1000 ≤ t ∧ t < 1000) (h : Post (some (.inl (fH k r t))) mem) : smRun 1 [.inl k, .inl r, .inl t] mem Post := by
  have e : (if t < (if r - k < k then r - k else k) then t else (if r - k < k then r - k else k)) = fH k r t := by
    unfold fH
    repeat' split
    all_goals omega
  have b : -2000 ≤ (if r - k < k then r - k else k) ∧ (if r - k < k then r - k else k) < 1000 := by
    split <;> omega
  rw [← e] at h
  refine smGo [] 30 rfl ?_
  repeat' first
    | refine And.intro ?_ ?_
    | intro _
    | exact h
  all_goals try omega
theorem ru_heightOf (k r t : Int) (hk : -1000 ≤ k ∧ k < 1000) (hr : -1000 ≤ r ∧ r < 1000) (ht : -1000 ≤ t ∧ t < 1000) (h : Post (some (.inl (fH k r t))) mem) : smRun 131 [.inl k, .inl r, .inl t] mem Post := by
  refine smGo [] 30 rfl ?_
  unfold fH at h
  repeat' first
    | refine And.intro ?_ ?_
    | intro _
  all_goals try omega
  all_goals (first | (rw [if_pos (by omega), if_pos (by omega)] at h; exact h) | (rw [if_pos (by omega), if_neg (by omega)] at h; exact h) | (rw [if_neg (by omega), if_pos (by omega)] at h; exact h) | (rw [if_neg (by omega), if_neg (by omega)] at h; exact h))
theorem ru_has (s k : Int) (h1 : bB s k → Post (some (.inl 1)) mem) (h0 : ¬ bB s k → Post (some (.inl 0)) mem) : smRun 116 [.inl s, .inl k] mem Post := by
  refine smGo [] 30 rfl ?_
  repeat' first
    | refine And.intro ?_ ?_
    | intro _
    | exact (smIR_and _ _).1
    | exact (smIR_and _ _).2
    | exact h1 (by assumption)
    | exact h0 (by assumption)
  all_goals try omega
theorem ru_hasPerson (w : Nat) (x : Int) (hx : smIR x) (h1 : 0 ≤ x → x ≤ 4 → bB (mem w 4) x → Post (some (.inl 1)) mem) (h0 : ¬ (0 ≤ x ∧ x ≤ 4 ∧ bB (mem w 4) x) → Post (some (.inl 0)) mem) : smRun 47 [oR 9 w, .inl x] mem Post := by
  refine smGo [] 30 rfl ?_
  have ha := and1 (smShr (mem w 4) x)
  unfold smIR at hx
  repeat' first
    | refine And.intro ?_ ?_
    | intro _
    | refine ru_within _ _ _ ?_ ?_ ?_ ?_ ?_
    | exact (smIR_and _ _).1
    | exact (smIR_and _ _).2
    | exact h1 (by omega) (by omega) (by omega)
    | exact h0 (by omega)
  all_goals try omega
theorem ru_isThere (x : Int) (hx : smIR x) (h1 : 0 ≤ x → x ≤ 4 → bB (mem 114 2) x → Post (some (.inl 1)) mem) (h0 : ¬ (0 ≤ x ∧ x ≤ 4 ∧ bB (mem 114 2) x) → Post (some (.inl 0)) mem) : smRun 119 [oR 11 114, .inl x] mem Post := by
  refine smGo [9999] 30 rfl ?_
  unfold smIR at hx
  repeat' first
    | refine And.intro ?_ ?_
    | intro _
    | refine ru_in _ _ _ ?_ ?_ ?_ ?_ ?_
    | refine ru_has _ _ ?_ ?_
    | exact h1 (by omega) (by omega) (by assumption)
    | exact h0 (by omega)
  all_goals try omega
theorem ru_hasPlace (w : Nat) (x : Int) (hx : smIR x) (hn : 0 ≤ mem w 0 ∧ mem w 0 < 1000) (h1 : 0 ≤ x → x < mem w 0 → Post (some (.inl 1)) mem) (h0 : ¬ (0 ≤ x ∧ x < mem w 0) → Post (some (.inl 0)) mem) : smRun 66 [oR 9 w, .inl x] mem Post := by
  refine smGo [] 30 rfl ?_
  unfold smIR at hx
  repeat' first
    | refine And.intro ?_ ?_
    | intro _
    | refine ru_within _ _ _ ?_ ?_ ?_ ?_ ?_
    | exact h1 (by omega) (by omega)
    | exact h0 (by omega)
    | exact Or.inl rfl
    | exact Or.inr rfl
  all_goals try omega
theorem ru_isPlace (x : Int) (hx : smIR x) (hn : 0 ≤ mem 114 0 ∧ mem 114 0 < 1000) (h1 : 0 ≤ x → x < mem 114 0 → Post (some (.inl 1)) mem) (h0 : ¬ (0 ≤ x ∧ x < mem 114 0) → Post (some (.inl 0)) mem) : smRun 118 [oR 11 114, .inl x] mem Post := by
  refine smGo [9999] 30 rfl ?_
  unfold smIR at hx
  repeat' first
    | refine And.intro ?_ ?_
    | intro _
    | refine ru_in _ _ _ ?_ ?_ ?_ ?_ ?_
    | exact h1 (by omega) (by omega)
    | exact h0 (by omega)
    | exact Or.inl rfl
    | exact Or.inr rfl
  all_goals try omega
theorem ru_listedHas (x : Int) (hx : smIR x) (h1 : 0 ≤ x → x ≤ 5 → bB (mem 16 0) x → Post (some (.inl 1)) mem) (h0 : ¬ (0 ≤ x ∧ x ≤ 5 ∧ bB (mem 16 0) x) → Post (some (.inl 0)) mem) : smRun 30 [oR 8 16, .inl x] mem Post := by
  refine smGo [9999] 30 rfl ?_
  have ha := and1 (smShr (mem 16 0) x)
  unfold smIR at hx
  repeat' first
    | refine And.intro ?_ ?_
    | intro _
    | refine ru_within _ _ _ ?_ ?_ ?_ ?_ ?_
    | exact (smIR_and _ _).1
    | exact (smIR_and _ _).2
    | exact h1 (by omega) (by omega) (by omega)
    | exact h0 (by omega)
  all_goals try omega
theorem ru_isListed (x : Int) (hx : smIR x) (h1 : 0 ≤ x → x ≤ 5 → bB (mem 114 11) x → Post (some (.inl 1)) mem) (h0 : ¬ (0 ≤ x ∧ x ≤ 5 ∧ bB (mem 114 11) x) → Post (some (.inl 0)) mem) : smRun 157 [oR 11 114, .inl x] mem Post := by
  refine smGo [9999] 30 rfl ?_
  unfold smIR at hx
  repeat' first
    | refine And.intro ?_ ?_
    | intro _
    | refine ru_in _ _ _ ?_ ?_ ?_ ?_ ?_
    | refine ru_has _ _ ?_ ?_
    | exact h1 (by omega) (by omega) (by assumption)
    | exact h0 (by omega)
  all_goals try omega
def fThr (w r t : Int) : Prop := (0 ≤ w ∧ w ≤ 1) ∧ (1 ≤ r ∧ r ≤ 36) ∧ (1 ≤ t ∧ t ≤ 5)
theorem ru_isThrowC (w r t : Int) (hw : smIR w) (hr : smIR r) (ht : smIR t) (h1 : fThr w r t → Post (some (.inl 1)) mem) (h0 : ¬ fThr w r t → Post (some (.inl 0)) mem) : smRun 88 [.inl w, .inl r, .inl t] mem Post := by
  refine smGo [] 40 rfl ?_
  unfold smIR at hw hr ht
  unfold fThr at h1 h0
  repeat' first
    | refine And.intro ?_ ?_
    | intro _
    | refine ru_within _ _ _ ?_ ?_ ?_ ?_ ?_
    | exact h1 (by omega)
    | exact h0 (by omega)
  all_goals try omega
theorem ru_isThrowR (w r t : Int) (hw : smIR w) (hr : smIR r) (ht : smIR t) (h1 : fThr w r t → Post (some (.inl 1)) mem) (h0 : ¬ fThr w r t → Post (some (.inl 0)) mem) : smRun 149 [.inl w, .inl r, .inl t] mem Post := by
  refine smGo [] 40 rfl ?_
  unfold smIR at hw hr ht
  unfold fThr at h1 h0
  repeat' first
    | refine And.intro ?_ ?_
    | intro _
    | refine ru_in _ _ _ ?_ ?_ ?_ ?_ ?_
    | exact h1 (by omega)
    | exact h0 (by omega)
  all_goals try omega
/-- who of least number stands at a place, from q on -/
def fWhoN (th : Int) (at_ : Int → Int) (p : Int) : Nat → Int → Int
  | 0, _ => -6
  | n + 1, q => if bB th q ∧ at_ q = p then q else fWhoN th at_ p n (q + 1)
abbrev fWho (th : Int) (at_ : Int → Int) (p : Int) : Int := fWhoN th at_ p 5 0
theorem fWhoN_in (th : Int) (at_ : Int → Int) (p : Int) : ∀ (n : Nat) (q : Int), fWhoN th at_ p n q = -6 ∨ (q ≤ fWhoN th at_ p n q ∧ fWhoN th at_ p n q < q + n)
  | 0, q => Or.inl rfl
  | n + 1, q => by
    simp only [fWhoN]
    split
    · right; omega
    · rcases fWhoN_in th at_ p n (q + 1) with h | h
      · left; exact h
      · right; omega
theorem fWhoN_sp (th : Int) (at_ : Int → Int) (p : Int) : ∀ (n : Nat) (q : Int), fWhoN th at_ p n q = -6 ∨ (bB th (fWhoN th at_ p n q) ∧ at_ (fWhoN th at_ p n q) = p)
  | 0, q => Or.inl rfl
  | n + 1, q => by
    simp only [fWhoN]
    split
    · next h => right; exact h
    · exact fWhoN_sp th at_ p n (q + 1)
theorem ru_leastAt (w a : Nat) (ha : w + 4 = a) (p : Int) (hp : smIR p) (hat : ∀ q, 0 ≤ q → q < 5 → smIR (mem a q)) (h : Post (some (.inl (fWho (mem w 4) (mem a) p))) mem) : smRun 48 [oR 9 w, .inl p] mem Post := by
  have loop : ∀ (n : Nat) (q : Int), q = 5 - (n : Int) → n ≤ 5 → Post (some (.inl (fWhoN (mem w 4) (mem a) p n q))) mem → smWp 48 2 [some (oR 9 w), some (.inl p), some (.inl q)] [] mem Post := by
    subst ha
    intro n
    induction n with
    | zero =>
      intro q hq _ hpo
      refine smAt [2] 30 rfl ?_
      repeat' first
        | refine And.intro ?_ ?_
        | intro _
        | exact hpo
      all_goals try omega
    | succ n ih =>
      intro q hq hn hpo
      have hr := hat q (by omega) (by omega)
      unfold smIR at hr hp
      refine smAt [2] 30 rfl ?_
      simp only [fWhoN] at hpo
      repeat' first
        | refine And.intro ?_ ?_
        | intro _
        | refine ru_hasPerson _ _ ?_ ?_ ?_
      all_goals try omega
      · refine ih _ (by omega) (by omega) ?_
        rw [if_neg (fun z => by omega)] at hpo
        exact hpo
      · rw [if_pos ⟨by assumption, by assumption⟩] at hpo
        exact hpo
      · refine ih _ (by omega) (by omega) ?_
        rw [if_neg (fun z => by omega)] at hpo
        exact hpo
  refine smGo [2] 30 rfl ?_
  exact loop 5 0 (by omega) (by omega) h
theorem ru_standsAt (p : Int) (hp : smIR p) (hat : ∀ q, 0 ≤ q → q < 5 → smIR (mem 117 q)) (h : Post (some (.inl (fWho (mem 114 2) (mem 117) p))) mem) : smRun 147 [oR 11 114, .inl p] mem Post := by
  have loop : ∀ (n : Nat), n ≤ 5 → smWp 147 5 [some (oR 11 114), some (.inl p), some (.inl (fWhoN (mem 114 2) (mem 117) p (5 - n) n)), some (.inl ((n : Int) - 1))] [] mem Post := by
    intro n
    induction n with
    | zero =>
      intro _
      refine smAt [5, 9999] 30 rfl ?_
      repeat' first
        | refine And.intro ?_ ?_
        | intro _
        | exact h
      all_goals try omega
    | succ n ih =>
      intro hn
      have hr := hat n (by omega) (by omega)
      unfold smIR at hr hp
      have e : fWhoN (mem 114 2) (mem 117) p (5 - n) n = if bB (mem 114 2) n ∧ mem 117 n = p then (n : Int) else fWhoN (mem 114 2) (mem 117) p (5 - (n + 1)) ((n : Int) + 1) := by
        rw [show 5 - n = (5 - (n + 1)) + 1 by omega]
        rfl
      have ih := ih (by omega)
      rw [e] at ih
      refine smAt [5, 9999] 40 rfl ?_
      rw [show ((n + 1 : Nat) : Int) - 1 = (n : Int) by omega, show ((n + 1 : Nat) : Int) = (n : Int) + 1 by omega]
      repeat' first
        | refine And.intro ?_ ?_
        | intro _
        | refine ru_has _ _ ?_ ?_
      all_goals try omega
      · rw [if_neg (fun z => by omega)] at ih
        exact ih
      · rw [if_pos ⟨by assumption, by assumption⟩] at ih
        exact ih
      · rw [if_neg (fun z => by omega)] at ih
        exact ih
  refine smGo [5, 9999] 30 rfl ?_
  exact loop 5 (by omega)
theorem ru_firstAt (p : Int) (hp : smIR p) (hat : ∀ q, 0 ≤ q → q < 5 → smIR (mem 126 q)) (h : Post (some (.inl (fWho (mem 114 2) (mem 126) p))) mem) : smRun 133 [oR 11 114, .inl p] mem Post := by
  have loop : ∀ (n : Nat), n ≤ 5 → smWp 133 5 [some (oR 11 114), some (.inl p), some (.inl (fWhoN (mem 114 2) (mem 126) p (5 - n) n)), some (.inl ((n : Int) - 1))] [] mem Post := by
    intro n
    induction n with
    | zero =>
      intro _
      refine smAt [5, 9999] 30 rfl ?_
      repeat' first
        | refine And.intro ?_ ?_
        | intro _
        | exact h
      all_goals try omega
    | succ n ih =>
      intro hn
      have hr := hat n (by omega) (by omega)
      unfold smIR at hr hp
      have e : fWhoN (mem 114 2) (mem 126) p (5 - n) n = if bB (mem 114 2) n ∧ mem 126 n = p then (n : Int) else fWhoN (mem 114 2) (mem 126) p (5 - (n + 1)) ((n : Int) + 1) := by
        rw [show 5 - n = (5 - (n + 1)) + 1 by omega]
        rfl
      have ih := ih (by omega)
      rw [e] at ih
      refine smAt [5, 9999] 40 rfl ?_
      rw [show ((n + 1 : Nat) : Int) - 1 = (n : Int) by omega, show ((n + 1 : Nat) : Int) = (n : Int) + 1 by omega]
      repeat' first
        | refine And.intro ?_ ?_
        | intro _
        | refine ru_has _ _ ?_ ?_
      all_goals try omega
      · rw [if_neg (fun z => by omega)] at ih
        exact ih
      · rw [if_pos ⟨by assumption, by assumption⟩] at ih
        exact ih
      · rw [if_neg (fun z => by omega)] at ih
        exact ih
  refine smGo [5, 9999] 30 rfl ?_
  exact loop 5 (by omega)
theorem ru_bits (s : Int) (h : Post (some (.inl (fPc s))) mem) : smRun 117 [.inl s] mem Post := by
  refine smGo [] 200 rfl ?_
  unfold fPc at h
  rw [← Int.zero_add (smAnd (smShr s 0) 1)] at h
  repeat' first
    | refine And.intro ?_ ?_
    | intro _
    | exact h
  all_goals try omega
theorem fPc_bc : ∀ s : Int, 0 ≤ s → s < (512 : Nat) → smAnd ((smAnd ((smAnd (s - smAnd (smUsh s 1) 1431655765) 858993459 + smAnd (smUsh (s - smAnd (smUsh s 1) 1431655765) 2) 858993459) + smUsh (smAnd (s - smAnd (smUsh s 1) 1431655765) 858993459 + smAnd (smUsh (s - smAnd (smUsh s 1) 1431655765) 2) 858993459) 4) 252645135 + smUsh (smAnd ((smAnd (s - smAnd (smUsh s 1) 1431655765) 858993459 + smAnd (smUsh (s - smAnd (smUsh s 1) 1431655765) 2) 858993459) + smUsh (smAnd (s - smAnd (smUsh s 1) 1431655765) 858993459 + smAnd (smUsh (s - smAnd (smUsh s 1) 1431655765) 2) 858993459) 4) 252645135) 8) + smUsh (smAnd ((smAnd (s - smAnd (smUsh s 1) 1431655765) 858993459 + smAnd (smUsh (s - smAnd (smUsh s 1) 1431655765) 2) 858993459) + smUsh (smAnd (s - smAnd (smUsh s 1) 1431655765) 858993459 + smAnd (smUsh (s - smAnd (smUsh s 1) 1431655765) 2) 858993459) 4) 252645135 + smUsh (smAnd ((smAnd (s - smAnd (smUsh s 1) 1431655765) 858993459 + smAnd (smUsh (s - smAnd (smUsh s 1) 1431655765) 2) 858993459) + smUsh (smAnd (s - smAnd (smUsh s 1) 1431655765) 858993459 + smAnd (smUsh (s - smAnd (smUsh s 1) 1431655765) 2) 858993459) 4) 252645135) 8) 16) 63 = fPc s := fin1 512 (by decide +kernel)
theorem ru_bitCount (s : Int) (hs : 0 ≤ s ∧ s < 512) (h : Post (some (.inl (fPc s))) mem) : smRun 32 [.inl s] mem Post := by
  refine smGo [] 60 rfl ?_
  rw [← fPc_bc s hs.1 (by omega)] at h
  exact h
end
end
section
/-! what a state is: S, by fields; the class's cells, the reference's cells, the images, the pad -/
abbrev sS : Type := Nat → Int → Int
def wV (P T N : Int) (h g l a r d c : Int → Int) (ap aw ar tt aa : Int → Int) (S : sS) : Prop :=
  P = S 0 0 ∧ T = S 4 0 ∧ N = S 9 0 ∧ (∀ p, 0 ≤ p → p < 9 → h p = S 1 p ∧ g p = S 2 p ∧ l p = S 3 p) ∧ (∀ q, 0 ≤ q → q < 5 → a q = S 5 q ∧ r q = S 6 q ∧ d q = S 7 q ∧ c q = S 8 q) ∧ (∀ i, 0 ≤ i → i < S 9 0 → ap i = S 10 i ∧ aw i = S 11 i ∧ ar i = S 12 i ∧ tt i = S 13 i ∧ aa i = S 14 i)
def tV (B : Int) (a e f w r t : Int → Int) (S : sS) : Prop := B = S 15 0 ∧ ∀ i, 0 ≤ i → i < 6 → a i = S 16 i ∧ e i = S 17 i ∧ f i = S 18 i ∧ w i = S 19 i ∧ r i = S 20 i ∧ t i = S 21 i
def sV (C : Int) (m p h : Int → Int) (S : sS) : Prop := C = S 22 0 ∧ ∀ i, 0 ≤ i → i < 6 → m i = S 23 i ∧ p i = S 24 i ∧ h i = S 25 i
/-- the class's worlds and images -/
def wC (mem : smM) (S : sS) : Prop := wV (mem 2 0) (mem 2 4) (mem 10 0) (mem 3) (mem 4) (mem 5) (mem 6) (mem 7) (mem 8) (mem 9) (mem 11) (mem 12) (mem 13) (mem 14) (mem 15) S
def wT (mem : smM) (S : sS) : Prop := wV (mem 79 0) (mem 79 4) (mem 87 0) (mem 80) (mem 81) (mem 82) (mem 83) (mem 84) (mem 85) (mem 86) (mem 88) (mem 89) (mem 90) (mem 91) (mem 92) S
def kC (mem : smM) (S : sS) : Prop := wC mem S ∧ tV (mem 16 0) (mem 17) (mem 18) (mem 19) (mem 20) (mem 21) (mem 22) S ∧ sV (mem 23 0) (mem 24) (mem 25) (mem 26) S
def kI (mem : smM) (S : sS) : Prop := wV (mem 28 0) (mem 28 4) (mem 36 0) (mem 29) (mem 30) (mem 31) (mem 32) (mem 33) (mem 34) (mem 35) (mem 37) (mem 38) (mem 39) (mem 40) (mem 41) S ∧ tV (mem 42 0) (mem 43) (mem 44) (mem 45) (mem 46) (mem 47) (mem 48) S ∧ sV (mem 49 0) (mem 50) (mem 51) (mem 52) S
def kJ (mem : smM) (S : sS) : Prop := wV (mem 54 0) (mem 54 4) (mem 62 0) (mem 55) (mem 56) (mem 57) (mem 58) (mem 59) (mem 60) (mem 61) (mem 63) (mem 64) (mem 65) (mem 66) (mem 67) S ∧ tV (mem 68 0) (mem 69) (mem 70) (mem 71) (mem 72) (mem 73) (mem 74) S ∧ sV (mem 75 0) (mem 76) (mem 77) (mem 78) S
/-- the reference's: as it is, as it is now in a day, its images -/
def wR (mem : smM) (S : sS) : Prop := wV (mem 114 0) (mem 114 2) (mem 114 9) (mem 115) (mem 120) (mem 121) (mem 117) (mem 116) (mem 118) (mem 119) (fun i => mem 122 (5 * i)) (fun i => mem 122 (5 * i + 1)) (fun i => mem 122 (5 * i + 2)) (fun i => mem 122 (5 * i + 3)) (fun i => mem 122 (5 * i + 4)) S
def wN (mem : smM) (S : sS) : Prop := wV (mem 114 0) (mem 114 2) (mem 114 22) (mem 115) (mem 129) (mem 130) (mem 126) (mem 116) (mem 127) (mem 128) (fun i => mem 131 (5 * i)) (fun i => mem 131 (5 * i + 1)) (fun i => mem 131 (5 * i + 2)) (fun i => mem 131 (5 * i + 3)) (fun i => mem 131 (5 * i + 4)) S
def rC (mem : smM) (S : sS) : Prop := wR mem S ∧ tV (mem 114 11) (fun i => mem 123 (6 * i + 4)) (fun i => mem 123 (6 * i + 5)) (fun i => mem 123 (6 * i)) (fun i => mem 123 (6 * i + 1)) (fun i => mem 123 (6 * i + 2)) (fun i => mem 123 (6 * i + 3)) S ∧ sV (mem 114 13) (fun i => mem 124 (3 * i)) (fun i => mem 124 (3 * i + 1)) (fun i => mem 124 (3 * i + 2)) S
def rI (mem : smM) (b : Int) (S : sS) : Prop := wV (mem 134 (b + 170)) (mem 134 (b + 171)) (mem 134 (b + 172)) (fun i => mem 134 (b + i)) (fun i => mem 134 (b + 10 + i)) (fun i => mem 134 (b + 20 + i)) (fun i => mem 134 (b + 35 + i)) (fun i => mem 134 (b + 30 + i)) (fun i => mem 134 (b + 40 + i)) (fun i => mem 134 (b + 45 + i)) (fun i => mem 134 (b + 50 + 5 * i)) (fun i => mem 134 (b + 50 + (5 * i + 1))) (fun i => mem 134 (b + 50 + (5 * i + 2))) (fun i => mem 134 (b + 50 + (5 * i + 3))) (fun i => mem 134 (b + 50 + (5 * i + 4))) S
  ∧ tV (mem 134 (b + 173)) (fun i => mem 134 (b + 110 + (6 * i + 4))) (fun i => mem 134 (b + 110 + (6 * i + 5))) (fun i => mem 134 (b + 110 + 6 * i)) (fun i => mem 134 (b + 110 + (6 * i + 1))) (fun i => mem 134 (b + 110 + (6 * i + 2))) (fun i => mem 134 (b + 110 + (6 * i + 3))) S
  ∧ sV (mem 134 (b + 174)) (fun i => mem 134 (b + 150 + 3 * i)) (fun i => mem 134 (b + 150 + (3 * i + 1))) (fun i => mem 134 (b + 150 + (3 * i + 2))) S
/-- in what ranges all is -/
def okW (N : Int) (S : sS) : Prop := (4 ≤ S 0 0 ∧ S 0 0 ≤ 9) ∧ (0 ≤ S 4 0 ∧ S 4 0 < 32) ∧ (0 ≤ S 9 0 ∧ S 9 0 ≤ 12) ∧ (∀ p, 0 ≤ p → p < 9 → (0 ≤ S 1 p ∧ S 1 p ≤ 5) ∧ (0 ≤ S 2 p ∧ S 2 p ≤ N) ∧ (0 ≤ S 3 p ∧ S 3 p ≤ N))
  ∧ (∀ q, 0 ≤ q → q < 5 → (0 ≤ S 5 q ∧ S 5 q < 9) ∧ (0 ≤ S 6 q ∧ S 6 q ≤ 36) ∧ (0 ≤ S 7 q ∧ S 7 q ≤ N) ∧ (0 ≤ S 8 q ∧ S 8 q ≤ N) ∧ (bB (S 4 0) q → S 5 q < S 0 0 ∧ 1 ≤ S 6 q))
  ∧ (∀ i, 0 ≤ i → i < S 9 0 → (0 ≤ S 10 i ∧ S 10 i < S 0 0) ∧ (S 11 i = 0 ∨ S 11 i = 1) ∧ (1 ≤ S 12 i ∧ S 12 i ≤ 36) ∧ (1 ≤ S 13 i ∧ S 13 i ≤ 5) ∧ (0 ≤ S 14 i ∧ S 14 i < S 12 i))
def okT (S : sS) : Prop := (0 ≤ S 15 0 ∧ S 15 0 < 64) ∧ ∀ i, 0 ≤ i → i < 6 → (0 ≤ S 16 i ∧ S 16 i ≤ 99) ∧ (0 ≤ S 17 i ∧ S 17 i ≤ 20) ∧ (0 ≤ S 18 i ∧ S 18 i < 9) ∧ (S 19 i = 0 ∨ S 19 i = 1) ∧ (0 ≤ S 20 i ∧ S 20 i ≤ 36) ∧ (0 ≤ S 21 i ∧ S 21 i ≤ 5) ∧ (bB (S 15 0) i → S 18 i < S 0 0 ∧ 1 ≤ S 20 i ∧ 1 ≤ S 21 i)
def okS (S : sS) : Prop := (0 ≤ S 22 0 ∧ S 22 0 ≤ 6) ∧ ∀ i, 0 ≤ i → i < 6 → (0 ≤ S 23 i ∧ S 23 i ≤ 36) ∧ (0 ≤ S 24 i ∧ S 24 i < 9) ∧ (0 ≤ S 25 i ∧ S 25 i ≤ 5)
def ok (N : Int) (S : sS) : Prop := (9 ≤ N ∧ N ≤ 1000000) ∧ okW N S ∧ okT S ∧ okS S
/-- the pad -/
def padC (mem : smM) (n : Int) (d : Int → Int) : Prop := mem 93 0 = n ∧ ∀ i, 0 ≤ i → i < n → mem 94 i = d i
def padR (mem : smM) (n : Int) (d : Int → Int) : Prop := mem 114 15 = n ∧ ∀ i, 0 ≤ i → i < n → mem 125 i = d i
def okP (n : Int) (d : Int → Int) : Prop := (0 ≤ n ∧ n ≤ 60) ∧ ∀ i, 0 ≤ i → i < n → 33 ≤ d i ∧ d i ≤ 126
/-- what stays: the class's state (images and pad, too) and all of the reference's -/
def keepC (mem mem' : smM) : Prop := (∀ k i, k < 79 ∨ k = 94 ∨ 114 ≤ k → mem' k i = mem k i) ∧ mem' 93 0 = mem 93 0
def keepR (mem mem' : smM) : Prop := (∀ k i, k < 114 ∨ (115 ≤ k ∧ k ≤ 125) ∨ 134 ≤ k → mem' k i = mem k i) ∧ ∀ j, j = 0 ∨ j = 2 ∨ j = 9 ∨ j = 11 ∨ j = 13 ∨ j = 15 → mem' 114 j = mem 114 j
theorem keepC_rf (mem : smM) : keepC mem mem := ⟨fun _ _ _ => rfl, rfl⟩
theorem keepR_rf (mem : smM) : keepR mem mem := ⟨fun _ _ _ => rfl, fun _ _ => rfl⟩
theorem keepC_tr {a b c : smM} (h1 : keepC a b) (h2 : keepC b c) : keepC a c := ⟨fun k i h => (h2.1 k i h).trans (h1.1 k i h), h2.2.trans h1.2⟩
theorem keepR_tr {a b c : smM} (h1 : keepR a b) (h2 : keepR b c) : keepR a c := ⟨fun k i h => (h2.1 k i h).trans (h1.1 k i h), fun j h => (h2.2 j h).trans (h1.2 j h)⟩
/-- the whole of it -/
def jO (N : Int) (mem : smM) (S S1 S2 : sS) (n : Int) (d : Int → Int) : Prop :=
  ok N S ∧ kC mem S ∧ rC mem S ∧ okP n d ∧ padC mem n d ∧ padR mem n d ∧ (mem 27 3 = mem 135 0 ∧ (mem 27 3 = 0 ∨ mem 27 3 = 1)) ∧ (mem 53 3 = mem 135 1 ∧ (mem 53 3 = 0 ∨ mem 53 3 = 1)) ∧ (mem 27 3 = 1 → ok N S1 ∧ kI mem S1 ∧ rI mem 0 S1) ∧ (mem 53 3 = 1 → ok N S2 ∧ kJ mem S2 ∧ rI mem 220 S2)
def jI (N : Int) (mem : smM) : Prop := ∃ S S1 S2 n d, jO N mem S S1 S2 n d
/-- cells of the class alone, of the reference alone, have changed -/
def eqR (mem mem' : smM) : Prop := ∀ k i, 114 ≤ k → mem' k i = mem k i
def eqC (mem mem' : smM) : Prop := ∀ k i, k < 114 → mem' k i = mem k i
theorem kC_of {mem mem' : smM} {S : sS} (e : ∀ j i, j < 27 → mem' j i = mem j i) (h : kC mem S) : kC mem' S := by
  unfold kC wC wV tV sV at *
  simp only [e 2 _ (by decide), e 3 _ (by decide), e 4 _ (by decide), e 5 _ (by decide), e 6 _ (by decide), e 7 _ (by decide), e 8 _ (by decide), e 9 _ (by decide), e 10 _ (by decide), e 11 _ (by decide), e 12 _ (by decide), e 13 _ (by decide), e 14 _ (by decide), e 15 _ (by decide), e 16 _ (by decide), e 17 _ (by decide), e 18 _ (by decide), e 19 _ (by decide), e 20 _ (by decide), e 21 _ (by decide), e 22 _ (by decide), e 23 _ (by decide), e 24 _ (by decide), e 25 _ (by decide), e 26 _ (by decide)]
  exact h
theorem kI_of {mem mem' : smM} {S : sS} (e : ∀ j i, j < 79 → mem' j i = mem j i) (h : kI mem S) : kI mem' S := by
  unfold kI wV tV sV at *
  simp only [e 28 _ (by decide), e 29 _ (by decide), e 30 _ (by decide), e 31 _ (by decide), e 32 _ (by decide), e 33 _ (by decide), e 34 _ (by decide), e 35 _ (by decide), e 36 _ (by decide), e 37 _ (by decide), e 38 _ (by decide), e 39 _ (by decide), e 40 _ (by decide), e 41 _ (by decide), e 42 _ (by decide), e 43 _ (by decide), e 44 _ (by decide), e 45 _ (by decide), e 46 _ (by decide), e 47 _ (by decide), e 48 _ (by decide), e 49 _ (by decide), e 50 _ (by decide), e 51 _ (by decide), e 52 _ (by decide)]
  exact h
theorem kJ_of {mem mem' : smM} {S : sS} (e : ∀ j i, j < 79 → mem' j i = mem j i) (h : kJ mem S) : kJ mem' S := by
  unfold kJ wV tV sV at *
  simp only [e 54 _ (by decide), e 55 _ (by decide), e 56 _ (by decide), e 57 _ (by decide), e 58 _ (by decide), e 59 _ (by decide), e 60 _ (by decide), e 61 _ (by decide), e 62 _ (by decide), e 63 _ (by decide), e 64 _ (by decide), e 65 _ (by decide), e 66 _ (by decide), e 67 _ (by decide), e 68 _ (by decide), e 69 _ (by decide), e 70 _ (by decide), e 71 _ (by decide), e 72 _ (by decide), e 73 _ (by decide), e 74 _ (by decide), e 75 _ (by decide), e 76 _ (by decide), e 77 _ (by decide), e 78 _ (by decide)]
  exact h
theorem rC_of {mem mem' : smM} {S : sS} (e : ∀ j i, 115 ≤ j ∧ j ≤ 124 → mem' j i = mem j i) (e2 : ∀ j, j = 0 ∨ j = 2 ∨ j = 9 ∨ j = 11 ∨ j = 13 → mem' 114 j = mem 114 j) (h : rC mem S) : rC mem' S := by
  unfold rC wR wV tV sV at *
  simp only [e 115 _ (by decide), e 116 _ (by decide), e 117 _ (by decide), e 118 _ (by decide), e 119 _ (by decide), e 120 _ (by decide), e 121 _ (by decide), e 122 _ (by decide), e 123 _ (by decide), e 124 _ (by decide), e2 0 (by decide), e2 2 (by decide), e2 9 (by decide), e2 11 (by decide), e2 13 (by decide)]
  exact h
theorem rI_of {mem mem' : smM} {S : sS} {b : Int} (e : ∀ i, mem' 134 i = mem 134 i) (h : rI mem b S) : rI mem' b S := by
  unfold rI wV tV sV at *
  simp only [e]
  exact h
theorem kC_keep {mem mem' : smM} {S : sS} (k : keepC mem mem') (h : kC mem S) : kC mem' S := kC_of (fun j i hj => k.1 j i (by omega)) h
theorem rC_keep {mem mem' : smM} {S : sS} (k : keepR mem mem') (h : rC mem S) : rC mem' S := rC_of (fun j i hj => k.1 j i (by omega)) (fun j hj => k.2 j (by omega)) h
theorem rC_eqR {mem mem' : smM} {S : sS} (k : eqR mem mem') (h : rC mem S) : rC mem' S := rC_of (fun j i hj => k j i (by omega)) (fun j hj => k 114 j (by omega)) h
theorem kC_eqC {mem mem' : smM} {S : sS} (k : eqC mem mem') (h : kC mem S) : kC mem' S := kC_of (fun j i hj => k j i (by omega)) h
theorem keepC_eqR {mem mem' : smM} (k : keepC mem mem') : eqR mem mem' := fun j i hj => k.1 j i (by omega)
theorem ok_mono {N M : Int} {S : sS} (hM : N ≤ M ∧ M ≤ 1000000) (h : ok N S) : ok M S := by
  unfold ok okW at *
  obtain ⟨h1, ⟨a1, a2, a3, a4, a5, a6⟩, h3, h4⟩ := h
  refine ⟨by omega, ⟨a1, a2, a3, fun p x y => ?_, fun q x y => ?_, a6⟩, h3, h4⟩
  · have := a4 p x y; omega
  · obtain ⟨b1, b2, b3, b4, b5⟩ := a5 q x y
    exact ⟨b1, b2, by omega, by omega, b5⟩
/-- a state anew, images and pad as they were -/
theorem jO_put {N M : Int} {mem mem' : smM} {S S' S1 S2 : sS} {n : Int} {d : Int → Int} (h : jO N mem S S1 S2 n d) (hM : N ≤ M ∧ M ≤ 1000000) (h1 : ok M S') (h2 : kC mem' S') (h3 : rC mem' S') (e : ∀ k i, (27 ≤ k ∧ k < 79) ∨ k = 94 ∨ k = 125 ∨ 134 ≤ k → mem' k i = mem k i) (e2 : mem' 93 0 = mem 93 0) (e3 : mem' 114 15 = mem 114 15) : jO M mem' S' S1 S2 n d := by
  obtain ⟨a1, a2, a3, a4, a5, a6, a7, a8, a9, a10⟩ := h
  have kIe : ∀ {T : sS}, kI mem T → kI mem' T := by
    intro T hT
    unfold kI wV tV sV at *
    simp only [e 28 _ (by omega), e 29 _ (by omega), e 30 _ (by omega), e 31 _ (by omega), e 32 _ (by omega), e 33 _ (by omega), e 34 _ (by omega), e 35 _ (by omega), e 36 _ (by omega), e 37 _ (by omega), e 38 _ (by omega), e 39 _ (by omega), e 40 _ (by omega), e 41 _ (by omega), e 42 _ (by omega), e 43 _ (by omega), e 44 _ (by omega), e 45 _ (by omega), e 46 _ (by omega), e 47 _ (by omega), e 48 _ (by omega), e 49 _ (by omega), e 50 _ (by omega), e 51 _ (by omega), e 52 _ (by omega)]
    exact hT
  have kJe : ∀ {T : sS}, kJ mem T → kJ mem' T := by
    intro T hT
    unfold kJ wV tV sV at *
    simp only [e 54 _ (by omega), e 55 _ (by omega), e 56 _ (by omega), e 57 _ (by omega), e 58 _ (by omega), e 59 _ (by omega), e 60 _ (by omega), e 61 _ (by omega), e 62 _ (by omega), e 63 _ (by omega), e 64 _ (by omega), e 65 _ (by omega), e 66 _ (by omega), e 67 _ (by omega), e 68 _ (by omega), e 69 _ (by omega), e 70 _ (by omega), e 71 _ (by omega), e 72 _ (by omega), e 73 _ (by omega), e 74 _ (by omega), e 75 _ (by omega), e 76 _ (by omega), e 77 _ (by omega), e 78 _ (by omega)]
    exact hT
  refine ⟨h1, h2, h3, a4, ⟨by rw [e2]; exact a5.1, fun i x y => by rw [e 94 i (by omega)]; exact a5.2 i x y⟩, ⟨by rw [e3]; exact a6.1, fun i x y => by rw [e 125 i (by omega)]; exact a6.2 i x y⟩, ?_, ?_, ?_, ?_⟩
  · rw [e 27 3 (by omega), e 135 0 (by omega)]; exact a7
  · rw [e 53 3 (by omega), e 135 1 (by omega)]; exact a8
  · rw [e 27 3 (by omega)]
    intro z
    obtain ⟨b1, b2, b3⟩ := a9 z
    exact ⟨ok_mono hM b1, kIe b2, rI_of (fun i => e 134 i (by omega)) b3⟩
  · rw [e 53 3 (by omega)]
    intro z
    obtain ⟨b1, b2, b3⟩ := a10 z
    exact ⟨ok_mono hM b1, kJe b2, rI_of (fun i => e 134 i (by omega)) b3⟩
/-- nothing that counts has changed -/
theorem jO_keep {N M : Int} {mem m1 m2 : smM} {S S1 S2 : sS} {n : Int} {d : Int → Int} (h : jO N mem S S1 S2 n d) (hM : N ≤ M ∧ M ≤ 1000000) (c : keepC mem m1) (r : keepR m1 m2) : jO M m2 S S1 S2 n d := by
  refine jO_put h hM (ok_mono hM h.1) (kC_of (fun j i hj => (r.1 j i (by omega)).trans (c.1 j i (by omega))) h.2.1) (rC_keep r (rC_eqR (keepC_eqR c) h.2.2.1)) (fun k i hk => (r.1 k i (by omega)).trans (c.1 k i (by omega))) ((r.1 93 0 (by omega)).trans c.2) ((r.2 15 (by omega)).trans (c.1 114 15 (by omega)))
/-- the two answers are one number -/
def agr (v v' : Option smV) : Prop := ∃ x : Int, v = some (.inl x) ∧ v' = some (.inl x)
theorem agr_rf (x : Int) : agr (some (.inl x)) (some (.inl x)) := ⟨x, rfl, rfl⟩
theorem smU_s {m : smM} {k : Nat} {j v : Int} : smU m k j v k j = v := by simp [smU]
theorem smU_d {m : smM} {k : Nat} {j v j' : Int} (h : j' ≠ j) : smU m k j v k j' = m k j' := by simp [smU, h]
end
section
section
variable {mem : smM} {Post : Option smV → smM → Prop} {N : Int} {S : sS}
theorem pC_hedge (p v : Int) (hp : smIR p) (hv : smIR v) (hk : kC mem S) (ho : ok N S) (h0 : ¬ (0 ≤ p ∧ p < S 0 0) → Post (some (.inl (-1))) mem) (h1 : 0 ≤ p → p < S 0 0 → ¬ (0 ≤ v ∧ v ≤ 5) → Post (some (.inl (-2))) mem) (h2 : 0 ≤ p → p < S 0 0 → 0 ≤ v → v ≤ 5 → Post (some (.inl (S 1 p))) (smU mem 3 p v)) : smRun 74 [oR 10 0, .inl p, .inl v] mem Post := by
  obtain ⟨⟨kP, kT, kN, kp, kq, ki⟩, ⟨kB, kb⟩, ⟨kS, ks⟩⟩ := id hk
  obtain ⟨oN, ⟨oP, oT, oA, op, oq, oi⟩, ⟨oB, ob⟩, ⟨oS, os⟩⟩ := id ho
  refine smGo [9999] 60 rfl ?_
  repeat' first
    | refine And.intro ?_ ?_
    | intro _
    | refine ru_hasPlace 2 _ hp ?_ ?_ ?_
    | refine ru_within _ _ _ hv ?_ ?_ ?_ ?_
    | exact h0 (by omega)
    | exact h1 (by omega) (by omega) (by omega)
  all_goals try omega
  · rw [(kp p (by omega) (by omega)).1]
    exact h2 (by omega) (by omega) (by omega) (by omega)
theorem pR_hedge (p v : Int) (hp : smIR p) (hv : smIR v) (hk : rC mem S) (ho : ok N S) (h0 : ¬ (0 ≤ p ∧ p < S 0 0) → Post (some (.inl (-1))) mem) (h1 : 0 ≤ p → p < S 0 0 → ¬ (0 ≤ v ∧ v ≤ 5) → Post (some (.inl (-2))) mem) (h2 : 0 ≤ p → p < S 0 0 → 0 ≤ v → v ≤ 5 → Post (some (.inl (S 1 p))) (smU mem 115 p v)) : smRun 121 [oR 11 114, .inl p, .inl v] mem Post := by
  obtain ⟨⟨kP, kT, kN, kp, kq, ki⟩, ⟨kB, kb⟩, ⟨kS, ks⟩⟩ := id hk
  obtain ⟨oN, ⟨oP, oT, oA, op, oq, oi⟩, ⟨oB, ob⟩, ⟨oS, os⟩⟩ := id ho
  refine smGo [9999] 60 rfl ?_
  repeat' first
    | refine And.intro ?_ ?_
    | intro _
    | refine ru_isPlace _ hp ?_ ?_ ?_
    | refine ru_in _ _ _ hv ?_ ?_ ?_ ?_
    | exact h0 (by omega)
    | exact h1 (by omega) (by omega) (by omega)
  all_goals try omega
  · rw [(kp p (by omega) (by omega)).1]
    exact h2 (by omega) (by omega) (by omega) (by omega)
theorem kC_hedge {p v : Int} (h : kC mem S) : kC (smU mem 3 p v) (smU S 1 p v) := by
  unfold kC wC wV tV sV at *
  simp only [smU] at *
  grind
theorem rC_hedge {p v : Int} (h : rC mem S) : rC (smU mem 115 p v) (smU S 1 p v) := by
  unfold rC wR wV tV sV at *
  simp only [smU] at *
  grind
theorem ok_hedge {p v : Int} (h0 : 0 ≤ v) (h1 : v ≤ 5) (h : ok N S) : ok N (smU S 1 p v) := by
  obtain ⟨o1, ⟨b1, b2, b3, b4, b5, b6⟩, o3, o4⟩ := h
  refine ⟨o1, ⟨b1, b2, b3, fun q x y => ?_, b5, b6⟩, o3, o4⟩
  have h9 := b4 q x y
  by_cases e : q = p
  · subst e
    rw [smU_s]
    exact ⟨⟨h0, h1⟩, h9.2⟩
  · rw [smU_d e]
    exact h9
/-- what a call of both must give -/
def both (N : Int) (c r : Nat) (as : List smV) (mem : smM) : Prop := smRun c (oR 10 0 :: as) mem (fun v m1 => smRun r (oR 11 114 :: as) m1 (fun v' m2 => agr v v' ∧ jI (N + 1000) m2))
theorem jI_rf (hN : N ≤ 900000) (h : jI N mem) : jI (N + 1000) mem := by
  obtain ⟨S, S1, S2, n, d, h⟩ := h
  exact ⟨S, S1, S2, n, d, jO_keep h (by omega) (keepC_rf mem) (keepR_rf mem)⟩
theorem lw_hedge (p v : Int) (hp : smIR p) (hv : smIR v) (hN : N ≤ 900000) (h : jI N mem) : both N 74 121 [.inl p, .inl v] mem := by
  have hj := jI_rf hN h
  obtain ⟨S, S1, S2, n, d, h⟩ := h
  obtain ⟨a1, a2, a3, -⟩ := id h
  refine pC_hedge p v hp hv a2 a1 (fun c => ?_) (fun c1 c2 c3 => ?_) (fun c1 c2 c3 c4 => ?_)
  · exact pR_hedge p v hp hv a3 a1 (fun _ => ⟨agr_rf _, hj⟩) (fun x y _ => absurd ⟨x, y⟩ c) (fun x y _ _ => absurd ⟨x, y⟩ c)
  · exact pR_hedge p v hp hv a3 a1 (fun z => absurd ⟨c1, c2⟩ z) (fun _ _ _ => ⟨agr_rf _, hj⟩) (fun _ _ x y => absurd ⟨x, y⟩ c3)
  · refine pR_hedge p v hp hv (rC_eqR (fun k i hk => smU_ne (by omega) i) a3) a1 (fun z => absurd ⟨c1, c2⟩ z) (fun _ _ z => absurd ⟨c3, c4⟩ z) (fun _ _ _ _ => ⟨agr_rf _, ?_⟩)
    refine ⟨smU S 1 p v, S1, S2, n, d, jO_put h (by omega) (ok_mono (by have := a1.1; omega) (ok_hedge c3 c4 a1)) (kC_eqC (fun k i hk => smU_ne (by omega) i) (kC_hedge a2)) (rC_hedge (rC_eqR (fun k i hk => smU_ne (by omega) i) a3)) (fun k i hk => ?_) rfl rfl⟩
    rw [smU_ne (by omega), smU_ne (by omega)]
end
end
