section
-- ===== PART A: goes FIRST, ahead of the names: the tables' words, and 'selects' of the private methods out of them =====
/-- a private method of a class that the tables say can be made, by its rows of tables_1 -/
def lw_okq (q : MethodName × Nat) : Prop := (q.1.cls ≠ "java/lang/invoke/MethodHandle" ∧ q.1.cls ≠ "java/lang/invoke/VarHandle") ∧ Cond.instantiable q.1.cls q.2 ∈ tables_1 ∧ Cond.privateMethod q.1 ∈ tables_1 ∧ Cond.instanceMethod q.1 ∈ tables_1
theorem lw_p0 : lw_okq (⟨"NineKeys$Book", "longestUnused", "()I"⟩, 5) := ⟨⟨by decide +kernel, by decide +kernel⟩, List.mem_of_getElem? (i := 36) (by decide +kernel), List.mem_of_getElem? (i := 325) (by decide +kernel), List.mem_of_getElem? (i := 326) (by decide +kernel)⟩
theorem lw_p1 : lw_okq (⟨"NineKeys$Pairs", "removeAt", "(I)V"⟩, 4) := ⟨⟨by decide +kernel, by decide +kernel⟩, List.mem_of_getElem? (i := 44) (by decide +kernel), List.mem_of_getElem? (i := 342) (by decide +kernel), List.mem_of_getElem? (i := 343) (by decide +kernel)⟩
theorem lw_p2 : lw_okq (⟨"NineKeys$Pairs", "placeOf", "(II)I"⟩, 4) := ⟨⟨by decide +kernel, by decide +kernel⟩, List.mem_of_getElem? (i := 44) (by decide +kernel), List.mem_of_getElem? (i := 415) (by decide +kernel), List.mem_of_getElem? (i := 416) (by decide +kernel)⟩
theorem lw_p3 : lw_okq (⟨"NineKeys", "rateNow", "(I)I"⟩, 11) := ⟨⟨by decide +kernel, by decide +kernel⟩, List.mem_of_getElem? (i := 17) (by decide +kernel), List.mem_of_getElem? (i := 427) (by decide +kernel), List.mem_of_getElem? (i := 428) (by decide +kernel)⟩
theorem lw_p4 : lw_okq (⟨"NineKeys", "latest", "()I"⟩, 11) := ⟨⟨by decide +kernel, by decide +kernel⟩, List.mem_of_getElem? (i := 17) (by decide +kernel), List.mem_of_getElem? (i := 431) (by decide +kernel), List.mem_of_getElem? (i := 432) (by decide +kernel)⟩
theorem lw_p5 : lw_okq (⟨"NineKeys", "layOffers", "(II)V"⟩, 11) := ⟨⟨by decide +kernel, by decide +kernel⟩, List.mem_of_getElem? (i := 17) (by decide +kernel), List.mem_of_getElem? (i := 539) (by decide +kernel), List.mem_of_getElem? (i := 540) (by decide +kernel)⟩
theorem lw_p6 : lw_okq (⟨"NineKeys$Shelf", "insert", "(II)V"⟩, 11) := ⟨⟨by decide +kernel, by decide +kernel⟩, List.mem_of_getElem? (i := 115) (by decide +kernel), List.mem_of_getElem? (i := 607) (by decide +kernel), List.mem_of_getElem? (i := 608) (by decide +kernel)⟩
theorem lw_p7 : lw_okq (⟨"NineKeys$Shelf", "standsAhead", "(IIII)Z"⟩, 11) := ⟨⟨by decide +kernel, by decide +kernel⟩, List.mem_of_getElem? (i := 115) (by decide +kernel), List.mem_of_getElem? (i := 611) (by decide +kernel), List.mem_of_getElem? (i := 612) (by decide +kernel)⟩
theorem lw_p8 : lw_okq (⟨"NineKeys", "learn", "(I)V"⟩, 11) := ⟨⟨by decide +kernel, by decide +kernel⟩, List.mem_of_getElem? (i := 17) (by decide +kernel), List.mem_of_getElem? (i := 640) (by decide +kernel), List.mem_of_getElem? (i := 641) (by decide +kernel)⟩
theorem lw_p9 : lw_okq (⟨"NineKeys$Newcomers", "placeOf", "(LNineKeys$Row;)I"⟩, 4) := ⟨⟨by decide +kernel, by decide +kernel⟩, List.mem_of_getElem? (i := 79) (by decide +kernel), List.mem_of_getElem? (i := 660) (by decide +kernel), List.mem_of_getElem? (i := 661) (by decide +kernel)⟩
theorem lw_p10 : lw_okq (⟨"NineKeys$Newcomers", "placeForNew", "()I"⟩, 4) := ⟨⟨by decide +kernel, by decide +kernel⟩, List.mem_of_getElem? (i := 79) (by decide +kernel), List.mem_of_getElem? (i := 673) (by decide +kernel), List.mem_of_getElem? (i := 674) (by decide +kernel)⟩
theorem lw_p11 : lw_okq (⟨"NineKeys", "textStands", "()Z"⟩, 11) := ⟨⟨by decide +kernel, by decide +kernel⟩, List.mem_of_getElem? (i := 17) (by decide +kernel), List.mem_of_getElem? (i := 715) (by decide +kernel), List.mem_of_getElem? (i := 716) (by decide +kernel)⟩
theorem lw_p12 : lw_okq (⟨"NineKeys$Plan", "choose", "(II)V"⟩, 4) := ⟨⟨by decide +kernel, by decide +kernel⟩, List.mem_of_getElem? (i := 160) (by decide +kernel), List.mem_of_getElem? (i := 732) (by decide +kernel), List.mem_of_getElem? (i := 733) (by decide +kernel)⟩
theorem lw_p13 : lw_okq (⟨"NineKeys$TapTable", "readWord", "(LNineKeys$Row;)V"⟩, 6) := ⟨⟨by decide +kernel, by decide +kernel⟩, List.mem_of_getElem? (i := 179) (by decide +kernel), List.mem_of_getElem? (i := 766) (by decide +kernel), List.mem_of_getElem? (i := 767) (by decide +kernel)⟩
theorem lw_p14 : lw_okq (⟨"NineKeys$TapTable", "tryStretchesFrom", "(I)V"⟩, 6) := ⟨⟨by decide +kernel, by decide +kernel⟩, List.mem_of_getElem? (i := 179) (by decide +kernel), List.mem_of_getElem? (i := 778) (by decide +kernel), List.mem_of_getElem? (i := 779) (by decide +kernel)⟩
theorem lw_p15 : lw_okq (⟨"NineKeys$TapTable", "pressesOn", "(ILNineKeys$Keyboard;)I"⟩, 6) := ⟨⟨by decide +kernel, by decide +kernel⟩, List.mem_of_getElem? (i := 179) (by decide +kernel), List.mem_of_getElem? (i := 791) (by decide +kernel), List.mem_of_getElem? (i := 792) (by decide +kernel)⟩
def lw_privs_1 : List (MethodName × Nat) := [(⟨"NineKeys$Book", "longestUnused", "()I"⟩, 5), (⟨"NineKeys$Pairs", "removeAt", "(I)V"⟩, 4), (⟨"NineKeys$Pairs", "placeOf", "(II)I"⟩, 4), (⟨"NineKeys", "rateNow", "(I)I"⟩, 11), (⟨"NineKeys", "latest", "()I"⟩, 11), (⟨"NineKeys", "layOffers", "(II)V"⟩, 11), (⟨"NineKeys$Shelf", "insert", "(II)V"⟩, 11), (⟨"NineKeys$Shelf", "standsAhead", "(IIII)Z"⟩, 11), (⟨"NineKeys", "learn", "(I)V"⟩, 11), (⟨"NineKeys$Newcomers", "placeOf", "(LNineKeys$Row;)I"⟩, 4), (⟨"NineKeys$Newcomers", "placeForNew", "()I"⟩, 4), (⟨"NineKeys", "textStands", "()Z"⟩, 11), (⟨"NineKeys$Plan", "choose", "(II)V"⟩, 4), (⟨"NineKeys$TapTable", "readWord", "(LNineKeys$Row;)V"⟩, 6), (⟨"NineKeys$TapTable", "tryStretchesFrom", "(I)V"⟩, 6), (⟨"NineKeys$TapTable", "pressesOn", "(ILNineKeys$Keyboard;)I"⟩, 6)]
theorem lw_r1 : ∀ q ∈ lw_privs_1, lw_okq q := List.forall_mem_cons.mpr ⟨lw_p0, List.forall_mem_cons.mpr ⟨lw_p1, List.forall_mem_cons.mpr ⟨lw_p2, List.forall_mem_cons.mpr ⟨lw_p3, List.forall_mem_cons.mpr ⟨lw_p4, List.forall_mem_cons.mpr ⟨lw_p5, List.forall_mem_cons.mpr ⟨lw_p6, List.forall_mem_cons.mpr ⟨lw_p7, List.forall_mem_cons.mpr ⟨lw_p8, List.forall_mem_cons.mpr ⟨lw_p9, List.forall_mem_cons.mpr ⟨lw_p10, List.forall_mem_cons.mpr ⟨lw_p11, List.forall_mem_cons.mpr ⟨lw_p12, List.forall_mem_cons.mpr ⟨lw_p13, List.forall_mem_cons.mpr ⟨lw_p14, List.forall_mem_cons.mpr ⟨lw_p15, fun _ h => absurd h List.not_mem_nil⟩⟩⟩⟩⟩⟩⟩⟩⟩⟩⟩⟩⟩⟩⟩⟩
theorem lw_p16 : lw_okq (⟨"NineKeys$TapTable", "touchesOn", "(IILNineKeys$Keyboard;)I"⟩, 6) := ⟨⟨by decide +kernel, by decide +kernel⟩, List.mem_of_getElem? (i := 179) (by decide +kernel), List.mem_of_getElem? (i := 796) (by decide +kernel), List.mem_of_getElem? (i := 797) (by decide +kernel)⟩
theorem lw_p17 : lw_okq (⟨"NineKeys$TapTable", "savedBy", "(IILNineKeys$Keyboard;)I"⟩, 6) := ⟨⟨by decide +kernel, by decide +kernel⟩, List.mem_of_getElem? (i := 179) (by decide +kernel), List.mem_of_getElem? (i := 800) (by decide +kernel), List.mem_of_getElem? (i := 801) (by decide +kernel)⟩
theorem lw_p18 : lw_okq (⟨"NineKeys$Shelf", "shareKeys", "(II)Z"⟩, 11) := ⟨⟨by decide +kernel, by decide +kernel⟩, List.mem_of_getElem? (i := 115) (by decide +kernel), List.mem_of_getElem? (i := 822) (by decide +kernel), List.mem_of_getElem? (i := 823) (by decide +kernel)⟩
theorem lw_p19 : lw_okq (⟨"NineKeysModel", "positionOf", "(I)I"⟩, 35) := ⟨⟨by decide +kernel, by decide +kernel⟩, List.mem_of_getElem? (i := 843) (by decide +kernel), List.mem_of_getElem? (i := 968) (by decide +kernel), List.mem_of_getElem? (i := 969) (by decide +kernel)⟩
theorem lw_p20 : lw_okq (⟨"NineKeysModel", "findSpelt", "()I"⟩, 35) := ⟨⟨by decide +kernel, by decide +kernel⟩, List.mem_of_getElem? (i := 843) (by decide +kernel), List.mem_of_getElem? (i := 989) (by decide +kernel), List.mem_of_getElem? (i := 990) (by decide +kernel)⟩
theorem lw_p21 : lw_okq (⟨"NineKeysModel", "come", "(I)I"⟩, 35) := ⟨⟨by decide +kernel, by decide +kernel⟩, List.mem_of_getElem? (i := 843) (by decide +kernel), List.mem_of_getElem? (i := 993) (by decide +kernel), List.mem_of_getElem? (i := 994) (by decide +kernel)⟩
theorem lw_p22 : lw_okq (⟨"NineKeysModel", "there", "()I"⟩, 35) := ⟨⟨by decide +kernel, by decide +kernel⟩, List.mem_of_getElem? (i := 843) (by decide +kernel), List.mem_of_getElem? (i := 997) (by decide +kernel), List.mem_of_getElem? (i := 998) (by decide +kernel)⟩
theorem lw_p23 : lw_okq (⟨"NineKeysModel", "go", "(I)V"⟩, 35) := ⟨⟨by decide +kernel, by decide +kernel⟩, List.mem_of_getElem? (i := 843) (by decide +kernel), List.mem_of_getElem? (i := 1001) (by decide +kernel), List.mem_of_getElem? (i := 1002) (by decide +kernel)⟩
theorem lw_p24 : lw_okq (⟨"NineKeysModel", "isWord", "(I)Z"⟩, 35) := ⟨⟨by decide +kernel, by decide +kernel⟩, List.mem_of_getElem? (i := 843) (by decide +kernel), List.mem_of_getElem? (i := 1009) (by decide +kernel), List.mem_of_getElem? (i := 1010) (by decide +kernel)⟩
theorem lw_p25 : lw_okq (⟨"NineKeysModel", "pairs", "()I"⟩, 35) := ⟨⟨by decide +kernel, by decide +kernel⟩, List.mem_of_getElem? (i := 843) (by decide +kernel), List.mem_of_getElem? (i := 1021) (by decide +kernel), List.mem_of_getElem? (i := 1022) (by decide +kernel)⟩
theorem lw_p26 : lw_okq (⟨"NineKeysModel", "latest", "()I"⟩, 35) := ⟨⟨by decide +kernel, by decide +kernel⟩, List.mem_of_getElem? (i := 843) (by decide +kernel), List.mem_of_getElem? (i := 1029) (by decide +kernel), List.mem_of_getElem? (i := 1030) (by decide +kernel)⟩
theorem lw_p27 : lw_okq (⟨"NineKeysModel", "rateOf", "(II)I"⟩, 35) := ⟨⟨by decide +kernel, by decide +kernel⟩, List.mem_of_getElem? (i := 843) (by decide +kernel), List.mem_of_getElem? (i := 1033) (by decide +kernel), List.mem_of_getElem? (i := 1034) (by decide +kernel)⟩
theorem lw_p28 : lw_okq (⟨"NineKeysModel", "takePressed", "()V"⟩, 35) := ⟨⟨by decide +kernel, by decide +kernel⟩, List.mem_of_getElem? (i := 843) (by decide +kernel), List.mem_of_getElem? (i := 1070) (by decide +kernel), List.mem_of_getElem? (i := 1071) (by decide +kernel)⟩
theorem lw_p29 : lw_okq (⟨"NineKeysModel", "findOffers", "(III)V"⟩, 35) := ⟨⟨by decide +kernel, by decide +kernel⟩, List.mem_of_getElem? (i := 843) (by decide +kernel), List.mem_of_getElem? (i := 1074) (by decide +kernel), List.mem_of_getElem? (i := 1075) (by decide +kernel)⟩
theorem lw_p30 : lw_okq (⟨"NineKeysModel", "offered", "(III)I"⟩, 35) := ⟨⟨by decide +kernel, by decide +kernel⟩, List.mem_of_getElem? (i := 843) (by decide +kernel), List.mem_of_getElem? (i := 1078) (by decide +kernel), List.mem_of_getElem? (i := 1079) (by decide +kernel)⟩
theorem lw_p31 : lw_okq (⟨"NineKeysModel", "meets", "(II)Z"⟩, 35) := ⟨⟨by decide +kernel, by decide +kernel⟩, List.mem_of_getElem? (i := 843) (by decide +kernel), List.mem_of_getElem? (i := 1082) (by decide +kernel), List.mem_of_getElem? (i := 1083) (by decide +kernel)⟩
def lw_privs_2 : List (MethodName × Nat) := [(⟨"NineKeys$TapTable", "touchesOn", "(IILNineKeys$Keyboard;)I"⟩, 6), (⟨"NineKeys$TapTable", "savedBy", "(IILNineKeys$Keyboard;)I"⟩, 6), (⟨"NineKeys$Shelf", "shareKeys", "(II)Z"⟩, 11), (⟨"NineKeysModel", "positionOf", "(I)I"⟩, 35), (⟨"NineKeysModel", "findSpelt", "()I"⟩, 35), (⟨"NineKeysModel", "come", "(I)I"⟩, 35), (⟨"NineKeysModel", "there", "()I"⟩, 35), (⟨"NineKeysModel", "go", "(I)V"⟩, 35), (⟨"NineKeysModel", "isWord", "(I)Z"⟩, 35), (⟨"NineKeysModel", "pairs", "()I"⟩, 35), (⟨"NineKeysModel", "latest", "()I"⟩, 35), (⟨"NineKeysModel", "rateOf", "(II)I"⟩, 35), (⟨"NineKeysModel", "takePressed", "()V"⟩, 35), (⟨"NineKeysModel", "findOffers", "(III)V"⟩, 35), (⟨"NineKeysModel", "offered", "(III)I"⟩, 35), (⟨"NineKeysModel", "meets", "(II)Z"⟩, 35)]
theorem lw_r2 : ∀ q ∈ lw_privs_2, lw_okq q := List.forall_mem_cons.mpr ⟨lw_p16, List.forall_mem_cons.mpr ⟨lw_p17, List.forall_mem_cons.mpr ⟨lw_p18, List.forall_mem_cons.mpr ⟨lw_p19, List.forall_mem_cons.mpr ⟨lw_p20, List.forall_mem_cons.mpr ⟨lw_p21, List.forall_mem_cons.mpr ⟨lw_p22, List.forall_mem_cons.mpr ⟨lw_p23, List.forall_mem_cons.mpr ⟨lw_p24, List.forall_mem_cons.mpr ⟨lw_p25, List.forall_mem_cons.mpr ⟨lw_p26, List.forall_mem_cons.mpr ⟨lw_p27, List.forall_mem_cons.mpr ⟨lw_p28, List.forall_mem_cons.mpr ⟨lw_p29, List.forall_mem_cons.mpr ⟨lw_p30, List.forall_mem_cons.mpr ⟨lw_p31, fun _ h => absurd h List.not_mem_nil⟩⟩⟩⟩⟩⟩⟩⟩⟩⟩⟩⟩⟩⟩⟩⟩
theorem lw_p32 : lw_okq (⟨"NineKeysModel", "findKeys", "(II)V"⟩, 35) := ⟨⟨by decide +kernel, by decide +kernel⟩, List.mem_of_getElem? (i := 843) (by decide +kernel), List.mem_of_getElem? (i := 1086) (by decide +kernel), List.mem_of_getElem? (i := 1087) (by decide +kernel)⟩
theorem lw_p33 : lw_okq (⟨"NineKeysModel", "areLike", "(III)Z"⟩, 35) := ⟨⟨by decide +kernel, by decide +kernel⟩, List.mem_of_getElem? (i := 843) (by decide +kernel), List.mem_of_getElem? (i := 1090) (by decide +kernel), List.mem_of_getElem? (i := 1091) (by decide +kernel)⟩
theorem lw_p34 : lw_okq (⟨"NineKeysModel", "slipsBeside", "()Z"⟩, 35) := ⟨⟨by decide +kernel, by decide +kernel⟩, List.mem_of_getElem? (i := 843) (by decide +kernel), List.mem_of_getElem? (i := 1094) (by decide +kernel), List.mem_of_getElem? (i := 1095) (by decide +kernel)⟩
theorem lw_p35 : lw_okq (⟨"NineKeysModel", "slipsLeftOut", "()Z"⟩, 35) := ⟨⟨by decide +kernel, by decide +kernel⟩, List.mem_of_getElem? (i := 843) (by decide +kernel), List.mem_of_getElem? (i := 1099) (by decide +kernel), List.mem_of_getElem? (i := 1100) (by decide +kernel)⟩
theorem lw_p36 : lw_okq (⟨"NineKeysModel", "slipsTwice", "()Z"⟩, 35) := ⟨⟨by decide +kernel, by decide +kernel⟩, List.mem_of_getElem? (i := 843) (by decide +kernel), List.mem_of_getElem? (i := 1103) (by decide +kernel), List.mem_of_getElem? (i := 1104) (by decide +kernel)⟩
theorem lw_p37 : lw_okq (⟨"NineKeysModel", "isAhead", "(II)Z"⟩, 35) := ⟨⟨by decide +kernel, by decide +kernel⟩, List.mem_of_getElem? (i := 843) (by decide +kernel), List.mem_of_getElem? (i := 1107) (by decide +kernel), List.mem_of_getElem? (i := 1108) (by decide +kernel)⟩
theorem lw_p38 : lw_okq (⟨"NineKeysModel", "learn", "(I)V"⟩, 35) := ⟨⟨by decide +kernel, by decide +kernel⟩, List.mem_of_getElem? (i := 843) (by decide +kernel), List.mem_of_getElem? (i := 1124) (by decide +kernel), List.mem_of_getElem? (i := 1125) (by decide +kernel)⟩
theorem lw_p39 : lw_okq (⟨"NineKeysModel", "findComer", "()I"⟩, 35) := ⟨⟨by decide +kernel, by decide +kernel⟩, List.mem_of_getElem? (i := 843) (by decide +kernel), List.mem_of_getElem? (i := 1132) (by decide +kernel), List.mem_of_getElem? (i := 1133) (by decide +kernel)⟩
theorem lw_p40 : lw_okq (⟨"NineKeysModel", "dropComer", "(I)V"⟩, 35) := ⟨⟨by decide +kernel, by decide +kernel⟩, List.mem_of_getElem? (i := 843) (by decide +kernel), List.mem_of_getElem? (i := 1136) (by decide +kernel), List.mem_of_getElem? (i := 1137) (by decide +kernel)⟩
theorem lw_p41 : lw_okq (⟨"NineKeysModel", "moveComer", "(II)V"⟩, 35) := ⟨⟨by decide +kernel, by decide +kernel⟩, List.mem_of_getElem? (i := 843) (by decide +kernel), List.mem_of_getElem? (i := 1140) (by decide +kernel), List.mem_of_getElem? (i := 1141) (by decide +kernel)⟩
theorem lw_p42 : lw_okq (⟨"NineKeysModel", "addComer", "()V"⟩, 35) := ⟨⟨by decide +kernel, by decide +kernel⟩, List.mem_of_getElem? (i := 843) (by decide +kernel), List.mem_of_getElem? (i := 1144) (by decide +kernel), List.mem_of_getElem? (i := 1145) (by decide +kernel)⟩
theorem lw_p43 : lw_okq (⟨"NineKeysModel", "presses", "(III)I"⟩, 35) := ⟨⟨by decide +kernel, by decide +kernel⟩, List.mem_of_getElem? (i := 843) (by decide +kernel), List.mem_of_getElem? (i := 1168) (by decide +kernel), List.mem_of_getElem? (i := 1169) (by decide +kernel)⟩
theorem lw_p44 : lw_okq (⟨"NineKeysModel", "tapsOf", "(I)I"⟩, 35) := ⟨⟨by decide +kernel, by decide +kernel⟩, List.mem_of_getElem? (i := 843) (by decide +kernel), List.mem_of_getElem? (i := 1172) (by decide +kernel), List.mem_of_getElem? (i := 1173) (by decide +kernel)⟩
theorem lw_p45 : lw_okq (⟨"NineKeysModel", "takeKeys", "(II)V"⟩, 35) := ⟨⟨by decide +kernel, by decide +kernel⟩, List.mem_of_getElem? (i := 843) (by decide +kernel), List.mem_of_getElem? (i := 1176) (by decide +kernel), List.mem_of_getElem? (i := 1177) (by decide +kernel)⟩
theorem lw_p46 : lw_okq (⟨"NineKeysModel", "guessed", "(III)I"⟩, 35) := ⟨⟨by decide +kernel, by decide +kernel⟩, List.mem_of_getElem? (i := 843) (by decide +kernel), List.mem_of_getElem? (i := 1180) (by decide +kernel), List.mem_of_getElem? (i := 1181) (by decide +kernel)⟩
theorem lw_p47 : lw_okq (⟨"NineKeysModel", "placeOf", "(I)I"⟩, 35) := ⟨⟨by decide +kernel, by decide +kernel⟩, List.mem_of_getElem? (i := 843) (by decide +kernel), List.mem_of_getElem? (i := 1184) (by decide +kernel), List.mem_of_getElem? (i := 1185) (by decide +kernel)⟩
def lw_privs_3 : List (MethodName × Nat) := [(⟨"NineKeysModel", "findKeys", "(II)V"⟩, 35), (⟨"NineKeysModel", "areLike", "(III)Z"⟩, 35), (⟨"NineKeysModel", "slipsBeside", "()Z"⟩, 35), (⟨"NineKeysModel", "slipsLeftOut", "()Z"⟩, 35), (⟨"NineKeysModel", "slipsTwice", "()Z"⟩, 35), (⟨"NineKeysModel", "isAhead", "(II)Z"⟩, 35), (⟨"NineKeysModel", "learn", "(I)V"⟩, 35), (⟨"NineKeysModel", "findComer", "()I"⟩, 35), (⟨"NineKeysModel", "dropComer", "(I)V"⟩, 35), (⟨"NineKeysModel", "moveComer", "(II)V"⟩, 35), (⟨"NineKeysModel", "addComer", "()V"⟩, 35), (⟨"NineKeysModel", "presses", "(III)I"⟩, 35), (⟨"NineKeysModel", "tapsOf", "(I)I"⟩, 35), (⟨"NineKeysModel", "takeKeys", "(II)V"⟩, 35), (⟨"NineKeysModel", "guessed", "(III)I"⟩, 35), (⟨"NineKeysModel", "placeOf", "(I)I"⟩, 35)]
theorem lw_r3 : ∀ q ∈ lw_privs_3, lw_okq q := List.forall_mem_cons.mpr ⟨lw_p32, List.forall_mem_cons.mpr ⟨lw_p33, List.forall_mem_cons.mpr ⟨lw_p34, List.forall_mem_cons.mpr ⟨lw_p35, List.forall_mem_cons.mpr ⟨lw_p36, List.forall_mem_cons.mpr ⟨lw_p37, List.forall_mem_cons.mpr ⟨lw_p38, List.forall_mem_cons.mpr ⟨lw_p39, List.forall_mem_cons.mpr ⟨lw_p40, List.forall_mem_cons.mpr ⟨lw_p41, List.forall_mem_cons.mpr ⟨lw_p42, List.forall_mem_cons.mpr ⟨lw_p43, List.forall_mem_cons.mpr ⟨lw_p44, List.forall_mem_cons.mpr ⟨lw_p45, List.forall_mem_cons.mpr ⟨lw_p46, List.forall_mem_cons.mpr ⟨lw_p47, fun _ h => absurd h List.not_mem_nil⟩⟩⟩⟩⟩⟩⟩⟩⟩⟩⟩⟩⟩⟩⟩⟩
theorem lw_p48 : lw_okq (⟨"NineKeysModel", "findSpent", "()Z"⟩, 35) := ⟨⟨by decide +kernel, by decide +kernel⟩, List.mem_of_getElem? (i := 843) (by decide +kernel), List.mem_of_getElem? (i := 1192) (by decide +kernel), List.mem_of_getElem? (i := 1193) (by decide +kernel)⟩
theorem lw_p49 : lw_okq (⟨"NineKeysModel", "leastBehind", "(II)I"⟩, 35) := ⟨⟨by decide +kernel, by decide +kernel⟩, List.mem_of_getElem? (i := 843) (by decide +kernel), List.mem_of_getElem? (i := 1196) (by decide +kernel), List.mem_of_getElem? (i := 1197) (by decide +kernel)⟩
theorem lw_p50 : lw_okq (⟨"NineKeysModel", "tapsOfText", "()I"⟩, 35) := ⟨⟨by decide +kernel, by decide +kernel⟩, List.mem_of_getElem? (i := 843) (by decide +kernel), List.mem_of_getElem? (i := 1209) (by decide +kernel), List.mem_of_getElem? (i := 1210) (by decide +kernel)⟩
theorem lw_p51 : lw_okq (⟨"NineKeysModel", "findOften", "()I"⟩, 35) := ⟨⟨by decide +kernel, by decide +kernel⟩, List.mem_of_getElem? (i := 843) (by decide +kernel), List.mem_of_getElem? (i := 1217) (by decide +kernel), List.mem_of_getElem? (i := 1218) (by decide +kernel)⟩
theorem lw_p52 : lw_okq (⟨"NineKeysModel", "stretch", "(II)I"⟩, 35) := ⟨⟨by decide +kernel, by decide +kernel⟩, List.mem_of_getElem? (i := 843) (by decide +kernel), List.mem_of_getElem? (i := 1222) (by decide +kernel), List.mem_of_getElem? (i := 1223) (by decide +kernel)⟩
theorem lw_p53 : lw_okq (⟨"NineKeysModel", "exchange", "(II)V"⟩, 35) := ⟨⟨by decide +kernel, by decide +kernel⟩, List.mem_of_getElem? (i := 843) (by decide +kernel), List.mem_of_getElem? (i := 1230) (by decide +kernel), List.mem_of_getElem? (i := 1231) (by decide +kernel)⟩
theorem lw_p54 : lw_okq (⟨"NineKeysModel", "mostSame", "()I"⟩, 35) := ⟨⟨by decide +kernel, by decide +kernel⟩, List.mem_of_getElem? (i := 843) (by decide +kernel), List.mem_of_getElem? (i := 1238) (by decide +kernel), List.mem_of_getElem? (i := 1239) (by decide +kernel)⟩
theorem lw_p55 : lw_okq (⟨"NineKeysModel", "sameAs", "(I)I"⟩, 35) := ⟨⟨by decide +kernel, by decide +kernel⟩, List.mem_of_getElem? (i := 843) (by decide +kernel), List.mem_of_getElem? (i := 1242) (by decide +kernel), List.mem_of_getElem? (i := 1243) (by decide +kernel)⟩
theorem lw_p56 : lw_okq (⟨"NineKeysModel", "areSame", "(II)Z"⟩, 35) := ⟨⟨by decide +kernel, by decide +kernel⟩, List.mem_of_getElem? (i := 843) (by decide +kernel), List.mem_of_getElem? (i := 1246) (by decide +kernel), List.mem_of_getElem? (i := 1247) (by decide +kernel)⟩
def lw_privs_4 : List (MethodName × Nat) := [(⟨"NineKeysModel", "findSpent", "()Z"⟩, 35), (⟨"NineKeysModel", "leastBehind", "(II)I"⟩, 35), (⟨"NineKeysModel", "tapsOfText", "()I"⟩, 35), (⟨"NineKeysModel", "findOften", "()I"⟩, 35), (⟨"NineKeysModel", "stretch", "(II)I"⟩, 35), (⟨"NineKeysModel", "exchange", "(II)V"⟩, 35), (⟨"NineKeysModel", "mostSame", "()I"⟩, 35), (⟨"NineKeysModel", "sameAs", "(I)I"⟩, 35), (⟨"NineKeysModel", "areSame", "(II)Z"⟩, 35)]
theorem lw_r4 : ∀ q ∈ lw_privs_4, lw_okq q := List.forall_mem_cons.mpr ⟨lw_p48, List.forall_mem_cons.mpr ⟨lw_p49, List.forall_mem_cons.mpr ⟨lw_p50, List.forall_mem_cons.mpr ⟨lw_p51, List.forall_mem_cons.mpr ⟨lw_p52, List.forall_mem_cons.mpr ⟨lw_p53, List.forall_mem_cons.mpr ⟨lw_p54, List.forall_mem_cons.mpr ⟨lw_p55, List.forall_mem_cons.mpr ⟨lw_p56, fun _ h => absurd h List.not_mem_nil⟩⟩⟩⟩⟩⟩⟩⟩⟩
def lw_privs : List (MethodName × Nat) := lw_privs_1 ++ (lw_privs_2 ++ (lw_privs_3 ++ (lw_privs_4)))
def lw_tbl : List Cond := k2_sels lw_privs ++ tables_1
theorem lw_privs_ok : ∀ q ∈ lw_privs, lw_okq q := by
  show ∀ q ∈ lw_privs_1 ++ (lw_privs_2 ++ (lw_privs_3 ++ (lw_privs_4))), lw_okq q
  exact List.forall_mem_append.mpr ⟨lw_r1, List.forall_mem_append.mpr ⟨lw_r2, List.forall_mem_append.mpr ⟨lw_r3, lw_r4⟩⟩⟩
/-- the streams that the claim lets the run draw from -/
abbrev lw_cs : List Choice := [Jvm.Choice.named "NaN.bits"]
theorem lw_bits : nanBits ∈ lw_cs := by first | decide | exact List.mem_cons_self | simp [lw_cs, nanBits]
end
section
def RX0 : String := "NineKeys$Book"
def TX0 : u_T := fun k => match k with
  | 0 => ("NineKeys$Book", "words", "[LNineKeys$Word;", true)
  | 1 => ("NineKeys$Book", "pairs", "LNineKeys$Pairs;", true)
  | 2 => ("NineKeys$Book", "size", "I", false)
  | 3 => ("NineKeys$Book", "sizeThere", "I", false)
  | _ => ("NineKeys$Book", "clock", "I", false)
def tyX0 : Nat → FieldType := fun k => match k with
  | 0 => .array (.object "NineKeys$Word")
  | 1 => .object "NineKeys$Pairs"
  | 2 => .int
  | 3 => .int
  | _ => .int
theorem nmX0 : ∀ a, a < 5 → ∀ b, b < 5 → a ≠ b → (TX0 a).2.1 ≠ (TX0 b).2.1 := by decide +kernel
theorem tyX0_ok : ∀ k, k < 5 → parseFieldDescriptor (TX0 k).2.2.1 = some (tyX0 k) := by decide +kernel
abbrev cX0_init : ByteArray := prog_2_method_1_code
def yX0_init : MethodName := ⟨RX0, "<init>", "()V"⟩
abbrev cX0_size : ByteArray := prog_2_method_2_code
def yX0_size : MethodName := ⟨RX0, "size", "()I"⟩
abbrev cX0_sizeThere : ByteArray := prog_2_method_3_code
def yX0_sizeThere : MethodName := ⟨RX0, "sizeThere", "()I"⟩
abbrev cX0_clock : ByteArray := prog_2_method_4_code
def yX0_clock : MethodName := ⟨RX0, "clock", "()I"⟩
abbrev cX0_pairs : ByteArray := prog_2_method_5_code
def yX0_pairs : MethodName := ⟨RX0, "pairs", "()LNineKeys$Pairs;"⟩
abbrev cX0_isFull : ByteArray := prog_2_method_6_code
def yX0_isFull : MethodName := ⟨RX0, "isFull", "()Z"⟩
abbrev cX0_has : ByteArray := prog_2_method_7_code
def yX0_has : MethodName := ⟨RX0, "has", "(I)Z"⟩
abbrev cX0_at : ByteArray := prog_2_method_8_code
def yX0_at : MethodName := ⟨RX0, "at", "(I)LNineKeys$Word;"⟩
abbrev cX0_isThere : ByteArray := prog_2_method_9_code
def yX0_isThere : MethodName := ⟨RX0, "isThere", "(I)Z"⟩
abbrev cX0_numberOf : ByteArray := prog_2_method_10_code
def yX0_numberOf : MethodName := ⟨RX0, "numberOf", "(LNineKeys$Row;)I"⟩
abbrev cX0_enter : ByteArray := prog_2_method_11_code
def yX0_enter : MethodName := ⟨RX0, "enter", "(LNineKeys$Row;I)I"⟩
abbrev cX0_longestUnused : ByteArray := prog_2_method_12_code
def yX0_longestUnused : MethodName := ⟨RX0, "longestUnused", "()I"⟩
abbrev cX0_dismiss : ByteArray := prog_2_method_13_code
def yX0_dismiss : MethodName := ⟨RX0, "dismiss", "(I)V"⟩
abbrev cX0_learn : ByteArray := prog_2_method_14_code
def yX0_learn : MethodName := ⟨RX0, "learn", "(II)V"⟩
def RX1 : String := "NineKeys$KeyRow"
def TX1 : u_T := fun k => match k with
  | _ => ("", "", "", false)
def tyX1 : Nat → FieldType := fun k => match k with
  | _ => .int
theorem nmX1 : ∀ a, a < 0 → ∀ b, b < 0 → a ≠ b → (TX1 a).2.1 ≠ (TX1 b).2.1 := by decide +kernel
theorem tyX1_ok : ∀ k, k < 0 → parseFieldDescriptor (TX1 k).2.2.1 = some (tyX1 k) := by decide +kernel
abbrev cX1_join : ByteArray := prog_3_method_2_code
def yX1_join : MethodName := ⟨RX1, "join", "(JI)J"⟩
abbrev cX1_pack : ByteArray := prog_3_method_3_code
def yX1_pack : MethodName := ⟨RX1, "pack", "(LNineKeys$Row;)J"⟩
abbrev cX1_sizeOf : ByteArray := prog_3_method_4_code
def yX1_sizeOf : MethodName := ⟨RX1, "sizeOf", "(J)I"⟩
abbrev cX1_keyAt : ByteArray := prog_3_method_5_code
def yX1_keyAt : MethodName := ⟨RX1, "keyAt", "(JI)I"⟩
abbrev cX1_without : ByteArray := prog_3_method_6_code
def yX1_without : MethodName := ⟨RX1, "without", "(JI)J"⟩
abbrev cX1_sharedStart : ByteArray := prog_3_method_7_code
def yX1_sharedStart : MethodName := ⟨RX1, "sharedStart", "(JJ)I"⟩
abbrev cX1_beginsWith : ByteArray := prog_3_method_8_code
def yX1_beginsWith : MethodName := ⟨RX1, "beginsWith", "(JJ)Z"⟩
abbrev cX1_slipBetween : ByteArray := prog_3_method_9_code
def yX1_slipBetween : MethodName := ⟨RX1, "slipBetween", "(JJ)I"⟩
abbrev cX1_comeByBeside : ByteArray := prog_3_method_10_code
def yX1_comeByBeside : MethodName := ⟨RX1, "comeByBeside", "(JJ)Z"⟩
abbrev cX1_comeByLeftOut : ByteArray := prog_3_method_11_code
def yX1_comeByLeftOut : MethodName := ⟨RX1, "comeByLeftOut", "(JJ)Z"⟩
abbrev cX1_comeByTwice : ByteArray := prog_3_method_12_code
def yX1_comeByTwice : MethodName := ⟨RX1, "comeByTwice", "(JJ)Z"⟩
def RX2 : String := "NineKeys$Keyboard"
def TX2 : u_T := fun k => match k with
  | _ => ("NineKeys$Keyboard", "keys", "[I", true)
def tyX2 : Nat → FieldType := fun k => match k with
  | _ => .array .int
theorem nmX2 : ∀ a, a < 1 → ∀ b, b < 1 → a ≠ b → (TX2 a).2.1 ≠ (TX2 b).2.1 := by decide +kernel
theorem tyX2_ok : ∀ k, k < 1 → parseFieldDescriptor (TX2 k).2.2.1 = some (tyX2 k) := by decide +kernel
abbrev cX2_init : ByteArray := prog_4_method_1_code
def yX2_init : MethodName := ⟨RX2, "<init>", "()V"⟩
abbrev cX2_keyOf : ByteArray := prog_4_method_2_code
def yX2_keyOf : MethodName := ⟨RX2, "keyOf", "(I)I"⟩
abbrev cX2_give : ByteArray := prog_4_method_3_code
def yX2_give : MethodName := ⟨RX2, "give", "(II)Z"⟩
abbrev cX2_exchange : ByteArray := prog_4_method_4_code
def yX2_exchange : MethodName := ⟨RX2, "exchange", "(II)V"⟩
abbrev cX2_positionOf : ByteArray := prog_4_method_5_code
def yX2_positionOf : MethodName := ⟨RX2, "positionOf", "(I)I"⟩
abbrev cX2_tapPresses : ByteArray := prog_4_method_6_code
def yX2_tapPresses : MethodName := ⟨RX2, "tapPresses", "(LNineKeys$Row;)I"⟩
abbrev cX2_guessKeys : ByteArray := prog_4_method_7_code
def yX2_guessKeys : MethodName := ⟨RX2, "guessKeys", "(LNineKeys$Row;)J"⟩
abbrev cX2_slideKeys : ByteArray := prog_4_method_8_code
def yX2_slideKeys : MethodName := ⟨RX2, "slideKeys", "(LNineKeys$Row;)J"⟩
def RX3 : String := "NineKeys$Newcomers"
def TX3 : u_T := fun k => match k with
  | 0 => ("NineKeys$Newcomers", "rows", "[LNineKeys$Row;", true)
  | 1 => ("NineKeys$Newcomers", "times", "[I", true)
  | 2 => ("NineKeys$Newcomers", "stamps", "[I", true)
  | _ => ("NineKeys$Newcomers", "stamp", "I", false)
def tyX3 : Nat → FieldType := fun k => match k with
  | 0 => .array (.object "NineKeys$Row")
  | 1 => .array .int
  | 2 => .array .int
  | _ => .int
theorem nmX3 : ∀ a, a < 4 → ∀ b, b < 4 → a ≠ b → (TX3 a).2.1 ≠ (TX3 b).2.1 := by decide +kernel
theorem tyX3_ok : ∀ k, k < 4 → parseFieldDescriptor (TX3 k).2.2.1 = some (tyX3 k) := by decide +kernel
abbrev cX3_init : ByteArray := prog_5_method_1_code
def yX3_init : MethodName := ⟨RX3, "<init>", "()V"⟩
abbrev cX3_size : ByteArray := prog_5_method_2_code
def yX3_size : MethodName := ⟨RX3, "size", "()I"⟩
abbrev cX3_placeOf : ByteArray := prog_5_method_3_code
def yX3_placeOf : MethodName := ⟨RX3, "placeOf", "(LNineKeys$Row;)I"⟩
abbrev cX3_timesOf : ByteArray := prog_5_method_4_code
def yX3_timesOf : MethodName := ⟨RX3, "timesOf", "(LNineKeys$Row;)I"⟩
abbrev cX3_countOnce : ByteArray := prog_5_method_5_code
def yX3_countOnce : MethodName := ⟨RX3, "countOnce", "(LNineKeys$Row;)I"⟩
abbrev cX3_placeForNew : ByteArray := prog_5_method_6_code
def yX3_placeForNew : MethodName := ⟨RX3, "placeForNew", "()I"⟩
abbrev cX3_forget : ByteArray := prog_5_method_7_code
def yX3_forget : MethodName := ⟨RX3, "forget", "(LNineKeys$Row;)V"⟩
def RX4 : String := "NineKeys$Pairs"
def TX4 : u_T := fun k => match k with
  | 0 => ("NineKeys$Pairs", "aheads", "[I", true)
  | 1 => ("NineKeys$Pairs", "behinds", "[I", true)
  | 2 => ("NineKeys$Pairs", "counts", "[I", true)
  | _ => ("NineKeys$Pairs", "size", "I", false)
def tyX4 : Nat → FieldType := fun k => match k with
  | 0 => .array .int
  | 1 => .array .int
  | 2 => .array .int
  | _ => .int
theorem nmX4 : ∀ a, a < 4 → ∀ b, b < 4 → a ≠ b → (TX4 a).2.1 ≠ (TX4 b).2.1 := by decide +kernel
theorem tyX4_ok : ∀ k, k < 4 → parseFieldDescriptor (TX4 k).2.2.1 = some (tyX4 k) := by decide +kernel
abbrev cX4_init : ByteArray := prog_6_method_1_code
def yX4_init : MethodName := ⟨RX4, "<init>", "()V"⟩
abbrev cX4_size : ByteArray := prog_6_method_2_code
def yX4_size : MethodName := ⟨RX4, "size", "()I"⟩
abbrev cX4_placeOf : ByteArray := prog_6_method_3_code
def yX4_placeOf : MethodName := ⟨RX4, "placeOf", "(II)I"⟩
abbrev cX4_countOf : ByteArray := prog_6_method_4_code
def yX4_countOf : MethodName := ⟨RX4, "countOf", "(II)I"⟩
abbrev cX4_haveRoomFor : ByteArray := prog_6_method_5_code
def yX4_haveRoomFor : MethodName := ⟨RX4, "haveRoomFor", "(II)Z"⟩
abbrev cX4_tell : ByteArray := prog_6_method_6_code
def yX4_tell : MethodName := ⟨RX4, "tell", "(III)V"⟩
abbrev cX4_removeAt : ByteArray := prog_6_method_7_code
def yX4_removeAt : MethodName := ⟨RX4, "removeAt", "(I)V"⟩
abbrev cX4_forget : ByteArray := prog_6_method_8_code
def yX4_forget : MethodName := ⟨RX4, "forget", "(I)V"⟩
abbrev cX4_countsBehind : ByteArray := prog_6_method_9_code
def yX4_countsBehind : MethodName := ⟨RX4, "countsBehind", "(I[I)V"⟩
def RX5 : String := "NineKeys$Plan"
def TX5 : u_T := fun k => match k with
  | 0 => ("NineKeys$Plan", "choices", "[I", true)
  | 1 => ("NineKeys$Plan", "presses", "[I", true)
  | 2 => ("NineKeys$Plan", "fromHere", "[I", true)
  | _ => ("NineKeys$Plan", "fromNext", "[I", true)
def tyX5 : Nat → FieldType := fun k => match k with
  | 0 => .array .int
  | 1 => .array .int
  | 2 => .array .int
  | _ => .array .int
theorem nmX5 : ∀ a, a < 4 → ∀ b, b < 4 → a ≠ b → (TX5 a).2.1 ≠ (TX5 b).2.1 := by decide +kernel
theorem tyX5_ok : ∀ k, k < 4 → parseFieldDescriptor (TX5 k).2.2.1 = some (tyX5 k) := by decide +kernel
abbrev cX5_init : ByteArray := prog_7_method_1_code
def yX5_init : MethodName := ⟨RX5, "<init>", "()V"⟩
abbrev cX5_fill : ByteArray := prog_7_method_2_code
def yX5_fill : MethodName := ⟨RX5, "fill", "(LNineKeys$Row;LNineKeys$Shelf;)V"⟩
abbrev cX5_choose : ByteArray := prog_7_method_3_code
def yX5_choose : MethodName := ⟨RX5, "choose", "(II)V"⟩
abbrev cX5_least : ByteArray := prog_7_method_4_code
def yX5_least : MethodName := ⟨RX5, "least", "()I"⟩
abbrev cX5_kindAt : ByteArray := prog_7_method_5_code
def yX5_kindAt : MethodName := ⟨RX5, "kindAt", "(I)I"⟩
def RX6 : String := "NineKeys$Row"
def TX6 : u_T := fun k => match k with
  | 0 => ("NineKeys$Row", "items", "[I", true)
  | _ => ("NineKeys$Row", "size", "I", false)
def tyX6 : Nat → FieldType := fun k => match k with
  | 0 => .array .int
  | _ => .int
theorem nmX6 : ∀ a, a < 2 → ∀ b, b < 2 → a ≠ b → (TX6 a).2.1 ≠ (TX6 b).2.1 := by decide +kernel
theorem tyX6_ok : ∀ k, k < 2 → parseFieldDescriptor (TX6 k).2.2.1 = some (tyX6 k) := by decide +kernel
abbrev cX6_init : ByteArray := prog_8_method_1_code
def yX6_init : MethodName := ⟨RX6, "<init>", "(I)V"⟩
abbrev cX6_size : ByteArray := prog_8_method_2_code
def yX6_size : MethodName := ⟨RX6, "size", "()I"⟩
abbrev cX6_isEmpty : ByteArray := prog_8_method_3_code
def yX6_isEmpty : MethodName := ⟨RX6, "isEmpty", "()Z"⟩
abbrev cX6_isFull : ByteArray := prog_8_method_4_code
def yX6_isFull : MethodName := ⟨RX6, "isFull", "()Z"⟩
abbrev cX6_at : ByteArray := prog_8_method_5_code
def yX6_at : MethodName := ⟨RX6, "at", "(I)I"⟩
abbrev cX6_push : ByteArray := prog_8_method_6_code
def yX6_push : MethodName := ⟨RX6, "push", "(I)V"⟩
abbrev cX6_pop : ByteArray := prog_8_method_7_code
def yX6_pop : MethodName := ⟨RX6, "pop", "()V"⟩
abbrev cX6_clear : ByteArray := prog_8_method_8_code
def yX6_clear : MethodName := ⟨RX6, "clear", "()I"⟩
abbrev cX6_becomeLike : ByteArray := prog_8_method_9_code
def yX6_becomeLike : MethodName := ⟨RX6, "becomeLike", "(LNineKeys$Row;)V"⟩
abbrev cX6_isLike : ByteArray := prog_8_method_10_code
def yX6_isLike : MethodName := ⟨RX6, "isLike", "(LNineKeys$Row;)Z"⟩
abbrev cX6_isAheadOf : ByteArray := prog_8_method_11_code
def yX6_isAheadOf : MethodName := ⟨RX6, "isAheadOf", "(LNineKeys$Row;)Z"⟩
def RX7 : String := "NineKeys$Shelf"
def TX7 : u_T := fun k => match k with
  | 0 => ("NineKeys$Shelf", "book", "LNineKeys$Book;", true)
  | 1 => ("NineKeys$Shelf", "keyboard", "LNineKeys$Keyboard;", true)
  | 2 => ("NineKeys$Shelf", "guessKeys", "[J", true)
  | 3 => ("NineKeys$Shelf", "slideKeys", "[J", true)
  | 4 => ("NineKeys$Shelf", "rates", "[I", true)
  | 5 => ("NineKeys$Shelf", "behindLatest", "[I", true)
  | 6 => ("NineKeys$Shelf", "offered", "[I", true)
  | 7 => ("NineKeys$Shelf", "worths", "[I", true)
  | 8 => ("NineKeys$Shelf", "prices", "[I", true)
  | 9 => ("NineKeys$Shelf", "size", "I", false)
  | _ => ("NineKeys$Shelf", "share", "I", false)
def tyX7 : Nat → FieldType := fun k => match k with
  | 0 => .object "NineKeys$Book"
  | 1 => .object "NineKeys$Keyboard"
  | 2 => .array .long
  | 3 => .array .long
  | 4 => .array .int
  | 5 => .array .int
  | 6 => .array .int
  | 7 => .array .int
  | 8 => .array .int
  | 9 => .int
  | _ => .int
theorem nmX7 : ∀ a, a < 11 → ∀ b, b < 11 → a ≠ b → (TX7 a).2.1 ≠ (TX7 b).2.1 := by decide +kernel
theorem tyX7_ok : ∀ k, k < 11 → parseFieldDescriptor (TX7 k).2.2.1 = some (tyX7 k) := by decide +kernel
abbrev cX7_init : ByteArray := prog_9_method_1_code
def yX7_init : MethodName := ⟨RX7, "<init>", "(LNineKeys$Book;LNineKeys$Keyboard;)V"⟩
abbrev cX7_shareNow : ByteArray := prog_9_method_2_code
def yX7_shareNow : MethodName := ⟨RX7, "shareNow", "()I"⟩
abbrev cX7_setShare : ByteArray := prog_9_method_3_code
def yX7_setShare : MethodName := ⟨RX7, "setShare", "(I)V"⟩
abbrev cX7_setPrice : ByteArray := prog_9_method_4_code
def yX7_setPrice : MethodName := ⟨RX7, "setPrice", "(II)V"⟩
abbrev cX7_readKeys : ByteArray := prog_9_method_5_code
def yX7_readKeys : MethodName := ⟨RX7, "readKeys", "()V"⟩
abbrev cX7_weigh : ByteArray := prog_9_method_6_code
def yX7_weigh : MethodName := ⟨RX7, "weigh", "(I)V"⟩
abbrev cX7_rateOf : ByteArray := prog_9_method_7_code
def yX7_rateOf : MethodName := ⟨RX7, "rateOf", "(I)I"⟩
abbrev cX7_standsAhead : ByteArray := prog_9_method_8_code
def yX7_standsAhead : MethodName := ⟨RX7, "standsAhead", "(IIII)Z"⟩
abbrev cX7_askedFor : ByteArray := prog_9_method_9_code
def yX7_askedFor : MethodName := ⟨RX7, "askedFor", "(IJII)I"⟩
abbrev cX7_layOut : ByteArray := prog_9_method_10_code
def yX7_layOut : MethodName := ⟨RX7, "layOut", "(JII)V"⟩
abbrev cX7_insert : ByteArray := prog_9_method_11_code
def yX7_insert : MethodName := ⟨RX7, "insert", "(II)V"⟩
abbrev cX7_size : ByteArray := prog_9_method_12_code
def yX7_size : MethodName := ⟨RX7, "size", "()I"⟩
abbrev cX7_offerAt : ByteArray := prog_9_method_13_code
def yX7_offerAt : MethodName := ⟨RX7, "offerAt", "(I)I"⟩
abbrev cX7_countPresses : ByteArray := prog_9_method_14_code
def yX7_countPresses : MethodName := ⟨RX7, "countPresses", "(I[I)V"⟩
abbrev cX7_sharersOf : ByteArray := prog_9_method_15_code
def yX7_sharersOf : MethodName := ⟨RX7, "sharersOf", "(I)I"⟩
abbrev cX7_shareKeys : ByteArray := prog_9_method_16_code
def yX7_shareKeys : MethodName := ⟨RX7, "shareKeys", "(II)Z"⟩
abbrev cX7_mostShared : ByteArray := prog_9_method_17_code
def yX7_mostShared : MethodName := ⟨RX7, "mostShared", "()I"⟩
abbrev cX7_sharerAt : ByteArray := prog_9_method_18_code
def yX7_sharerAt : MethodName := ⟨RX7, "sharerAt", "(II)I"⟩
abbrev cX7_sharingPairs : ByteArray := prog_9_method_19_code
def yX7_sharingPairs : MethodName := ⟨RX7, "sharingPairs", "()I"⟩
def RX8 : String := "NineKeys$TapTable"
def TX8 : u_T := fun k => match k with
  | 0 => ("NineKeys$TapTable", "times", "[I", true)
  | 1 => ("NineKeys$TapTable", "touches", "[[I", true)
  | 2 => ("NineKeys$TapTable", "blanks", "I", false)
  | 3 => ("NineKeys$TapTable", "least", "[[I", true)
  | 4 => ("NineKeys$TapTable", "stretches", "[[I", true)
  | _ => ("NineKeys$TapTable", "keyPresses", "[I", true)
def tyX8 : Nat → FieldType := fun k => match k with
  | 0 => .array .int
  | 1 => .array (.array .int)
  | 2 => .int
  | 3 => .array (.array .int)
  | 4 => .array (.array .int)
  | _ => .array .int
theorem nmX8 : ∀ a, a < 6 → ∀ b, b < 6 → a ≠ b → (TX8 a).2.1 ≠ (TX8 b).2.1 := by decide +kernel
theorem tyX8_ok : ∀ k, k < 6 → parseFieldDescriptor (TX8 k).2.2.1 = some (tyX8 k) := by decide +kernel
abbrev cX8_init : ByteArray := prog_10_method_1_code
def yX8_init : MethodName := ⟨RX8, "<init>", "()V"⟩
abbrev cX8_read : ByteArray := prog_10_method_2_code
def yX8_read : MethodName := ⟨RX8, "read", "(LNineKeys$Row;LNineKeys$Book;)V"⟩
abbrev cX8_readWord : ByteArray := prog_10_method_3_code
def yX8_readWord : MethodName := ⟨RX8, "readWord", "(LNineKeys$Row;)V"⟩
abbrev cX8_dealStretches : ByteArray := prog_10_method_4_code
def yX8_dealStretches : MethodName := ⟨RX8, "dealStretches", "(LNineKeys$Keyboard;)I"⟩
abbrev cX8_tryStretchesFrom : ByteArray := prog_10_method_5_code
def yX8_tryStretchesFrom : MethodName := ⟨RX8, "tryStretchesFrom", "(I)V"⟩
abbrev cX8_exchangeTwo : ByteArray := prog_10_method_6_code
def yX8_exchangeTwo : MethodName := ⟨RX8, "exchangeTwo", "(LNineKeys$Keyboard;)I"⟩
abbrev cX8_savedBy : ByteArray := prog_10_method_7_code
def yX8_savedBy : MethodName := ⟨RX8, "savedBy", "(IILNineKeys$Keyboard;)I"⟩
abbrev cX8_pressesOn : ByteArray := prog_10_method_8_code
def yX8_pressesOn : MethodName := ⟨RX8, "pressesOn", "(ILNineKeys$Keyboard;)I"⟩
abbrev cX8_touchesOn : ByteArray := prog_10_method_9_code
def yX8_touchesOn : MethodName := ⟨RX8, "touchesOn", "(IILNineKeys$Keyboard;)I"⟩
def RX9 : String := "NineKeys$Word"
def TX9 : u_T := fun k => match k with
  | 0 => ("NineKeys$Word", "letters", "LNineKeys$Row;", true)
  | 1 => ("NineKeys$Word", "count", "I", false)
  | 2 => ("NineKeys$Word", "use", "I", false)
  | _ => ("NineKeys$Word", "there", "Z", false)
def tyX9 : Nat → FieldType := fun k => match k with
  | 0 => .object "NineKeys$Row"
  | 1 => .int
  | 2 => .int
  | _ => .boolean
theorem nmX9 : ∀ a, a < 4 → ∀ b, b < 4 → a ≠ b → (TX9 a).2.1 ≠ (TX9 b).2.1 := by decide +kernel
theorem tyX9_ok : ∀ k, k < 4 → parseFieldDescriptor (TX9 k).2.2.1 = some (tyX9 k) := by decide +kernel
abbrev cX9_init : ByteArray := prog_11_method_1_code
def yX9_init : MethodName := ⟨RX9, "<init>", "(LNineKeys$Row;II)V"⟩
def RX10 : String := "NineKeys"
def TX10 : u_T := fun k => match k with
  | 0 => ("NineKeys", "keyboard", "LNineKeys$Keyboard;", true)
  | 1 => ("NineKeys", "book", "LNineKeys$Book;", true)
  | 2 => ("NineKeys", "newcomers", "LNineKeys$Newcomers;", true)
  | 3 => ("NineKeys", "shelf", "LNineKeys$Shelf;", true)
  | 4 => ("NineKeys", "spending", "LNineKeys$Plan;", true)
  | 5 => ("NineKeys", "tapTable", "LNineKeys$TapTable;", true)
  | 6 => ("NineKeys", "spelt", "LNineKeys$Row;", true)
  | 7 => ("NineKeys", "pressed", "LNineKeys$Row;", true)
  | 8 => ("NineKeys", "written", "LNineKeys$Row;", true)
  | 9 => ("NineKeys", "told", "[I", true)
  | _ => ("NineKeys", "presses", "[I", true)
def tyX10 : Nat → FieldType := fun k => match k with
  | 0 => .object "NineKeys$Keyboard"
  | 1 => .object "NineKeys$Book"
  | 2 => .object "NineKeys$Newcomers"
  | 3 => .object "NineKeys$Shelf"
  | 4 => .object "NineKeys$Plan"
  | 5 => .object "NineKeys$TapTable"
  | 6 => .object "NineKeys$Row"
  | 7 => .object "NineKeys$Row"
  | 8 => .object "NineKeys$Row"
  | 9 => .array .int
  | _ => .array .int
theorem nmX10 : ∀ a, a < 11 → ∀ b, b < 11 → a ≠ b → (TX10 a).2.1 ≠ (TX10 b).2.1 := by decide +kernel
theorem tyX10_ok : ∀ k, k < 11 → parseFieldDescriptor (TX10 k).2.2.1 = some (tyX10 k) := by decide +kernel
abbrev cX10_init : ByteArray := prog_1_method_1_code
def yX10_init : MethodName := ⟨RX10, "<init>", "()V"⟩
abbrev cX10_deal : ByteArray := prog_1_method_2_code
def yX10_deal : MethodName := ⟨RX10, "deal", "(II)I"⟩
abbrev cX10_letter : ByteArray := prog_1_method_3_code
def yX10_letter : MethodName := ⟨RX10, "letter", "(II)I"⟩
abbrev cX10_beside : ByteArray := prog_1_method_4_code
def yX10_beside : MethodName := ⟨RX10, "beside", "(II)Z"⟩
abbrev cX10_spell : ByteArray := prog_1_method_5_code
def yX10_spell : MethodName := ⟨RX10, "spell", "(IIIII)I"⟩
abbrev cX10_unspell : ByteArray := prog_1_method_6_code
def yX10_unspell : MethodName := ⟨RX10, "unspell", "()I"⟩
abbrev cX10_add : ByteArray := prog_1_method_7_code
def yX10_add : MethodName := ⟨RX10, "add", "(I)I"⟩
abbrev cX10_drop : ByteArray := prog_1_method_8_code
def yX10_drop : MethodName := ⟨RX10, "drop", "(I)I"⟩
abbrev cX10_count : ByteArray := prog_1_method_9_code
def yX10_count : MethodName := ⟨RX10, "count", "(II)I"⟩
abbrev cX10_pair : ByteArray := prog_1_method_10_code
def yX10_pair : MethodName := ⟨RX10, "pair", "(III)I"⟩
abbrev cX10_word : ByteArray := prog_1_method_11_code
def yX10_word : MethodName := ⟨RX10, "word", "(II)I"⟩
abbrev cX10_paired : ByteArray := prog_1_method_12_code
def yX10_paired : MethodName := ⟨RX10, "paired", "(II)I"⟩
abbrev cX10_find : ByteArray := prog_1_method_13_code
def yX10_find : MethodName := ⟨RX10, "find", "()I"⟩
abbrev cX10_many : ByteArray := prog_1_method_14_code
def yX10_many : MethodName := ⟨RX10, "many", "(I)I"⟩
abbrev cX10_share : ByteArray := prog_1_method_15_code
def yX10_share : MethodName := ⟨RX10, "share", "(I)I"⟩
abbrev cX10_price : ByteArray := prog_1_method_16_code
def yX10_price : MethodName := ⟨RX10, "price", "(II)I"⟩
abbrev cX10_press : ByteArray := prog_1_method_17_code
def yX10_press : MethodName := ⟨RX10, "press", "(I)I"⟩
abbrev cX10_back : ByteArray := prog_1_method_18_code
def yX10_back : MethodName := ⟨RX10, "back", "()I"⟩
abbrev cX10_offers : ByteArray := prog_1_method_19_code
def yX10_offers : MethodName := ⟨RX10, "offers", "(II)I"⟩
abbrev cX10_offer : ByteArray := prog_1_method_20_code
def yX10_offer : MethodName := ⟨RX10, "offer", "(III)I"⟩
abbrev cX10_priced : ByteArray := prog_1_method_21_code
def yX10_priced : MethodName := ⟨RX10, "priced", "(II)I"⟩
abbrev cX10_take : ByteArray := prog_1_method_22_code
def yX10_take : MethodName := ⟨RX10, "take", "(III)I"⟩
abbrev cX10_third : ByteArray := prog_1_method_23_code
def yX10_third : MethodName := ⟨RX10, "third", "()I"⟩
abbrev cX10_newcomer : ByteArray := prog_1_method_24_code
def yX10_newcomer : MethodName := ⟨RX10, "newcomer", "()I"⟩
abbrev cX10_put : ByteArray := prog_1_method_25_code
def yX10_put : MethodName := ⟨RX10, "put", "(I)I"⟩
abbrev cX10_wipe : ByteArray := prog_1_method_26_code
def yX10_wipe : MethodName := ⟨RX10, "wipe", "()I"⟩
abbrev cX10_text : ByteArray := prog_1_method_27_code
def yX10_text : MethodName := ⟨RX10, "text", "(I)I"⟩
abbrev cX10_cost : ByteArray := prog_1_method_28_code
def yX10_cost : MethodName := ⟨RX10, "cost", "(II)I"⟩
abbrev cX10_fewest : ByteArray := prog_1_method_29_code
def yX10_fewest : MethodName := ⟨RX10, "fewest", "()I"⟩
abbrev cX10_plan : ByteArray := prog_1_method_30_code
def yX10_plan : MethodName := ⟨RX10, "plan", "(I)I"⟩
abbrev cX10_taps : ByteArray := prog_1_method_31_code
def yX10_taps : MethodName := ⟨RX10, "taps", "()I"⟩
abbrev cX10_best : ByteArray := prog_1_method_32_code
def yX10_best : MethodName := ⟨RX10, "best", "()I"⟩
abbrev cX10_swap : ByteArray := prog_1_method_33_code
def yX10_swap : MethodName := ⟨RX10, "swap", "()I"⟩
abbrev cX10_clash : ByteArray := prog_1_method_34_code
def yX10_clash : MethodName := ⟨RX10, "clash", "()I"⟩
abbrev cX10_clashing : ByteArray := prog_1_method_35_code
def yX10_clashing : MethodName := ⟨RX10, "clashing", "(I)I"⟩
abbrev cX10_clashes : ByteArray := prog_1_method_36_code
def yX10_clashes : MethodName := ⟨RX10, "clashes", "()I"⟩
abbrev cX10_isLetter : ByteArray := prog_1_method_37_code
def yX10_isLetter : MethodName := ⟨RX10, "isLetter", "(I)Z"⟩
abbrev cX10_isKey : ByteArray := prog_1_method_38_code
def yX10_isKey : MethodName := ⟨RX10, "isKey", "(I)Z"⟩
abbrev cX10_isKind : ByteArray := prog_1_method_39_code
def yX10_isKind : MethodName := ⟨RX10, "isKind", "(I)Z"⟩
abbrev cX10_isCount : ByteArray := prog_1_method_40_code
def yX10_isCount : MethodName := ⟨RX10, "isCount", "(I)Z"⟩
abbrev cX10_areBeside : ByteArray := prog_1_method_41_code
def yX10_areBeside : MethodName := ⟨RX10, "areBeside", "(II)Z"⟩
abbrev cX10_refusalOf : ByteArray := prog_1_method_42_code
def yX10_refusalOf : MethodName := ⟨RX10, "refusalOf", "(I)I"⟩
abbrev cX10_latest : ByteArray := prog_1_method_43_code
def yX10_latest : MethodName := ⟨RX10, "latest", "()I"⟩
abbrev cX10_rateNow : ByteArray := prog_1_method_44_code
def yX10_rateNow : MethodName := ⟨RX10, "rateNow", "(I)I"⟩
abbrev cX10_layOffers : ByteArray := prog_1_method_45_code
def yX10_layOffers : MethodName := ⟨RX10, "layOffers", "(II)V"⟩
abbrev cX10_learn : ByteArray := prog_1_method_46_code
def yX10_learn : MethodName := ⟨RX10, "learn", "(I)V"⟩
abbrev cX10_textStands : ByteArray := prog_1_method_47_code
def yX10_textStands : MethodName := ⟨RX10, "textStands", "()Z"⟩
def RX11 : String := "NineKeysModel"
def TX11 : u_T := fun k => match k with
  | 0 => ("NineKeysModel", "keyOf", "[I", true)
  | 1 => ("NineKeysModel", "letterOf", "[I", true)
  | 2 => ("NineKeysModel", "sizeOf", "[I", true)
  | 3 => ("NineKeysModel", "countOf", "[I", true)
  | 4 => ("NineKeysModel", "useOf", "[I", true)
  | 5 => ("NineKeysModel", "isThere", "[Z", true)
  | 6 => ("NineKeysModel", "words", "I", false)
  | 7 => ("NineKeysModel", "pairOf", "[I", true)
  | 8 => ("NineKeysModel", "clock", "I", false)
  | 9 => ("NineKeysModel", "share", "I", false)
  | 10 => ("NineKeysModel", "priceOf", "[I", true)
  | 11 => ("NineKeysModel", "spelt", "[I", true)
  | 12 => ("NineKeysModel", "speltSize", "I", false)
  | 13 => ("NineKeysModel", "pressed", "[I", true)
  | 14 => ("NineKeysModel", "pressedSize", "I", false)
  | 15 => ("NineKeysModel", "text", "[I", true)
  | 16 => ("NineKeysModel", "textSize", "I", false)
  | 17 => ("NineKeysModel", "comer", "[I", true)
  | 18 => ("NineKeysModel", "comerSize", "[I", true)
  | 19 => ("NineKeysModel", "comerTimes", "[I", true)
  | 20 => ("NineKeysModel", "comerWhen", "[I", true)
  | 21 => ("NineKeysModel", "comers", "I", false)
  | 22 => ("NineKeysModel", "comerClock", "I", false)
  | 23 => ("NineKeysModel", "five", "[I", true)
  | 24 => ("NineKeysModel", "keys", "[I", true)
  | 25 => ("NineKeysModel", "keysSize", "I", false)
  | 26 => ("NineKeysModel", "row", "[I", true)
  | 27 => ("NineKeysModel", "rowSize", "I", false)
  | 28 => ("NineKeysModel", "offers", "[I", true)
  | 29 => ("NineKeysModel", "worth", "[I", true)
  | 30 => ("NineKeysModel", "offerMany", "I", false)
  | 31 => ("NineKeysModel", "spent", "[I", true)
  | 32 => ("NineKeysModel", "often", "[I", true)
  | 33 => ("NineKeysModel", "follows", "[I", true)
  | _ => ("NineKeysModel", "least", "[I", true)
def tyX11 : Nat → FieldType := fun k => match k with
  | 0 => .array .int
  | 1 => .array .int
  | 2 => .array .int
  | 3 => .array .int
  | 4 => .array .int
  | 5 => .array .boolean
  | 6 => .int
  | 7 => .array .int
  | 8 => .int
  | 9 => .int
  | 10 => .array .int
  | 11 => .array .int
  | 12 => .int
  | 13 => .array .int
  | 14 => .int
  | 15 => .array .int
  | 16 => .int
  | 17 => .array .int
  | 18 => .array .int
  | 19 => .array .int
  | 20 => .array .int
  | 21 => .int
  | 22 => .int
  | 23 => .array .int
  | 24 => .array .int
  | 25 => .int
  | 26 => .array .int
  | 27 => .int
  | 28 => .array .int
  | 29 => .array .int
  | 30 => .int
  | 31 => .array .int
  | 32 => .array .int
  | 33 => .array .int
  | _ => .array .int
theorem nmX11 : ∀ a, a < 35 → ∀ b, b < 35 → a ≠ b → (TX11 a).2.1 ≠ (TX11 b).2.1 := by decide +kernel
theorem tyX11_ok : ∀ k, k < 35 → parseFieldDescriptor (TX11 k).2.2.1 = some (tyX11 k) := by decide +kernel
abbrev cX11_init : ByteArray := prog_13_method_1_code
def yX11_init : MethodName := ⟨RX11, "<init>", "()V"⟩
abbrev cX11_in : ByteArray := prog_13_method_2_code
def yX11_in : MethodName := ⟨RX11, "in", "(III)Z"⟩
abbrev cX11_isWord : ByteArray := prog_13_method_3_code
def yX11_isWord : MethodName := ⟨RX11, "isWord", "(I)Z"⟩
abbrev cX11_deal : ByteArray := prog_13_method_4_code
def yX11_deal : MethodName := ⟨RX11, "deal", "(II)I"⟩
abbrev cX11_positionOf : ByteArray := prog_13_method_5_code
def yX11_positionOf : MethodName := ⟨RX11, "positionOf", "(I)I"⟩
abbrev cX11_letter : ByteArray := prog_13_method_6_code
def yX11_letter : MethodName := ⟨RX11, "letter", "(II)I"⟩
abbrev cX11_beside : ByteArray := prog_13_method_7_code
def yX11_beside : MethodName := ⟨RX11, "beside", "(II)Z"⟩
abbrev cX11_spell : ByteArray := prog_13_method_8_code
def yX11_spell : MethodName := ⟨RX11, "spell", "(IIIII)I"⟩
abbrev cX11_unspell : ByteArray := prog_13_method_9_code
def yX11_unspell : MethodName := ⟨RX11, "unspell", "()I"⟩
abbrev cX11_findSpelt : ByteArray := prog_13_method_10_code
def yX11_findSpelt : MethodName := ⟨RX11, "findSpelt", "()I"⟩
abbrev cX11_go : ByteArray := prog_13_method_11_code
def yX11_go : MethodName := ⟨RX11, "go", "(I)V"⟩
abbrev cX11_there : ByteArray := prog_13_method_12_code
def yX11_there : MethodName := ⟨RX11, "there", "()I"⟩
abbrev cX11_come : ByteArray := prog_13_method_13_code
def yX11_come : MethodName := ⟨RX11, "come", "(I)I"⟩
abbrev cX11_add : ByteArray := prog_13_method_14_code
def yX11_add : MethodName := ⟨RX11, "add", "(I)I"⟩
abbrev cX11_drop : ByteArray := prog_13_method_15_code
def yX11_drop : MethodName := ⟨RX11, "drop", "(I)I"⟩
abbrev cX11_count : ByteArray := prog_13_method_16_code
def yX11_count : MethodName := ⟨RX11, "count", "(II)I"⟩
abbrev cX11_pairs : ByteArray := prog_13_method_17_code
def yX11_pairs : MethodName := ⟨RX11, "pairs", "()I"⟩
abbrev cX11_pair : ByteArray := prog_13_method_18_code
def yX11_pair : MethodName := ⟨RX11, "pair", "(III)I"⟩
abbrev cX11_latest : ByteArray := prog_13_method_19_code
def yX11_latest : MethodName := ⟨RX11, "latest", "()I"⟩
abbrev cX11_rateOf : ByteArray := prog_13_method_20_code
def yX11_rateOf : MethodName := ⟨RX11, "rateOf", "(II)I"⟩
abbrev cX11_word : ByteArray := prog_13_method_21_code
def yX11_word : MethodName := ⟨RX11, "word", "(II)I"⟩
abbrev cX11_paired : ByteArray := prog_13_method_22_code
def yX11_paired : MethodName := ⟨RX11, "paired", "(II)I"⟩
abbrev cX11_find : ByteArray := prog_13_method_23_code
def yX11_find : MethodName := ⟨RX11, "find", "()I"⟩
abbrev cX11_many : ByteArray := prog_13_method_24_code
def yX11_many : MethodName := ⟨RX11, "many", "(I)I"⟩
abbrev cX11_share : ByteArray := prog_13_method_25_code
def yX11_share : MethodName := ⟨RX11, "share", "(I)I"⟩
abbrev cX11_price : ByteArray := prog_13_method_26_code
def yX11_price : MethodName := ⟨RX11, "price", "(II)I"⟩
abbrev cX11_press : ByteArray := prog_13_method_27_code
def yX11_press : MethodName := ⟨RX11, "press", "(I)I"⟩
abbrev cX11_back : ByteArray := prog_13_method_28_code
def yX11_back : MethodName := ⟨RX11, "back", "()I"⟩
abbrev cX11_findKeys : ByteArray := prog_13_method_29_code
def yX11_findKeys : MethodName := ⟨RX11, "findKeys", "(II)V"⟩
abbrev cX11_takePressed : ByteArray := prog_13_method_30_code
def yX11_takePressed : MethodName := ⟨RX11, "takePressed", "()V"⟩
abbrev cX11_takeKeys : ByteArray := prog_13_method_31_code
def yX11_takeKeys : MethodName := ⟨RX11, "takeKeys", "(II)V"⟩
abbrev cX11_areLike : ByteArray := prog_13_method_32_code
def yX11_areLike : MethodName := ⟨RX11, "areLike", "(III)Z"⟩
abbrev cX11_meets : ByteArray := prog_13_method_33_code
def yX11_meets : MethodName := ⟨RX11, "meets", "(II)Z"⟩
abbrev cX11_slipsBeside : ByteArray := prog_13_method_34_code
def yX11_slipsBeside : MethodName := ⟨RX11, "slipsBeside", "()Z"⟩
abbrev cX11_slipsLeftOut : ByteArray := prog_13_method_35_code
def yX11_slipsLeftOut : MethodName := ⟨RX11, "slipsLeftOut", "()Z"⟩
abbrev cX11_slipsTwice : ByteArray := prog_13_method_36_code
def yX11_slipsTwice : MethodName := ⟨RX11, "slipsTwice", "()Z"⟩
abbrev cX11_offered : ByteArray := prog_13_method_37_code
def yX11_offered : MethodName := ⟨RX11, "offered", "(III)I"⟩
abbrev cX11_isAhead : ByteArray := prog_13_method_38_code
def yX11_isAhead : MethodName := ⟨RX11, "isAhead", "(II)Z"⟩
abbrev cX11_findOffers : ByteArray := prog_13_method_39_code
def yX11_findOffers : MethodName := ⟨RX11, "findOffers", "(III)V"⟩
abbrev cX11_offers : ByteArray := prog_13_method_40_code
def yX11_offers : MethodName := ⟨RX11, "offers", "(II)I"⟩
abbrev cX11_offer : ByteArray := prog_13_method_41_code
def yX11_offer : MethodName := ⟨RX11, "offer", "(III)I"⟩
abbrev cX11_priced : ByteArray := prog_13_method_42_code
def yX11_priced : MethodName := ⟨RX11, "priced", "(II)I"⟩
abbrev cX11_learn : ByteArray := prog_13_method_43_code
def yX11_learn : MethodName := ⟨RX11, "learn", "(I)V"⟩
abbrev cX11_take : ByteArray := prog_13_method_44_code
def yX11_take : MethodName := ⟨RX11, "take", "(III)I"⟩
abbrev cX11_findComer : ByteArray := prog_13_method_45_code
def yX11_findComer : MethodName := ⟨RX11, "findComer", "()I"⟩
abbrev cX11_moveComer : ByteArray := prog_13_method_46_code
def yX11_moveComer : MethodName := ⟨RX11, "moveComer", "(II)V"⟩
abbrev cX11_dropComer : ByteArray := prog_13_method_47_code
def yX11_dropComer : MethodName := ⟨RX11, "dropComer", "(I)V"⟩
abbrev cX11_addComer : ByteArray := prog_13_method_48_code
def yX11_addComer : MethodName := ⟨RX11, "addComer", "()V"⟩
abbrev cX11_third : ByteArray := prog_13_method_49_code
def yX11_third : MethodName := ⟨RX11, "third", "()I"⟩
abbrev cX11_newcomer : ByteArray := prog_13_method_50_code
def yX11_newcomer : MethodName := ⟨RX11, "newcomer", "()I"⟩
abbrev cX11_put : ByteArray := prog_13_method_51_code
def yX11_put : MethodName := ⟨RX11, "put", "(I)I"⟩
abbrev cX11_wipe : ByteArray := prog_13_method_52_code
def yX11_wipe : MethodName := ⟨RX11, "wipe", "()I"⟩
abbrev cX11_text : ByteArray := prog_13_method_53_code
def yX11_text : MethodName := ⟨RX11, "text", "(I)I"⟩
abbrev cX11_tapsOf : ByteArray := prog_13_method_54_code
def yX11_tapsOf : MethodName := ⟨RX11, "tapsOf", "(I)I"⟩
abbrev cX11_placeOf : ByteArray := prog_13_method_55_code
def yX11_placeOf : MethodName := ⟨RX11, "placeOf", "(I)I"⟩
abbrev cX11_guessed : ByteArray := prog_13_method_56_code
def yX11_guessed : MethodName := ⟨RX11, "guessed", "(III)I"⟩
abbrev cX11_presses : ByteArray := prog_13_method_57_code
def yX11_presses : MethodName := ⟨RX11, "presses", "(III)I"⟩
abbrev cX11_cost : ByteArray := prog_13_method_58_code
def yX11_cost : MethodName := ⟨RX11, "cost", "(II)I"⟩
abbrev cX11_leastBehind : ByteArray := prog_13_method_59_code
def yX11_leastBehind : MethodName := ⟨RX11, "leastBehind", "(II)I"⟩
abbrev cX11_findSpent : ByteArray := prog_13_method_60_code
def yX11_findSpent : MethodName := ⟨RX11, "findSpent", "()Z"⟩
abbrev cX11_fewest : ByteArray := prog_13_method_61_code
def yX11_fewest : MethodName := ⟨RX11, "fewest", "()I"⟩
abbrev cX11_plan : ByteArray := prog_13_method_62_code
def yX11_plan : MethodName := ⟨RX11, "plan", "(I)I"⟩
abbrev cX11_tapsOfText : ByteArray := prog_13_method_63_code
def yX11_tapsOfText : MethodName := ⟨RX11, "tapsOfText", "()I"⟩
abbrev cX11_taps : ByteArray := prog_13_method_64_code
def yX11_taps : MethodName := ⟨RX11, "taps", "()I"⟩
abbrev cX11_findOften : ByteArray := prog_13_method_65_code
def yX11_findOften : MethodName := ⟨RX11, "findOften", "()I"⟩
abbrev cX11_stretch : ByteArray := prog_13_method_66_code
def yX11_stretch : MethodName := ⟨RX11, "stretch", "(II)I"⟩
abbrev cX11_best : ByteArray := prog_13_method_67_code
def yX11_best : MethodName := ⟨RX11, "best", "()I"⟩
abbrev cX11_exchange : ByteArray := prog_13_method_68_code
def yX11_exchange : MethodName := ⟨RX11, "exchange", "(II)V"⟩
abbrev cX11_swap : ByteArray := prog_13_method_69_code
def yX11_swap : MethodName := ⟨RX11, "swap", "()I"⟩
abbrev cX11_areSame : ByteArray := prog_13_method_70_code
def yX11_areSame : MethodName := ⟨RX11, "areSame", "(II)Z"⟩
abbrev cX11_sameAs : ByteArray := prog_13_method_71_code
def yX11_sameAs : MethodName := ⟨RX11, "sameAs", "(I)I"⟩
abbrev cX11_mostSame : ByteArray := prog_13_method_72_code
def yX11_mostSame : MethodName := ⟨RX11, "mostSame", "()I"⟩
abbrev cX11_clash : ByteArray := prog_13_method_73_code
def yX11_clash : MethodName := ⟨RX11, "clash", "()I"⟩
abbrev cX11_clashing : ByteArray := prog_13_method_74_code
def yX11_clashing : MethodName := ⟨RX11, "clashing", "(I)I"⟩
abbrev cX11_clashes : ByteArray := prog_13_method_75_code
def yX11_clashes : MethodName := ⟨RX11, "clashes", "()I"⟩
def RJ9 : String := "java/lang/Math"
def TJ9 : u_T := fun k => match k with
  | _ => ("", "", "", false)
def tyJ9 : Nat → FieldType := fun k => match k with
  | _ => .int
abbrev cJ9_max_7cf53 : ByteArray := prog_14_method_65_code
def yJ9_max_7cf53 : MethodName := ⟨RJ9, "max", "(II)I"⟩
abbrev cJ9_min_7cf53 : ByteArray := prog_14_method_69_code
def yJ9_min_7cf53 : MethodName := ⟨RJ9, "min", "(II)I"⟩
def RJ10 : String := "java/lang/System"
def TJ10 : u_T := fun k => match k with
  | _ => ("", "", "", false)
def tyJ10 : Nat → FieldType := fun k => match k with
  | _ => .int
def RJ7 : String := "java/util/Arrays"
def TJ7 : u_T := fun k => match k with
  | _ => ("", "", "", false)
def tyJ7 : Nat → FieldType := fun k => match k with
  | _ => .int
abbrev cJ7_fill_53178 : ByteArray := prog_16_method_103_code
def yJ7_fill_53178 : MethodName := ⟨RJ7, "fill", "([II)V"⟩
def RL : String := "NineKeysLaw"
abbrev cL_law : ByteArray := code
def yL_law : MethodName := ⟨RL, "law", "([I)Z"⟩
abbrev vwCl : List vw_C := [(RX0, TX0, 5), (RX2, TX2, 1), (RX3, TX3, 4), (RX4, TX4, 4), (RX5, TX5, 4), (RX6, TX6, 2), (RX7, TX7, 11), (RX8, TX8, 6), (RX9, TX9, 4), (RX10, TX10, 11), (RX11, TX11, 35)]
end
section
theorem dX6_init_0 : decode cX6_init 0 = .ok (.aload_n 0, 1) := by decide +kernel
theorem dX6_init_1 : decode cX6_init 1 = .ok (.invokespecial 1, 3) := by decide +kernel
theorem dX6_init_4 : decode cX6_init 4 = .ok (.aload_n 0, 1) := by decide +kernel
theorem dX6_init_5 : decode cX6_init 5 = .ok (.iload_n 1, 1) := by decide +kernel
theorem dX6_init_6 : decode cX6_init 6 = .ok (.iconst 0, 1) := by decide +kernel
theorem dX6_init_7 : decode cX6_init 7 = .ok (.invokestatic 7, 3) := by decide +kernel
theorem dX6_init_10 : decode cX6_init 10 = .ok (.newarray .int, 2) := by decide +kernel
theorem dX6_init_12 : decode cX6_init 12 = .ok (.putfield 13, 3) := by decide +kernel
theorem dX6_init_15 : decode cX6_init 15 = .ok (.return_, 1) := by decide +kernel
theorem dX6_size_0 : decode cX6_size 0 = .ok (.aload_n 0, 1) := by decide +kernel
theorem dX6_size_1 : decode cX6_size 1 = .ok (.getfield 19, 3) := by decide +kernel
theorem dX6_size_4 : decode cX6_size 4 = .ok (.ireturn, 1) := by decide +kernel
theorem dX6_isEmpty_0 : decode cX6_isEmpty 0 = .ok (.aload_n 0, 1) := by decide +kernel
theorem dX6_isEmpty_1 : decode cX6_isEmpty 1 = .ok (.getfield 19, 3) := by decide +kernel
theorem dX6_isEmpty_4 : decode cX6_isEmpty 4 = .ok (.ifCond .ne 7, 3) := by decide +kernel
theorem dX6_isEmpty_7 : decode cX6_isEmpty 7 = .ok (.iconst 1, 1) := by decide +kernel
theorem dX6_isEmpty_8 : decode cX6_isEmpty 8 = .ok (.goto 4, 3) := by decide +kernel
theorem dX6_isEmpty_11 : decode cX6_isEmpty 11 = .ok (.iconst 0, 1) := by decide +kernel
theorem dX6_isEmpty_12 : decode cX6_isEmpty 12 = .ok (.ireturn, 1) := by decide +kernel
theorem dX6_isFull_0 : decode cX6_isFull 0 = .ok (.aload_n 0, 1) := by decide +kernel
theorem dX6_isFull_1 : decode cX6_isFull 1 = .ok (.getfield 19, 3) := by decide +kernel
theorem dX6_isFull_4 : decode cX6_isFull 4 = .ok (.aload_n 0, 1) := by decide +kernel
theorem dX6_isFull_5 : decode cX6_isFull 5 = .ok (.getfield 13, 3) := by decide +kernel
theorem dX6_isFull_8 : decode cX6_isFull 8 = .ok (.arraylength, 1) := by decide +kernel
theorem dX6_isFull_9 : decode cX6_isFull 9 = .ok (.if_icmp .lt 7, 3) := by decide +kernel
theorem dX6_isFull_12 : decode cX6_isFull 12 = .ok (.iconst 1, 1) := by decide +kernel
theorem dX6_isFull_13 : decode cX6_isFull 13 = .ok (.goto 4, 3) := by decide +kernel
theorem dX6_isFull_16 : decode cX6_isFull 16 = .ok (.iconst 0, 1) := by decide +kernel
theorem dX6_isFull_17 : decode cX6_isFull 17 = .ok (.ireturn, 1) := by decide +kernel
theorem dX6_at_0 : decode cX6_at 0 = .ok (.iload_n 1, 1) := by decide +kernel
theorem dX6_at_1 : decode cX6_at 1 = .ok (.ifCond .lt 20, 3) := by decide +kernel
theorem dX6_at_4 : decode cX6_at 4 = .ok (.iload_n 1, 1) := by decide +kernel
theorem dX6_at_5 : decode cX6_at 5 = .ok (.aload_n 0, 1) := by decide +kernel
theorem dX6_at_6 : decode cX6_at 6 = .ok (.getfield 19, 3) := by decide +kernel
theorem dX6_at_9 : decode cX6_at 9 = .ok (.if_icmp .ge 12, 3) := by decide +kernel
theorem dX6_at_12 : decode cX6_at 12 = .ok (.aload_n 0, 1) := by decide +kernel
theorem dX6_at_13 : decode cX6_at 13 = .ok (.getfield 13, 3) := by decide +kernel
theorem dX6_at_16 : decode cX6_at 16 = .ok (.iload_n 1, 1) := by decide +kernel
theorem dX6_at_17 : decode cX6_at 17 = .ok (.iaload, 1) := by decide +kernel
theorem dX6_at_18 : decode cX6_at 18 = .ok (.goto 4, 3) := by decide +kernel
theorem dX6_at_21 : decode cX6_at 21 = .ok (.iconst (-1), 1) := by decide +kernel
theorem dX6_at_22 : decode cX6_at 22 = .ok (.ireturn, 1) := by decide +kernel
theorem dX6_push_0 : decode cX6_push 0 = .ok (.aload_n 0, 1) := by decide +kernel
theorem dX6_push_1 : decode cX6_push 1 = .ok (.getfield 19, 3) := by decide +kernel
theorem dX6_push_4 : decode cX6_push 4 = .ok (.aload_n 0, 1) := by decide +kernel
theorem dX6_push_5 : decode cX6_push 5 = .ok (.getfield 13, 3) := by decide +kernel
theorem dX6_push_8 : decode cX6_push 8 = .ok (.arraylength, 1) := by decide +kernel
theorem dX6_push_9 : decode cX6_push 9 = .ok (.if_icmp .ge 23, 3) := by decide +kernel
theorem dX6_push_12 : decode cX6_push 12 = .ok (.aload_n 0, 1) := by decide +kernel
theorem dX6_push_13 : decode cX6_push 13 = .ok (.getfield 13, 3) := by decide +kernel
theorem dX6_push_16 : decode cX6_push 16 = .ok (.aload_n 0, 1) := by decide +kernel
theorem dX6_push_17 : decode cX6_push 17 = .ok (.getfield 19, 3) := by decide +kernel
theorem dX6_push_20 : decode cX6_push 20 = .ok (.iload_n 1, 1) := by decide +kernel
theorem dX6_push_21 : decode cX6_push 21 = .ok (.iastore, 1) := by decide +kernel
theorem dX6_push_22 : decode cX6_push 22 = .ok (.aload_n 0, 1) := by decide +kernel
theorem dX6_push_23 : decode cX6_push 23 = .ok (.dup, 1) := by decide +kernel
theorem dX6_push_24 : decode cX6_push 24 = .ok (.getfield 19, 3) := by decide +kernel
theorem dX6_push_27 : decode cX6_push 27 = .ok (.iconst 1, 1) := by decide +kernel
theorem dX6_push_28 : decode cX6_push 28 = .ok (.iadd, 1) := by decide +kernel
theorem dX6_push_29 : decode cX6_push 29 = .ok (.putfield 19, 3) := by decide +kernel
theorem dX6_push_32 : decode cX6_push 32 = .ok (.return_, 1) := by decide +kernel
theorem dX6_pop_0 : decode cX6_pop 0 = .ok (.aload_n 0, 1) := by decide +kernel
theorem dX6_pop_1 : decode cX6_pop 1 = .ok (.getfield 19, 3) := by decide +kernel
theorem dX6_pop_4 : decode cX6_pop 4 = .ok (.ifCond .le 13, 3) := by decide +kernel
theorem dX6_pop_7 : decode cX6_pop 7 = .ok (.aload_n 0, 1) := by decide +kernel
theorem dX6_pop_8 : decode cX6_pop 8 = .ok (.dup, 1) := by decide +kernel
theorem dX6_pop_9 : decode cX6_pop 9 = .ok (.getfield 19, 3) := by decide +kernel
theorem dX6_pop_12 : decode cX6_pop 12 = .ok (.iconst 1, 1) := by decide +kernel
theorem dX6_pop_13 : decode cX6_pop 13 = .ok (.isub, 1) := by decide +kernel
theorem dX6_pop_14 : decode cX6_pop 14 = .ok (.putfield 19, 3) := by decide +kernel
theorem dX6_pop_17 : decode cX6_pop 17 = .ok (.return_, 1) := by decide +kernel
theorem dX6_clear_0 : decode cX6_clear 0 = .ok (.aload_n 0, 1) := by decide +kernel
theorem dX6_clear_1 : decode cX6_clear 1 = .ok (.getfield 19, 3) := by decide +kernel
theorem dX6_clear_4 : decode cX6_clear 4 = .ok (.istore_n 1, 1) := by decide +kernel
theorem dX6_clear_5 : decode cX6_clear 5 = .ok (.aload_n 0, 1) := by decide +kernel
theorem dX6_clear_6 : decode cX6_clear 6 = .ok (.iconst 0, 1) := by decide +kernel
theorem dX6_clear_7 : decode cX6_clear 7 = .ok (.putfield 19, 3) := by decide +kernel
theorem dX6_clear_10 : decode cX6_clear 10 = .ok (.iload_n 1, 1) := by decide +kernel
theorem dX6_clear_11 : decode cX6_clear 11 = .ok (.ireturn, 1) := by decide +kernel
theorem dX6_becomeLike_0 : decode cX6_becomeLike 0 = .ok (.aload_n 0, 1) := by decide +kernel
theorem dX6_becomeLike_1 : decode cX6_becomeLike 1 = .ok (.iconst 0, 1) := by decide +kernel
theorem dX6_becomeLike_2 : decode cX6_becomeLike 2 = .ok (.putfield 19, 3) := by decide +kernel
theorem dX6_becomeLike_5 : decode cX6_becomeLike 5 = .ok (.iconst 0, 1) := by decide +kernel
theorem dX6_becomeLike_6 : decode cX6_becomeLike 6 = .ok (.istore_n 2, 1) := by decide +kernel
theorem dX6_becomeLike_7 : decode cX6_becomeLike 7 = .ok (.iload_n 2, 1) := by decide +kernel
theorem dX6_becomeLike_8 : decode cX6_becomeLike 8 = .ok (.aload_n 1, 1) := by decide +kernel
theorem dX6_becomeLike_9 : decode cX6_becomeLike 9 = .ok (.getfield 19, 3) := by decide +kernel
theorem dX6_becomeLike_12 : decode cX6_becomeLike 12 = .ok (.if_icmp .ge 19, 3) := by decide +kernel
theorem dX6_becomeLike_15 : decode cX6_becomeLike 15 = .ok (.aload_n 0, 1) := by decide +kernel
theorem dX6_becomeLike_16 : decode cX6_becomeLike 16 = .ok (.aload_n 1, 1) := by decide +kernel
theorem dX6_becomeLike_17 : decode cX6_becomeLike 17 = .ok (.getfield 13, 3) := by decide +kernel
theorem dX6_becomeLike_20 : decode cX6_becomeLike 20 = .ok (.iload_n 2, 1) := by decide +kernel
theorem dX6_becomeLike_21 : decode cX6_becomeLike 21 = .ok (.iaload, 1) := by decide +kernel
theorem dX6_becomeLike_22 : decode cX6_becomeLike 22 = .ok (.invokevirtual 23, 3) := by decide +kernel
theorem dX6_becomeLike_25 : decode cX6_becomeLike 25 = .ok (.iinc 2 1, 3) := by decide +kernel
theorem dX6_becomeLike_28 : decode cX6_becomeLike 28 = .ok (.goto (-21), 3) := by decide +kernel
theorem dX6_becomeLike_31 : decode cX6_becomeLike 31 = .ok (.return_, 1) := by decide +kernel
theorem dX6_isLike_0 : decode cX6_isLike 0 = .ok (.aload_n 0, 1) := by decide +kernel
theorem dX6_isLike_1 : decode cX6_isLike 1 = .ok (.getfield 19, 3) := by decide +kernel
theorem dX6_isLike_4 : decode cX6_isLike 4 = .ok (.aload_n 1, 1) := by decide +kernel
theorem dX6_isLike_5 : decode cX6_isLike 5 = .ok (.getfield 19, 3) := by decide +kernel
theorem dX6_isLike_8 : decode cX6_isLike 8 = .ok (.if_icmp .eq 5, 3) := by decide +kernel
theorem dX6_isLike_11 : decode cX6_isLike 11 = .ok (.iconst 0, 1) := by decide +kernel
theorem dX6_isLike_12 : decode cX6_isLike 12 = .ok (.ireturn, 1) := by decide +kernel
theorem dX6_isLike_13 : decode cX6_isLike 13 = .ok (.iconst 0, 1) := by decide +kernel
theorem dX6_isLike_14 : decode cX6_isLike 14 = .ok (.istore_n 2, 1) := by decide +kernel
theorem dX6_isLike_15 : decode cX6_isLike 15 = .ok (.iload_n 2, 1) := by decide +kernel
theorem dX6_isLike_16 : decode cX6_isLike 16 = .ok (.aload_n 0, 1) := by decide +kernel
theorem dX6_isLike_17 : decode cX6_isLike 17 = .ok (.getfield 19, 3) := by decide +kernel
theorem dX6_isLike_20 : decode cX6_isLike 20 = .ok (.if_icmp .ge 26, 3) := by decide +kernel
theorem dX6_isLike_23 : decode cX6_isLike 23 = .ok (.aload_n 0, 1) := by decide +kernel
theorem dX6_isLike_24 : decode cX6_isLike 24 = .ok (.getfield 13, 3) := by decide +kernel
theorem dX6_isLike_27 : decode cX6_isLike 27 = .ok (.iload_n 2, 1) := by decide +kernel
theorem dX6_isLike_28 : decode cX6_isLike 28 = .ok (.iaload, 1) := by decide +kernel
theorem dX6_isLike_29 : decode cX6_isLike 29 = .ok (.aload_n 1, 1) := by decide +kernel
theorem dX6_isLike_30 : decode cX6_isLike 30 = .ok (.getfield 13, 3) := by decide +kernel
theorem dX6_isLike_33 : decode cX6_isLike 33 = .ok (.iload_n 2, 1) := by decide +kernel
theorem dX6_isLike_34 : decode cX6_isLike 34 = .ok (.iaload, 1) := by decide +kernel
theorem dX6_isLike_35 : decode cX6_isLike 35 = .ok (.if_icmp .eq 5, 3) := by decide +kernel
theorem dX6_isLike_38 : decode cX6_isLike 38 = .ok (.iconst 0, 1) := by decide +kernel
theorem dX6_isLike_39 : decode cX6_isLike 39 = .ok (.ireturn, 1) := by decide +kernel
theorem dX6_isLike_40 : decode cX6_isLike 40 = .ok (.iinc 2 1, 3) := by decide +kernel
theorem dX6_isLike_43 : decode cX6_isLike 43 = .ok (.goto (-28), 3) := by decide +kernel
theorem dX6_isLike_46 : decode cX6_isLike 46 = .ok (.iconst 1, 1) := by decide +kernel
theorem dX6_isLike_47 : decode cX6_isLike 47 = .ok (.ireturn, 1) := by decide +kernel
theorem dX6_isAheadOf_0 : decode cX6_isAheadOf 0 = .ok (.iconst 0, 1) := by decide +kernel
theorem dX6_isAheadOf_1 : decode cX6_isAheadOf 1 = .ok (.istore_n 2, 1) := by decide +kernel
theorem dX6_isAheadOf_2 : decode cX6_isAheadOf 2 = .ok (.iload_n 2, 1) := by decide +kernel
theorem dX6_isAheadOf_3 : decode cX6_isAheadOf 3 = .ok (.aload_n 0, 1) := by decide +kernel
theorem dX6_isAheadOf_4 : decode cX6_isAheadOf 4 = .ok (.getfield 19, 3) := by decide +kernel
theorem dX6_isAheadOf_7 : decode cX6_isAheadOf 7 = .ok (.if_icmp .ge 53, 3) := by decide +kernel
theorem dX6_isAheadOf_10 : decode cX6_isAheadOf 10 = .ok (.iload_n 2, 1) := by decide +kernel
theorem dX6_isAheadOf_11 : decode cX6_isAheadOf 11 = .ok (.aload_n 1, 1) := by decide +kernel
theorem dX6_isAheadOf_12 : decode cX6_isAheadOf 12 = .ok (.getfield 19, 3) := by decide +kernel
theorem dX6_isAheadOf_15 : decode cX6_isAheadOf 15 = .ok (.if_icmp .ge 45, 3) := by decide +kernel
theorem dX6_isAheadOf_18 : decode cX6_isAheadOf 18 = .ok (.aload_n 0, 1) := by decide +kernel
theorem dX6_isAheadOf_19 : decode cX6_isAheadOf 19 = .ok (.getfield 13, 3) := by decide +kernel
theorem dX6_isAheadOf_22 : decode cX6_isAheadOf 22 = .ok (.iload_n 2, 1) := by decide +kernel
theorem dX6_isAheadOf_23 : decode cX6_isAheadOf 23 = .ok (.iaload, 1) := by decide +kernel
theorem dX6_isAheadOf_24 : decode cX6_isAheadOf 24 = .ok (.aload_n 1, 1) := by decide +kernel
theorem dX6_isAheadOf_25 : decode cX6_isAheadOf 25 = .ok (.getfield 13, 3) := by decide +kernel
theorem dX6_isAheadOf_28 : decode cX6_isAheadOf 28 = .ok (.iload_n 2, 1) := by decide +kernel
theorem dX6_isAheadOf_29 : decode cX6_isAheadOf 29 = .ok (.iaload, 1) := by decide +kernel
theorem dX6_isAheadOf_30 : decode cX6_isAheadOf 30 = .ok (.if_icmp .eq 24, 3) := by decide +kernel
theorem dX6_isAheadOf_33 : decode cX6_isAheadOf 33 = .ok (.aload_n 0, 1) := by decide +kernel
theorem dX6_isAheadOf_34 : decode cX6_isAheadOf 34 = .ok (.getfield 13, 3) := by decide +kernel
theorem dX6_isAheadOf_37 : decode cX6_isAheadOf 37 = .ok (.iload_n 2, 1) := by decide +kernel
theorem dX6_isAheadOf_38 : decode cX6_isAheadOf 38 = .ok (.iaload, 1) := by decide +kernel
theorem dX6_isAheadOf_39 : decode cX6_isAheadOf 39 = .ok (.aload_n 1, 1) := by decide +kernel
theorem dX6_isAheadOf_40 : decode cX6_isAheadOf 40 = .ok (.getfield 13, 3) := by decide +kernel
theorem dX6_isAheadOf_43 : decode cX6_isAheadOf 43 = .ok (.iload_n 2, 1) := by decide +kernel
theorem dX6_isAheadOf_44 : decode cX6_isAheadOf 44 = .ok (.iaload, 1) := by decide +kernel
theorem dX6_isAheadOf_45 : decode cX6_isAheadOf 45 = .ok (.if_icmp .ge 7, 3) := by decide +kernel
theorem dX6_isAheadOf_48 : decode cX6_isAheadOf 48 = .ok (.iconst 1, 1) := by decide +kernel
theorem dX6_isAheadOf_49 : decode cX6_isAheadOf 49 = .ok (.goto 4, 3) := by decide +kernel
theorem dX6_isAheadOf_52 : decode cX6_isAheadOf 52 = .ok (.iconst 0, 1) := by decide +kernel
theorem dX6_isAheadOf_53 : decode cX6_isAheadOf 53 = .ok (.ireturn, 1) := by decide +kernel
theorem dX6_isAheadOf_54 : decode cX6_isAheadOf 54 = .ok (.iinc 2 1, 3) := by decide +kernel
theorem dX6_isAheadOf_57 : decode cX6_isAheadOf 57 = .ok (.goto (-55), 3) := by decide +kernel
theorem dX6_isAheadOf_60 : decode cX6_isAheadOf 60 = .ok (.aload_n 0, 1) := by decide +kernel
theorem dX6_isAheadOf_61 : decode cX6_isAheadOf 61 = .ok (.getfield 19, 3) := by decide +kernel
theorem dX6_isAheadOf_64 : decode cX6_isAheadOf 64 = .ok (.aload_n 1, 1) := by decide +kernel
theorem dX6_isAheadOf_65 : decode cX6_isAheadOf 65 = .ok (.getfield 19, 3) := by decide +kernel
theorem dX6_isAheadOf_68 : decode cX6_isAheadOf 68 = .ok (.if_icmp .ge 7, 3) := by decide +kernel
theorem dX6_isAheadOf_71 : decode cX6_isAheadOf 71 = .ok (.iconst 1, 1) := by decide +kernel
theorem dX6_isAheadOf_72 : decode cX6_isAheadOf 72 = .ok (.goto 4, 3) := by decide +kernel
theorem dX6_isAheadOf_75 : decode cX6_isAheadOf 75 = .ok (.iconst 0, 1) := by decide +kernel
theorem dX6_isAheadOf_76 : decode cX6_isAheadOf 76 = .ok (.ireturn, 1) := by decide +kernel
end
