section
-- ===== PART A: goes FIRST, ahead of the names: the tables' words, and 'selects' of the private methods out of them =====
/-- a private method of a class that the tables say can be made, by its rows of tables_1 -/
def lw_okq (q : MethodName × Nat) : Prop := (q.1.cls ≠ "java/lang/invoke/MethodHandle" ∧ q.1.cls ≠ "java/lang/invoke/VarHandle") ∧ Cond.instantiable q.1.cls q.2 ∈ tables_1 ∧ Cond.privateMethod q.1 ∈ tables_1 ∧ Cond.instanceMethod q.1 ∈ tables_1
theorem lw_p0 : lw_okq (⟨"NineKeys$Book", "longestUnused", "()I"⟩, 5) := ⟨⟨by decide +kernel, by decide +kernel⟩, List.mem_of_getElem? (i := 36) (by decide +kernel), List.mem_of_getElem? (i := 325) (by decide +kernel), List.mem_of_getElem? (i := 326) (by decide +kernel)⟩
theorem lw_p1 : lw_okq (⟨"NineKeys$Pairs", "removeAt", "(I)V"⟩, 4) := ⟨⟨by decide +kernel, by decide +kernel⟩, List.mem_of_getElem? (i := 44) (by decide +kernel), List.mem_of_getElem? (i := 342) (by decide +kernel), List.mem_of_getElem? (i := 343) (by decide +kernel)⟩
theorem lw_p2 : lw_okq (⟨"NineKeys$Pairs", "placeOf", "(II)I"⟩, 4) := ⟨⟨by decide +kernel, by decide +kernel⟩, List.mem_of_getElem? (i := 44) (by decide +kernel), List.mem_of_getElem? (i := 415) (by decide +kernel), List.mem_of_getElem? (i := 416) (by decide +kernel)⟩
theorem lw_p3 : lw_okq (⟨"NineKeys", "rateNow", "(I)I"⟩, 11) := ⟨⟨by decide +kernel, by decide +kernel⟩, List.mem_of_getElem? (i := 17) (by decide +kernel), List.mem_of_getElem? (i := 427) (by decide +kernel), List.mem_of_getElem? (i := 428) (by decide +kernel)⟩
theorem lw_p4 : lw_okq (⟨"NineKeys", "latest", "()I"⟩, 11) := ⟨⟨by decide +kernel, by decide +kernel⟩, List.mem_of_getElem? (i := 17) (by decide +kernel), List.mem_of_getElem? (i := 431) (by decide +kernel), List.mem_of_getElem? (i := 432) (by decide +kernel)⟩
theorem lw_p5 : lw_okq (⟨"NineKeys", "layOffers", "(II)V"⟩, 11) := ⟨⟨by decide +kernel, by decide +kernel⟩, List.mem_of_getElem? (i := 17) (by decide +kernel), List.mem_of_getElem? (i := 539) (by decide +kernel), List.mem_of_getElem? (i := 540) (by decide +kernel)⟩
theorem lw_p6 : lw_okq (⟨"NineKeys$Shelf", "insert", "(II)V"⟩, 11) := ⟨⟨by decide +kernel, by decide +kernel⟩, List.mem_of_getElem? (i := 115) (by decide +kernel), List.mem_of_getElem? (i := 607) (by decide +kernel), List.mem_of_getElem? (i := 608) (by decide +kernel)⟩
theorem lw_p7 : lw_okq (⟨"NineKeys$Shelf", "standsAhead", "(IIII)Z"⟩, 11) := ⟨⟨by decide +kernel, by decide +kernel⟩, List.mem_of_getElem? (i := 115) (by decide +kernel), List.mem_of_getElem? (i := 611) (by decide +kernel), List.mem_of_getElem? (i := 612) (by decide +kernel)⟩
theorem lw_p8 : lw_okq (⟨"NineKeys", "learn", "(I)V"⟩, 11) := ⟨⟨by decide +kernel, by decide +kernel⟩, List.mem_of_getElem? (i := 17) (by decide +kernel), List.mem_of_getElem? (i := 640) (by decide +kernel), List.mem_of_getElem? (i := 641) (by decide +kernel)⟩
theorem lw_p9 : lw_okq (⟨"NineKeys$Newcomers", "placeOf", "(LNineKeys$Row;)I"⟩, 4) := ⟨⟨by decide +kernel, by decide +kernel⟩, List.mem_of_getElem? (i := 79) (by decide +kernel), List.mem_of_getElem? (i := 660) (by decide +kernel), List.mem_of_getElem? (i := 661) (by decide +kernel)⟩
theorem lw_p10 : lw_okq (⟨"NineKeys$Newcomers", "placeForNew", "()I"⟩, 4) := ⟨⟨by decide +kernel, by decide +kernel⟩, List.mem_of_getElem? (i := 79) (by decide +kernel), List.mem_of_getElem? (i := 673) (by decide +kernel), List.mem_of_getElem? (i := 674) (by decide +kernel)⟩
theorem lw_p11 : lw_okq (⟨"NineKeys", "textStands", "()Z"⟩, 11) := ⟨⟨by decide +kernel, by decide +kernel⟩, List.mem_of_getElem? (i := 17) (by decide +kernel), List.mem_of_getElem? (i := 715) (by decide +kernel), List.mem_of_getElem? (i := 716) (by decide +kernel)⟩
theorem lw_p12 : lw_okq (⟨"NineKeys$Plan", "choose", "(II)V"⟩, 4) := ⟨⟨by decide +kernel, by decide +kernel⟩, List.mem_of_getElem? (i := 160) (by decide +kernel), List.mem_of_getElem? (i := 732) (by decide +kernel), List.mem_of_getElem? (i := 733) (by decide +kernel)⟩
theorem lw_p13 : lw_okq (⟨"NineKeys$TapTable", "readWord", "(LNineKeys$Row;)V"⟩, 6) := ⟨⟨by decide +kernel, by decide +kernel⟩, List.mem_of_getElem? (i := 179) (by decide +kernel), List.mem_of_getElem? (i := 766) (by decide +kernel), List.mem_of_getElem? (i := 767) (by decide +kernel)⟩
theorem lw_p14 : lw_okq (⟨"NineKeys$TapTable", "tryStretchesFrom", "(I)V"⟩, 6) := ⟨⟨by decide +kernel, by decide +kernel⟩, List.mem_of_getElem? (i := 179) (by decide +kernel), List.mem_of_getElem? (i := 778) (by decide +kernel), List.mem_of_getElem? (i := 779) (by decide +kernel)⟩
theorem lw_p15 : lw_okq (⟨"NineKeys$TapTable", "pressesOn", "(ILNineKeys$Keyboard;)I"⟩, 6) := ⟨⟨by decide +kernel, by decide +kernel⟩, List.mem_of_getElem? (i := 179) (by decide +kernel), List.mem_of_getElem? (i := 791) (by decide +kernel), List.mem_of_getElem? (i := 792) (by decide +kernel)⟩
def lw_privs_1 : List (MethodName × Nat) := [(⟨"NineKeys$Book", "longestUnused", "()I"⟩, 5), (⟨"NineKeys$Pairs", "removeAt", "(I)V"⟩, 4), (⟨"NineKeys$Pairs", "placeOf", "(II)I"⟩, 4), (⟨"NineKeys", "rateNow", "(I)I"⟩, 11), (⟨"NineKeys", "latest", "()I"⟩, 11), (⟨"NineKeys", "layOffers", "(II)V"⟩, 11), (⟨"NineKeys$Shelf", "insert", "(II)V"⟩, 11), (⟨"NineKeys$Shelf", "standsAhead", "(IIII)Z"⟩, 11), (⟨"NineKeys", "learn", "(I)V"⟩, 11), (⟨"NineKeys$Newcomers", "placeOf", "(LNineKeys$Row;)I"⟩, 4), (⟨"NineKeys$Newcomers", "placeForNew", "()I"⟩, 4), (⟨"NineKeys", "textStands", "()Z"⟩, 11), (⟨"NineKeys$Plan", "choose", "(II)V"⟩, 4), (⟨"NineKeys$TapTable", "readWord", "(LNineKeys$Row;)V"⟩, 6), (⟨"NineKeys$TapTable", "tryStretchesFrom", "(I)V"⟩, 6), (⟨"NineKeys$TapTable", "pressesOn", "(ILNineKeys$Keyboard;)I"⟩, 6)]
theorem lw_r1 : ∀ q ∈ lw_privs_1, lw_okq q := List.forall_mem_cons.mpr ⟨lw_p0, List.forall_mem_cons.mpr ⟨lw_p1, List.forall_mem_cons.mpr ⟨lw_p2, List.forall_mem_cons.mpr ⟨lw_p3, List.forall_mem_cons.mpr ⟨lw_p4, List.forall_mem_cons.mpr ⟨lw_p5, List.forall_mem_cons.mpr ⟨lw_p6, List.forall_mem_cons.mpr ⟨lw_p7, List.forall_mem_cons.mpr ⟨lw_p8, List.forall_mem_cons.mpr ⟨lw_p9, List.forall_mem_cons.mpr ⟨lw_p10, List.forall_mem_cons.mpr ⟨lw_p11, List.forall_mem_cons.mpr ⟨lw_p12, List.forall_mem_cons.mpr ⟨lw_p13, List.forall_mem_cons.mpr ⟨lw_p14, List.forall_mem_cons.mpr ⟨lw_p15, fun _ h => absurd h List.not_mem_nil⟩⟩⟩⟩⟩⟩⟩⟩⟩⟩⟩⟩⟩⟩⟩⟩
theorem lw_p16 : lw_okq (⟨"NineKeys$TapTable", "touchesOn", "(IILNineKeys$Keyboard;)I"⟩, 6) := ⟨⟨by decide +kernel, by decide +kernel⟩, List.mem_of_getElem? (i := 179) (by decide +kernel), List.mem_of_getElem? (i := 796) (by decide +kernel), List.mem_of_getElem? (i := 797) (by decide +kernel)⟩
theorem lw_p17 : lw_okq (⟨"NineKeys$TapTable", "savedBy", "(IILNineKeys$Keyboard;)I"⟩, 6) := ⟨⟨by decide +kernel, by decide +kernel⟩, List.mem_of_getElem? (i := 179) (by decide +kernel), List.mem_of_getElem? (i := 800) (by decide +kernel), List.mem_of_getElem? (i := 801) (by decide +kernel)⟩
theorem lw_p18 : lw_okq (⟨"NineKeys$Shelf", "shareKeys", "(II)Z"⟩, 11) := ⟨⟨by decide +kernel, by decide +kernel⟩, List.mem_of_getElem? (i := 115) (by decide +kernel), List.mem_of_getElem? (i := 822) (by decide +kernel), List.mem_of_getElem? (i := 823) (by decide +kernel)⟩
theorem lw_p19 : lw_okq (⟨"NineKeysModel", "positionOf", "(I)I"⟩, 35) := ⟨⟨by decide +kernel, by decide +kernel⟩, List.mem_of_getElem? (i := 843) (by decide +kernel), List.mem_of_getElem? (i := 968) (by decide +kernel), List.mem_of_getElem? (i := 969) (by decide +kernel)⟩
theorem lw_p20 : lw_okq (⟨"NineKeysModel", "findSpelt", "()I"⟩, 35) := ⟨⟨by decide +kernel, by decide +kernel⟩, List.mem_of_getElem? (i := 843) (by decide +kernel), List.mem_of_getElem? (i := 989) (by decide +kernel), List.mem_of_getElem? (i := 990) (by decide +kernel)⟩
theorem lw_p21 : lw_okq (⟨"NineKeysModel", "come", "(I)I"⟩, 35) := ⟨⟨by decide +kernel, by decide +kernel⟩, List.mem_of_getElem? (i := 843) (by decide +kernel), List.mem_of_getElem? (i := 993) (by decide +kernel), List.mem_of_getElem? (i := 994) (by decide +kernel)⟩
theorem lw_p22 : lw_okq (⟨"NineKeysModel", "there", "()I"⟩, 35) := ⟨⟨by decide +kernel, by decide +kernel⟩, List.mem_of_getElem? (i := 843) (by decide +kernel), List.mem_of_getElem? (i := 997) (by decide +kernel), List.mem_of_getElem? (i := 998) (by decide +kernel)⟩
theorem lw_p23 : lw_okq (⟨"NineKeysModel", "go", "(I)V"⟩, 35) := ⟨⟨by decide +kernel, by decide +kernel⟩, List.mem_of_getElem? (i := 843) (by decide +kernel), List.mem_of_getElem? (i := 1001) (by decide +kernel), List.mem_of_getElem? (i := 1002) (by decide +kernel)⟩
theorem lw_p24 : lw_okq (⟨"NineKeysModel", "isWord", "(I)Z"⟩, 35) := ⟨⟨by decide +kernel, by decide +kernel⟩, List.mem_of_getElem? (i := 843) (by decide +kernel), List.mem_of_getElem? (i := 1009) (by decide +kernel), List.mem_of_getElem? (i := 1010) (by decide +kernel)⟩
theorem lw_p25 : lw_okq (⟨"NineKeysModel", "pairs", "()I"⟩, 35) := ⟨⟨by decide +kernel, by decide +kernel⟩, List.mem_of_getElem? (i := 843) (by decide +kernel), List.mem_of_getElem? (i := 1021) (by decide +kernel), List.mem_of_getElem? (i := 1022) (by decide +kernel)⟩
theorem lw_p26 : lw_okq (⟨"NineKeysModel", "latest", "()I"⟩, 35) := ⟨⟨by decide +kernel, by decide +kernel⟩, List.mem_of_getElem? (i := 843) (by decide +kernel), List.mem_of_getElem? (i := 1029) (by decide +kernel), List.mem_of_getElem? (i := 1030) (by decide +kernel)⟩
theorem lw_p27 : lw_okq (⟨"NineKeysModel", "rateOf", "(II)I"⟩, 35) := ⟨⟨by decide +kernel, by decide +kernel⟩, List.mem_of_getElem? (i := 843) (by decide +kernel), List.mem_of_getElem? (i := 1033) (by decide +kernel), List.mem_of_getElem? (i := 1034) (by decide +kernel)⟩
theorem lw_p28 : lw_okq (⟨"NineKeysModel", "takePressed", "()V"⟩, 35) := ⟨⟨by decide +kernel, by decide +kernel⟩, List.mem_of_getElem? (i := 843) (by decide +kernel), List.mem_of_getElem? (i := 1070) (by decide +kernel), List.mem_of_getElem? (i := 1071) (by decide +kernel)⟩
theorem lw_p29 : lw_okq (⟨"NineKeysModel", "findOffers", "(III)V"⟩, 35) := ⟨⟨by decide +kernel, by decide +kernel⟩, List.mem_of_getElem? (i := 843) (by decide +kernel), List.mem_of_getElem? (i := 1074) (by decide +kernel), List.mem_of_getElem? (i := 1075) (by decide +kernel)⟩
theorem lw_p30 : lw_okq (⟨"NineKeysModel", "offered", "(III)I"⟩, 35) := ⟨⟨by decide +kernel, by decide +kernel⟩, List.mem_of_getElem? (i := 843) (by decide +kernel), List.mem_of_getElem? (i := 1078) (by decide +kernel), List.mem_of_getElem? (i := 1079) (by decide +kernel)⟩
theorem lw_p31 : lw_okq (⟨"NineKeysModel", "meets", "(II)Z"⟩, 35) := ⟨⟨by decide +kernel, by decide +kernel⟩, List.mem_of_getElem? (i := 843) (by decide +kernel), List.mem_of_getElem? (i := 1082) (by decide +kernel), List.mem_of_getElem? (i := 1083) (by decide +kernel)⟩
def lw_privs_2 : List (MethodName × Nat) := [(⟨"NineKeys$TapTable", "touchesOn", "(IILNineKeys$Keyboard;)I"⟩, 6), (⟨"NineKeys$TapTable", "savedBy", "(IILNineKeys$Keyboard;)I"⟩, 6), (⟨"NineKeys$Shelf", "shareKeys", "(II)Z"⟩, 11), (⟨"NineKeysModel", "positionOf", "(I)I"⟩, 35), (⟨"NineKeysModel", "findSpelt", "()I"⟩, 35), (⟨"NineKeysModel", "come", "(I)I"⟩, 35), (⟨"NineKeysModel", "there", "()I"⟩, 35), (⟨"NineKeysModel", "go", "(I)V"⟩, 35), (⟨"NineKeysModel", "isWord", "(I)Z"⟩, 35), (⟨"NineKeysModel", "pairs", "()I"⟩, 35), (⟨"NineKeysModel", "latest", "()I"⟩, 35), (⟨"NineKeysModel", "rateOf", "(II)I"⟩, 35), (⟨"NineKeysModel", "takePressed", "()V"⟩, 35), (⟨"NineKeysModel", "findOffers", "(III)V"⟩, 35), (⟨"NineKeysModel", "offered", "(III)I"⟩, 35), (⟨"NineKeysModel", "meets", "(II)Z"⟩, 35)]
theorem lw_r2 : ∀ q ∈ lw_privs_2, lw_okq q := List.forall_mem_cons.mpr ⟨lw_p16, List.forall_mem_cons.mpr ⟨lw_p17, List.forall_mem_cons.mpr ⟨lw_p18, List.forall_mem_cons.mpr ⟨lw_p19, List.forall_mem_cons.mpr ⟨lw_p20, List.forall_mem_cons.mpr ⟨lw_p21, List.forall_mem_cons.mpr ⟨lw_p22, List.forall_mem_cons.mpr ⟨lw_p23, List.forall_mem_cons.mpr ⟨lw_p24, List.forall_mem_cons.mpr ⟨lw_p25, List.forall_mem_cons.mpr ⟨lw_p26, List.forall_mem_cons.mpr ⟨lw_p27, List.forall_mem_cons.mpr ⟨lw_p28, List.forall_mem_cons.mpr ⟨lw_p29, List.forall_mem_cons.mpr ⟨lw_p30, List.forall_mem_cons.mpr ⟨lw_p31, fun _ h => absurd h List.not_mem_nil⟩⟩⟩⟩⟩⟩⟩⟩⟩⟩⟩⟩⟩⟩⟩⟩
theorem lw_p32 : lw_okq (⟨"NineKeysModel", "findKeys", "(II)V"⟩, 35) := ⟨⟨by decide +kernel, by decide +kernel⟩, List.mem_of_getElem? (i := 843) (by decide +kernel), List.mem_of_getElem? (i := 1086) (by decide +kernel), List.mem_of_getElem? (i := 1087) (by decide +kernel)⟩
theorem lw_p33 : lw_okq (⟨"NineKeysModel", "areLike", "(III)Z"⟩, 35) := ⟨⟨by decide +kernel, by decide +kernel⟩, List.mem_of_getElem? (i := 843) (by decide +kernel), List.mem_of_getElem? (i := 1090) (by decide +kernel), List.mem_of_getElem? (i := 1091) (by decide +kernel)⟩
theorem lw_p34 : lw_okq (⟨"NineKeysModel", "slipsBeside", "()Z"⟩, 35) := ⟨⟨by decide +kernel, by decide +kernel⟩, List.mem_of_getElem? (i := 843) (by decide +kernel), List.mem_of_getElem? (i := 1094) (by decide +kernel), List.mem_of_getElem? (i := 1095) (by decide +kernel)⟩
theorem lw_p35 : lw_okq (⟨"NineKeysModel", "slipsLeftOut", "()Z"⟩, 35) := ⟨⟨by decide +kernel, by decide +kernel⟩, List.mem_of_getElem? (i := 843) (by decide +kernel), List.mem_of_getElem? (i := 1099) (by decide +kernel), List.mem_of_getElem? (i := 1100) (by decide +kernel)⟩
theorem lw_p36 : lw_okq (⟨"NineKeysModel", "slipsTwice", "()Z"⟩, 35) := ⟨⟨by decide +kernel, by decide +kernel⟩, List.mem_of_getElem? (i := 843) (by decide +kernel), List.mem_of_getElem? (i := 1103) (by decide +kernel), List.mem_of_getElem? (i := 1104) (by decide +kernel)⟩
theorem lw_p37 : lw_okq (⟨"NineKeysModel", "isAhead", "(II)Z"⟩, 35) := ⟨⟨by decide +kernel, by decide +kernel⟩, List.mem_of_getElem? (i := 843) (by decide +kernel), List.mem_of_getElem? (i := 1107) (by decide +kernel), List.mem_of_getElem? (i := 1108) (by decide +kernel)⟩
theorem lw_p38 : lw_okq (⟨"NineKeysModel", "learn", "(I)V"⟩, 35) := ⟨⟨by decide +kernel, by decide +kernel⟩, List.mem_of_getElem? (i := 843) (by decide +kernel), List.mem_of_getElem? (i := 1124) (by decide +kernel), List.mem_of_getElem? (i := 1125) (by decide +kernel)⟩
theorem lw_p39 : lw_okq (⟨"NineKeysModel", "findComer", "()I"⟩, 35) := ⟨⟨by decide +kernel, by decide +kernel⟩, List.mem_of_getElem? (i := 843) (by decide +kernel), List.mem_of_getElem? (i := 1132) (by decide +kernel), List.mem_of_getElem? (i := 1133) (by decide +kernel)⟩
theorem lw_p40 : lw_okq (⟨"NineKeysModel", "dropComer", "(I)V"⟩, 35) := ⟨⟨by decide +kernel, by decide +kernel⟩, List.mem_of_getElem? (i := 843) (by decide +kernel), List.mem_of_getElem? (i := 1136) (by decide +kernel), List.mem_of_getElem? (i := 1137) (by decide +kernel)⟩
theorem lw_p41 : lw_okq (⟨"NineKeysModel", "moveComer", "(II)V"⟩, 35) := ⟨⟨by decide +kernel, by decide +kernel⟩, List.mem_of_getElem? (i := 843) (by decide +kernel), List.mem_of_getElem? (i := 1140) (by decide +kernel), List.mem_of_getElem? (i := 1141) (by decide +kernel)⟩
theorem lw_p42 : lw_okq (⟨"NineKeysModel", "addComer", "()V"⟩, 35) := ⟨⟨by decide +kernel, by decide +kernel⟩, List.mem_of_getElem? (i := 843) (by decide +kernel), List.mem_of_getElem? (i := 1144) (by decide +kernel), List.mem_of_getElem? (i := 1145) (by decide +kernel)⟩
theorem lw_p43 : lw_okq (⟨"NineKeysModel", "presses", "(III)I"⟩, 35) := ⟨⟨by decide +kernel, by decide +kernel⟩, List.mem_of_getElem? (i := 843) (by decide +kernel), List.mem_of_getElem? (i := 1168) (by decide +kernel), List.mem_of_getElem? (i := 1169) (by decide +kernel)⟩
theorem lw_p44 : lw_okq (⟨"NineKeysModel", "tapsOf", "(I)I"⟩, 35) := ⟨⟨by decide +kernel, by decide +kernel⟩, List.mem_of_getElem? (i := 843) (by decide +kernel), List.mem_of_getElem? (i := 1172) (by decide +kernel), List.mem_of_getElem? (i := 1173) (by decide +kernel)⟩
theorem lw_p45 : lw_okq (⟨"NineKeysModel", "takeKeys", "(II)V"⟩, 35) := ⟨⟨by decide +kernel, by decide +kernel⟩, List.mem_of_getElem? (i := 843) (by decide +kernel), List.mem_of_getElem? (i := 1176) (by decide +kernel), List.mem_of_getElem? (i := 1177) (by decide +kernel)⟩
theorem lw_p46 : lw_okq (⟨"NineKeysModel", "guessed", "(III)I"⟩, 35) := ⟨⟨by decide +kernel, by decide +kernel⟩, List.mem_of_getElem? (i := 843) (by decide +kernel), List.mem_of_getElem? (i := 1180) (by decide +kernel), List.mem_of_getElem? (i := 1181) (by decide +kernel)⟩
theorem lw_p47 : lw_okq (⟨"NineKeysModel", "placeOf", "(I)I"⟩, 35) := ⟨⟨by decide +kernel, by decide +kernel⟩, List.mem_of_getElem? (i := 843) (by decide +kernel), List.mem_of_getElem? (i := 1184) (by decide +kernel), List.mem_of_getElem? (i := 1185) (by decide +kernel)⟩
def lw_privs_3 : List (MethodName × Nat) := [(⟨"NineKeysModel", "findKeys", "(II)V"⟩, 35), (⟨"NineKeysModel", "areLike", "(III)Z"⟩, 35), (⟨"NineKeysModel", "slipsBeside", "()Z"⟩, 35), (⟨"NineKeysModel", "slipsLeftOut", "()Z"⟩, 35), (⟨"NineKeysModel", "slipsTwice", "()Z"⟩, 35), (⟨"NineKeysModel", "isAhead", "(II)Z"⟩, 35), (⟨"NineKeysModel", "learn", "(I)V"⟩, 35), (⟨"NineKeysModel", "findComer", "()I"⟩, 35), (⟨"NineKeysModel", "dropComer", "(I)V"⟩, 35), (⟨"NineKeysModel", "moveComer", "(II)V"⟩, 35), (⟨"NineKeysModel", "addComer", "()V"⟩, 35), (⟨"NineKeysModel", "presses", "(III)I"⟩, 35), (⟨"NineKeysModel", "tapsOf", "(I)I"⟩, 35), (⟨"NineKeysModel", "takeKeys", "(II)V"⟩, 35), (⟨"NineKeysModel", "guessed", "(III)I"⟩, 35), (⟨"NineKeysModel", "placeOf", "(I)I"⟩, 35)]
theorem lw_r3 : ∀ q ∈ lw_privs_3, lw_okq q := List.forall_mem_cons.mpr ⟨lw_p32, List.forall_mem_cons.mpr ⟨lw_p33, List.forall_mem_cons.mpr ⟨lw_p34, List.forall_mem_cons.mpr ⟨lw_p35, List.forall_mem_cons.mpr ⟨lw_p36, List.forall_mem_cons.mpr ⟨lw_p37, List.forall_mem_cons.mpr ⟨lw_p38, List.forall_mem_cons.mpr ⟨lw_p39, List.forall_mem_cons.mpr ⟨lw_p40, List.forall_mem_cons.mpr ⟨lw_p41, List.forall_mem_cons.mpr ⟨lw_p42, List.forall_mem_cons.mpr ⟨lw_p43, List.forall_mem_cons.mpr ⟨lw_p44, List.forall_mem_cons.mpr ⟨lw_p45, List.forall_mem_cons.mpr ⟨lw_p46, List.forall_mem_cons.mpr ⟨lw_p47, fun _ h => absurd h List.not_mem_nil⟩⟩⟩⟩⟩⟩⟩⟩⟩⟩⟩⟩⟩⟩⟩⟩
theorem lw_p48 : lw_okq (⟨"NineKeysModel", "findSpent", "()Z"⟩, 35) := ⟨⟨by decide +kernel, by decide +kernel⟩, List.mem_of_getElem? (i := 843) (by decide +kernel), List.mem_of_getElem? (i := 1192) (by decide +kernel), List.mem_of_getElem? (i := 1193) (by decide +kernel)⟩
theorem lw_p49 : lw_okq (⟨"NineKeysModel", "leastBehind", "(II)I"⟩, 35) := ⟨⟨by decide +kernel, by decide +kernel⟩, List.mem_of_getElem? (i := 843) (by decide +kernel), List.mem_of_getElem? (i := 1196) (by decide +kernel), List.mem_of_getElem? (i := 1197) (by decide +kernel)⟩
theorem lw_p50 : lw_okq (⟨"NineKeysModel", "tapsOfText", "()I"⟩, 35) := ⟨⟨by decide +kernel, by decide +kernel⟩, List.mem_of_getElem? (i := 843) (by decide +kernel), List.mem_of_getElem? (i := 1209) (by decide +kernel), List.mem_of_getElem? (i := 1210) (by decide +kernel)⟩
theorem lw_p51 : lw_okq (⟨"NineKeysModel", "findOften", "()I"⟩, 35) := ⟨⟨by decide +kernel, by decide +kernel⟩, List.mem_of_getElem? (i := 843) (by decide +kernel), List.mem_of_getElem? (i := 1217) (by decide +kernel), List.mem_of_getElem? (i := 1218) (by decide +kernel)⟩
theorem lw_p52 : lw_okq (⟨"NineKeysModel", "stretch", "(II)I"⟩, 35) := ⟨⟨by decide +kernel, by decide +kernel⟩, List.mem_of_getElem? (i := 843) (by decide +kernel), List.mem_of_getElem? (i := 1222) (by decide +kernel), List.mem_of_getElem? (i := 1223) (by decide +kernel)⟩
theorem lw_p53 : lw_okq (⟨"NineKeysModel", "exchange", "(II)V"⟩, 35) := ⟨⟨by decide +kernel, by decide +kernel⟩, List.mem_of_getElem? (i := 843) (by decide +kernel), List.mem_of_getElem? (i := 1230) (by decide +kernel), List.mem_of_getElem? (i := 1231) (by decide +kernel)⟩
theorem lw_p54 : lw_okq (⟨"NineKeysModel", "mostSame", "()I"⟩, 35) := ⟨⟨by decide +kernel, by decide +kernel⟩, List.mem_of_getElem? (i := 843) (by decide +kernel), List.mem_of_getElem? (i := 1238) (by decide +kernel), List.mem_of_getElem? (i := 1239) (by decide +kernel)⟩
theorem lw_p55 : lw_okq (⟨"NineKeysModel", "sameAs", "(I)I"⟩, 35) := ⟨⟨by decide +kernel, by decide +kernel⟩, List.mem_of_getElem? (i := 843) (by decide +kernel), List.mem_of_getElem? (i := 1242) (by decide +kernel), List.mem_of_getElem? (i := 1243) (by decide +kernel)⟩
theorem lw_p56 : lw_okq (⟨"NineKeysModel", "areSame", "(II)Z"⟩, 35) := ⟨⟨by decide +kernel, by decide +kernel⟩, List.mem_of_getElem? (i := 843) (by decide +kernel), List.mem_of_getElem? (i := 1246) (by decide +kernel), List.mem_of_getElem? (i := 1247) (by decide +kernel)⟩
def lw_privs_4 : List (MethodName × Nat) := [(⟨"NineKeysModel", "findSpent", "()Z"⟩, 35), (⟨"NineKeysModel", "leastBehind", "(II)I"⟩, 35), (⟨"NineKeysModel", "tapsOfText", "()I"⟩, 35), (⟨"NineKeysModel", "findOften", "()I"⟩, 35), (⟨"NineKeysModel", "stretch", "(II)I"⟩, 35), (⟨"NineKeysModel", "exchange", "(II)V"⟩, 35), (⟨"NineKeysModel", "mostSame", "()I"⟩, 35), (⟨"NineKeysModel", "sameAs", "(I)I"⟩, 35), (⟨"NineKeysModel", "areSame", "(II)Z"⟩, 35)]
theorem lw_r4 : ∀ q ∈ lw_privs_4, lw_okq q := List.forall_mem_cons.mpr ⟨lw_p48, List.forall_mem_cons.mpr ⟨lw_p49, List.forall_mem_cons.mpr ⟨lw_p50, List.forall_mem_cons.mpr ⟨lw_p51, List.forall_mem_cons.mpr ⟨lw_p52, List.forall_mem_cons.mpr ⟨lw_p53, List.forall_mem_cons.mpr ⟨lw_p54, List.forall_mem_cons.mpr ⟨lw_p55, List.forall_mem_cons.mpr ⟨lw_p56, fun _ h => absurd h List.not_mem_nil⟩⟩⟩⟩⟩⟩⟩⟩⟩
def lw_privs : List (MethodName × Nat) := lw_privs_1 ++ (lw_privs_2 ++ (lw_privs_3 ++ (lw_privs_4)))
def lw_tbl : List Cond := k2_sels lw_privs ++ tables_1
theorem lw_privs_ok : ∀ q ∈ lw_privs, lw_okq q := by
  show ∀ q ∈ lw_privs_1 ++ (lw_privs_2 ++ (lw_privs_3 ++ (lw_privs_4))), lw_okq q
  exact List.forall_mem_append.mpr ⟨lw_r1, List.forall_mem_append.mpr ⟨lw_r2, List.forall_mem_append.mpr ⟨lw_r3, lw_r4⟩⟩⟩
/-- the streams that the claim lets the run draw from -/
abbrev lw_cs : List Choice := [Jvm.Choice.named "NaN.bits"]
theorem lw_bits : nanBits ∈ lw_cs := by first | decide | exact List.mem_cons_self | simp [lw_cs, nanBits]
end
section
def RX0 : String := "NineKeys$Book"
def TX0 : u_T := fun k => match k with
  | 0 => ("NineKeys$Book", "words", "[LNineKeys$Word;", true)
  | 1 => ("NineKeys$Book", "pairs", "LNineKeys$Pairs;", true)
  | 2 => ("NineKeys$Book", "size", "I", false)
  | 3 => ("NineKeys$Book", "sizeThere", "I", false)
  | _ => ("NineKeys$Book", "clock", "I", false)
def tyX0 : Nat → FieldType := fun k => match k with
  | 0 => .array (.object "NineKeys$Word")
  | 1 => .object "NineKeys$Pairs"
  | 2 => .int
  | 3 => .int
  | _ => .int
theorem nmX0 : ∀ a, a < 5 → ∀ b, b < 5 → a ≠ b → (TX0 a).2.1 ≠ (TX0 b).2.1 := by decide +kernel
theorem tyX0_ok : ∀ k, k < 5 → parseFieldDescriptor (TX0 k).2.2.1 = some (tyX0 k) := by decide +kernel
abbrev cX0_init : ByteArray := prog_2_method_1_code
def yX0_init : MethodName := ⟨RX0, "<init>", "()V"⟩
abbrev cX0_size : ByteArray := prog_2_method_2_code
def yX0_size : MethodName := ⟨RX0, "size", "()I"⟩
abbrev cX0_sizeThere : ByteArray := prog_2_method_3_code
def yX0_sizeThere : MethodName := ⟨RX0, "sizeThere", "()I"⟩
abbrev cX0_clock : ByteArray := prog_2_method_4_code
def yX0_clock : MethodName := ⟨RX0, "clock", "()I"⟩
abbrev cX0_pairs : ByteArray := prog_2_method_5_code
def yX0_pairs : MethodName := ⟨RX0, "pairs", "()LNineKeys$Pairs;"⟩
abbrev cX0_isFull : ByteArray := prog_2_method_6_code
def yX0_isFull : MethodName := ⟨RX0, "isFull", "()Z"⟩
abbrev cX0_has : ByteArray := prog_2_method_7_code
def yX0_has : MethodName := ⟨RX0, "has", "(I)Z"⟩
abbrev cX0_at : ByteArray := prog_2_method_8_code
def yX0_at : MethodName := ⟨RX0, "at", "(I)LNineKeys$Word;"⟩
abbrev cX0_isThere : ByteArray := prog_2_method_9_code
def yX0_isThere : MethodName := ⟨RX0, "isThere", "(I)Z"⟩
abbrev cX0_numberOf : ByteArray := prog_2_method_10_code
def yX0_numberOf : MethodName := ⟨RX0, "numberOf", "(LNineKeys$Row;)I"⟩
abbrev cX0_enter : ByteArray := prog_2_method_11_code
def yX0_enter : MethodName := ⟨RX0, "enter", "(LNineKeys$Row;I)I"⟩
abbrev cX0_longestUnused : ByteArray := prog_2_method_12_code
def yX0_longestUnused : MethodName := ⟨RX0, "longestUnused", "()I"⟩
abbrev cX0_dismiss : ByteArray := prog_2_method_13_code
def yX0_dismiss : MethodName := ⟨RX0, "dismiss", "(I)V"⟩
abbrev cX0_learn : ByteArray := prog_2_method_14_code
def yX0_learn : MethodName := ⟨RX0, "learn", "(II)V"⟩
def RX1 : String := "NineKeys$KeyRow"
def TX1 : u_T := fun k => match k with
  | _ => ("", "", "", false)
def tyX1 : Nat → FieldType := fun k => match k with
  | _ => .int
theorem nmX1 : ∀ a, a < 0 → ∀ b, b < 0 → a ≠ b → (TX1 a).2.1 ≠ (TX1 b).2.1 := by decide +kernel
theorem tyX1_ok : ∀ k, k < 0 → parseFieldDescriptor (TX1 k).2.2.1 = some (tyX1 k) := by decide +kernel
abbrev cX1_join : ByteArray := prog_3_method_2_code
def yX1_join : MethodName := ⟨RX1, "join", "(JI)J"⟩
abbrev cX1_pack : ByteArray := prog_3_method_3_code
def yX1_pack : MethodName := ⟨RX1, "pack", "(LNineKeys$Row;)J"⟩
abbrev cX1_sizeOf : ByteArray := prog_3_method_4_code
def yX1_sizeOf : MethodName := ⟨RX1, "sizeOf", "(J)I"⟩
abbrev cX1_keyAt : ByteArray := prog_3_method_5_code
def yX1_keyAt : MethodName := ⟨RX1, "keyAt", "(JI)I"⟩
abbrev cX1_without : ByteArray := prog_3_method_6_code
def yX1_without : MethodName := ⟨RX1, "without", "(JI)J"⟩
abbrev cX1_sharedStart : ByteArray := prog_3_method_7_code
def yX1_sharedStart : MethodName := ⟨RX1, "sharedStart", "(JJ)I"⟩
abbrev cX1_beginsWith : ByteArray := prog_3_method_8_code
def yX1_beginsWith : MethodName := ⟨RX1, "beginsWith", "(JJ)Z"⟩
abbrev cX1_slipBetween : ByteArray := prog_3_method_9_code
def yX1_slipBetween : MethodName := ⟨RX1, "slipBetween", "(JJ)I"⟩
abbrev cX1_comeByBeside : ByteArray := prog_3_method_10_code
def yX1_comeByBeside : MethodName := ⟨RX1, "comeByBeside", "(JJ)Z"⟩
abbrev cX1_comeByLeftOut : ByteArray := prog_3_method_11_code
def yX1_comeByLeftOut : MethodName := ⟨RX1, "comeByLeftOut", "(JJ)Z"⟩
abbrev cX1_comeByTwice : ByteArray := prog_3_method_12_code
def yX1_comeByTwice : MethodName := ⟨RX1, "comeByTwice", "(JJ)Z"⟩
def RX2 : String := "NineKeys$Keyboard"
def TX2 : u_T := fun k => match k with
  | _ => ("NineKeys$Keyboard", "keys", "[I", true)
def tyX2 : Nat → FieldType := fun k => match k with
  | _ => .array .int
theorem nmX2 : ∀ a, a < 1 → ∀ b, b < 1 → a ≠ b → (TX2 a).2.1 ≠ (TX2 b).2.1 := by decide +kernel
theorem tyX2_ok : ∀ k, k < 1 → parseFieldDescriptor (TX2 k).2.2.1 = some (tyX2 k) := by decide +kernel
abbrev cX2_init : ByteArray := prog_4_method_1_code
def yX2_init : MethodName := ⟨RX2, "<init>", "()V"⟩
abbrev cX2_keyOf : ByteArray := prog_4_method_2_code
def yX2_keyOf : MethodName := ⟨RX2, "keyOf", "(I)I"⟩
abbrev cX2_give : ByteArray := prog_4_method_3_code
def yX2_give : MethodName := ⟨RX2, "give", "(II)Z"⟩
abbrev cX2_exchange : ByteArray := prog_4_method_4_code
def yX2_exchange : MethodName := ⟨RX2, "exchange", "(II)V"⟩
abbrev cX2_positionOf : ByteArray := prog_4_method_5_code
def yX2_positionOf : MethodName := ⟨RX2, "positionOf", "(I)I"⟩
abbrev cX2_tapPresses : ByteArray := prog_4_method_6_code
def yX2_tapPresses : MethodName := ⟨RX2, "tapPresses", "(LNineKeys$Row;)I"⟩
abbrev cX2_guessKeys : ByteArray := prog_4_method_7_code
def yX2_guessKeys : MethodName := ⟨RX2, "guessKeys", "(LNineKeys$Row;)J"⟩
abbrev cX2_slideKeys : ByteArray := prog_4_method_8_code
def yX2_slideKeys : MethodName := ⟨RX2, "slideKeys", "(LNineKeys$Row;)J"⟩
def RX3 : String := "NineKeys$Newcomers"
def TX3 : u_T := fun k => match k with
  | 0 => ("NineKeys$Newcomers", "rows", "[LNineKeys$Row;", true)
  | 1 => ("NineKeys$Newcomers", "times", "[I", true)
  | 2 => ("NineKeys$Newcomers", "stamps", "[I", true)
  | _ => ("NineKeys$Newcomers", "stamp", "I", false)
def tyX3 : Nat → FieldType := fun k => match k with
  | 0 => .array (.object "NineKeys$Row")
  | 1 => .array .int
  | 2 => .array .int
  | _ => .int
theorem nmX3 : ∀ a, a < 4 → ∀ b, b < 4 → a ≠ b → (TX3 a).2.1 ≠ (TX3 b).2.1 := by decide +kernel
theorem tyX3_ok : ∀ k, k < 4 → parseFieldDescriptor (TX3 k).2.2.1 = some (tyX3 k) := by decide +kernel
abbrev cX3_init : ByteArray := prog_5_method_1_code
def yX3_init : MethodName := ⟨RX3, "<init>", "()V"⟩
abbrev cX3_size : ByteArray := prog_5_method_2_code
def yX3_size : MethodName := ⟨RX3, "size", "()I"⟩
abbrev cX3_placeOf : ByteArray := prog_5_method_3_code
def yX3_placeOf : MethodName := ⟨RX3, "placeOf", "(LNineKeys$Row;)I"⟩
abbrev cX3_timesOf : ByteArray := prog_5_method_4_code
def yX3_timesOf : MethodName := ⟨RX3, "timesOf", "(LNineKeys$Row;)I"⟩
abbrev cX3_countOnce : ByteArray := prog_5_method_5_code
def yX3_countOnce : MethodName := ⟨RX3, "countOnce", "(LNineKeys$Row;)I"⟩
abbrev cX3_placeForNew : ByteArray := prog_5_method_6_code
def yX3_placeForNew : MethodName := ⟨RX3, "placeForNew", "()I"⟩
abbrev cX3_forget : ByteArray := prog_5_method_7_code
def yX3_forget : MethodName := ⟨RX3, "forget", "(LNineKeys$Row;)V"⟩
def RX4 : String := "NineKeys$Pairs"
def TX4 : u_T := fun k => match k with
  | 0 => ("NineKeys$Pairs", "aheads", "[I", true)
  | 1 => ("NineKeys$Pairs", "behinds", "[I", true)
  | 2 => ("NineKeys$Pairs", "counts", "[I", true)
  | _ => ("NineKeys$Pairs", "size", "I", false)
def tyX4 : Nat → FieldType := fun k => match k with
  | 0 => .array .int
  | 1 => .array .int
  | 2 => .array .int
  | _ => .int
theorem nmX4 : ∀ a, a < 4 → ∀ b, b < 4 → a ≠ b → (TX4 a).2.1 ≠ (TX4 b).2.1 := by decide +kernel
theorem tyX4_ok : ∀ k, k < 4 → parseFieldDescriptor (TX4 k).2.2.1 = some (tyX4 k) := by decide +kernel
abbrev cX4_init : ByteArray := prog_6_method_1_code
def yX4_init : MethodName := ⟨RX4, "<init>", "()V"⟩
abbrev cX4_size : ByteArray := prog_6_method_2_code
def yX4_size : MethodName := ⟨RX4, "size", "()I"⟩
abbrev cX4_placeOf : ByteArray := prog_6_method_3_code
def yX4_placeOf : MethodName := ⟨RX4, "placeOf", "(II)I"⟩
abbrev cX4_countOf : ByteArray := prog_6_method_4_code
def yX4_countOf : MethodName := ⟨RX4, "countOf", "(II)I"⟩
abbrev cX4_haveRoomFor : ByteArray := prog_6_method_5_code
def yX4_haveRoomFor : MethodName := ⟨RX4, "haveRoomFor", "(II)Z"⟩
abbrev cX4_tell : ByteArray := prog_6_method_6_code
def yX4_tell : MethodName := ⟨RX4, "tell", "(III)V"⟩
abbrev cX4_removeAt : ByteArray := prog_6_method_7_code
def yX4_removeAt : MethodName := ⟨RX4, "removeAt", "(I)V"⟩
abbrev cX4_forget : ByteArray := prog_6_method_8_code
def yX4_forget : MethodName := ⟨RX4, "forget", "(I)V"⟩
abbrev cX4_countsBehind : ByteArray := prog_6_method_9_code
def yX4_countsBehind : MethodName := ⟨RX4, "countsBehind", "(I[I)V"⟩
def RX5 : String := "NineKeys$Plan"
def TX5 : u_T := fun k => match k with
  | 0 => ("NineKeys$Plan", "choices", "[I", true)
  | 1 => ("NineKeys$Plan", "presses", "[I", true)
  | 2 => ("NineKeys$Plan", "fromHere", "[I", true)
  | _ => ("NineKeys$Plan", "fromNext", "[I", true)
def tyX5 : Nat → FieldType := fun k => match k with
  | 0 => .array .int
  | 1 => .array .int
  | 2 => .array .int
  | _ => .array .int
theorem nmX5 : ∀ a, a < 4 → ∀ b, b < 4 → a ≠ b → (TX5 a).2.1 ≠ (TX5 b).2.1 := by decide +kernel
theorem tyX5_ok : ∀ k, k < 4 → parseFieldDescriptor (TX5 k).2.2.1 = some (tyX5 k) := by decide +kernel
abbrev cX5_init : ByteArray := prog_7_method_1_code
def yX5_init : MethodName := ⟨RX5, "<init>", "()V"⟩
abbrev cX5_fill : ByteArray := prog_7_method_2_code
def yX5_fill : MethodName := ⟨RX5, "fill", "(LNineKeys$Row;LNineKeys$Shelf;)V"⟩
abbrev cX5_choose : ByteArray := prog_7_method_3_code
def yX5_choose : MethodName := ⟨RX5, "choose", "(II)V"⟩
abbrev cX5_least : ByteArray := prog_7_method_4_code
def yX5_least : MethodName := ⟨RX5, "least", "()I"⟩
abbrev cX5_kindAt : ByteArray := prog_7_method_5_code
def yX5_kindAt : MethodName := ⟨RX5, "kindAt", "(I)I"⟩
def RX6 : String := "NineKeys$Row"
def TX6 : u_T := fun k => match k with
  | 0 => ("NineKeys$Row", "items", "[I", true)
  | _ => ("NineKeys$Row", "size", "I", false)
def tyX6 : Nat → FieldType := fun k => match k with
  | 0 => .array .int
  | _ => .int
theorem nmX6 : ∀ a, a < 2 → ∀ b, b < 2 → a ≠ b → (TX6 a).2.1 ≠ (TX6 b).2.1 := by decide +kernel
theorem tyX6_ok : ∀ k, k < 2 → parseFieldDescriptor (TX6 k).2.2.1 = some (tyX6 k) := by decide +kernel
abbrev cX6_init : ByteArray := prog_8_method_1_code
def yX6_init : MethodName := ⟨RX6, "<init>", "(I)V"⟩
abbrev cX6_size : ByteArray := prog_8_method_2_code
def yX6_size : MethodName := ⟨RX6, "size", "()I"⟩
abbrev cX6_isEmpty : ByteArray := prog_8_method_3_code
def yX6_isEmpty : MethodName := ⟨RX6, "isEmpty", "()Z"⟩
abbrev cX6_isFull : ByteArray := prog_8_method_4_code
def yX6_isFull : MethodName := ⟨RX6, "isFull", "()Z"⟩
abbrev cX6_at : ByteArray := prog_8_method_5_code
def yX6_at : MethodName := ⟨RX6, "at", "(I)I"⟩
abbrev cX6_push : ByteArray := prog_8_method_6_code
def yX6_push : MethodName := ⟨RX6, "push", "(I)V"⟩
abbrev cX6_pop : ByteArray := prog_8_method_7_code
def yX6_pop : MethodName := ⟨RX6, "pop", "()V"⟩
abbrev cX6_clear : ByteArray := prog_8_method_8_code
def yX6_clear : MethodName := ⟨RX6, "clear", "()I"⟩
abbrev cX6_becomeLike : ByteArray := prog_8_method_9_code
def yX6_becomeLike : MethodName := ⟨RX6, "becomeLike", "(LNineKeys$Row;)V"⟩
abbrev cX6_isLike : ByteArray := prog_8_method_10_code
def yX6_isLike : MethodName := ⟨RX6, "isLike", "(LNineKeys$Row;)Z"⟩
abbrev cX6_isAheadOf : ByteArray := prog_8_method_11_code
def yX6_isAheadOf : MethodName := ⟨RX6, "isAheadOf", "(LNineKeys$Row;)Z"⟩
def RX7 : String := "NineKeys$Shelf"
def TX7 : u_T := fun k => match k with
  | 0 => ("NineKeys$Shelf", "book", "LNineKeys$Book;", true)
  | 1 => ("NineKeys$Shelf", "keyboard", "LNineKeys$Keyboard;", true)
  | 2 => ("NineKeys$Shelf", "guessKeys", "[J", true)
  | 3 => ("NineKeys$Shelf", "slideKeys", "[J", true)
  | 4 => ("NineKeys$Shelf", "rates", "[I", true)
  | 5 => ("NineKeys$Shelf", "behindLatest", "[I", true)
  | 6 => ("NineKeys$Shelf", "offered", "[I", true)
  | 7 => ("NineKeys$Shelf", "worths", "[I", true)
  | 8 => ("NineKeys$Shelf", "prices", "[I", true)
  | 9 => ("NineKeys$Shelf", "size", "I", false)
  | _ => ("NineKeys$Shelf", "share", "I", false)
def tyX7 : Nat → FieldType := fun k => match k with
  | 0 => .object "NineKeys$Book"
  | 1 => .object "NineKeys$Keyboard"
  | 2 => .array .long
  | 3 => .array .long
  | 4 => .array .int
  | 5 => .array .int
  | 6 => .array .int
  | 7 => .array .int
  | 8 => .array .int
  | 9 => .int
  | _ => .int
theorem nmX7 : ∀ a, a < 11 → ∀ b, b < 11 → a ≠ b → (TX7 a).2.1 ≠ (TX7 b).2.1 := by decide +kernel
theorem tyX7_ok : ∀ k, k < 11 → parseFieldDescriptor (TX7 k).2.2.1 = some (tyX7 k) := by decide +kernel
abbrev cX7_init : ByteArray := prog_9_method_1_code
def yX7_init : MethodName := ⟨RX7, "<init>", "(LNineKeys$Book;LNineKeys$Keyboard;)V"⟩
abbrev cX7_shareNow : ByteArray := prog_9_method_2_code
def yX7_shareNow : MethodName := ⟨RX7, "shareNow", "()I"⟩
abbrev cX7_setShare : ByteArray := prog_9_method_3_code
def yX7_setShare : MethodName := ⟨RX7, "setShare", "(I)V"⟩
abbrev cX7_setPrice : ByteArray := prog_9_method_4_code
def yX7_setPrice : MethodName := ⟨RX7, "setPrice", "(II)V"⟩
abbrev cX7_readKeys : ByteArray := prog_9_method_5_code
def yX7_readKeys : MethodName := ⟨RX7, "readKeys", "()V"⟩
abbrev cX7_weigh : ByteArray := prog_9_method_6_code
def yX7_weigh : MethodName := ⟨RX7, "weigh", "(I)V"⟩
abbrev cX7_rateOf : ByteArray := prog_9_method_7_code
def yX7_rateOf : MethodName := ⟨RX7, "rateOf", "(I)I"⟩
abbrev cX7_standsAhead : ByteArray := prog_9_method_8_code
def yX7_standsAhead : MethodName := ⟨RX7, "standsAhead", "(IIII)Z"⟩
abbrev cX7_askedFor : ByteArray := prog_9_method_9_code
def yX7_askedFor : MethodName := ⟨RX7, "askedFor", "(IJII)I"⟩
abbrev cX7_layOut : ByteArray := prog_9_method_10_code
def yX7_layOut : MethodName := ⟨RX7, "layOut", "(JII)V"⟩
abbrev cX7_insert : ByteArray := prog_9_method_11_code
def yX7_insert : MethodName := ⟨RX7, "insert", "(II)V"⟩
abbrev cX7_size : ByteArray := prog_9_method_12_code
def yX7_size : MethodName := ⟨RX7, "size", "()I"⟩
abbrev cX7_offerAt : ByteArray := prog_9_method_13_code
def yX7_offerAt : MethodName := ⟨RX7, "offerAt", "(I)I"⟩
abbrev cX7_countPresses : ByteArray := prog_9_method_14_code
def yX7_countPresses : MethodName := ⟨RX7, "countPresses", "(I[I)V"⟩
abbrev cX7_sharersOf : ByteArray := prog_9_method_15_code
def yX7_sharersOf : MethodName := ⟨RX7, "sharersOf", "(I)I"⟩
abbrev cX7_shareKeys : ByteArray := prog_9_method_16_code
def yX7_shareKeys : MethodName := ⟨RX7, "shareKeys", "(II)Z"⟩
abbrev cX7_mostShared : ByteArray := prog_9_method_17_code
def yX7_mostShared : MethodName := ⟨RX7, "mostShared", "()I"⟩
abbrev cX7_sharerAt : ByteArray := prog_9_method_18_code
def yX7_sharerAt : MethodName := ⟨RX7, "sharerAt", "(II)I"⟩
abbrev cX7_sharingPairs : ByteArray := prog_9_method_19_code
def yX7_sharingPairs : MethodName := ⟨RX7, "sharingPairs", "()I"⟩
def RX8 : String := "NineKeys$TapTable"
def TX8 : u_T := fun k => match k with
  | 0 => ("NineKeys$TapTable", "times", "[I", true)
  | 1 => ("NineKeys$TapTable", "touches", "[[I", true)
  | 2 => ("NineKeys$TapTable", "blanks", "I", false)
  | 3 => ("NineKeys$TapTable", "least", "[[I", true)
  | 4 => ("NineKeys$TapTable", "stretches", "[[I", true)
  | _ => ("NineKeys$TapTable", "keyPresses", "[I", true)
def tyX8 : Nat → FieldType := fun k => match k with
  | 0 => .array .int
  | 1 => .array (.array .int)
  | 2 => .int
  | 3 => .array (.array .int)
  | 4 => .array (.array .int)
  | _ => .array .int
theorem nmX8 : ∀ a, a < 6 → ∀ b, b < 6 → a ≠ b → (TX8 a).2.1 ≠ (TX8 b).2.1 := by decide +kernel
theorem tyX8_ok : ∀ k, k < 6 → parseFieldDescriptor (TX8 k).2.2.1 = some (tyX8 k) := by decide +kernel
abbrev cX8_init : ByteArray := prog_10_method_1_code
def yX8_init : MethodName := ⟨RX8, "<init>", "()V"⟩
abbrev cX8_read : ByteArray := prog_10_method_2_code
def yX8_read : MethodName := ⟨RX8, "read", "(LNineKeys$Row;LNineKeys$Book;)V"⟩
abbrev cX8_readWord : ByteArray := prog_10_method_3_code
def yX8_readWord : MethodName := ⟨RX8, "readWord", "(LNineKeys$Row;)V"⟩
abbrev cX8_dealStretches : ByteArray := prog_10_method_4_code
def yX8_dealStretches : MethodName := ⟨RX8, "dealStretches", "(LNineKeys$Keyboard;)I"⟩
abbrev cX8_tryStretchesFrom : ByteArray := prog_10_method_5_code
def yX8_tryStretchesFrom : MethodName := ⟨RX8, "tryStretchesFrom", "(I)V"⟩
abbrev cX8_exchangeTwo : ByteArray := prog_10_method_6_code
def yX8_exchangeTwo : MethodName := ⟨RX8, "exchangeTwo", "(LNineKeys$Keyboard;)I"⟩
abbrev cX8_savedBy : ByteArray := prog_10_method_7_code
def yX8_savedBy : MethodName := ⟨RX8, "savedBy", "(IILNineKeys$Keyboard;)I"⟩
abbrev cX8_pressesOn : ByteArray := prog_10_method_8_code
def yX8_pressesOn : MethodName := ⟨RX8, "pressesOn", "(ILNineKeys$Keyboard;)I"⟩
abbrev cX8_touchesOn : ByteArray := prog_10_method_9_code
def yX8_touchesOn : MethodName := ⟨RX8, "touchesOn", "(IILNineKeys$Keyboard;)I"⟩
def RX9 : String := "NineKeys$Word"
def TX9 : u_T := fun k => match k with
  | 0 => ("NineKeys$Word", "letters", "LNineKeys$Row;", true)
  | 1 => ("NineKeys$Word", "count", "I", false)
  | 2 => ("NineKeys$Word", "use", "I", false)
  | _ => ("NineKeys$Word", "there", "Z", false)
def tyX9 : Nat → FieldType := fun k => match k with
  | 0 => .object "NineKeys$Row"
  | 1 => .int
  | 2 => .int
  | _ => .boolean
theorem nmX9 : ∀ a, a < 4 → ∀ b, b < 4 → a ≠ b → (TX9 a).2.1 ≠ (TX9 b).2.1 := by decide +kernel
theorem tyX9_ok : ∀ k, k < 4 → parseFieldDescriptor (TX9 k).2.2.1 = some (tyX9 k) := by decide +kernel
abbrev cX9_init : ByteArray := prog_11_method_1_code
def yX9_init : MethodName := ⟨RX9, "<init>", "(LNineKeys$Row;II)V"⟩
def RX10 : String := "NineKeys"
def TX10 : u_T := fun k => match k with
  | 0 => ("NineKeys", "keyboard", "LNineKeys$Keyboard;", true)
  | 1 => ("NineKeys", "book", "LNineKeys$Book;", true)
  | 2 => ("NineKeys", "newcomers", "LNineKeys$Newcomers;", true)
  | 3 => ("NineKeys", "shelf", "LNineKeys$Shelf;", true)
  | 4 => ("NineKeys", "spending", "LNineKeys$Plan;", true)
  | 5 => ("NineKeys", "tapTable", "LNineKeys$TapTable;", true)
  | 6 => ("NineKeys", "spelt", "LNineKeys$Row;", true)
  | 7 => ("NineKeys", "pressed", "LNineKeys$Row;", true)
  | 8 => ("NineKeys", "written", "LNineKeys$Row;", true)
  | 9 => ("NineKeys", "told", "[I", true)
  | _ => ("NineKeys", "presses", "[I", true)
def tyX10 : Nat → FieldType := fun k => match k with
  | 0 => .object "NineKeys$Keyboard"
  | 1 => .object "NineKeys$Book"
  | 2 => .object "NineKeys$Newcomers"
  | 3 => .object "NineKeys$Shelf"
  | 4 => .object "NineKeys$Plan"
  | 5 => .object "NineKeys$TapTable"
  | 6 => .object "NineKeys$Row"
  | 7 => .object "NineKeys$Row"
  | 8 => .object "NineKeys$Row"
  | 9 => .array .int
  | _ => .array .int
theorem nmX10 : ∀ a, a < 11 → ∀ b, b < 11 → a ≠ b → (TX10 a).2.1 ≠ (TX10 b).2.1 := by decide +kernel
theorem tyX10_ok : ∀ k, k < 11 → parseFieldDescriptor (TX10 k).2.2.1 = some (tyX10 k) := by decide +kernel
abbrev cX10_init : ByteArray := prog_1_method_1_code
def yX10_init : MethodName := ⟨RX10, "<init>", "()V"⟩
abbrev cX10_deal : ByteArray := prog_1_method_2_code
def yX10_deal : MethodName := ⟨RX10, "deal", "(II)I"⟩
abbrev cX10_letter : ByteArray := prog_1_method_3_code
def yX10_letter : MethodName := ⟨RX10, "letter", "(II)I"⟩
abbrev cX10_beside : ByteArray := prog_1_method_4_code
def yX10_beside : MethodName := ⟨RX10, "beside", "(II)Z"⟩
abbrev cX10_spell : ByteArray := prog_1_method_5_code
def yX10_spell : MethodName := ⟨RX10, "spell", "(IIIII)I"⟩
abbrev cX10_unspell : ByteArray := prog_1_method_6_code
def yX10_unspell : MethodName := ⟨RX10, "unspell", "()I"⟩
abbrev cX10_add : ByteArray := prog_1_method_7_code
def yX10_add : MethodName := ⟨RX10, "add", "(I)I"⟩
abbrev cX10_drop : ByteArray := prog_1_method_8_code
def yX10_drop : MethodName := ⟨RX10, "drop", "(I)I"⟩
abbrev cX10_count : ByteArray := prog_1_method_9_code
def yX10_count : MethodName := ⟨RX10, "count", "(II)I"⟩
abbrev cX10_pair : ByteArray := prog_1_method_10_code
def yX10_pair : MethodName := ⟨RX10, "pair", "(III)I"⟩
abbrev cX10_word : ByteArray := prog_1_method_11_code
def yX10_word : MethodName := ⟨RX10, "word", "(II)I"⟩
abbrev cX10_paired : ByteArray := prog_1_method_12_code
def yX10_paired : MethodName := ⟨RX10, "paired", "(II)I"⟩
abbrev cX10_find : ByteArray := prog_1_method_13_code
def yX10_find : MethodName := ⟨RX10, "find", "()I"⟩
abbrev cX10_many : ByteArray := prog_1_method_14_code
def yX10_many : MethodName := ⟨RX10, "many", "(I)I"⟩
abbrev cX10_share : ByteArray := prog_1_method_15_code
def yX10_share : MethodName := ⟨RX10, "share", "(I)I"⟩
abbrev cX10_price : ByteArray := prog_1_method_16_code
def yX10_price : MethodName := ⟨RX10, "price", "(II)I"⟩
abbrev cX10_press : ByteArray := prog_1_method_17_code
def yX10_press : MethodName := ⟨RX10, "press", "(I)I"⟩
abbrev cX10_back : ByteArray := prog_1_method_18_code
def yX10_back : MethodName := ⟨RX10, "back", "()I"⟩
abbrev cX10_offers : ByteArray := prog_1_method_19_code
def yX10_offers : MethodName := ⟨RX10, "offers", "(II)I"⟩
abbrev cX10_offer : ByteArray := prog_1_method_20_code
def yX10_offer : MethodName := ⟨RX10, "offer", "(III)I"⟩
abbrev cX10_priced : ByteArray := prog_1_method_21_code
def yX10_priced : MethodName := ⟨RX10, "priced", "(II)I"⟩
abbrev cX10_take : ByteArray := prog_1_method_22_code
def yX10_take : MethodName := ⟨RX10, "take", "(III)I"⟩
abbrev cX10_third : ByteArray := prog_1_method_23_code
def yX10_third : MethodName := ⟨RX10, "third", "()I"⟩
abbrev cX10_newcomer : ByteArray := prog_1_method_24_code
def yX10_newcomer : MethodName := ⟨RX10, "newcomer", "()I"⟩
abbrev cX10_put : ByteArray := prog_1_method_25_code
def yX10_put : MethodName := ⟨RX10, "put", "(I)I"⟩
abbrev cX10_wipe : ByteArray := prog_1_method_26_code
def yX10_wipe : MethodName := ⟨RX10, "wipe", "()I"⟩
abbrev cX10_text : ByteArray := prog_1_method_27_code
def yX10_text : MethodName := ⟨RX10, "text", "(I)I"⟩
abbrev cX10_cost : ByteArray := prog_1_method_28_code
def yX10_cost : MethodName := ⟨RX10, "cost", "(II)I"⟩
abbrev cX10_fewest : ByteArray := prog_1_method_29_code
def yX10_fewest : MethodName := ⟨RX10, "fewest", "()I"⟩
abbrev cX10_plan : ByteArray := prog_1_method_30_code
def yX10_plan : MethodName := ⟨RX10, "plan", "(I)I"⟩
abbrev cX10_taps : ByteArray := prog_1_method_31_code
def yX10_taps : MethodName := ⟨RX10, "taps", "()I"⟩
abbrev cX10_best : ByteArray := prog_1_method_32_code
def yX10_best : MethodName := ⟨RX10, "best", "()I"⟩
abbrev cX10_swap : ByteArray := prog_1_method_33_code
def yX10_swap : MethodName := ⟨RX10, "swap", "()I"⟩
abbrev cX10_clash : ByteArray := prog_1_method_34_code
def yX10_clash : MethodName := ⟨RX10, "clash", "()I"⟩
abbrev cX10_clashing : ByteArray := prog_1_method_35_code
def yX10_clashing : MethodName := ⟨RX10, "clashing", "(I)I"⟩
abbrev cX10_clashes : ByteArray := prog_1_method_36_code
def yX10_clashes : MethodName := ⟨RX10, "clashes", "()I"⟩
abbrev cX10_isLetter : ByteArray := prog_1_method_37_code
def yX10_isLetter : MethodName := ⟨RX10, "isLetter", "(I)Z"⟩
abbrev cX10_isKey : ByteArray := prog_1_method_38_code
def yX10_isKey : MethodName := ⟨RX10, "isKey", "(I)Z"⟩
abbrev cX10_isKind : ByteArray := prog_1_method_39_code
def yX10_isKind : MethodName := ⟨RX10, "isKind", "(I)Z"⟩
abbrev cX10_isCount : ByteArray := prog_1_method_40_code
def yX10_isCount : MethodName := ⟨RX10, "isCount", "(I)Z"⟩
abbrev cX10_areBeside : ByteArray := prog_1_method_41_code
def yX10_areBeside : MethodName := ⟨RX10, "areBeside", "(II)Z"⟩
abbrev cX10_refusalOf : ByteArray := prog_1_method_42_code
def yX10_refusalOf : MethodName := ⟨RX10, "refusalOf", "(I)I"⟩
abbrev cX10_latest : ByteArray := prog_1_method_43_code
def yX10_latest : MethodName := ⟨RX10, "latest", "()I"⟩
abbrev cX10_rateNow : ByteArray := prog_1_method_44_code
def yX10_rateNow : MethodName := ⟨RX10, "rateNow", "(I)I"⟩
abbrev cX10_layOffers : ByteArray := prog_1_method_45_code
def yX10_layOffers : MethodName := ⟨RX10, "layOffers", "(II)V"⟩
abbrev cX10_learn : ByteArray := prog_1_method_46_code
def yX10_learn : MethodName := ⟨RX10, "learn", "(I)V"⟩
abbrev cX10_textStands : ByteArray := prog_1_method_47_code
def yX10_textStands : MethodName := ⟨RX10, "textStands", "()Z"⟩
def RX11 : String := "NineKeysModel"
def TX11 : u_T := fun k => match k with
  | 0 => ("NineKeysModel", "keyOf", "[I", true)
  | 1 => ("NineKeysModel", "letterOf", "[I", true)
  | 2 => ("NineKeysModel", "sizeOf", "[I", true)
  | 3 => ("NineKeysModel", "countOf", "[I", true)
  | 4 => ("NineKeysModel", "useOf", "[I", true)
  | 5 => ("NineKeysModel", "isThere", "[Z", true)
  | 6 => ("NineKeysModel", "words", "I", false)
  | 7 => ("NineKeysModel", "pairOf", "[I", true)
  | 8 => ("NineKeysModel", "clock", "I", false)
  | 9 => ("NineKeysModel", "share", "I", false)
  | 10 => ("NineKeysModel", "priceOf", "[I", true)
  | 11 => ("NineKeysModel", "spelt", "[I", true)
  | 12 => ("NineKeysModel", "speltSize", "I", false)
  | 13 => ("NineKeysModel", "pressed", "[I", true)
  | 14 => ("NineKeysModel", "pressedSize", "I", false)
  | 15 => ("NineKeysModel", "text", "[I", true)
  | 16 => ("NineKeysModel", "textSize", "I", false)
  | 17 => ("NineKeysModel", "comer", "[I", true)
  | 18 => ("NineKeysModel", "comerSize", "[I", true)
  | 19 => ("NineKeysModel", "comerTimes", "[I", true)
  | 20 => ("NineKeysModel", "comerWhen", "[I", true)
  | 21 => ("NineKeysModel", "comers", "I", false)
  | 22 => ("NineKeysModel", "comerClock", "I", false)
  | 23 => ("NineKeysModel", "five", "[I", true)
  | 24 => ("NineKeysModel", "keys", "[I", true)
  | 25 => ("NineKeysModel", "keysSize", "I", false)
  | 26 => ("NineKeysModel", "row", "[I", true)
  | 27 => ("NineKeysModel", "rowSize", "I", false)
  | 28 => ("NineKeysModel", "offers", "[I", true)
  | 29 => ("NineKeysModel", "worth", "[I", true)
  | 30 => ("NineKeysModel", "offerMany", "I", false)
  | 31 => ("NineKeysModel", "spent", "[I", true)
  | 32 => ("NineKeysModel", "often", "[I", true)
  | 33 => ("NineKeysModel", "follows", "[I", true)
  | _ => ("NineKeysModel", "least", "[I", true)
def tyX11 : Nat → FieldType := fun k => match k with
  | 0 => .array .int
  | 1 => .array .int
  | 2 => .array .int
  | 3 => .array .int
  | 4 => .array .int
  | 5 => .array .boolean
  | 6 => .int
  | 7 => .array .int
  | 8 => .int
  | 9 => .int
  | 10 => .array .int
  | 11 => .array .int
  | 12 => .int
  | 13 => .array .int
  | 14 => .int
  | 15 => .array .int
  | 16 => .int
  | 17 => .array .int
  | 18 => .array .int
  | 19 => .array .int
  | 20 => .array .int
  | 21 => .int
  | 22 => .int
  | 23 => .array .int
  | 24 => .array .int
  | 25 => .int
  | 26 => .array .int
  | 27 => .int
  | 28 => .array .int
  | 29 => .array .int
  | 30 => .int
  | 31 => .array .int
  | 32 => .array .int
  | 33 => .array .int
  | _ => .array .int
theorem nmX11 : ∀ a, a < 35 → ∀ b, b < 35 → a ≠ b → (TX11 a).2.1 ≠ (TX11 b).2.1 := by decide +kernel
theorem tyX11_ok : ∀ k, k < 35 → parseFieldDescriptor (TX11 k).2.2.1 = some (tyX11 k) := by decide +kernel
abbrev cX11_init : ByteArray := prog_13_method_1_code
def yX11_init : MethodName := ⟨RX11, "<init>", "()V"⟩
abbrev cX11_in : ByteArray := prog_13_method_2_code
def yX11_in : MethodName := ⟨RX11, "in", "(III)Z"⟩
abbrev cX11_isWord : ByteArray := prog_13_method_3_code
def yX11_isWord : MethodName := ⟨RX11, "isWord", "(I)Z"⟩
abbrev cX11_deal : ByteArray := prog_13_method_4_code
def yX11_deal : MethodName := ⟨RX11, "deal", "(II)I"⟩
abbrev cX11_positionOf : ByteArray := prog_13_method_5_code
def yX11_positionOf : MethodName := ⟨RX11, "positionOf", "(I)I"⟩
abbrev cX11_letter : ByteArray := prog_13_method_6_code
def yX11_letter : MethodName := ⟨RX11, "letter", "(II)I"⟩
abbrev cX11_beside : ByteArray := prog_13_method_7_code
def yX11_beside : MethodName := ⟨RX11, "beside", "(II)Z"⟩
abbrev cX11_spell : ByteArray := prog_13_method_8_code
def yX11_spell : MethodName := ⟨RX11, "spell", "(IIIII)I"⟩
abbrev cX11_unspell : ByteArray := prog_13_method_9_code
def yX11_unspell : MethodName := ⟨RX11, "unspell", "()I"⟩
abbrev cX11_findSpelt : ByteArray := prog_13_method_10_code
def yX11_findSpelt : MethodName := ⟨RX11, "findSpelt", "()I"⟩
abbrev cX11_go : ByteArray := prog_13_method_11_code
def yX11_go : MethodName := ⟨RX11, "go", "(I)V"⟩
abbrev cX11_there : ByteArray := prog_13_method_12_code
def yX11_there : MethodName := ⟨RX11, "there", "()I"⟩
abbrev cX11_come : ByteArray := prog_13_method_13_code
def yX11_come : MethodName := ⟨RX11, "come", "(I)I"⟩
abbrev cX11_add : ByteArray := prog_13_method_14_code
def yX11_add : MethodName := ⟨RX11, "add", "(I)I"⟩
abbrev cX11_drop : ByteArray := prog_13_method_15_code
def yX11_drop : MethodName := ⟨RX11, "drop", "(I)I"⟩
abbrev cX11_count : ByteArray := prog_13_method_16_code
def yX11_count : MethodName := ⟨RX11, "count", "(II)I"⟩
abbrev cX11_pairs : ByteArray := prog_13_method_17_code
def yX11_pairs : MethodName := ⟨RX11, "pairs", "()I"⟩
abbrev cX11_pair : ByteArray := prog_13_method_18_code
def yX11_pair : MethodName := ⟨RX11, "pair", "(III)I"⟩
abbrev cX11_latest : ByteArray := prog_13_method_19_code
def yX11_latest : MethodName := ⟨RX11, "latest", "()I"⟩
abbrev cX11_rateOf : ByteArray := prog_13_method_20_code
def yX11_rateOf : MethodName := ⟨RX11, "rateOf", "(II)I"⟩
abbrev cX11_word : ByteArray := prog_13_method_21_code
def yX11_word : MethodName := ⟨RX11, "word", "(II)I"⟩
abbrev cX11_paired : ByteArray := prog_13_method_22_code
def yX11_paired : MethodName := ⟨RX11, "paired", "(II)I"⟩
abbrev cX11_find : ByteArray := prog_13_method_23_code
def yX11_find : MethodName := ⟨RX11, "find", "()I"⟩
abbrev cX11_many : ByteArray := prog_13_method_24_code
def yX11_many : MethodName := ⟨RX11, "many", "(I)I"⟩
abbrev cX11_share : ByteArray := prog_13_method_25_code
def yX11_share : MethodName := ⟨RX11, "share", "(I)I"⟩
abbrev cX11_price : ByteArray := prog_13_method_26_code
def yX11_price : MethodName := ⟨RX11, "price", "(II)I"⟩
abbrev cX11_press : ByteArray := prog_13_method_27_code
def yX11_press : MethodName := ⟨RX11, "press", "(I)I"⟩
abbrev cX11_back : ByteArray := prog_13_method_28_code
def yX11_back : MethodName := ⟨RX11, "back", "()I"⟩
abbrev cX11_findKeys : ByteArray := prog_13_method_29_code
def yX11_findKeys : MethodName := ⟨RX11, "findKeys", "(II)V"⟩
abbrev cX11_takePressed : ByteArray := prog_13_method_30_code
def yX11_takePressed : MethodName := ⟨RX11, "takePressed", "()V"⟩
abbrev cX11_takeKeys : ByteArray := prog_13_method_31_code
def yX11_takeKeys : MethodName := ⟨RX11, "takeKeys", "(II)V"⟩
abbrev cX11_areLike : ByteArray := prog_13_method_32_code
def yX11_areLike : MethodName := ⟨RX11, "areLike", "(III)Z"⟩
abbrev cX11_meets : ByteArray := prog_13_method_33_code
def yX11_meets : MethodName := ⟨RX11, "meets", "(II)Z"⟩
abbrev cX11_slipsBeside : ByteArray := prog_13_method_34_code
def yX11_slipsBeside : MethodName := ⟨RX11, "slipsBeside", "()Z"⟩
abbrev cX11_slipsLeftOut : ByteArray := prog_13_method_35_code
def yX11_slipsLeftOut : MethodName := ⟨RX11, "slipsLeftOut", "()Z"⟩
abbrev cX11_slipsTwice : ByteArray := prog_13_method_36_code
def yX11_slipsTwice : MethodName := ⟨RX11, "slipsTwice", "()Z"⟩
abbrev cX11_offered : ByteArray := prog_13_method_37_code
def yX11_offered : MethodName := ⟨RX11, "offered", "(III)I"⟩
abbrev cX11_isAhead : ByteArray := prog_13_method_38_code
def yX11_isAhead : MethodName := ⟨RX11, "isAhead", "(II)Z"⟩
abbrev cX11_findOffers : ByteArray := prog_13_method_39_code
def yX11_findOffers : MethodName := ⟨RX11, "findOffers", "(III)V"⟩
abbrev cX11_offers : ByteArray := prog_13_method_40_code
def yX11_offers : MethodName := ⟨RX11, "offers", "(II)I"⟩
abbrev cX11_offer : ByteArray := prog_13_method_41_code
def yX11_offer : MethodName := ⟨RX11, "offer", "(III)I"⟩
abbrev cX11_priced : ByteArray := prog_13_method_42_code
def yX11_priced : MethodName := ⟨RX11, "priced", "(II)I"⟩
abbrev cX11_learn : ByteArray := prog_13_method_43_code
def yX11_learn : MethodName := ⟨RX11, "learn", "(I)V"⟩
abbrev cX11_take : ByteArray := prog_13_method_44_code
def yX11_take : MethodName := ⟨RX11, "take", "(III)I"⟩
abbrev cX11_findComer : ByteArray := prog_13_method_45_code
def yX11_findComer : MethodName := ⟨RX11, "findComer", "()I"⟩
abbrev cX11_moveComer : ByteArray := prog_13_method_46_code
def yX11_moveComer : MethodName := ⟨RX11, "moveComer", "(II)V"⟩
abbrev cX11_dropComer : ByteArray := prog_13_method_47_code
def yX11_dropComer : MethodName := ⟨RX11, "dropComer", "(I)V"⟩
abbrev cX11_addComer : ByteArray := prog_13_method_48_code
def yX11_addComer : MethodName := ⟨RX11, "addComer", "()V"⟩
abbrev cX11_third : ByteArray := prog_13_method_49_code
def yX11_third : MethodName := ⟨RX11, "third", "()I"⟩
abbrev cX11_newcomer : ByteArray := prog_13_method_50_code
def yX11_newcomer : MethodName := ⟨RX11, "newcomer", "()I"⟩
abbrev cX11_put : ByteArray := prog_13_method_51_code
def yX11_put : MethodName := ⟨RX11, "put", "(I)I"⟩
abbrev cX11_wipe : ByteArray := prog_13_method_52_code
def yX11_wipe : MethodName := ⟨RX11, "wipe", "()I"⟩
abbrev cX11_text : ByteArray := prog_13_method_53_code
def yX11_text : MethodName := ⟨RX11, "text", "(I)I"⟩
abbrev cX11_tapsOf : ByteArray := prog_13_method_54_code
def yX11_tapsOf : MethodName := ⟨RX11, "tapsOf", "(I)I"⟩
abbrev cX11_placeOf : ByteArray := prog_13_method_55_code
def yX11_placeOf : MethodName := ⟨RX11, "placeOf", "(I)I"⟩
abbrev cX11_guessed : ByteArray := prog_13_method_56_code
def yX11_guessed : MethodName := ⟨RX11, "guessed", "(III)I"⟩
abbrev cX11_presses : ByteArray := prog_13_method_57_code
def yX11_presses : MethodName := ⟨RX11, "presses", "(III)I"⟩
abbrev cX11_cost : ByteArray := prog_13_method_58_code
def yX11_cost : MethodName := ⟨RX11, "cost", "(II)I"⟩
abbrev cX11_leastBehind : ByteArray := prog_13_method_59_code
def yX11_leastBehind : MethodName := ⟨RX11, "leastBehind", "(II)I"⟩
abbrev cX11_findSpent : ByteArray := prog_13_method_60_code
def yX11_findSpent : MethodName := ⟨RX11, "findSpent", "()Z"⟩
abbrev cX11_fewest : ByteArray := prog_13_method_61_code
def yX11_fewest : MethodName := ⟨RX11, "fewest", "()I"⟩
abbrev cX11_plan : ByteArray := prog_13_method_62_code
def yX11_plan : MethodName := ⟨RX11, "plan", "(I)I"⟩
abbrev cX11_tapsOfText : ByteArray := prog_13_method_63_code
def yX11_tapsOfText : MethodName := ⟨RX11, "tapsOfText", "()I"⟩
abbrev cX11_taps : ByteArray := prog_13_method_64_code
def yX11_taps : MethodName := ⟨RX11, "taps", "()I"⟩
abbrev cX11_findOften : ByteArray := prog_13_method_65_code
def yX11_findOften : MethodName := ⟨RX11, "findOften", "()I"⟩
abbrev cX11_stretch : ByteArray := prog_13_method_66_code
def yX11_stretch : MethodName := ⟨RX11, "stretch", "(II)I"⟩
abbrev cX11_best : ByteArray := prog_13_method_67_code
def yX11_best : MethodName := ⟨RX11, "best", "()I"⟩
abbrev cX11_exchange : ByteArray := prog_13_method_68_code
def yX11_exchange : MethodName := ⟨RX11, "exchange", "(II)V"⟩
abbrev cX11_swap : ByteArray := prog_13_method_69_code
def yX11_swap : MethodName := ⟨RX11, "swap", "()I"⟩
abbrev cX11_areSame : ByteArray := prog_13_method_70_code
def yX11_areSame : MethodName := ⟨RX11, "areSame", "(II)Z"⟩
abbrev cX11_sameAs : ByteArray := prog_13_method_71_code
def yX11_sameAs : MethodName := ⟨RX11, "sameAs", "(I)I"⟩
abbrev cX11_mostSame : ByteArray := prog_13_method_72_code
def yX11_mostSame : MethodName := ⟨RX11, "mostSame", "()I"⟩
abbrev cX11_clash : ByteArray := prog_13_method_73_code
def yX11_clash : MethodName := ⟨RX11, "clash", "()I"⟩
abbrev cX11_clashing : ByteArray := prog_13_method_74_code
def yX11_clashing : MethodName := ⟨RX11, "clashing", "(I)I"⟩
abbrev cX11_clashes : ByteArray := prog_13_method_75_code
def yX11_clashes : MethodName := ⟨RX11, "clashes", "()I"⟩
def RJ9 : String := "java/lang/Math"
def TJ9 : u_T := fun k => match k with
  | _ => ("", "", "", false)
def tyJ9 : Nat → FieldType := fun k => match k with
  | _ => .int
abbrev cJ9_max_7cf53 : ByteArray := prog_14_method_65_code
def yJ9_max_7cf53 : MethodName := ⟨RJ9, "max", "(II)I"⟩
abbrev cJ9_min_7cf53 : ByteArray := prog_14_method_69_code
def yJ9_min_7cf53 : MethodName := ⟨RJ9, "min", "(II)I"⟩
def RJ10 : String := "java/lang/System"
def TJ10 : u_T := fun k => match k with
  | _ => ("", "", "", false)
def tyJ10 : Nat → FieldType := fun k => match k with
  | _ => .int
def RJ7 : String := "java/util/Arrays"
def TJ7 : u_T := fun k => match k with
  | _ => ("", "", "", false)
def tyJ7 : Nat → FieldType := fun k => match k with
  | _ => .int
abbrev cJ7_fill_53178 : ByteArray := prog_16_method_103_code
def yJ7_fill_53178 : MethodName := ⟨RJ7, "fill", "([II)V"⟩
def RL : String := "NineKeysLaw"
abbrev cL_law : ByteArray := code
def yL_law : MethodName := ⟨RL, "law", "([I)Z"⟩
abbrev vwCl : List vw_C := [(RX0, TX0, 5), (RX2, TX2, 1), (RX3, TX3, 4), (RX4, TX4, 4), (RX5, TX5, 4), (RX6, TX6, 2), (RX7, TX7, 11), (RX8, TX8, 6), (RX9, TX9, 4), (RX10, TX10, 11), (RX11, TX11, 35)]
end
section
/-! tables of the system: by program (wip/gen/ptab.py). own: 0..11 the classes X0..X11, 12 the law, 13 Math, 14 System, 15 Arrays -/
abbrev pMI : Type := MethodName × ByteArray × Nat × Option FieldType × Nat × Nat × Nat × Nat × Nat × Nat × Nat × Nat
def pTab_0 : List pMI := [(yX0_init, cX0_init, 1, none, 0, 2, 1, 2, 0, 60, 95, 0), (yX0_size, cX0_size, 1, some .int, 0, 0, 1, 1, 0, 60, 506, 507), (yX0_sizeThere, cX0_sizeThere, 1, some .int, 0, 0, 1, 1, 0, 60, 533, 534), (yX0_clock, cX0_clock, 1, some .int, 0, 0, 1, 1, 0, 60, 545, 546), (yX0_pairs, cX0_pairs, 1, some (.object "NineKeys$Pairs"), 0, 0, 1, 1, 0, 60, 464, 465), (yX0_isFull, cX0_isFull, 1, some .boolean, 0, 0, 1, 1, 0, 60, 374, 375), (yX0_has, cX0_has, 2, some .boolean, 0, 0, 2, 1, 0, 60, 446, 447), (yX0_at, cX0_at, 2, some (.object "NineKeys$Word"), 0, 0, 2, 1, 0, 60, 391, 392), (yX0_isThere, cX0_isThere, 3, some .boolean, 0, 1, 2, 1, 0, 60, 450, 451), (yX0_numberOf, cX0_numberOf, 4, some .int, 0, 1, 2, 1, 0, 60, 366, 367), (yX0_enter, cX0_enter, 3, some .int, 0, 3, 3, 1, 0, 60, 378, 379), (yX0_longestUnused, cX0_longestUnused, 5, some .int, 0, 0, 1, 1, 0, 60, 383, 0), (yX0_dismiss, cX0_dismiss, 3, none, 0, 2, 2, 1, 0, 60, 387, 388), (yX0_learn, cX0_learn, 4, none, 0, 2, 3, 1, 0, 60, 701, 702), (yX1_join, cX1_join, 3, some .long, 1, 0, 2, 0, 99, 71, 610, 0), (yX1_pack, cX1_pack, 4, some .long, 1, 1, 1, 0, 99, 71, 617, 0), (yX1_sizeOf, cX1_sizeOf, 3, some .int, 1, 0, 1, 0, 99, 71, 638, 0), (yX1_keyAt, cX1_keyAt, 3, some .int, 1, 0, 2, 0, 99, 71, 650, 0), (yX1_without, cX1_without, 6, some .long, 1, 0, 2, 0, 99, 71, 658, 0), (yX1_sharedStart, cX1_sharedStart, 11, some .int, 1, 1, 2, 0, 99, 71, 635, 0), (yX1_beginsWith, cX1_beginsWith, 4, some .boolean, 1, 2, 2, 0, 99, 71, 632, 0), (yX1_slipBetween, cX1_slipBetween, 5, some .int, 1, 2, 2, 0, 99, 71, 644, 0), (yX1_comeByBeside, cX1_comeByBeside, 7, some .boolean, 1, 1, 2, 0, 99, 71, 647, 0), (yX1_comeByLeftOut, cX1_comeByLeftOut, 6, some .boolean, 1, 1, 2, 0, 99, 71, 655, 0), (yX1_comeByTwice, cX1_comeByTwice, 6, some .boolean, 1, 1, 2, 0, 99, 71, 661, 0), (yX2_init, cX2_init, 2, none, 2, 1, 1, 2, 1, 59, 84, 0), (yX2_keyOf, cX2_keyOf, 2, some .int, 2, 1, 2, 1, 1, 59, 318, 319), (yX2_give, cX2_give, 3, some .boolean, 2, 1, 3, 1, 1, 59, 309, 310), (yX2_exchange, cX2_exchange, 4, none, 2, 2, 3, 1, 1, 59, 862, 863), (yX2_positionOf, cX2_positionOf, 5, some .int, 2, 2, 2, 1, 1, 59, 322, 323), (yX2_tapPresses, cX2_tapPresses, 6, some .int, 2, 3, 2, 1, 1, 59, 762, 763), (yX2_guessKeys, cX2_guessKeys, 5, some .long, 2, 2, 2, 1, 1, 59, 604, 605), (yX2_slideKeys, cX2_slideKeys, 7, some .long, 2, 2, 2, 1, 1, 59, 613, 614), (yX3_init, cX3_init, 2, none, 3, 2, 1, 2, 2, 62, 138, 0), (yX3_size, cX3_size, 3, some .int, 3, 0, 1, 1, 2, 62, 541, 542), (yX3_placeOf, cX3_placeOf, 4, some .int, 3, 1, 2, 1, 2, 62, 718, 9), (yX3_timesOf, cX3_timesOf, 3, some .int, 3, 2, 2, 1, 2, 62, 713, 714), (yX3_countOnce, cX3_countOnce, 3, some .int, 3, 2, 2, 1, 2, 62, 726, 727), (yX3_placeForNew, cX3_placeForNew, 3, some .int, 3, 0, 1, 1, 2, 62, 731, 10), (yX3_forget, cX3_forget, 3, none, 3, 2, 2, 1, 2, 62, 722, 723)]
def pTab_1 : List pMI := [(yX4_init, cX4_init, 1, none, 4, 1, 1, 2, 3, 61, 103, 0), (yX4_size, cX4_size, 1, some .int, 4, 0, 1, 1, 3, 61, 537, 538), (yX4_placeOf, cX4_placeOf, 4, some .int, 4, 0, 3, 1, 3, 61, 473, 2), (yX4_countOf, cX4_countOf, 4, some .int, 4, 1, 3, 1, 3, 61, 520, 521), (yX4_haveRoomFor, cX4_haveRoomFor, 3, some .boolean, 4, 1, 3, 1, 3, 61, 468, 469), (yX4_tell, cX4_tell, 5, none, 4, 1, 4, 1, 3, 61, 476, 477), (yX4_removeAt, cX4_removeAt, 2, none, 4, 0, 2, 1, 3, 61, 400, 1), (yX4_forget, cX4_forget, 3, none, 4, 1, 2, 1, 3, 61, 395, 396), (yX4_countsBehind, cX4_countsBehind, 5, none, 4, 1, 3, 1, 3, 61, 501, 502), (yX5_init, cX5_init, 1, none, 5, 1, 1, 2, 4, 67, 219, 0), (yX5_fill, cX5_fill, 5, none, 5, 5, 3, 1, 4, 67, 776, 777), (yX5_choose, cX5_choose, 7, none, 5, 0, 3, 1, 4, 67, 790, 12), (yX5_least, cX5_least, 1, some .int, 5, 0, 1, 1, 4, 67, 794, 795), (yX5_kindAt, cX5_kindAt, 4, some .int, 5, 0, 2, 1, 4, 67, 802, 803), (yX6_init, cX6_init, 2, none, 6, 1, 2, 2, 5, 63, 145, 0), (yX6_size, cX6_size, 1, some .int, 6, 0, 1, 1, 5, 63, 338, 339), (yX6_isEmpty, cX6_isEmpty, 1, some .boolean, 6, 0, 1, 1, 5, 63, 362, 363), (yX6_isFull, cX6_isFull, 1, some .boolean, 6, 0, 1, 1, 5, 63, 574, 575), (yX6_at, cX6_at, 2, some .int, 6, 0, 2, 1, 5, 63, 492, 493), (yX6_push, cX6_push, 2, none, 6, 0, 2, 1, 5, 63, 342, 343), (yX6_pop, cX6_pop, 1, none, 6, 0, 1, 1, 5, 63, 582, 583), (yX6_clear, cX6_clear, 2, some .int, 6, 0, 1, 1, 5, 63, 350, 351), (yX6_becomeLike, cX6_becomeLike, 3, none, 6, 1, 2, 1, 5, 63, 411, 412), (yX6_isLike, cX6_isLike, 3, some .boolean, 6, 0, 2, 1, 5, 63, 370, 371), (yX6_isAheadOf, cX6_isAheadOf, 3, some .boolean, 6, 0, 2, 1, 5, 63, 672, 673), (yX7_init, cX7_init, 3, none, 7, 1, 3, 2, 6, 65, 174, 0), (yX7_shareNow, cX7_shareNow, 1, some .int, 7, 0, 1, 1, 6, 65, 549, 550), (yX7_setShare, cX7_setShare, 2, none, 7, 0, 2, 1, 6, 65, 557, 558), (yX7_setPrice, cX7_setPrice, 3, none, 7, 0, 3, 1, 6, 65, 566, 567), (yX7_readKeys, cX7_readKeys, 3, none, 7, 3, 1, 1, 6, 65, 600, 601), (yX7_weigh, cX7_weigh, 5, none, 7, 2, 2, 1, 6, 65, 496, 497), (yX7_rateOf, cX7_rateOf, 2, some .int, 7, 0, 2, 1, 6, 65, 512, 513), (yX7_standsAhead, cX7_standsAhead, 7, some .boolean, 7, 1, 5, 1, 6, 65, 669, 7), (yX7_askedFor, cX7_askedFor, 9, some .int, 7, 3, 5, 1, 6, 65, 628, 629), (yX7_layOut, cX7_layOut, 7, none, 7, 4, 4, 1, 6, 65, 623, 624), (yX7_insert, cX7_insert, 4, none, 7, 2, 3, 1, 6, 65, 665, 6), (yX7_size, cX7_size, 1, some .int, 7, 0, 1, 1, 6, 65, 676, 677), (yX7_offerAt, cX7_offerAt, 2, some .int, 7, 0, 2, 1, 6, 65, 684, 685), (yX7_countPresses, cX7_countPresses, 8, none, 7, 4, 3, 1, 6, 65, 755, 756), (yX7_sharersOf, cX7_sharersOf, 4, some .int, 7, 3, 2, 1, 6, 65, 875, 876)]
def pTab_2 : List pMI := [(yX7_shareKeys, cX7_shareKeys, 3, some .boolean, 7, 2, 3, 1, 6, 65, 880, 18), (yX7_mostShared, cX7_mostShared, 5, some .int, 7, 4, 1, 1, 6, 65, 871, 872), (yX7_sharerAt, cX7_sharerAt, 5, some .int, 7, 3, 3, 1, 6, 65, 888, 889), (yX7_sharingPairs, cX7_sharingPairs, 4, some .int, 7, 3, 1, 1, 6, 65, 896, 897), (yX8_init, cX8_init, 1, none, 8, 1, 1, 2, 7, 68, 238, 0), (yX8_read, cX8_read, 5, none, 8, 2, 3, 1, 7, 68, 815, 816), (yX8_readWord, cX8_readWord, 5, none, 8, 1, 2, 1, 7, 68, 824, 13), (yX8_dealStretches, cX8_dealStretches, 5, some .int, 8, 2, 2, 1, 7, 68, 830, 831), (yX8_tryStretchesFrom, cX8_tryStretchesFrom, 6, none, 8, 0, 2, 1, 7, 68, 836, 14), (yX8_exchangeTwo, cX8_exchangeTwo, 8, some .int, 8, 5, 2, 1, 7, 68, 844, 845), (yX8_savedBy, cX8_savedBy, 7, some .int, 8, 4, 4, 1, 7, 68, 858, 17), (yX8_pressesOn, cX8_pressesOn, 6, some .int, 8, 3, 3, 1, 7, 68, 849, 15), (yX8_touchesOn, cX8_touchesOn, 6, some .int, 8, 2, 4, 1, 7, 68, 854, 16), (yX9_init, cX9_init, 4, none, 9, 2, 4, 2, 8, 70, 404, 0), (yX10_init, cX10_init, 1, none, 10, 3, 1, 2, 9, 58, 76, 0), (yX10_deal, cX10_deal, 3, some .int, 10, 2, 3, 1, 9, 58, 299, 300), (yX10_letter, cX10_letter, 3, some .int, 10, 3, 3, 1, 9, 58, 314, 315), (yX10_beside, cX10_beside, 3, some .boolean, 10, 1, 3, 1, 9, 58, 327, 328), (yX10_spell, cX10_spell, 8, some .int, 10, 1, 6, 1, 9, 58, 334, 335), (yX10_unspell, cX10_unspell, 1, some .int, 10, 1, 1, 1, 9, 58, 346, 347), (yX10_add, cX10_add, 3, some .int, 10, 4, 2, 1, 9, 58, 354, 355), (yX10_drop, cX10_drop, 2, some .int, 10, 3, 2, 1, 9, 58, 442, 443), (yX10_count, cX10_count, 4, some .int, 10, 1, 3, 1, 9, 58, 455, 456), (yX10_pair, cX10_pair, 4, some .int, 10, 2, 4, 1, 9, 58, 460, 461), (yX10_word, cX10_word, 4, some .int, 10, 4, 3, 1, 9, 58, 480, 481), (yX10_paired, cX10_paired, 3, some .int, 10, 2, 3, 1, 9, 58, 516, 517), (yX10_find, cX10_find, 1, some .int, 10, 2, 1, 1, 9, 58, 524, 525), (yX10_many, cX10_many, 2, some .int, 10, 1, 2, 1, 9, 58, 528, 529), (yX10_share, cX10_share, 2, some .int, 10, 1, 2, 1, 9, 58, 553, 554), (yX10_price, cX10_price, 3, some .int, 10, 1, 3, 1, 9, 58, 561, 562), (yX10_press, cX10_press, 2, some .int, 10, 1, 2, 1, 9, 58, 570, 571), (yX10_back, cX10_back, 1, some .int, 10, 1, 1, 1, 9, 58, 578, 579), (yX10_offers, cX10_offers, 4, some .int, 10, 6, 3, 1, 9, 58, 586, 587), (yX10_offer, cX10_offer, 4, some .int, 10, 6, 4, 1, 9, 58, 680, 681), (yX10_priced, cX10_priced, 3, some .int, 10, 4, 3, 1, 9, 58, 688, 689), (yX10_take, cX10_take, 6, some .int, 10, 6, 4, 1, 9, 58, 693, 694), (yX10_third, cX10_third, 5, some .int, 10, 4, 1, 1, 9, 58, 709, 710), (yX10_newcomer, cX10_newcomer, 1, some .int, 10, 3, 1, 1, 9, 58, 735, 736), (yX10_put, cX10_put, 2, some .int, 10, 2, 2, 1, 9, 58, 739, 740), (yX10_wipe, cX10_wipe, 1, some .int, 10, 1, 1, 1, 9, 58, 743, 744)]
def pTab_3 : List pMI := [(yX10_text, cX10_text, 2, some .int, 10, 1, 2, 1, 9, 58, 747, 748), (yX10_cost, cX10_cost, 3, some .int, 10, 5, 3, 1, 9, 58, 751, 752), (yX10_fewest, cX10_fewest, 1, some .int, 10, 6, 1, 1, 9, 58, 768, 769), (yX10_plan, cX10_plan, 2, some .int, 10, 6, 2, 1, 9, 58, 798, 799), (yX10_taps, cX10_taps, 4, some .int, 10, 4, 1, 1, 9, 58, 806, 807), (yX10_best, cX10_best, 1, some .int, 10, 3, 1, 1, 9, 58, 811, 812), (yX10_swap, cX10_swap, 1, some .int, 10, 6, 1, 1, 9, 58, 840, 841), (yX10_clash, cX10_clash, 1, some .int, 10, 5, 1, 1, 9, 58, 867, 868), (yX10_clashing, cX10_clashing, 2, some .int, 10, 5, 2, 1, 9, 58, 884, 885), (yX10_clashes, cX10_clashes, 1, some .int, 10, 4, 1, 1, 9, 58, 892, 893), (yX10_isLetter, cX10_isLetter, 1, some .boolean, 10, 0, 1, 0, 9, 58, 303, 0), (yX10_isKey, cX10_isKey, 1, some .boolean, 10, 0, 1, 0, 9, 58, 306, 0), (yX10_isKind, cX10_isKind, 1, some .boolean, 10, 0, 1, 0, 9, 58, 593, 0), (yX10_isCount, cX10_isCount, 1, some .boolean, 10, 0, 1, 0, 9, 58, 358, 0), (yX10_areBeside, cX10_areBeside, 5, some .boolean, 10, 0, 2, 0, 9, 58, 331, 0), (yX10_refusalOf, cX10_refusalOf, 1, some .int, 10, 1, 1, 0, 9, 58, 590, 0), (yX10_latest, cX10_latest, 2, some .int, 10, 2, 1, 1, 9, 58, 489, 4), (yX10_rateNow, cX10_rateNow, 2, some .int, 10, 3, 2, 1, 9, 58, 485, 3), (yX10_layOffers, cX10_layOffers, 3, none, 10, 5, 3, 1, 9, 58, 597, 5), (yX10_learn, cX10_learn, 2, none, 10, 3, 2, 1, 9, 58, 698, 8), (yX10_textStands, cX10_textStands, 2, some .boolean, 10, 2, 1, 1, 9, 58, 773, 11), (yX11_init, cX11_init, 2, none, 11, 1, 1, 2, 10, 69, 902, 0), (yX11_in, cX11_in, 3, some .boolean, 11, 0, 3, 0, 10, 69, 1018, 0), (yX11_isWord, cX11_isWord, 2, some .boolean, 11, 1, 2, 1, 10, 69, 1067, 24), (yX11_deal, cX11_deal, 4, some .int, 11, 1, 3, 1, 10, 69, 1014, 1015), (yX11_positionOf, cX11_positionOf, 4, some .int, 11, 0, 2, 1, 10, 69, 1026, 19), (yX11_letter, cX11_letter, 3, some .int, 11, 1, 3, 1, 10, 69, 1021, 1022), (yX11_beside, cX11_beside, 5, some .boolean, 11, 1, 3, 1, 10, 69, 1029, 1030), (yX11_spell, cX11_spell, 8, some .int, 11, 1, 6, 1, 10, 69, 1033, 1034), (yX11_unspell, cX11_unspell, 2, some .int, 11, 0, 1, 1, 10, 69, 1037, 1038), (yX11_findSpelt, cX11_findSpelt, 5, some .int, 11, 0, 1, 1, 10, 69, 1047, 20), (yX11_go, cX11_go, 3, none, 11, 0, 2, 1, 10, 69, 1059, 23), (yX11_there, cX11_there, 3, some .int, 11, 0, 1, 1, 10, 69, 1055, 22), (yX11_come, cX11_come, 4, some .int, 11, 1, 2, 1, 10, 69, 1051, 21), (yX11_add, cX11_add, 3, some .int, 11, 2, 2, 1, 10, 69, 1041, 1042), (yX11_drop, cX11_drop, 2, some .int, 11, 2, 2, 1, 10, 69, 1062, 1063), (yX11_count, cX11_count, 3, some .int, 11, 2, 3, 1, 10, 69, 1070, 1071), (yX11_pairs, cX11_pairs, 3, some .int, 11, 0, 1, 1, 10, 69, 1079, 25), (yX11_pair, cX11_pair, 4, some .int, 11, 2, 4, 1, 10, 69, 1074, 1075), (yX11_latest, cX11_latest, 1, some .int, 11, 0, 1, 1, 10, 69, 1087, 26)]
def pTab_4 : List pMI := [(yX11_rateOf, cX11_rateOf, 7, some .int, 11, 0, 3, 1, 10, 69, 1091, 27), (yX11_word, cX11_word, 3, some .int, 11, 2, 3, 1, 10, 69, 1082, 1083), (yX11_paired, cX11_paired, 3, some .int, 11, 2, 3, 1, 10, 69, 1095, 1096), (yX11_find, cX11_find, 1, some .int, 11, 1, 1, 1, 10, 69, 1099, 1100), (yX11_many, cX11_many, 2, some .int, 11, 1, 2, 1, 10, 69, 1103, 1104), (yX11_share, cX11_share, 2, some .int, 11, 1, 2, 1, 10, 69, 1107, 1108), (yX11_price, cX11_price, 3, some .int, 11, 1, 3, 1, 10, 69, 1111, 1112), (yX11_press, cX11_press, 2, some .int, 11, 1, 2, 1, 10, 69, 1115, 1116), (yX11_back, cX11_back, 1, some .int, 11, 0, 1, 1, 10, 69, 1119, 1120), (yX11_findKeys, cX11_findKeys, 5, none, 11, 0, 3, 1, 10, 69, 1144, 32), (yX11_takePressed, cX11_takePressed, 2, none, 11, 0, 1, 1, 10, 69, 1128, 28), (yX11_takeKeys, cX11_takeKeys, 4, none, 11, 1, 3, 1, 10, 69, 1234, 45), (yX11_areLike, cX11_areLike, 6, some .boolean, 11, 0, 4, 1, 10, 69, 1148, 33), (yX11_meets, cX11_meets, 3, some .boolean, 11, 1, 3, 1, 10, 69, 1140, 31), (yX11_slipsBeside, cX11_slipsBeside, 3, some .boolean, 11, 2, 1, 1, 10, 69, 1152, 34), (yX11_slipsLeftOut, cX11_slipsLeftOut, 3, some .boolean, 11, 1, 1, 1, 10, 69, 1157, 35), (yX11_slipsTwice, cX11_slipsTwice, 3, some .boolean, 11, 1, 1, 1, 10, 69, 1161, 36), (yX11_offered, cX11_offered, 7, some .int, 11, 3, 4, 1, 10, 69, 1136, 30), (yX11_isAhead, cX11_isAhead, 4, some .boolean, 11, 0, 3, 1, 10, 69, 1165, 37), (yX11_findOffers, cX11_findOffers, 8, none, 11, 4, 4, 1, 10, 69, 1132, 29), (yX11_offers, cX11_offers, 3, some .int, 11, 5, 3, 1, 10, 69, 1123, 1124), (yX11_offer, cX11_offer, 5, some .int, 11, 6, 4, 1, 10, 69, 1168, 1169), (yX11_priced, cX11_priced, 3, some .int, 11, 4, 3, 1, 10, 69, 1173, 1174), (yX11_learn, cX11_learn, 4, none, 11, 1, 2, 1, 10, 69, 1182, 38), (yX11_take, cX11_take, 6, some .int, 11, 6, 4, 1, 10, 69, 1177, 1178), (yX11_findComer, cX11_findComer, 5, some .int, 11, 0, 1, 1, 10, 69, 1190, 39), (yX11_moveComer, cX11_moveComer, 4, none, 11, 0, 3, 1, 10, 69, 1198, 41), (yX11_dropComer, cX11_dropComer, 2, none, 11, 1, 2, 1, 10, 69, 1194, 40), (yX11_addComer, cX11_addComer, 3, none, 11, 2, 1, 1, 10, 69, 1202, 42), (yX11_third, cX11_third, 3, some .int, 11, 3, 1, 1, 10, 69, 1185, 1186), (yX11_newcomer, cX11_newcomer, 2, some .int, 11, 1, 1, 1, 10, 69, 1205, 1206), (yX11_put, cX11_put, 2, some .int, 11, 2, 2, 1, 10, 69, 1209, 1210), (yX11_wipe, cX11_wipe, 2, some .int, 11, 0, 1, 1, 10, 69, 1213, 1214), (yX11_text, cX11_text, 2, some .int, 11, 1, 2, 1, 10, 69, 1217, 1218), (yX11_tapsOf, cX11_tapsOf, 5, some .int, 11, 1, 2, 1, 10, 69, 1230, 44), (yX11_placeOf, cX11_placeOf, 4, some .int, 11, 0, 2, 1, 10, 69, 1242, 47), (yX11_guessed, cX11_guessed, 4, some .int, 11, 5, 4, 1, 10, 69, 1238, 46), (yX11_presses, cX11_presses, 6, some .int, 11, 6, 4, 1, 10, 69, 1226, 43), (yX11_cost, cX11_cost, 3, some .int, 11, 7, 3, 1, 10, 69, 1221, 1222), (yX11_leastBehind, cX11_leastBehind, 6, some .int, 11, 0, 3, 1, 10, 69, 1254, 49)]
def pTab_5 : List pMI := [(yX11_findSpent, cX11_findSpent, 5, some .boolean, 11, 7, 1, 1, 10, 69, 1250, 48), (yX11_fewest, cX11_fewest, 1, some .int, 11, 8, 1, 1, 10, 69, 1245, 1246), (yX11_plan, cX11_plan, 7, some .int, 11, 8, 2, 1, 10, 69, 1258, 1259), (yX11_tapsOfText, cX11_tapsOfText, 3, some .int, 11, 2, 1, 1, 10, 69, 1267, 50), (yX11_taps, cX11_taps, 1, some .int, 11, 3, 1, 1, 10, 69, 1262, 1263), (yX11_findOften, cX11_findOften, 6, some .int, 11, 0, 1, 1, 10, 69, 1275, 51), (yX11_stretch, cX11_stretch, 6, some .int, 11, 0, 3, 1, 10, 69, 1280, 52), (yX11_best, cX11_best, 6, some .int, 11, 1, 1, 1, 10, 69, 1270, 1271), (yX11_exchange, cX11_exchange, 4, none, 11, 0, 3, 1, 10, 69, 1288, 53), (yX11_swap, cX11_swap, 8, some .int, 11, 3, 1, 1, 10, 69, 1283, 1284), (yX11_areSame, cX11_areSame, 3, some .boolean, 11, 2, 3, 1, 10, 69, 1304, 56), (yX11_sameAs, cX11_sameAs, 4, some .int, 11, 3, 2, 1, 10, 69, 1300, 55), (yX11_mostSame, cX11_mostSame, 5, some .int, 11, 4, 1, 1, 10, 69, 1296, 54), (yX11_clash, cX11_clash, 2, some .int, 11, 5, 1, 1, 10, 69, 1291, 1292), (yX11_clashing, cX11_clashing, 5, some .int, 11, 5, 2, 1, 10, 69, 1307, 1308), (yX11_clashes, cX11_clashes, 4, some .int, 11, 3, 1, 1, 10, 69, 1311, 1312), (yJ9_max_7cf53, cJ9_max_7cf53, 2, some .int, 13, 0, 2, 0, 99, 64, 149, 0), (yJ9_min_7cf53, cJ9_min_7cf53, 2, some .int, 13, 0, 2, 0, 99, 64, 641, 0), (yJ7_fill_53178, cJ7_fill_53178, 4, none, 15, 0, 2, 0, 99, 66, 179, 0)]
def pTab : List pMI := pTab_0 ++ (pTab_1 ++ (pTab_2 ++ (pTab_3 ++ (pTab_4 ++ (pTab_5)))))
set_option maxRecDepth 100000 in
theorem pTc_0 : ∀ q ∈ pTab_0, Cond.code q.1 q.2.1 q.2.2.1 q.2.2.2.1 ∈ lw_tbl := List.forall_mem_cons.mpr ⟨List.mem_append_right _ (List.mem_append_left _ (List.mem_of_getElem? (i := 39) rfl)), List.forall_mem_cons.mpr ⟨List.mem_append_right _ (List.mem_append_right _ (List.mem_append_left _ (List.mem_of_getElem? (i := 211) rfl))), List.forall_mem_cons.mpr ⟨List.mem_append_right _ (List.mem_append_right _ (List.mem_append_left _ (List.mem_of_getElem? (i := 238) rfl))), List.forall_mem_cons.mpr ⟨List.mem_append_right _ (List.mem_append_right _ (List.mem_append_right _ (List.mem_append_left _ (List.mem_of_getElem? (i := 10) rfl)))), List.forall_mem_cons.mpr ⟨List.mem_append_right _ (List.mem_append_right _ (List.mem_append_left _ (List.mem_of_getElem? (i := 169) rfl))), List.forall_mem_cons.mpr ⟨List.mem_append_right _ (List.mem_append_right _ (List.mem_append_left _ (List.mem_of_getElem? (i := 79) rfl))), List.forall_mem_cons.mpr ⟨List.mem_append_right _ (List.mem_append_right _ (List.mem_append_left _ (List.mem_of_getElem? (i := 151) rfl))), List.forall_mem_cons.mpr ⟨List.mem_append_right _ (List.mem_append_right _ (List.mem_append_left _ (List.mem_of_getElem? (i := 96) rfl))), List.forall_mem_cons.mpr ⟨List.mem_append_right _ (List.mem_append_right _ (List.mem_append_left _ (List.mem_of_getElem? (i := 155) rfl))), List.forall_mem_cons.mpr ⟨List.mem_append_right _ (List.mem_append_right _ (List.mem_append_left _ (List.mem_of_getElem? (i := 71) rfl))), List.forall_mem_cons.mpr ⟨List.mem_append_right _ (List.mem_append_right _ (List.mem_append_left _ (List.mem_of_getElem? (i := 83) rfl))), List.forall_mem_cons.mpr ⟨List.mem_append_right _ (List.mem_append_right _ (List.mem_append_left _ (List.mem_of_getElem? (i := 87) rfl))), List.forall_mem_cons.mpr ⟨List.mem_append_right _ (List.mem_append_right _ (List.mem_append_left _ (List.mem_of_getElem? (i := 92) rfl))), List.forall_mem_cons.mpr ⟨List.mem_append_right _ (List.mem_append_right _ (List.mem_append_right _ (List.mem_append_left _ (List.mem_of_getElem? (i := 166) rfl)))), List.forall_mem_cons.mpr ⟨List.mem_append_right _ (List.mem_append_right _ (List.mem_append_right _ (List.mem_append_left _ (List.mem_of_getElem? (i := 74) rfl)))), List.forall_mem_cons.mpr ⟨List.mem_append_right _ (List.mem_append_right _ (List.mem_append_right _ (List.mem_append_left _ (List.mem_of_getElem? (i := 81) rfl)))), List.forall_mem_cons.mpr ⟨List.mem_append_right _ (List.mem_append_right _ (List.mem_append_right _ (List.mem_append_left _ (List.mem_of_getElem? (i := 102) rfl)))), List.forall_mem_cons.mpr ⟨List.mem_append_right _ (List.mem_append_right _ (List.mem_append_right _ (List.mem_append_left _ (List.mem_of_getElem? (i := 114) rfl)))), List.forall_mem_cons.mpr ⟨List.mem_append_right _ (List.mem_append_right _ (List.mem_append_right _ (List.mem_append_left _ (List.mem_of_getElem? (i := 122) rfl)))), List.forall_mem_cons.mpr ⟨List.mem_append_right _ (List.mem_append_right _ (List.mem_append_right _ (List.mem_append_left _ (List.mem_of_getElem? (i := 99) rfl)))), List.forall_mem_cons.mpr ⟨List.mem_append_right _ (List.mem_append_right _ (List.mem_append_right _ (List.mem_append_left _ (List.mem_of_getElem? (i := 96) rfl)))), List.forall_mem_cons.mpr ⟨List.mem_append_right _ (List.mem_append_right _ (List.mem_append_right _ (List.mem_append_left _ (List.mem_of_getElem? (i := 108) rfl)))), List.forall_mem_cons.mpr ⟨List.mem_append_right _ (List.mem_append_right _ (List.mem_append_right _ (List.mem_append_left _ (List.mem_of_getElem? (i := 111) rfl)))), List.forall_mem_cons.mpr ⟨List.mem_append_right _ (List.mem_append_right _ (List.mem_append_right _ (List.mem_append_left _ (List.mem_of_getElem? (i := 119) rfl)))), List.forall_mem_cons.mpr ⟨List.mem_append_right _ (List.mem_append_right _ (List.mem_append_right _ (List.mem_append_left _ (List.mem_of_getElem? (i := 125) rfl)))), List.forall_mem_cons.mpr ⟨List.mem_append_right _ (List.mem_append_left _ (List.mem_of_getElem? (i := 28) rfl)), List.forall_mem_cons.mpr ⟨List.mem_append_right _ (List.mem_append_right _ (List.mem_append_left _ (List.mem_of_getElem? (i := 23) rfl))), List.forall_mem_cons.mpr ⟨List.mem_append_right _ (List.mem_append_right _ (List.mem_append_left _ (List.mem_of_getElem? (i := 14) rfl))), List.forall_mem_cons.mpr ⟨List.mem_append_right _ (List.mem_append_right _ (List.mem_append_right _ (List.mem_append_right _ (List.mem_append_left _ (List.mem_of_getElem? (i := 87) rfl))))), List.forall_mem_cons.mpr ⟨List.mem_append_right _ (List.mem_append_right _ (List.mem_append_left _ (List.mem_of_getElem? (i := 27) rfl))), List.forall_mem_cons.mpr ⟨List.mem_append_right _ (List.mem_append_right _ (List.mem_append_right _ (List.mem_append_left _ (List.mem_of_getElem? (i := 227) rfl)))), List.forall_mem_cons.mpr ⟨List.mem_append_right _ (List.mem_append_right _ (List.mem_append_right _ (List.mem_append_left _ (List.mem_of_getElem? (i := 69) rfl)))), List.forall_mem_cons.mpr ⟨List.mem_append_right _ (List.mem_append_right _ (List.mem_append_right _ (List.mem_append_left _ (List.mem_of_getElem? (i := 78) rfl)))), List.forall_mem_cons.mpr ⟨List.mem_append_right _ (List.mem_append_left _ (List.mem_of_getElem? (i := 82) rfl)), List.forall_mem_cons.mpr ⟨List.mem_append_right _ (List.mem_append_right _ (List.mem_append_right _ (List.mem_append_left _ (List.mem_of_getElem? (i := 6) rfl)))), List.forall_mem_cons.mpr ⟨List.mem_append_right _ (List.mem_append_right _ (List.mem_append_right _ (List.mem_append_left _ (List.mem_of_getElem? (i := 182) rfl)))), List.forall_mem_cons.mpr ⟨List.mem_append_right _ (List.mem_append_right _ (List.mem_append_right _ (List.mem_append_left _ (List.mem_of_getElem? (i := 178) rfl)))), List.forall_mem_cons.mpr ⟨List.mem_append_right _ (List.mem_append_right _ (List.mem_append_right _ (List.mem_append_left _ (List.mem_of_getElem? (i := 191) rfl)))), List.forall_mem_cons.mpr ⟨List.mem_append_right _ (List.mem_append_right _ (List.mem_append_right _ (List.mem_append_left _ (List.mem_of_getElem? (i := 195) rfl)))), List.forall_mem_cons.mpr ⟨List.mem_append_right _ (List.mem_append_right _ (List.mem_append_right _ (List.mem_append_left _ (List.mem_of_getElem? (i := 187) rfl)))), fun _ h => absurd h List.not_mem_nil⟩⟩⟩⟩⟩⟩⟩⟩⟩⟩⟩⟩⟩⟩⟩⟩⟩⟩⟩⟩⟩⟩⟩⟩⟩⟩⟩⟩⟩⟩⟩⟩⟩⟩⟩⟩⟩⟩⟩⟩
set_option maxRecDepth 100000 in
theorem pTc_1 : ∀ q ∈ pTab_1, Cond.code q.1 q.2.1 q.2.2.1 q.2.2.2.1 ∈ lw_tbl := List.forall_mem_cons.mpr ⟨List.mem_append_right _ (List.mem_append_left _ (List.mem_of_getElem? (i := 47) rfl)), List.forall_mem_cons.mpr ⟨List.mem_append_right _ (List.mem_append_right _ (List.mem_append_right _ (List.mem_append_left _ (List.mem_of_getElem? (i := 2) rfl)))), List.forall_mem_cons.mpr ⟨List.mem_append_right _ (List.mem_append_right _ (List.mem_append_left _ (List.mem_of_getElem? (i := 177) rfl))), List.forall_mem_cons.mpr ⟨List.mem_append_right _ (List.mem_append_right _ (List.mem_append_left _ (List.mem_of_getElem? (i := 225) rfl))), List.forall_mem_cons.mpr ⟨List.mem_append_right _ (List.mem_append_right _ (List.mem_append_left _ (List.mem_of_getElem? (i := 173) rfl))), List.forall_mem_cons.mpr ⟨List.mem_append_right _ (List.mem_append_right _ (List.mem_append_left _ (List.mem_of_getElem? (i := 181) rfl))), List.forall_mem_cons.mpr ⟨List.mem_append_right _ (List.mem_append_right _ (List.mem_append_left _ (List.mem_of_getElem? (i := 104) rfl))), List.forall_mem_cons.mpr ⟨List.mem_append_right _ (List.mem_append_right _ (List.mem_append_left _ (List.mem_of_getElem? (i := 100) rfl))), List.forall_mem_cons.mpr ⟨List.mem_append_right _ (List.mem_append_right _ (List.mem_append_left _ (List.mem_of_getElem? (i := 206) rfl))), List.forall_mem_cons.mpr ⟨List.mem_append_right _ (List.mem_append_left _ (List.mem_of_getElem? (i := 163) rfl)), List.forall_mem_cons.mpr ⟨List.mem_append_right _ (List.mem_append_right _ (List.mem_append_right _ (List.mem_append_right _ (List.mem_append_left _ (List.mem_of_getElem? (i := 1) rfl))))), List.forall_mem_cons.mpr ⟨List.mem_append_right _ (List.mem_append_right _ (List.mem_append_right _ (List.mem_append_right _ (List.mem_append_left _ (List.mem_of_getElem? (i := 14) rfl))))), List.forall_mem_cons.mpr ⟨List.mem_append_right _ (List.mem_append_right _ (List.mem_append_right _ (List.mem_append_right _ (List.mem_append_left _ (List.mem_of_getElem? (i := 19) rfl))))), List.forall_mem_cons.mpr ⟨List.mem_append_right _ (List.mem_append_right _ (List.mem_append_right _ (List.mem_append_right _ (List.mem_append_left _ (List.mem_of_getElem? (i := 27) rfl))))), List.forall_mem_cons.mpr ⟨List.mem_append_right _ (List.mem_append_left _ (List.mem_of_getElem? (i := 89) rfl)), List.forall_mem_cons.mpr ⟨List.mem_append_right _ (List.mem_append_right _ (List.mem_append_left _ (List.mem_of_getElem? (i := 43) rfl))), List.forall_mem_cons.mpr ⟨List.mem_append_right _ (List.mem_append_right _ (List.mem_append_left _ (List.mem_of_getElem? (i := 67) rfl))), List.forall_mem_cons.mpr ⟨List.mem_append_right _ (List.mem_append_right _ (List.mem_append_right _ (List.mem_append_left _ (List.mem_of_getElem? (i := 39) rfl)))), List.forall_mem_cons.mpr ⟨List.mem_append_right _ (List.mem_append_right _ (List.mem_append_left _ (List.mem_of_getElem? (i := 197) rfl))), List.forall_mem_cons.mpr ⟨List.mem_append_right _ (List.mem_append_right _ (List.mem_append_left _ (List.mem_of_getElem? (i := 47) rfl))), List.forall_mem_cons.mpr ⟨List.mem_append_right _ (List.mem_append_right _ (List.mem_append_right _ (List.mem_append_left _ (List.mem_of_getElem? (i := 47) rfl)))), List.forall_mem_cons.mpr ⟨List.mem_append_right _ (List.mem_append_right _ (List.mem_append_left _ (List.mem_of_getElem? (i := 55) rfl))), List.forall_mem_cons.mpr ⟨List.mem_append_right _ (List.mem_append_right _ (List.mem_append_left _ (List.mem_of_getElem? (i := 116) rfl))), List.forall_mem_cons.mpr ⟨List.mem_append_right _ (List.mem_append_right _ (List.mem_append_left _ (List.mem_of_getElem? (i := 75) rfl))), List.forall_mem_cons.mpr ⟨List.mem_append_right _ (List.mem_append_right _ (List.mem_append_right _ (List.mem_append_left _ (List.mem_of_getElem? (i := 137) rfl)))), List.forall_mem_cons.mpr ⟨List.mem_append_right _ (List.mem_append_left _ (List.mem_of_getElem? (i := 118) rfl)), List.forall_mem_cons.mpr ⟨List.mem_append_right _ (List.mem_append_right _ (List.mem_append_right _ (List.mem_append_left _ (List.mem_of_getElem? (i := 14) rfl)))), List.forall_mem_cons.mpr ⟨List.mem_append_right _ (List.mem_append_right _ (List.mem_append_right _ (List.mem_append_left _ (List.mem_of_getElem? (i := 22) rfl)))), List.forall_mem_cons.mpr ⟨List.mem_append_right _ (List.mem_append_right _ (List.mem_append_right _ (List.mem_append_left _ (List.mem_of_getElem? (i := 31) rfl)))), List.forall_mem_cons.mpr ⟨List.mem_append_right _ (List.mem_append_right _ (List.mem_append_right _ (List.mem_append_left _ (List.mem_of_getElem? (i := 65) rfl)))), List.forall_mem_cons.mpr ⟨List.mem_append_right _ (List.mem_append_right _ (List.mem_append_left _ (List.mem_of_getElem? (i := 201) rfl))), List.forall_mem_cons.mpr ⟨List.mem_append_right _ (List.mem_append_right _ (List.mem_append_left _ (List.mem_of_getElem? (i := 217) rfl))), List.forall_mem_cons.mpr ⟨List.mem_append_right _ (List.mem_append_right _ (List.mem_append_right _ (List.mem_append_left _ (List.mem_of_getElem? (i := 133) rfl)))), List.forall_mem_cons.mpr ⟨List.mem_append_right _ (List.mem_append_right _ (List.mem_append_right _ (List.mem_append_left _ (List.mem_of_getElem? (i := 93) rfl)))), List.forall_mem_cons.mpr ⟨List.mem_append_right _ (List.mem_append_right _ (List.mem_append_right _ (List.mem_append_left _ (List.mem_of_getElem? (i := 88) rfl)))), List.forall_mem_cons.mpr ⟨List.mem_append_right _ (List.mem_append_right _ (List.mem_append_right _ (List.mem_append_left _ (List.mem_of_getElem? (i := 129) rfl)))), List.forall_mem_cons.mpr ⟨List.mem_append_right _ (List.mem_append_right _ (List.mem_append_right _ (List.mem_append_left _ (List.mem_of_getElem? (i := 141) rfl)))), List.forall_mem_cons.mpr ⟨List.mem_append_right _ (List.mem_append_right _ (List.mem_append_right _ (List.mem_append_left _ (List.mem_of_getElem? (i := 149) rfl)))), List.forall_mem_cons.mpr ⟨List.mem_append_right _ (List.mem_append_right _ (List.mem_append_right _ (List.mem_append_left _ (List.mem_of_getElem? (i := 220) rfl)))), List.forall_mem_cons.mpr ⟨List.mem_append_right _ (List.mem_append_right _ (List.mem_append_right _ (List.mem_append_right _ (List.mem_append_left _ (List.mem_of_getElem? (i := 100) rfl))))), fun _ h => absurd h List.not_mem_nil⟩⟩⟩⟩⟩⟩⟩⟩⟩⟩⟩⟩⟩⟩⟩⟩⟩⟩⟩⟩⟩⟩⟩⟩⟩⟩⟩⟩⟩⟩⟩⟩⟩⟩⟩⟩⟩⟩⟩⟩
set_option maxRecDepth 100000 in
theorem pTc_2 : ∀ q ∈ pTab_2, Cond.code q.1 q.2.1 q.2.2.1 q.2.2.2.1 ∈ lw_tbl := List.forall_mem_cons.mpr ⟨List.mem_append_right _ (List.mem_append_right _ (List.mem_append_right _ (List.mem_append_right _ (List.mem_append_left _ (List.mem_of_getElem? (i := 104) rfl))))), List.forall_mem_cons.mpr ⟨List.mem_append_right _ (List.mem_append_right _ (List.mem_append_right _ (List.mem_append_right _ (List.mem_append_left _ (List.mem_of_getElem? (i := 96) rfl))))), List.forall_mem_cons.mpr ⟨List.mem_append_right _ (List.mem_append_right _ (List.mem_append_right _ (List.mem_append_right _ (List.mem_append_left _ (List.mem_of_getElem? (i := 113) rfl))))), List.forall_mem_cons.mpr ⟨List.mem_append_right _ (List.mem_append_right _ (List.mem_append_right _ (List.mem_append_right _ (List.mem_append_left _ (List.mem_of_getElem? (i := 121) rfl))))), List.forall_mem_cons.mpr ⟨List.mem_append_right _ (List.mem_append_left _ (List.mem_of_getElem? (i := 182) rfl)), List.forall_mem_cons.mpr ⟨List.mem_append_right _ (List.mem_append_right _ (List.mem_append_right _ (List.mem_append_right _ (List.mem_append_left _ (List.mem_of_getElem? (i := 40) rfl))))), List.forall_mem_cons.mpr ⟨List.mem_append_right _ (List.mem_append_right _ (List.mem_append_right _ (List.mem_append_right _ (List.mem_append_left _ (List.mem_of_getElem? (i := 48) rfl))))), List.forall_mem_cons.mpr ⟨List.mem_append_right _ (List.mem_append_right _ (List.mem_append_right _ (List.mem_append_right _ (List.mem_append_left _ (List.mem_of_getElem? (i := 55) rfl))))), List.forall_mem_cons.mpr ⟨List.mem_append_right _ (List.mem_append_right _ (List.mem_append_right _ (List.mem_append_right _ (List.mem_append_left _ (List.mem_of_getElem? (i := 60) rfl))))), List.forall_mem_cons.mpr ⟨List.mem_append_right _ (List.mem_append_right _ (List.mem_append_right _ (List.mem_append_right _ (List.mem_append_left _ (List.mem_of_getElem? (i := 69) rfl))))), List.forall_mem_cons.mpr ⟨List.mem_append_right _ (List.mem_append_right _ (List.mem_append_right _ (List.mem_append_right _ (List.mem_append_left _ (List.mem_of_getElem? (i := 82) rfl))))), List.forall_mem_cons.mpr ⟨List.mem_append_right _ (List.mem_append_right _ (List.mem_append_right _ (List.mem_append_right _ (List.mem_append_left _ (List.mem_of_getElem? (i := 73) rfl))))), List.forall_mem_cons.mpr ⟨List.mem_append_right _ (List.mem_append_right _ (List.mem_append_right _ (List.mem_append_right _ (List.mem_append_left _ (List.mem_of_getElem? (i := 78) rfl))))), List.forall_mem_cons.mpr ⟨List.mem_append_right _ (List.mem_append_right _ (List.mem_append_left _ (List.mem_of_getElem? (i := 108) rfl))), List.forall_mem_cons.mpr ⟨List.mem_append_right _ (List.mem_append_left _ (List.mem_of_getElem? (i := 20) rfl)), List.forall_mem_cons.mpr ⟨List.mem_append_right _ (List.mem_append_right _ (List.mem_append_left _ (List.mem_of_getElem? (i := 4) rfl))), List.forall_mem_cons.mpr ⟨List.mem_append_right _ (List.mem_append_right _ (List.mem_append_left _ (List.mem_of_getElem? (i := 19) rfl))), List.forall_mem_cons.mpr ⟨List.mem_append_right _ (List.mem_append_right _ (List.mem_append_left _ (List.mem_of_getElem? (i := 32) rfl))), List.forall_mem_cons.mpr ⟨List.mem_append_right _ (List.mem_append_right _ (List.mem_append_left _ (List.mem_of_getElem? (i := 39) rfl))), List.forall_mem_cons.mpr ⟨List.mem_append_right _ (List.mem_append_right _ (List.mem_append_left _ (List.mem_of_getElem? (i := 51) rfl))), List.forall_mem_cons.mpr ⟨List.mem_append_right _ (List.mem_append_right _ (List.mem_append_left _ (List.mem_of_getElem? (i := 59) rfl))), List.forall_mem_cons.mpr ⟨List.mem_append_right _ (List.mem_append_right _ (List.mem_append_left _ (List.mem_of_getElem? (i := 147) rfl))), List.forall_mem_cons.mpr ⟨List.mem_append_right _ (List.mem_append_right _ (List.mem_append_left _ (List.mem_of_getElem? (i := 160) rfl))), List.forall_mem_cons.mpr ⟨List.mem_append_right _ (List.mem_append_right _ (List.mem_append_left _ (List.mem_of_getElem? (i := 165) rfl))), List.forall_mem_cons.mpr ⟨List.mem_append_right _ (List.mem_append_right _ (List.mem_append_left _ (List.mem_of_getElem? (i := 185) rfl))), List.forall_mem_cons.mpr ⟨List.mem_append_right _ (List.mem_append_right _ (List.mem_append_left _ (List.mem_of_getElem? (i := 221) rfl))), List.forall_mem_cons.mpr ⟨List.mem_append_right _ (List.mem_append_right _ (List.mem_append_left _ (List.mem_of_getElem? (i := 229) rfl))), List.forall_mem_cons.mpr ⟨List.mem_append_right _ (List.mem_append_right _ (List.mem_append_left _ (List.mem_of_getElem? (i := 233) rfl))), List.forall_mem_cons.mpr ⟨List.mem_append_right _ (List.mem_append_right _ (List.mem_append_right _ (List.mem_append_left _ (List.mem_of_getElem? (i := 18) rfl)))), List.forall_mem_cons.mpr ⟨List.mem_append_right _ (List.mem_append_right _ (List.mem_append_right _ (List.mem_append_left _ (List.mem_of_getElem? (i := 26) rfl)))), List.forall_mem_cons.mpr ⟨List.mem_append_right _ (List.mem_append_right _ (List.mem_append_right _ (List.mem_append_left _ (List.mem_of_getElem? (i := 35) rfl)))), List.forall_mem_cons.mpr ⟨List.mem_append_right _ (List.mem_append_right _ (List.mem_append_right _ (List.mem_append_left _ (List.mem_of_getElem? (i := 43) rfl)))), List.forall_mem_cons.mpr ⟨List.mem_append_right _ (List.mem_append_right _ (List.mem_append_right _ (List.mem_append_left _ (List.mem_of_getElem? (i := 51) rfl)))), List.forall_mem_cons.mpr ⟨List.mem_append_right _ (List.mem_append_right _ (List.mem_append_right _ (List.mem_append_left _ (List.mem_of_getElem? (i := 145) rfl)))), List.forall_mem_cons.mpr ⟨List.mem_append_right _ (List.mem_append_right _ (List.mem_append_right _ (List.mem_append_left _ (List.mem_of_getElem? (i := 153) rfl)))), List.forall_mem_cons.mpr ⟨List.mem_append_right _ (List.mem_append_right _ (List.mem_append_right _ (List.mem_append_left _ (List.mem_of_getElem? (i := 158) rfl)))), List.forall_mem_cons.mpr ⟨List.mem_append_right _ (List.mem_append_right _ (List.mem_append_right _ (List.mem_append_left _ (List.mem_of_getElem? (i := 174) rfl)))), List.forall_mem_cons.mpr ⟨List.mem_append_right _ (List.mem_append_right _ (List.mem_append_right _ (List.mem_append_left _ (List.mem_of_getElem? (i := 200) rfl)))), List.forall_mem_cons.mpr ⟨List.mem_append_right _ (List.mem_append_right _ (List.mem_append_right _ (List.mem_append_left _ (List.mem_of_getElem? (i := 204) rfl)))), List.forall_mem_cons.mpr ⟨List.mem_append_right _ (List.mem_append_right _ (List.mem_append_right _ (List.mem_append_left _ (List.mem_of_getElem? (i := 208) rfl)))), fun _ h => absurd h List.not_mem_nil⟩⟩⟩⟩⟩⟩⟩⟩⟩⟩⟩⟩⟩⟩⟩⟩⟩⟩⟩⟩⟩⟩⟩⟩⟩⟩⟩⟩⟩⟩⟩⟩⟩⟩⟩⟩⟩⟩⟩⟩
set_option maxRecDepth 100000 in
theorem pTc_3 : ∀ q ∈ pTab_3, Cond.code q.1 q.2.1 q.2.2.1 q.2.2.2.1 ∈ lw_tbl := List.forall_mem_cons.mpr ⟨List.mem_append_right _ (List.mem_append_right _ (List.mem_append_right _ (List.mem_append_left _ (List.mem_of_getElem? (i := 212) rfl)))), List.forall_mem_cons.mpr ⟨List.mem_append_right _ (List.mem_append_right _ (List.mem_append_right _ (List.mem_append_left _ (List.mem_of_getElem? (i := 216) rfl)))), List.forall_mem_cons.mpr ⟨List.mem_append_right _ (List.mem_append_right _ (List.mem_append_right _ (List.mem_append_left _ (List.mem_of_getElem? (i := 233) rfl)))), List.forall_mem_cons.mpr ⟨List.mem_append_right _ (List.mem_append_right _ (List.mem_append_right _ (List.mem_append_right _ (List.mem_append_left _ (List.mem_of_getElem? (i := 23) rfl))))), List.forall_mem_cons.mpr ⟨List.mem_append_right _ (List.mem_append_right _ (List.mem_append_right _ (List.mem_append_right _ (List.mem_append_left _ (List.mem_of_getElem? (i := 31) rfl))))), List.forall_mem_cons.mpr ⟨List.mem_append_right _ (List.mem_append_right _ (List.mem_append_right _ (List.mem_append_right _ (List.mem_append_left _ (List.mem_of_getElem? (i := 36) rfl))))), List.forall_mem_cons.mpr ⟨List.mem_append_right _ (List.mem_append_right _ (List.mem_append_right _ (List.mem_append_right _ (List.mem_append_left _ (List.mem_of_getElem? (i := 65) rfl))))), List.forall_mem_cons.mpr ⟨List.mem_append_right _ (List.mem_append_right _ (List.mem_append_right _ (List.mem_append_right _ (List.mem_append_left _ (List.mem_of_getElem? (i := 92) rfl))))), List.forall_mem_cons.mpr ⟨List.mem_append_right _ (List.mem_append_right _ (List.mem_append_right _ (List.mem_append_right _ (List.mem_append_left _ (List.mem_of_getElem? (i := 109) rfl))))), List.forall_mem_cons.mpr ⟨List.mem_append_right _ (List.mem_append_right _ (List.mem_append_right _ (List.mem_append_right _ (List.mem_append_left _ (List.mem_of_getElem? (i := 117) rfl))))), List.forall_mem_cons.mpr ⟨List.mem_append_right _ (List.mem_append_right _ (List.mem_append_left _ (List.mem_of_getElem? (i := 7) rfl))), List.forall_mem_cons.mpr ⟨List.mem_append_right _ (List.mem_append_right _ (List.mem_append_left _ (List.mem_of_getElem? (i := 10) rfl))), List.forall_mem_cons.mpr ⟨List.mem_append_right _ (List.mem_append_right _ (List.mem_append_right _ (List.mem_append_left _ (List.mem_of_getElem? (i := 57) rfl)))), List.forall_mem_cons.mpr ⟨List.mem_append_right _ (List.mem_append_right _ (List.mem_append_left _ (List.mem_of_getElem? (i := 62) rfl))), List.forall_mem_cons.mpr ⟨List.mem_append_right _ (List.mem_append_right _ (List.mem_append_left _ (List.mem_of_getElem? (i := 35) rfl))), List.forall_mem_cons.mpr ⟨List.mem_append_right _ (List.mem_append_right _ (List.mem_append_right _ (List.mem_append_left _ (List.mem_of_getElem? (i := 54) rfl)))), List.forall_mem_cons.mpr ⟨List.mem_append_right _ (List.mem_append_right _ (List.mem_append_left _ (List.mem_of_getElem? (i := 193) rfl))), List.forall_mem_cons.mpr ⟨List.mem_append_right _ (List.mem_append_right _ (List.mem_append_left _ (List.mem_of_getElem? (i := 189) rfl))), List.forall_mem_cons.mpr ⟨List.mem_append_right _ (List.mem_append_right _ (List.mem_append_right _ (List.mem_append_left _ (List.mem_of_getElem? (i := 61) rfl)))), List.forall_mem_cons.mpr ⟨List.mem_append_right _ (List.mem_append_right _ (List.mem_append_right _ (List.mem_append_left _ (List.mem_of_getElem? (i := 162) rfl)))), List.forall_mem_cons.mpr ⟨List.mem_append_right _ (List.mem_append_right _ (List.mem_append_right _ (List.mem_append_left _ (List.mem_of_getElem? (i := 237) rfl)))), List.forall_mem_cons.mpr ⟨List.mem_append_right _ (List.mem_append_right _ (List.mem_append_right _ (List.mem_append_right _ (List.mem_append_left _ (List.mem_of_getElem? (i := 126) rfl))))), List.forall_mem_cons.mpr ⟨List.mem_append_right _ (List.mem_append_right _ (List.mem_append_right _ (List.mem_append_right _ (List.mem_append_right _ (List.mem_append_left _ (List.mem_of_getElem? (i := 2) rfl)))))), List.forall_mem_cons.mpr ⟨List.mem_append_right _ (List.mem_append_right _ (List.mem_append_right _ (List.mem_append_right _ (List.mem_append_right _ (List.mem_append_left _ (List.mem_of_getElem? (i := 51) rfl)))))), List.forall_mem_cons.mpr ⟨List.mem_append_right _ (List.mem_append_right _ (List.mem_append_right _ (List.mem_append_right _ (List.mem_append_left _ (List.mem_of_getElem? (i := 239) rfl))))), List.forall_mem_cons.mpr ⟨List.mem_append_right _ (List.mem_append_right _ (List.mem_append_right _ (List.mem_append_right _ (List.mem_append_right _ (List.mem_append_left _ (List.mem_of_getElem? (i := 10) rfl)))))), List.forall_mem_cons.mpr ⟨List.mem_append_right _ (List.mem_append_right _ (List.mem_append_right _ (List.mem_append_right _ (List.mem_append_right _ (List.mem_append_left _ (List.mem_of_getElem? (i := 6) rfl)))))), List.forall_mem_cons.mpr ⟨List.mem_append_right _ (List.mem_append_right _ (List.mem_append_right _ (List.mem_append_right _ (List.mem_append_right _ (List.mem_append_left _ (List.mem_of_getElem? (i := 14) rfl)))))), List.forall_mem_cons.mpr ⟨List.mem_append_right _ (List.mem_append_right _ (List.mem_append_right _ (List.mem_append_right _ (List.mem_append_right _ (List.mem_append_left _ (List.mem_of_getElem? (i := 18) rfl)))))), List.forall_mem_cons.mpr ⟨List.mem_append_right _ (List.mem_append_right _ (List.mem_append_right _ (List.mem_append_right _ (List.mem_append_right _ (List.mem_append_left _ (List.mem_of_getElem? (i := 22) rfl)))))), List.forall_mem_cons.mpr ⟨List.mem_append_right _ (List.mem_append_right _ (List.mem_append_right _ (List.mem_append_right _ (List.mem_append_right _ (List.mem_append_left _ (List.mem_of_getElem? (i := 31) rfl)))))), List.forall_mem_cons.mpr ⟨List.mem_append_right _ (List.mem_append_right _ (List.mem_append_right _ (List.mem_append_right _ (List.mem_append_right _ (List.mem_append_left _ (List.mem_of_getElem? (i := 43) rfl)))))), List.forall_mem_cons.mpr ⟨List.mem_append_right _ (List.mem_append_right _ (List.mem_append_right _ (List.mem_append_right _ (List.mem_append_right _ (List.mem_append_left _ (List.mem_of_getElem? (i := 39) rfl)))))), List.forall_mem_cons.mpr ⟨List.mem_append_right _ (List.mem_append_right _ (List.mem_append_right _ (List.mem_append_right _ (List.mem_append_right _ (List.mem_append_left _ (List.mem_of_getElem? (i := 35) rfl)))))), List.forall_mem_cons.mpr ⟨List.mem_append_right _ (List.mem_append_right _ (List.mem_append_right _ (List.mem_append_right _ (List.mem_append_right _ (List.mem_append_left _ (List.mem_of_getElem? (i := 26) rfl)))))), List.forall_mem_cons.mpr ⟨List.mem_append_right _ (List.mem_append_right _ (List.mem_append_right _ (List.mem_append_right _ (List.mem_append_right _ (List.mem_append_left _ (List.mem_of_getElem? (i := 47) rfl)))))), List.forall_mem_cons.mpr ⟨List.mem_append_right _ (List.mem_append_right _ (List.mem_append_right _ (List.mem_append_right _ (List.mem_append_right _ (List.mem_append_left _ (List.mem_of_getElem? (i := 55) rfl)))))), List.forall_mem_cons.mpr ⟨List.mem_append_right _ (List.mem_append_right _ (List.mem_append_right _ (List.mem_append_right _ (List.mem_append_right _ (List.mem_append_left _ (List.mem_of_getElem? (i := 63) rfl)))))), List.forall_mem_cons.mpr ⟨List.mem_append_right _ (List.mem_append_right _ (List.mem_append_right _ (List.mem_append_right _ (List.mem_append_right _ (List.mem_append_left _ (List.mem_of_getElem? (i := 59) rfl)))))), List.forall_mem_cons.mpr ⟨List.mem_append_right _ (List.mem_append_right _ (List.mem_append_right _ (List.mem_append_right _ (List.mem_append_right _ (List.mem_append_left _ (List.mem_of_getElem? (i := 71) rfl)))))), fun _ h => absurd h List.not_mem_nil⟩⟩⟩⟩⟩⟩⟩⟩⟩⟩⟩⟩⟩⟩⟩⟩⟩⟩⟩⟩⟩⟩⟩⟩⟩⟩⟩⟩⟩⟩⟩⟩⟩⟩⟩⟩⟩⟩⟩⟩
set_option maxRecDepth 100000 in
theorem pTc_4 : ∀ q ∈ pTab_4, Cond.code q.1 q.2.1 q.2.2.1 q.2.2.2.1 ∈ lw_tbl := List.forall_mem_cons.mpr ⟨List.mem_append_right _ (List.mem_append_right _ (List.mem_append_right _ (List.mem_append_right _ (List.mem_append_right _ (List.mem_append_left _ (List.mem_of_getElem? (i := 75) rfl)))))), List.forall_mem_cons.mpr ⟨List.mem_append_right _ (List.mem_append_right _ (List.mem_append_right _ (List.mem_append_right _ (List.mem_append_right _ (List.mem_append_left _ (List.mem_of_getElem? (i := 67) rfl)))))), List.forall_mem_cons.mpr ⟨List.mem_append_right _ (List.mem_append_right _ (List.mem_append_right _ (List.mem_append_right _ (List.mem_append_right _ (List.mem_append_left _ (List.mem_of_getElem? (i := 80) rfl)))))), List.forall_mem_cons.mpr ⟨List.mem_append_right _ (List.mem_append_right _ (List.mem_append_right _ (List.mem_append_right _ (List.mem_append_right _ (List.mem_append_left _ (List.mem_of_getElem? (i := 84) rfl)))))), List.forall_mem_cons.mpr ⟨List.mem_append_right _ (List.mem_append_right _ (List.mem_append_right _ (List.mem_append_right _ (List.mem_append_right _ (List.mem_append_left _ (List.mem_of_getElem? (i := 88) rfl)))))), List.forall_mem_cons.mpr ⟨List.mem_append_right _ (List.mem_append_right _ (List.mem_append_right _ (List.mem_append_right _ (List.mem_append_right _ (List.mem_append_left _ (List.mem_of_getElem? (i := 92) rfl)))))), List.forall_mem_cons.mpr ⟨List.mem_append_right _ (List.mem_append_right _ (List.mem_append_right _ (List.mem_append_right _ (List.mem_append_right _ (List.mem_append_left _ (List.mem_of_getElem? (i := 96) rfl)))))), List.forall_mem_cons.mpr ⟨List.mem_append_right _ (List.mem_append_right _ (List.mem_append_right _ (List.mem_append_right _ (List.mem_append_right _ (List.mem_append_left _ (List.mem_of_getElem? (i := 100) rfl)))))), List.forall_mem_cons.mpr ⟨List.mem_append_right _ (List.mem_append_right _ (List.mem_append_right _ (List.mem_append_right _ (List.mem_append_right _ (List.mem_append_left _ (List.mem_of_getElem? (i := 104) rfl)))))), List.forall_mem_cons.mpr ⟨List.mem_append_right _ (List.mem_append_right _ (List.mem_append_right _ (List.mem_append_right _ (List.mem_append_right _ (List.mem_append_left _ (List.mem_of_getElem? (i := 128) rfl)))))), List.forall_mem_cons.mpr ⟨List.mem_append_right _ (List.mem_append_right _ (List.mem_append_right _ (List.mem_append_right _ (List.mem_append_right _ (List.mem_append_left _ (List.mem_of_getElem? (i := 112) rfl)))))), List.forall_mem_cons.mpr ⟨List.mem_append_right _ (List.mem_append_right _ (List.mem_append_right _ (List.mem_append_right _ (List.mem_append_right _ (List.mem_append_left _ (List.mem_of_getElem? (i := 218) rfl)))))), List.forall_mem_cons.mpr ⟨List.mem_append_right _ (List.mem_append_right _ (List.mem_append_right _ (List.mem_append_right _ (List.mem_append_right _ (List.mem_append_left _ (List.mem_of_getElem? (i := 132) rfl)))))), List.forall_mem_cons.mpr ⟨List.mem_append_right _ (List.mem_append_right _ (List.mem_append_right _ (List.mem_append_right _ (List.mem_append_right _ (List.mem_append_left _ (List.mem_of_getElem? (i := 124) rfl)))))), List.forall_mem_cons.mpr ⟨List.mem_append_right _ (List.mem_append_right _ (List.mem_append_right _ (List.mem_append_right _ (List.mem_append_right _ (List.mem_append_left _ (List.mem_of_getElem? (i := 136) rfl)))))), List.forall_mem_cons.mpr ⟨List.mem_append_right _ (List.mem_append_right _ (List.mem_append_right _ (List.mem_append_right _ (List.mem_append_right _ (List.mem_append_left _ (List.mem_of_getElem? (i := 141) rfl)))))), List.forall_mem_cons.mpr ⟨List.mem_append_right _ (List.mem_append_right _ (List.mem_append_right _ (List.mem_append_right _ (List.mem_append_right _ (List.mem_append_left _ (List.mem_of_getElem? (i := 145) rfl)))))), List.forall_mem_cons.mpr ⟨List.mem_append_right _ (List.mem_append_right _ (List.mem_append_right _ (List.mem_append_right _ (List.mem_append_right _ (List.mem_append_left _ (List.mem_of_getElem? (i := 120) rfl)))))), List.forall_mem_cons.mpr ⟨List.mem_append_right _ (List.mem_append_right _ (List.mem_append_right _ (List.mem_append_right _ (List.mem_append_right _ (List.mem_append_left _ (List.mem_of_getElem? (i := 149) rfl)))))), List.forall_mem_cons.mpr ⟨List.mem_append_right _ (List.mem_append_right _ (List.mem_append_right _ (List.mem_append_right _ (List.mem_append_right _ (List.mem_append_left _ (List.mem_of_getElem? (i := 116) rfl)))))), List.forall_mem_cons.mpr ⟨List.mem_append_right _ (List.mem_append_right _ (List.mem_append_right _ (List.mem_append_right _ (List.mem_append_right _ (List.mem_append_left _ (List.mem_of_getElem? (i := 108) rfl)))))), List.forall_mem_cons.mpr ⟨List.mem_append_right _ (List.mem_append_right _ (List.mem_append_right _ (List.mem_append_right _ (List.mem_append_right _ (List.mem_append_left _ (List.mem_of_getElem? (i := 153) rfl)))))), List.forall_mem_cons.mpr ⟨List.mem_append_right _ (List.mem_append_right _ (List.mem_append_right _ (List.mem_append_right _ (List.mem_append_right _ (List.mem_append_left _ (List.mem_of_getElem? (i := 158) rfl)))))), List.forall_mem_cons.mpr ⟨List.mem_append_right _ (List.mem_append_right _ (List.mem_append_right _ (List.mem_append_right _ (List.mem_append_right _ (List.mem_append_left _ (List.mem_of_getElem? (i := 166) rfl)))))), List.forall_mem_cons.mpr ⟨List.mem_append_right _ (List.mem_append_right _ (List.mem_append_right _ (List.mem_append_right _ (List.mem_append_right _ (List.mem_append_left _ (List.mem_of_getElem? (i := 162) rfl)))))), List.forall_mem_cons.mpr ⟨List.mem_append_right _ (List.mem_append_right _ (List.mem_append_right _ (List.mem_append_right _ (List.mem_append_right _ (List.mem_append_left _ (List.mem_of_getElem? (i := 174) rfl)))))), List.forall_mem_cons.mpr ⟨List.mem_append_right _ (List.mem_append_right _ (List.mem_append_right _ (List.mem_append_right _ (List.mem_append_right _ (List.mem_append_left _ (List.mem_of_getElem? (i := 182) rfl)))))), List.forall_mem_cons.mpr ⟨List.mem_append_right _ (List.mem_append_right _ (List.mem_append_right _ (List.mem_append_right _ (List.mem_append_right _ (List.mem_append_left _ (List.mem_of_getElem? (i := 178) rfl)))))), List.forall_mem_cons.mpr ⟨List.mem_append_right _ (List.mem_append_right _ (List.mem_append_right _ (List.mem_append_right _ (List.mem_append_right _ (List.mem_append_left _ (List.mem_of_getElem? (i := 186) rfl)))))), List.forall_mem_cons.mpr ⟨List.mem_append_right _ (List.mem_append_right _ (List.mem_append_right _ (List.mem_append_right _ (List.mem_append_right _ (List.mem_append_left _ (List.mem_of_getElem? (i := 170) rfl)))))), List.forall_mem_cons.mpr ⟨List.mem_append_right _ (List.mem_append_right _ (List.mem_append_right _ (List.mem_append_right _ (List.mem_append_right _ (List.mem_append_left _ (List.mem_of_getElem? (i := 190) rfl)))))), List.forall_mem_cons.mpr ⟨List.mem_append_right _ (List.mem_append_right _ (List.mem_append_right _ (List.mem_append_right _ (List.mem_append_right _ (List.mem_append_left _ (List.mem_of_getElem? (i := 194) rfl)))))), List.forall_mem_cons.mpr ⟨List.mem_append_right _ (List.mem_append_right _ (List.mem_append_right _ (List.mem_append_right _ (List.mem_append_right _ (List.mem_append_left _ (List.mem_of_getElem? (i := 198) rfl)))))), List.forall_mem_cons.mpr ⟨List.mem_append_right _ (List.mem_append_right _ (List.mem_append_right _ (List.mem_append_right _ (List.mem_append_right _ (List.mem_append_left _ (List.mem_of_getElem? (i := 202) rfl)))))), List.forall_mem_cons.mpr ⟨List.mem_append_right _ (List.mem_append_right _ (List.mem_append_right _ (List.mem_append_right _ (List.mem_append_right _ (List.mem_append_left _ (List.mem_of_getElem? (i := 214) rfl)))))), List.forall_mem_cons.mpr ⟨List.mem_append_right _ (List.mem_append_right _ (List.mem_append_right _ (List.mem_append_right _ (List.mem_append_right _ (List.mem_append_left _ (List.mem_of_getElem? (i := 226) rfl)))))), List.forall_mem_cons.mpr ⟨List.mem_append_right _ (List.mem_append_right _ (List.mem_append_right _ (List.mem_append_right _ (List.mem_append_right _ (List.mem_append_left _ (List.mem_of_getElem? (i := 222) rfl)))))), List.forall_mem_cons.mpr ⟨List.mem_append_right _ (List.mem_append_right _ (List.mem_append_right _ (List.mem_append_right _ (List.mem_append_right _ (List.mem_append_left _ (List.mem_of_getElem? (i := 210) rfl)))))), List.forall_mem_cons.mpr ⟨List.mem_append_right _ (List.mem_append_right _ (List.mem_append_right _ (List.mem_append_right _ (List.mem_append_right _ (List.mem_append_left _ (List.mem_of_getElem? (i := 206) rfl)))))), List.forall_mem_cons.mpr ⟨List.mem_append_right _ (List.mem_append_right _ (List.mem_append_right _ (List.mem_append_right _ (List.mem_append_right _ (List.mem_append_left _ (List.mem_of_getElem? (i := 238) rfl)))))), fun _ h => absurd h List.not_mem_nil⟩⟩⟩⟩⟩⟩⟩⟩⟩⟩⟩⟩⟩⟩⟩⟩⟩⟩⟩⟩⟩⟩⟩⟩⟩⟩⟩⟩⟩⟩⟩⟩⟩⟩⟩⟩⟩⟩⟩⟩
set_option maxRecDepth 100000 in
theorem pTc_5 : ∀ q ∈ pTab_5, Cond.code q.1 q.2.1 q.2.2.1 q.2.2.2.1 ∈ lw_tbl := List.forall_mem_cons.mpr ⟨List.mem_append_right _ (List.mem_append_right _ (List.mem_append_right _ (List.mem_append_right _ (List.mem_append_right _ (List.mem_append_left _ (List.mem_of_getElem? (i := 234) rfl)))))), List.forall_mem_cons.mpr ⟨List.mem_append_right _ (List.mem_append_right _ (List.mem_append_right _ (List.mem_append_right _ (List.mem_append_right _ (List.mem_append_left _ (List.mem_of_getElem? (i := 230) rfl)))))), List.forall_mem_cons.mpr ⟨List.mem_append_right _ (List.mem_append_right _ (List.mem_append_right _ (List.mem_append_right _ (List.mem_append_right _ (List.mem_append_right _ ((List.mem_of_getElem? (i := 3) rfl))))))), List.forall_mem_cons.mpr ⟨List.mem_append_right _ (List.mem_append_right _ (List.mem_append_right _ (List.mem_append_right _ (List.mem_append_right _ (List.mem_append_right _ ((List.mem_of_getElem? (i := 11) rfl))))))), List.forall_mem_cons.mpr ⟨List.mem_append_right _ (List.mem_append_right _ (List.mem_append_right _ (List.mem_append_right _ (List.mem_append_right _ (List.mem_append_right _ ((List.mem_of_getElem? (i := 7) rfl))))))), List.forall_mem_cons.mpr ⟨List.mem_append_right _ (List.mem_append_right _ (List.mem_append_right _ (List.mem_append_right _ (List.mem_append_right _ (List.mem_append_right _ ((List.mem_of_getElem? (i := 19) rfl))))))), List.forall_mem_cons.mpr ⟨List.mem_append_right _ (List.mem_append_right _ (List.mem_append_right _ (List.mem_append_right _ (List.mem_append_right _ (List.mem_append_right _ ((List.mem_of_getElem? (i := 24) rfl))))))), List.forall_mem_cons.mpr ⟨List.mem_append_right _ (List.mem_append_right _ (List.mem_append_right _ (List.mem_append_right _ (List.mem_append_right _ (List.mem_append_right _ ((List.mem_of_getElem? (i := 15) rfl))))))), List.forall_mem_cons.mpr ⟨List.mem_append_right _ (List.mem_append_right _ (List.mem_append_right _ (List.mem_append_right _ (List.mem_append_right _ (List.mem_append_right _ ((List.mem_of_getElem? (i := 32) rfl))))))), List.forall_mem_cons.mpr ⟨List.mem_append_right _ (List.mem_append_right _ (List.mem_append_right _ (List.mem_append_right _ (List.mem_append_right _ (List.mem_append_right _ ((List.mem_of_getElem? (i := 28) rfl))))))), List.forall_mem_cons.mpr ⟨List.mem_append_right _ (List.mem_append_right _ (List.mem_append_right _ (List.mem_append_right _ (List.mem_append_right _ (List.mem_append_right _ ((List.mem_of_getElem? (i := 48) rfl))))))), List.forall_mem_cons.mpr ⟨List.mem_append_right _ (List.mem_append_right _ (List.mem_append_right _ (List.mem_append_right _ (List.mem_append_right _ (List.mem_append_right _ ((List.mem_of_getElem? (i := 44) rfl))))))), List.forall_mem_cons.mpr ⟨List.mem_append_right _ (List.mem_append_right _ (List.mem_append_right _ (List.mem_append_right _ (List.mem_append_right _ (List.mem_append_right _ ((List.mem_of_getElem? (i := 40) rfl))))))), List.forall_mem_cons.mpr ⟨List.mem_append_right _ (List.mem_append_right _ (List.mem_append_right _ (List.mem_append_right _ (List.mem_append_right _ (List.mem_append_right _ ((List.mem_of_getElem? (i := 36) rfl))))))), List.forall_mem_cons.mpr ⟨List.mem_append_right _ (List.mem_append_right _ (List.mem_append_right _ (List.mem_append_right _ (List.mem_append_right _ (List.mem_append_right _ ((List.mem_of_getElem? (i := 52) rfl))))))), List.forall_mem_cons.mpr ⟨List.mem_append_right _ (List.mem_append_right _ (List.mem_append_right _ (List.mem_append_right _ (List.mem_append_right _ (List.mem_append_right _ ((List.mem_of_getElem? (i := 56) rfl))))))), List.forall_mem_cons.mpr ⟨List.mem_append_right _ (List.mem_append_left _ (List.mem_of_getElem? (i := 93) rfl)), List.forall_mem_cons.mpr ⟨List.mem_append_right _ (List.mem_append_right _ (List.mem_append_right _ (List.mem_append_left _ (List.mem_of_getElem? (i := 105) rfl)))), List.forall_mem_cons.mpr ⟨List.mem_append_right _ (List.mem_append_left _ (List.mem_of_getElem? (i := 123) rfl)), fun _ h => absurd h List.not_mem_nil⟩⟩⟩⟩⟩⟩⟩⟩⟩⟩⟩⟩⟩⟩⟩⟩⟩⟩⟩
theorem pTc : ∀ q ∈ pTab, Cond.code q.1 q.2.1 q.2.2.1 q.2.2.2.1 ∈ lw_tbl := fun q h => (List.mem_append.mp h).elim (pTc_0 q) (fun h => (List.mem_append.mp h).elim (pTc_1 q) (fun h => (List.mem_append.mp h).elim (pTc_2 q) (fun h => (List.mem_append.mp h).elim (pTc_3 q) (fun h => (List.mem_append.mp h).elim (pTc_4 q) (fun h => pTc_5 q h)))))
def pNM : Nat := 219
def pCn : List String := [RX0, RX1, RX2, RX3, RX4, RX5, RX6, RX7, RX8, RX9, RX10, RX11, RL, RJ9, RJ10, RJ7]
def pCalls : List (List (Nat × Nat × Nat × Nat)) := [[(19, 40, 1, 102), (34, 7, 0, 390), (46, 63, 0, 369), (52, 11, 0, 381), (56, 12, 0, 386), (60, 93, 0, 403), (69, 47, 0, 394), (76, 217, 0, 705), (82, 43, 0, 706), (85, 45, 0, 707)], [(11, 55, 0, 619), (17, 58, 0, 620), (21, 14, 0, 621), (27, 16, 0, 637), (31, 217, 0, 640), (37, 19, 0, 634), (41, 22, 0, 646), (45, 23, 0, 654), (48, 24, 0, 660), (51, 17, 0, 649), (55, 134, 1, 653), (59, 18, 0, 657)], [(15, 130, 1, 312), (19, 26, 0, 325), (23, 27, 0, 865), (27, 55, 0, 607), (33, 58, 0, 608), (36, 29, 0, 765), (39, 14, 0, 609)], [(24, 54, 0, 144), (27, 63, 0, 720), (31, 35, 0, 716), (35, 38, 0, 729), (39, 62, 0, 733)], [(25, 42, 0, 471), (29, 46, 0, 398), (33, 218, 0, 504)], [(24, 69, 0, 779), (29, 218, 0, 780), (35, 55, 0, 781), (41, 58, 0, 782), (45, 70, 0, 783), (49, 78, 0, 784), (59, 51, 0, 788)], [(7, 216, 0, 148), (23, 59, 0, 414)], [(47, 218, 0, 178), (53, 1, 0, 505), (59, 7, 0, 509), (73, 31, 0, 603), (78, 32, 0, 612), (80, 4, 0, 499), (84, 48, 0, 500), (94, 64, 0, 671), (100, 20, 0, 631), (106, 21, 0, 643), (112, 8, 0, 626), (116, 73, 0, 627), (120, 75, 0, 663), (124, 72, 0, 667), (128, 19, 0, 758), (131, 216, 0, 759), (137, 55, 0, 760), (138, 30, 0, 761), (142, 16, 0, 766), (146, 80, 0, 878), (150, 79, 0, 874)], [(33, 218, 0, 818), (39, 55, 0, 819), (45, 58, 0, 820), (49, 7, 0, 821), (64, 86, 0, 822), (68, 130, 1, 826), (72, 217, 0, 827), (78, 216, 0, 828), (82, 88, 0, 834), (86, 27, 0, 838), (92, 91, 0, 847), (96, 90, 0, 856), (100, 28, 0, 861), (104, 26, 0, 851), (107, 131, 1, 860), (110, 92, 0, 852)], [(15, 55, 0, 408), (19, 54, 0, 409), (26, 62, 0, 410)], [(9, 25, 0, 83), (18, 0, 1, 94), (25, 33, 0, 137), (32, 65, 0, 173), (41, 49, 1, 218), (48, 84, 1, 237), (55, 54, 0, 263), (75, 130, 0, 302), (79, 131, 0, 305), (82, 27, 0, 308), (86, 26, 0, 317), (90, 29, 0, 321), (93, 134, 0, 330), (96, 55, 0, 337), (100, 59, 0, 341), (103, 61, 0, 349), (106, 133, 0, 357), (109, 56, 0, 361), (113, 9, 0, 365), (117, 5, 0, 373), (120, 10, 0, 377), (124, 6, 0, 445), (127, 8, 0, 449), (130, 12, 0, 453), (133, 7, 0, 458), (148, 4, 0, 463), (152, 44, 0, 467), (157, 45, 0, 475), (167, 137, 0, 483), (170, 58, 0, 491), (172, 43, 0, 519), (176, 1, 0, 531), (177, 2, 0, 532), (180, 41, 0, 536), (181, 34, 0, 540), (182, 3, 0, 544), (185, 66, 0, 548), (188, 67, 0, 556), (192, 68, 0, 565), (196, 57, 0, 573), (197, 60, 0, 581), (200, 135, 0, 589), (203, 138, 0, 595), (206, 76, 0, 675), (207, 77, 0, 683), (210, 132, 0, 592), (213, 69, 0, 599), (216, 15, 0, 616), (222, 73, 0, 691), (226, 139, 0, 696), (229, 36, 0, 712), (232, 39, 0, 721), (236, 37, 0, 725), (239, 136, 0, 487), (242, 70, 0, 495), (245, 78, 0, 754), (249, 140, 0, 771), (252, 50, 0, 775), (256, 52, 0, 793), (259, 53, 0, 801), (262, 30, 0, 809), (265, 85, 0, 814), (269, 87, 0, 829), (273, 89, 0, 843), (276, 81, 0, 870), (279, 79, 0, 882), (282, 82, 0, 887), (285, 83, 0, 895), (288, 71, 0, 511), (291, 74, 0, 622), (295, 13, 0, 700)], [(91, 142, 0, 1017), (95, 145, 0, 1024), (102, 152, 0, 1053), (106, 151, 0, 1057), (114, 150, 0, 1045), (117, 153, 0, 1049), (120, 143, 0, 1065), (124, 157, 0, 1077), (131, 159, 0, 1085), (134, 160, 0, 1089), (150, 169, 0, 1142), (154, 172, 0, 1146), (157, 147, 0, 1154), (161, 173, 0, 1138), (164, 174, 0, 1150), (168, 175, 0, 1155), (171, 176, 0, 1159), (177, 177, 0, 1134), (181, 178, 0, 1163), (184, 170, 0, 1126), (187, 179, 0, 1130), (191, 180, 0, 1171), (193, 183, 0, 1180), (196, 186, 0, 1196), (199, 187, 0, 1192), (202, 185, 0, 1188), (205, 188, 0, 1200), (211, 171, 0, 1232), (214, 195, 0, 1240), (217, 194, 0, 1228), (220, 196, 0, 1236), (223, 197, 0, 1224), (229, 199, 0, 1252), (232, 200, 0, 1248), (235, 203, 0, 1265), (238, 205, 0, 1273), (242, 206, 0, 1278), (245, 208, 0, 1286), (248, 210, 0, 1302), (251, 211, 0, 1298), (254, 212, 0, 1294)], [(9, 94, 0, 75), (12, 141, 0, 901), (13, 95, 0, 298), (17, 144, 0, 1013), (18, 96, 0, 313), (21, 146, 0, 1020), (22, 97, 0, 326), (26, 147, 0, 1028), (27, 98, 0, 333), (31, 148, 0, 1032), (32, 99, 0, 345), (36, 149, 0, 1036), (37, 100, 0, 353), (41, 154, 0, 1040), (42, 101, 0, 441), (45, 155, 0, 1061), (46, 102, 0, 454), (49, 156, 0, 1069), (50, 103, 0, 459), (54, 158, 0, 1073), (55, 104, 0, 479), (58, 161, 0, 1081), (59, 105, 0, 515), (62, 162, 0, 1094), (63, 106, 0, 523), (66, 163, 0, 1098), (67, 107, 0, 527), (70, 164, 0, 1102), (71, 108, 0, 552), (74, 165, 0, 1106), (75, 109, 0, 560), (78, 166, 0, 1110), (79, 110, 0, 569), (82, 167, 0, 1114), (83, 111, 0, 577), (86, 168, 0, 1118), (87, 112, 0, 585), (90, 180, 0, 1122), (91, 113, 0, 679), (94, 181, 0, 1167), (95, 114, 0, 687), (98, 182, 0, 1172), (99, 115, 0, 692), (102, 184, 0, 1176), (103, 116, 0, 708), (106, 189, 0, 1184), (107, 117, 0, 734), (110, 190, 0, 1204), (111, 118, 0, 738), (114, 191, 0, 1208), (115, 119, 0, 742), (118, 192, 0, 1212), (119, 120, 0, 746), (122, 193, 0, 1216), (123, 121, 0, 750), (126, 198, 0, 1220), (127, 122, 0, 767), (130, 201, 0, 1244), (131, 123, 0, 797), (134, 202, 0, 1257), (135, 124, 0, 805), (138, 204, 0, 1261), (139, 125, 0, 810), (142, 207, 0, 1269), (143, 126, 0, 839), (146, 209, 0, 1282), (147, 127, 0, 866), (150, 213, 0, 1290), (151, 128, 0, 883), (154, 214, 0, 1306), (155, 129, 0, 891), (158, 215, 0, 1310)], [], [], []]
def pFlds : List (List (Nat × Nat × Nat × Nat × Nat)) := [[(11, 0, 0, 0, 119), (20, 0, 1, 0, 120), (24, 0, 2, 0, 121), (28, 0, 3, 0, 122), (31, 0, 4, 0, 123), (38, 8, 3, 1, 430), (42, 8, 0, 1, 418), (66, 8, 2, 1, 426), (72, 8, 1, 1, 423)], [], [(9, 1, 0, 0, 87)], [(11, 2, 0, 0, 158), (17, 2, 1, 0, 159), (21, 2, 2, 0, 160), (43, 2, 3, 0, 161)], [(9, 3, 0, 0, 106), (15, 3, 1, 0, 107), (18, 3, 2, 0, 108), (21, 3, 3, 0, 109)], [(9, 4, 0, 0, 222), (15, 4, 1, 0, 223), (18, 4, 2, 0, 224), (21, 4, 3, 0, 225)], [(13, 5, 0, 0, 151), (19, 5, 1, 0, 152)], [(9, 6, 2, 0, 183), (15, 6, 3, 0, 184), (18, 6, 4, 0, 185), (22, 6, 5, 0, 186), (25, 6, 6, 0, 187), (28, 6, 7, 0, 188), (31, 6, 8, 0, 189), (34, 6, 10, 0, 191), (38, 6, 0, 0, 181), (42, 6, 1, 0, 182), (63, 8, 3, 1, 429), (69, 8, 0, 1, 417), (90, 8, 1, 1, 421), (110, 6, 9, 0, 190)], [(9, 7, 0, 0, 243), (17, 7, 1, 0, 244), (20, 7, 3, 0, 246), (23, 7, 4, 0, 247), (26, 7, 5, 0, 248), (29, 7, 2, 0, 245), (54, 8, 3, 1, 428), (60, 8, 0, 1, 416)], [(7, 8, 3, 0, 427), (22, 8, 0, 0, 415), (30, 8, 1, 0, 420), (34, 8, 2, 0, 424)], [(10, 9, 0, 0, 264), (19, 9, 1, 0, 265), (26, 9, 2, 0, 266), (35, 9, 3, 0, 267), (42, 9, 4, 0, 268), (49, 9, 5, 0, 269), (58, 9, 6, 0, 270), (62, 9, 7, 0, 271), (65, 9, 8, 0, 272), (68, 9, 9, 0, 273), (72, 9, 10, 0, 274), (137, 8, 3, 1, 431), (143, 8, 1, 1, 422), (161, 8, 0, 1, 419), (164, 8, 2, 1, 425)], [(7, 10, 0, 0, 906), (13, 10, 1, 0, 907), (16, 10, 2, 0, 908), (19, 10, 3, 0, 909), (22, 10, 4, 0, 910), (25, 10, 5, 0, 911), (29, 10, 7, 0, 913), (32, 10, 9, 0, 915), (36, 10, 10, 0, 916), (39, 10, 11, 0, 917), (42, 10, 13, 0, 919), (45, 10, 15, 0, 921), (48, 10, 17, 0, 923), (51, 10, 18, 0, 924), (54, 10, 19, 0, 925), (57, 10, 20, 0, 926), (60, 10, 23, 0, 929), (63, 10, 24, 0, 930), (66, 10, 26, 0, 932), (69, 10, 28, 0, 934), (72, 10, 29, 0, 935), (75, 10, 31, 0, 937), (78, 10, 32, 0, 938), (81, 10, 33, 0, 939), (84, 10, 34, 0, 940), (88, 10, 6, 0, 912), (99, 10, 12, 0, 918), (110, 10, 8, 0, 914), (127, 10, 16, 0, 922), (138, 10, 14, 0, 920), (141, 10, 21, 0, 927), (144, 10, 25, 0, 931), (147, 10, 27, 0, 933), (174, 10, 30, 0, 936), (208, 10, 22, 0, 928)], [], [], [], []]
def pNews : List (List (Nat × Nat × Nat)) := [[(9, 8, 98), (17, 3, 100)], [], [], [(9, 5, 141)], [], [], [], [], [], [(13, 5, 407)], [(7, 1, 81), (16, 0, 92), (23, 2, 135), (30, 6, 171), (39, 4, 216), (46, 7, 235), (53, 5, 262)], [], [(7, 9, 73), (10, 10, 899)], [], [], []]
def pANews : List (List (Nat × Nat × Nat)) := [[(9, 4, 98)], [], [], [(9, 3, 141)], [], [], [], [], [], [], [], [], [], [], [], []]
def pMNews : List (List (Nat × Nat)) := [[], [], [], [], [], [], [], [], [(15, 241)], [], [], [], [], [], [], []]
def pLdcs : List (List (Nat × Value × Nat)) := [[(65, .int 2147483647, 385), (75, .int 1000000, 704)], [(25, .long 15, 652)], [], [], [], [(65, .int 2147483647, 792)], [], [(46, .int 100000, 177), (93, .float 1120403456, 510)], [(81, .int 268435456, 833)], [], [(147, .int 1000000, 360), (191, .int 100000, 564)], [(87, .int 100000, 905), (113, .int 1000000, 1044), (130, .float 1120403456, 1093), (228, .int 2147483647, 1256), (241, .int 100000000, 1277)], [], [], [], []]
def pObjs : List (List (Nat × Nat)) := [[(3, 97)], [], [(3, 86)], [(3, 140)], [(3, 105)], [(3, 221)], [(1, 147)], [(3, 176)], [(3, 240)], [(1, 406)], [(1, 78)], [(1, 904)], [], [], [], []]
def pCopies : List (List (Nat × Nat)) := [[], [], [], [], [], [(53, 785)], [], [], [], [], [], [], [], [], [], []]
def pdm : pMI := (yX0_init, cX0_init, 0, none, 0, 0, 0, 0, 99, 0, 0, 0)
def pmi (y : Nat) : pMI := pTab.getD y pdm
def pnm (y : Nat) : MethodName := (pmi y).1
def pcd (y : Nat) : ByteArray := (pmi y).2.1
def pml (y : Nat) : Nat := (pmi y).2.2.1
def prt (y : Nat) : Option FieldType := (pmi y).2.2.2.1
def pow (y : Nat) : Nat := (pmi y).2.2.2.2.1
def pdp (y : Nat) : Nat := (pmi y).2.2.2.2.2.1
def pnp (y : Nat) : Nat := (pmi y).2.2.2.2.2.2.1
def pkd (y : Nat) : Nat := (pmi y).2.2.2.2.2.2.2.1
def pcl (y : Nat) : Nat := (pmi y).2.2.2.2.2.2.2.2.1
def pcn (o : Nat) : String := pCn.getD o ""
/-- what the tables say of a method: its code's word, its class initialised, static or instance, which it selects, its parameters -/
def pOKm (q : pMI) : Bool := decide (pcn q.2.2.2.2.1 = q.1.cls) && plainName q.1.cls && decide (q.1.cls ≠ "java/lang/invoke/MethodHandle" ∧ q.1.cls ≠ "java/lang/invoke/VarHandle") && decide ((parseMethodDescriptor q.1.desc).map (fun d => d.parameters.length) = some (if q.2.2.2.2.2.2.2.1 = 0 then q.2.2.2.2.2.2.1 else q.2.2.2.2.2.2.1 - 1)) && decide (q.2.2.1 ≤ 21) && decide (lw_tbl[q.2.2.2.2.2.2.2.2.2.1]? = some (.initialized q.1.cls)) &&
  (if q.2.2.2.2.2.2.2.1 = 0 then decide (lw_tbl[q.2.2.2.2.2.2.2.2.2.2.1]? = some (.static q.1)) else decide (1 ≤ q.2.2.2.2.2.2.1) && decide (lw_tbl[q.2.2.2.2.2.2.2.2.2.2.1]? = some (.instanceMethod q.1)) && decide ((vwCl[q.2.2.2.2.2.2.2.2.1]?).map (fun r => r.1) = some q.1.cls)) &&
  (if q.2.2.2.2.2.2.2.1 = 1 then decide (lw_tbl[q.2.2.2.2.2.2.2.2.2.2.2]? = some (.selects q.1.cls q.1 q.1)) else true) && (if q.2.2.2.2.2.2.2.1 = 2 then decide (q.1.name = "<init>") && decide (q.2.2.2.1 = none) else decide (q.1.name ≠ "<init>"))
set_option maxRecDepth 100000 in
theorem pTab_ok : pTab.all pOKm = true := by decide +kernel
theorem pTab_len : pTab.length = pNM := by decide +kernel
def lw_g : List Cond := lw_tbl.filter goodWord
theorem lw_gm {w : Cond} {i : Nat} (h : lw_tbl[i]? = some w) (hg : goodWord w = true) : w ∈ lw_g := List.mem_filter.mpr ⟨List.mem_of_getElem? h, hg⟩
theorem lw_gi {w : Cond} (h : w ∈ lw_tbl) (hg : goodWord w = true) : w ∈ lw_g := List.mem_filter.mpr ⟨h, hg⟩
theorem lw_gg {ws : List Cond} (h : ∀ w ∈ ws, w ∈ lw_g) : GoodIn lw_g ws := fun w hw => ⟨h w hw, good_of_word (List.mem_filter.mp (h w hw)).2⟩
def pOKc (o : Nat) (q : Nat × Nat × Nat × Nat) : Bool := decide (q.2.1 < pNM) && (if q.2.2.1 = 0 then decide (lw_tbl[q.2.2.2]? = some (.methodLink (pcn o) q.1 (pnm q.2.1))) else decide (lw_tbl[q.2.2.2]? = some (.methodLinkNest (pcn o) q.1 (pnm q.2.1) "NineKeys")))
set_option maxRecDepth 100000 in
theorem pCalls_ok : (List.range 16).all (fun o => (pCalls.getD o []).all (pOKc o)) = true := by decide +kernel
def pFw (o : Nat) (q : Nat × Nat × Nat × Nat × Nat) (r : vw_C) : Cond := if q.2.2.2.1 = 0 then .fieldLink (pcn o) q.1 (r.2.1 q.2.2.1).1 (r.2.1 q.2.2.1).2.1 (r.2.1 q.2.2.1).2.2.1 else .fieldLinkNest (pcn o) q.1 (r.2.1 q.2.2.1).1 (r.2.1 q.2.2.1).2.1 (r.2.1 q.2.2.1).2.2.1 "NineKeys"
def pOKf (o : Nat) (q : Nat × Nat × Nat × Nat × Nat) : Bool := match vwCl[q.2.1]? with
  | some r => decide (q.2.2.1 < r.2.2) && decide (lw_tbl[q.2.2.2.2]? = some (pFw o q r))
  | none => false
set_option maxRecDepth 100000 in
theorem pFlds_ok : (List.range 16).all (fun o => (pFlds.getD o []).all (pOKf o)) = true := by decide +kernel
def pOKn (o : Nat) (q : Nat × Nat × Nat) : Bool := match vwCl[q.2.1]? with
  | some r => decide (lw_tbl[q.2.2]? = some (.classLink (pcn o) q.1 r.1))
  | none => false
set_option maxRecDepth 100000 in
theorem pNews_ok : (List.range 16).all (fun o => (pNews.getD o []).all (pOKn o)) = true := by decide +kernel
def pAC (k : Nat) : String := if k = 3 then RX6 else RX9
def pOKa (o : Nat) (q : Nat × Nat × Nat) : Bool := decide (q.2.1 = 3 ∨ q.2.1 = 4) && decide (lw_tbl[q.2.2]? = some (.classLink (pcn o) q.1 (pAC q.2.1)))
set_option maxRecDepth 100000 in
theorem pANews_ok : (List.range 16).all (fun o => (pANews.getD o []).all (pOKa o)) = true := by decide +kernel
set_option maxRecDepth 100000 in
theorem pMNews_ok : (List.range 16).all (fun o => (pMNews.getD o []).all (fun q => decide (lw_tbl[q.2]? = some (.classLink (pcn o) q.1 "[[I")))) = true := by decide +kernel
def pOKl (o : Nat) (q : Nat × Value × Nat) : Bool := match q.2.1 with
  | .int v => decide (lw_tbl[q.2.2]? = some (.constant (pcn o) q.1 v))
  | .float v => decide (lw_tbl[q.2.2]? = some (.constantFloat (pcn o) q.1 v))
  | .long v => decide (lw_tbl[q.2.2]? = some (.constantLong (pcn o) q.1 v))
  | _ => false
set_option maxRecDepth 100000 in
theorem pLdcs_ok : (List.range 16).all (fun o => (pLdcs.getD o []).all (pOKl o)) = true := by decide +kernel
set_option maxRecDepth 100000 in
theorem pObjs_ok : (List.range 16).all (fun o => (pObjs.getD o []).all (fun q => decide (lw_tbl[q.2]? = some (.methodLink (pcn o) q.1 Lib.objectInit)))) = true := by decide +kernel
set_option maxRecDepth 100000 in
theorem pCopies_ok : (List.range 16).all (fun o => (pCopies.getD o []).all (fun q => decide (lw_tbl[q.2]? = some (.methodLink (pcn o) q.1 arraycopyName)))) = true := by decide +kernel
/-- what the tables say of a class of objects -/
def pCok (r : vw_C) : Prop := (∀ w ∈ u_ws r.1 r.2.1 r.2.2, w ∈ lw_tbl) ∧ (∃ ty : Nat → FieldType, ∀ k, k < r.2.2 → parseFieldDescriptor (r.2.1 k).2.2.1 = some (ty k)) ∧ (∀ a, a < r.2.2 → ∀ b, b < r.2.2 → a ≠ b → (r.2.1 a).2.1 ≠ (r.2.1 b).2.1) ∧ Cond.instantiable r.1 r.2.2 ∈ lw_tbl ∧ Cond.initialized r.1 ∈ lw_tbl
set_option maxRecDepth 100000 in
theorem pwsX0 : u_ws RX0 TX0 5 = [124, 126, 128, 130, 132].filterMap (fun i => lw_tbl[i]?) := by decide +kernel
set_option maxRecDepth 100000 in
theorem pCokX0 : pCok (RX0, TX0, 5) := ⟨fun w h => by rw [show u_ws (RX0, TX0, 5).1 (RX0, TX0, 5).2.1 (RX0, TX0, 5).2.2 = _ from pwsX0] at h; obtain ⟨i, -, hi⟩ := List.mem_filterMap.mp h; exact List.mem_of_getElem? hi, ⟨tyX0, tyX0_ok⟩, nmX0, List.mem_of_getElem? (i := 93) (by decide +kernel), List.mem_of_getElem? (i := 60) (by decide +kernel)⟩
set_option maxRecDepth 100000 in
theorem pwsX2 : u_ws RX2 TX2 1 = [88].filterMap (fun i => lw_tbl[i]?) := by decide +kernel
set_option maxRecDepth 100000 in
theorem pCokX2 : pCok (RX2, TX2, 1) := ⟨fun w h => by rw [show u_ws (RX2, TX2, 1).1 (RX2, TX2, 1).2.1 (RX2, TX2, 1).2.2 = _ from pwsX2] at h; obtain ⟨i, -, hi⟩ := List.mem_filterMap.mp h; exact List.mem_of_getElem? hi, ⟨tyX2, tyX2_ok⟩, nmX2, List.mem_of_getElem? (i := 82) (by decide +kernel), List.mem_of_getElem? (i := 59) (by decide +kernel)⟩
set_option maxRecDepth 100000 in
theorem pwsX3 : u_ws RX3 TX3 4 = [162, 164, 166, 168].filterMap (fun i => lw_tbl[i]?) := by decide +kernel
set_option maxRecDepth 100000 in
theorem pCokX3 : pCok (RX3, TX3, 4) := ⟨fun w h => by rw [show u_ws (RX3, TX3, 4).1 (RX3, TX3, 4).2.1 (RX3, TX3, 4).2.2 = _ from pwsX3] at h; obtain ⟨i, -, hi⟩ := List.mem_filterMap.mp h; exact List.mem_of_getElem? hi, ⟨tyX3, tyX3_ok⟩, nmX3, List.mem_of_getElem? (i := 136) (by decide +kernel), List.mem_of_getElem? (i := 62) (by decide +kernel)⟩
set_option maxRecDepth 100000 in
theorem pwsX4 : u_ws RX4 TX4 4 = [110, 112, 114, 116].filterMap (fun i => lw_tbl[i]?) := by decide +kernel
set_option maxRecDepth 100000 in
theorem pCokX4 : pCok (RX4, TX4, 4) := ⟨fun w h => by rw [show u_ws (RX4, TX4, 4).1 (RX4, TX4, 4).2.1 (RX4, TX4, 4).2.2 = _ from pwsX4] at h; obtain ⟨i, -, hi⟩ := List.mem_filterMap.mp h; exact List.mem_of_getElem? hi, ⟨tyX4, tyX4_ok⟩, nmX4, List.mem_of_getElem? (i := 101) (by decide +kernel), List.mem_of_getElem? (i := 61) (by decide +kernel)⟩
set_option maxRecDepth 100000 in
theorem pwsX5 : u_ws RX5 TX5 4 = [226, 228, 230, 232].filterMap (fun i => lw_tbl[i]?) := by decide +kernel
set_option maxRecDepth 100000 in
theorem pCokX5 : pCok (RX5, TX5, 4) := ⟨fun w h => by rw [show u_ws (RX5, TX5, 4).1 (RX5, TX5, 4).2.1 (RX5, TX5, 4).2.2 = _ from pwsX5] at h; obtain ⟨i, -, hi⟩ := List.mem_filterMap.mp h; exact List.mem_of_getElem? hi, ⟨tyX5, tyX5_ok⟩, nmX5, List.mem_of_getElem? (i := 217) (by decide +kernel), List.mem_of_getElem? (i := 67) (by decide +kernel)⟩
set_option maxRecDepth 100000 in
theorem pwsX6 : u_ws RX6 TX6 2 = [153, 155].filterMap (fun i => lw_tbl[i]?) := by decide +kernel
set_option maxRecDepth 100000 in
theorem pCokX6 : pCok (RX6, TX6, 2) := ⟨fun w h => by rw [show u_ws (RX6, TX6, 2).1 (RX6, TX6, 2).2.1 (RX6, TX6, 2).2.2 = _ from pwsX6] at h; obtain ⟨i, -, hi⟩ := List.mem_filterMap.mp h; exact List.mem_of_getElem? hi, ⟨tyX6, tyX6_ok⟩, nmX6, List.mem_of_getElem? (i := 143) (by decide +kernel), List.mem_of_getElem? (i := 63) (by decide +kernel)⟩
set_option maxRecDepth 100000 in
theorem pwsX7 : u_ws RX7 TX7 11 = [192, 194, 196, 198, 200, 202, 204, 206, 208, 210, 212].filterMap (fun i => lw_tbl[i]?) := by decide +kernel
set_option maxRecDepth 100000 in
theorem pCokX7 : pCok (RX7, TX7, 11) := ⟨fun w h => by rw [show u_ws (RX7, TX7, 11).1 (RX7, TX7, 11).2.1 (RX7, TX7, 11).2.2 = _ from pwsX7] at h; obtain ⟨i, -, hi⟩ := List.mem_filterMap.mp h; exact List.mem_of_getElem? hi, ⟨tyX7, tyX7_ok⟩, nmX7, List.mem_of_getElem? (i := 172) (by decide +kernel), List.mem_of_getElem? (i := 65) (by decide +kernel)⟩
set_option maxRecDepth 100000 in
theorem pwsX8 : u_ws RX8 TX8 6 = [249, 251, 253, 255, 257, 259].filterMap (fun i => lw_tbl[i]?) := by decide +kernel
set_option maxRecDepth 100000 in
theorem pCokX8 : pCok (RX8, TX8, 6) := ⟨fun w h => by rw [show u_ws (RX8, TX8, 6).1 (RX8, TX8, 6).2.1 (RX8, TX8, 6).2.2 = _ from pwsX8] at h; obtain ⟨i, -, hi⟩ := List.mem_filterMap.mp h; exact List.mem_of_getElem? hi, ⟨tyX8, tyX8_ok⟩, nmX8, List.mem_of_getElem? (i := 236) (by decide +kernel), List.mem_of_getElem? (i := 68) (by decide +kernel)⟩
set_option maxRecDepth 100000 in
theorem pwsX9 : u_ws RX9 TX9 4 = [432, 434, 436, 438].filterMap (fun i => lw_tbl[i]?) := by decide +kernel
set_option maxRecDepth 100000 in
theorem pCokX9 : pCok (RX9, TX9, 4) := ⟨fun w h => by rw [show u_ws (RX9, TX9, 4).1 (RX9, TX9, 4).2.1 (RX9, TX9, 4).2.2 = _ from pwsX9] at h; obtain ⟨i, -, hi⟩ := List.mem_filterMap.mp h; exact List.mem_of_getElem? hi, ⟨tyX9, tyX9_ok⟩, nmX9, List.mem_of_getElem? (i := 402) (by decide +kernel), List.mem_of_getElem? (i := 70) (by decide +kernel)⟩
set_option maxRecDepth 100000 in
theorem pwsX10 : u_ws RX10 TX10 11 = [275, 277, 279, 281, 283, 285, 287, 289, 291, 293, 295].filterMap (fun i => lw_tbl[i]?) := by decide +kernel
set_option maxRecDepth 100000 in
theorem pCokX10 : pCok (RX10, TX10, 11) := ⟨fun w h => by rw [show u_ws (RX10, TX10, 11).1 (RX10, TX10, 11).2.1 (RX10, TX10, 11).2.2 = _ from pwsX10] at h; obtain ⟨i, -, hi⟩ := List.mem_filterMap.mp h; exact List.mem_of_getElem? hi, ⟨tyX10, tyX10_ok⟩, nmX10, List.mem_of_getElem? (i := 74) (by decide +kernel), List.mem_of_getElem? (i := 58) (by decide +kernel)⟩
set_option maxRecDepth 100000 in
theorem pwsX11 : u_ws RX11 TX11 35 = [941, 943, 945, 947, 949, 951, 953, 955, 957, 959, 961, 963, 965, 967, 969, 971, 973, 975, 977, 979, 981, 983, 985, 987, 989, 991, 993, 995, 997, 999, 1001, 1003, 1005, 1007, 1009].filterMap (fun i => lw_tbl[i]?) := by decide +kernel
set_option maxRecDepth 100000 in
theorem pCokX11 : pCok (RX11, TX11, 35) := ⟨fun w h => by rw [show u_ws (RX11, TX11, 35).1 (RX11, TX11, 35).2.1 (RX11, TX11, 35).2.2 = _ from pwsX11] at h; obtain ⟨i, -, hi⟩ := List.mem_filterMap.mp h; exact List.mem_of_getElem? hi, ⟨tyX11, tyX11_ok⟩, nmX11, List.mem_of_getElem? (i := 900) (by decide +kernel), List.mem_of_getElem? (i := 69) (by decide +kernel)⟩
theorem pCok_at {ci : Nat} {r : vw_C} (h : vwCl[ci]? = some r) : pCok r := by
  match ci, h with
  | 0, h => cases h; exact pCokX0
  | 1, h => cases h; exact pCokX2
  | 2, h => cases h; exact pCokX3
  | 3, h => cases h; exact pCokX4
  | 4, h => cases h; exact pCokX5
  | 5, h => cases h; exact pCokX6
  | 6, h => cases h; exact pCokX7
  | 7, h => cases h; exact pCokX8
  | 8, h => cases h; exact pCokX9
  | 9, h => cases h; exact pCokX10
  | 10, h => cases h; exact pCokX11
  | k + 11, h => simp at h
/-- the types of the fields, by class and place -/
def pTys : List (Nat → FieldType) := [tyX0, tyX2, tyX3, tyX4, tyX5, tyX6, tyX7, tyX8, tyX9, tyX10, tyX11]
theorem pTys_ok {ci k : Nat} {r : vw_C} (h : vwCl[ci]? = some r) (hk : k < r.2.2) : parseFieldDescriptor (r.2.1 k).2.2.1 = some ((pTys.getD ci (fun _ => .int)) k) := by
  match ci, h with
  | 0, h => cases h; exact tyX0_ok k hk
  | 1, h => cases h; exact tyX2_ok k hk
  | 2, h => cases h; exact tyX3_ok k hk
  | 3, h => cases h; exact tyX4_ok k hk
  | 4, h => cases h; exact tyX5_ok k hk
  | 5, h => cases h; exact tyX6_ok k hk
  | 6, h => cases h; exact tyX7_ok k hk
  | 7, h => cases h; exact tyX8_ok k hk
  | 8, h => cases h; exact tyX9_ok k hk
  | 9, h => cases h; exact tyX10_ok k hk
  | 10, h => cases h; exact tyX11_ok k hk
  | k + 11, h => simp at h
end
