/-- a private method of a class that the tables say can be made, by its rows of tables_1 -/
def lw_okq (q : MethodName × Nat) : Prop := (q.1.cls ≠ "java/lang/invoke/MethodHandle" ∧ q.1.cls ≠ "java/lang/invoke/VarHandle") ∧ Cond.instantiable q.1.cls q.2 ∈ tables_1 ∧ Cond.privateMethod q.1 ∈ tables_1 ∧ Cond.instanceMethod q.1 ∈ tables_1
theorem lw_p0 : lw_okq (⟨"UnlearnedHand$Laws", "setNames", "(LUnlearnedHand$Hands;III)V"⟩, 4) := ⟨⟨by decide +kernel, by decide +kernel⟩, List.mem_of_getElem? (i := 172) (by decide +kernel), List.mem_of_getElem? (i := 512) (by decide +kernel), List.mem_of_getElem? (i := 513) (by decide +kernel)⟩
theorem lw_p1 : lw_okq (⟨"UnlearnedHand$Laws", "valueWithout", "(II)I"⟩, 4) := ⟨⟨by decide +kernel, by decide +kernel⟩, List.mem_of_getElem? (i := 172) (by decide +kernel), List.mem_of_getElem? (i := 520) (by decide +kernel), List.mem_of_getElem? (i := 521) (by decide +kernel)⟩
theorem lw_p2 : lw_okq (⟨"UnlearnedHand$Laws", "run", "(LUnlearnedHand$Script;II)I"⟩, 4) := ⟨⟨by decide +kernel, by decide +kernel⟩, List.mem_of_getElem? (i := 172) (by decide +kernel), List.mem_of_getElem? (i := 524) (by decide +kernel), List.mem_of_getElem? (i := 525) (by decide +kernel)⟩
theorem lw_p3 : lw_okq (⟨"UnlearnedHand", "passNights", "(I)Z"⟩, 15) := ⟨⟨by decide +kernel, by decide +kernel⟩, List.mem_of_getElem? (i := 22) (by decide +kernel), List.mem_of_getElem? (i := 617) (by decide +kernel), List.mem_of_getElem? (i := 618) (by decide +kernel)⟩
theorem lw_p4 : lw_okq (⟨"UnlearnedHand", "feedFour", "(I)V"⟩, 15) := ⟨⟨by decide +kernel, by decide +kernel⟩, List.mem_of_getElem? (i := 22) (by decide +kernel), List.mem_of_getElem? (i := 656) (by decide +kernel), List.mem_of_getElem? (i := 657) (by decide +kernel)⟩
theorem lw_p5 : lw_okq (⟨"UnlearnedHand$Reader", "findTokens", "([CI)V"⟩, 10) := ⟨⟨by decide +kernel, by decide +kernel⟩, List.mem_of_getElem? (i := 224) (by decide +kernel), List.mem_of_getElem? (i := 676) (by decide +kernel), List.mem_of_getElem? (i := 677) (by decide +kernel)⟩
theorem lw_p6 : lw_okq (⟨"UnlearnedHand$Reader", "addToken", "(III)V"⟩, 10) := ⟨⟨by decide +kernel, by decide +kernel⟩, List.mem_of_getElem? (i := 224) (by decide +kernel), List.mem_of_getElem? (i := 738) (by decide +kernel), List.mem_of_getElem? (i := 739) (by decide +kernel)⟩
theorem lw_p7 : lw_okq (⟨"UnlearnedHand$Reader", "token", "()I"⟩, 10) := ⟨⟨by decide +kernel, by decide +kernel⟩, List.mem_of_getElem? (i := 224) (by decide +kernel), List.mem_of_getElem? (i := 808) (by decide +kernel), List.mem_of_getElem? (i := 809) (by decide +kernel)⟩
theorem lw_p8 : lw_okq (⟨"UnlearnedHand$Reader", "readClause", "()V"⟩, 10) := ⟨⟨by decide +kernel, by decide +kernel⟩, List.mem_of_getElem? (i := 224) (by decide +kernel), List.mem_of_getElem? (i := 812) (by decide +kernel), List.mem_of_getElem? (i := 813) (by decide +kernel)⟩
theorem lw_p9 : lw_okq (⟨"UnlearnedHand$Reader", "fail", "(I)V"⟩, 10) := ⟨⟨by decide +kernel, by decide +kernel⟩, List.mem_of_getElem? (i := 224) (by decide +kernel), List.mem_of_getElem? (i := 816) (by decide +kernel), List.mem_of_getElem? (i := 817) (by decide +kernel)⟩
theorem lw_p10 : lw_okq (⟨"UnlearnedHand$Reader", "readEither", "()V"⟩, 10) := ⟨⟨by decide +kernel, by decide +kernel⟩, List.mem_of_getElem? (i := 224) (by decide +kernel), List.mem_of_getElem? (i := 829) (by decide +kernel), List.mem_of_getElem? (i := 830) (by decide +kernel)⟩
theorem lw_p11 : lw_okq (⟨"UnlearnedHand$Reader", "readAsk", "()V"⟩, 10) := ⟨⟨by decide +kernel, by decide +kernel⟩, List.mem_of_getElem? (i := 224) (by decide +kernel), List.mem_of_getElem? (i := 833) (by decide +kernel), List.mem_of_getElem? (i := 834) (by decide +kernel)⟩
theorem lw_p12 : lw_okq (⟨"UnlearnedHand$Reader", "readSum", "(I)V"⟩, 10) := ⟨⟨by decide +kernel, by decide +kernel⟩, List.mem_of_getElem? (i := 224) (by decide +kernel), List.mem_of_getElem? (i := 837) (by decide +kernel), List.mem_of_getElem? (i := 838) (by decide +kernel)⟩
theorem lw_p13 : lw_okq (⟨"UnlearnedHand$Reader", "readOne", "(I)V"⟩, 10) := ⟨⟨by decide +kernel, by decide +kernel⟩, List.mem_of_getElem? (i := 224) (by decide +kernel), List.mem_of_getElem? (i := 841) (by decide +kernel), List.mem_of_getElem? (i := 842) (by decide +kernel)⟩
theorem lw_p14 : lw_okq (⟨"UnlearnedHand$Reader", "numberHere", "()I"⟩, 10) := ⟨⟨by decide +kernel, by decide +kernel⟩, List.mem_of_getElem? (i := 224) (by decide +kernel), List.mem_of_getElem? (i := 845) (by decide +kernel), List.mem_of_getElem? (i := 846) (by decide +kernel)⟩
theorem lw_p15 : lw_okq (⟨"UnlearnedHand$Reader", "isNameOfLaw", "(I)Z"⟩, 10) := ⟨⟨by decide +kernel, by decide +kernel⟩, List.mem_of_getElem? (i := 224) (by decide +kernel), List.mem_of_getElem? (i := 853) (by decide +kernel), List.mem_of_getElem? (i := 854) (by decide +kernel)⟩
def lw_privs_1 : List (MethodName × Nat) := [(⟨"UnlearnedHand$Laws", "setNames", "(LUnlearnedHand$Hands;III)V"⟩, 4), (⟨"UnlearnedHand$Laws", "valueWithout", "(II)I"⟩, 4), (⟨"UnlearnedHand$Laws", "run", "(LUnlearnedHand$Script;II)I"⟩, 4), (⟨"UnlearnedHand", "passNights", "(I)Z"⟩, 15), (⟨"UnlearnedHand", "feedFour", "(I)V"⟩, 15), (⟨"UnlearnedHand$Reader", "findTokens", "([CI)V"⟩, 10), (⟨"UnlearnedHand$Reader", "addToken", "(III)V"⟩, 10), (⟨"UnlearnedHand$Reader", "token", "()I"⟩, 10), (⟨"UnlearnedHand$Reader", "readClause", "()V"⟩, 10), (⟨"UnlearnedHand$Reader", "fail", "(I)V"⟩, 10), (⟨"UnlearnedHand$Reader", "readEither", "()V"⟩, 10), (⟨"UnlearnedHand$Reader", "readAsk", "()V"⟩, 10), (⟨"UnlearnedHand$Reader", "readSum", "(I)V"⟩, 10), (⟨"UnlearnedHand$Reader", "readOne", "(I)V"⟩, 10), (⟨"UnlearnedHand$Reader", "numberHere", "()I"⟩, 10), (⟨"UnlearnedHand$Reader", "isNameOfLaw", "(I)Z"⟩, 10)]
theorem lw_r1 : ∀ q ∈ lw_privs_1, lw_okq q := List.forall_mem_cons.mpr ⟨lw_p0, List.forall_mem_cons.mpr ⟨lw_p1, List.forall_mem_cons.mpr ⟨lw_p2, List.forall_mem_cons.mpr ⟨lw_p3, List.forall_mem_cons.mpr ⟨lw_p4, List.forall_mem_cons.mpr ⟨lw_p5, List.forall_mem_cons.mpr ⟨lw_p6, List.forall_mem_cons.mpr ⟨lw_p7, List.forall_mem_cons.mpr ⟨lw_p8, List.forall_mem_cons.mpr ⟨lw_p9, List.forall_mem_cons.mpr ⟨lw_p10, List.forall_mem_cons.mpr ⟨lw_p11, List.forall_mem_cons.mpr ⟨lw_p12, List.forall_mem_cons.mpr ⟨lw_p13, List.forall_mem_cons.mpr ⟨lw_p14, List.forall_mem_cons.mpr ⟨lw_p15, fun _ h => absurd h List.not_mem_nil⟩⟩⟩⟩⟩⟩⟩⟩⟩⟩⟩⟩⟩⟩⟩⟩
theorem lw_p16 : lw_okq (⟨"UnlearnedHand$Reader", "readDeed", "(I)V"⟩, 10) := ⟨⟨by decide +kernel, by decide +kernel⟩, List.mem_of_getElem? (i := 224) (by decide +kernel), List.mem_of_getElem? (i := 857) (by decide +kernel), List.mem_of_getElem? (i := 858) (by decide +kernel)⟩
theorem lw_p17 : lw_okq (⟨"UnlearnedHand$Reader", "readNumber", "(III)V"⟩, 10) := ⟨⟨by decide +kernel, by decide +kernel⟩, List.mem_of_getElem? (i := 224) (by decide +kernel), List.mem_of_getElem? (i := 861) (by decide +kernel), List.mem_of_getElem? (i := 862) (by decide +kernel)⟩
theorem lw_p18 : lw_okq (⟨"UnlearnedHand$Reader", "expect", "(I)V"⟩, 10) := ⟨⟨by decide +kernel, by decide +kernel⟩, List.mem_of_getElem? (i := 224) (by decide +kernel), List.mem_of_getElem? (i := 869) (by decide +kernel), List.mem_of_getElem? (i := 870) (by decide +kernel)⟩
theorem lw_p19 : lw_okq (⟨"UnlearnedHand", "playDeed", "(LUnlearnedHand$Script;I)Z"⟩, 15) := ⟨⟨by decide +kernel, by decide +kernel⟩, List.mem_of_getElem? (i := 22) (by decide +kernel), List.mem_of_getElem? (i := 902) (by decide +kernel), List.mem_of_getElem? (i := 903) (by decide +kernel)⟩
theorem lw_p20 : lw_okq (⟨"UnlearnedHand$Foresight", "countLessons", "(I)I"⟩, 8) := ⟨⟨by decide +kernel, by decide +kernel⟩, List.mem_of_getElem? (i := 265) (by decide +kernel), List.mem_of_getElem? (i := 997) (by decide +kernel), List.mem_of_getElem? (i := 998) (by decide +kernel)⟩
theorem lw_p21 : lw_okq (⟨"UnlearnedHand$Foresight", "countKept", "(I)I"⟩, 8) := ⟨⟨by decide +kernel, by decide +kernel⟩, List.mem_of_getElem? (i := 265) (by decide +kernel), List.mem_of_getElem? (i := 1001) (by decide +kernel), List.mem_of_getElem? (i := 1002) (by decide +kernel)⟩
theorem lw_p22 : lw_okq (⟨"UnlearnedHand$Foresight", "nextPlan", "(II)V"⟩, 8) := ⟨⟨by decide +kernel, by decide +kernel⟩, List.mem_of_getElem? (i := 265) (by decide +kernel), List.mem_of_getElem? (i := 1006) (by decide +kernel), List.mem_of_getElem? (i := 1007) (by decide +kernel)⟩
theorem lw_p23 : lw_okq (⟨"UnlearnedHand$Reckoning", "isLedTo", "(I)Z"⟩, 4) := ⟨⟨by decide +kernel, by decide +kernel⟩, List.mem_of_getElem? (i := 300) (by decide +kernel), List.mem_of_getElem? (i := 1036) (by decide +kernel), List.mem_of_getElem? (i := 1037) (by decide +kernel)⟩
theorem lw_p24 : lw_okq (⟨"UnlearnedHand$Orders", "firstOrder", "(I)Z"⟩, 5) := ⟨⟨by decide +kernel, by decide +kernel⟩, List.mem_of_getElem? (i := 319) (by decide +kernel), List.mem_of_getElem? (i := 1093) (by decide +kernel), List.mem_of_getElem? (i := 1094) (by decide +kernel)⟩
theorem lw_p25 : lw_okq (⟨"UnlearnedHand$Orders", "costOf", "(I)J"⟩, 5) := ⟨⟨by decide +kernel, by decide +kernel⟩, List.mem_of_getElem? (i := 319) (by decide +kernel), List.mem_of_getElem? (i := 1097) (by decide +kernel), List.mem_of_getElem? (i := 1098) (by decide +kernel)⟩
theorem lw_p26 : lw_okq (⟨"UnlearnedHand$Orders", "nextOrder", "()Z"⟩, 5) := ⟨⟨by decide +kernel, by decide +kernel⟩, List.mem_of_getElem? (i := 319) (by decide +kernel), List.mem_of_getElem? (i := 1106) (by decide +kernel), List.mem_of_getElem? (i := 1107) (by decide +kernel)⟩
theorem lw_p27 : lw_okq (⟨"UnlearnedHand$Orders", "swap", "(II)V"⟩, 5) := ⟨⟨by decide +kernel, by decide +kernel⟩, List.mem_of_getElem? (i := 319) (by decide +kernel), List.mem_of_getElem? (i := 1110) (by decide +kernel), List.mem_of_getElem? (i := 1111) (by decide +kernel)⟩
theorem lw_p28 : lw_okq (⟨"UnlearnedHand$Orders", "isTelling", "(I)Z"⟩, 5) := ⟨⟨by decide +kernel, by decide +kernel⟩, List.mem_of_getElem? (i := 319) (by decide +kernel), List.mem_of_getElem? (i := 1124) (by decide +kernel), List.mem_of_getElem? (i := 1125) (by decide +kernel)⟩
theorem lw_p29 : lw_okq (⟨"UnlearnedHand$Reckoning", "findTurnsHad", "()V"⟩, 4) := ⟨⟨by decide +kernel, by decide +kernel⟩, List.mem_of_getElem? (i := 300) (by decide +kernel), List.mem_of_getElem? (i := 1137) (by decide +kernel), List.mem_of_getElem? (i := 1138) (by decide +kernel)⟩
theorem lw_p30 : lw_okq (⟨"UnlearnedHand$Reckoning", "hadTogether", "(I)I"⟩, 4) := ⟨⟨by decide +kernel, by decide +kernel⟩, List.mem_of_getElem? (i := 300) (by decide +kernel), List.mem_of_getElem? (i := 1141) (by decide +kernel), List.mem_of_getElem? (i := 1142) (by decide +kernel)⟩
theorem lw_p31 : lw_okq (⟨"UnlearnedHand$Reckoning", "isBetter", "(II)Z"⟩, 4) := ⟨⟨by decide +kernel, by decide +kernel⟩, List.mem_of_getElem? (i := 300) (by decide +kernel), List.mem_of_getElem? (i := 1145) (by decide +kernel), List.mem_of_getElem? (i := 1146) (by decide +kernel)⟩
def lw_privs_2 : List (MethodName × Nat) := [(⟨"UnlearnedHand$Reader", "readDeed", "(I)V"⟩, 10), (⟨"UnlearnedHand$Reader", "readNumber", "(III)V"⟩, 10), (⟨"UnlearnedHand$Reader", "expect", "(I)V"⟩, 10), (⟨"UnlearnedHand", "playDeed", "(LUnlearnedHand$Script;I)Z"⟩, 15), (⟨"UnlearnedHand$Foresight", "countLessons", "(I)I"⟩, 8), (⟨"UnlearnedHand$Foresight", "countKept", "(I)I"⟩, 8), (⟨"UnlearnedHand$Foresight", "nextPlan", "(II)V"⟩, 8), (⟨"UnlearnedHand$Reckoning", "isLedTo", "(I)Z"⟩, 4), (⟨"UnlearnedHand$Orders", "firstOrder", "(I)Z"⟩, 5), (⟨"UnlearnedHand$Orders", "costOf", "(I)J"⟩, 5), (⟨"UnlearnedHand$Orders", "nextOrder", "()Z"⟩, 5), (⟨"UnlearnedHand$Orders", "swap", "(II)V"⟩, 5), (⟨"UnlearnedHand$Orders", "isTelling", "(I)Z"⟩, 5), (⟨"UnlearnedHand$Reckoning", "findTurnsHad", "()V"⟩, 4), (⟨"UnlearnedHand$Reckoning", "hadTogether", "(I)I"⟩, 4), (⟨"UnlearnedHand$Reckoning", "isBetter", "(II)Z"⟩, 4)]
theorem lw_r2 : ∀ q ∈ lw_privs_2, lw_okq q := List.forall_mem_cons.mpr ⟨lw_p16, List.forall_mem_cons.mpr ⟨lw_p17, List.forall_mem_cons.mpr ⟨lw_p18, List.forall_mem_cons.mpr ⟨lw_p19, List.forall_mem_cons.mpr ⟨lw_p20, List.forall_mem_cons.mpr ⟨lw_p21, List.forall_mem_cons.mpr ⟨lw_p22, List.forall_mem_cons.mpr ⟨lw_p23, List.forall_mem_cons.mpr ⟨lw_p24, List.forall_mem_cons.mpr ⟨lw_p25, List.forall_mem_cons.mpr ⟨lw_p26, List.forall_mem_cons.mpr ⟨lw_p27, List.forall_mem_cons.mpr ⟨lw_p28, List.forall_mem_cons.mpr ⟨lw_p29, List.forall_mem_cons.mpr ⟨lw_p30, List.forall_mem_cons.mpr ⟨lw_p31, fun _ h => absurd h List.not_mem_nil⟩⟩⟩⟩⟩⟩⟩⟩⟩⟩⟩⟩⟩⟩⟩⟩
theorem lw_p32 : lw_okq (⟨"UnlearnedHand$Reckoning", "worthOfEach", "(I)I"⟩, 4) := ⟨⟨by decide +kernel, by decide +kernel⟩, List.mem_of_getElem? (i := 300) (by decide +kernel), List.mem_of_getElem? (i := 1149) (by decide +kernel), List.mem_of_getElem? (i := 1150) (by decide +kernel)⟩
theorem lw_p33 : lw_okq (⟨"UnlearnedHandModel", "copies", "(Z)V"⟩, 54) := ⟨⟨by decide +kernel, by decide +kernel⟩, List.mem_of_getElem? (i := 1188) (by decide +kernel), List.mem_of_getElem? (i := 1194) (by decide +kernel), List.mem_of_getElem? (i := 1195) (by decide +kernel)⟩
theorem lw_p34 : lw_okq (⟨"UnlearnedHandModel", "isTurn", "(I)Z"⟩, 54) := ⟨⟨by decide +kernel, by decide +kernel⟩, List.mem_of_getElem? (i := 1188) (by decide +kernel), List.mem_of_getElem? (i := 1373) (by decide +kernel), List.mem_of_getElem? (i := 1374) (by decide +kernel)⟩
theorem lw_p35 : lw_okq (⟨"UnlearnedHandModel", "areTurns", "(I)Z"⟩, 54) := ⟨⟨by decide +kernel, by decide +kernel⟩, List.mem_of_getElem? (i := 1188) (by decide +kernel), List.mem_of_getElem? (i := 1388) (by decide +kernel), List.mem_of_getElem? (i := 1389) (by decide +kernel)⟩
theorem lw_p36 : lw_okq (⟨"UnlearnedHandModel", "put", "(I)V"⟩, 54) := ⟨⟨by decide +kernel, by decide +kernel⟩, List.mem_of_getElem? (i := 1188) (by decide +kernel), List.mem_of_getElem? (i := 1404) (by decide +kernel), List.mem_of_getElem? (i := 1405) (by decide +kernel)⟩
theorem lw_p37 : lw_okq (⟨"UnlearnedHandModel", "next", "()V"⟩, 54) := ⟨⟨by decide +kernel, by decide +kernel⟩, List.mem_of_getElem? (i := 1188) (by decide +kernel), List.mem_of_getElem? (i := 1416) (by decide +kernel), List.mem_of_getElem? (i := 1417) (by decide +kernel)⟩
theorem lw_p38 : lw_okq (⟨"UnlearnedHandModel", "asks", "()V"⟩, 54) := ⟨⟨by decide +kernel, by decide +kernel⟩, List.mem_of_getElem? (i := 1188) (by decide +kernel), List.mem_of_getElem? (i := 1457) (by decide +kernel), List.mem_of_getElem? (i := 1458) (by decide +kernel)⟩
theorem lw_p39 : lw_okq (⟨"UnlearnedHandModel", "isWord", "(I)Z"⟩, 54) := ⟨⟨by decide +kernel, by decide +kernel⟩, List.mem_of_getElem? (i := 1188) (by decide +kernel), List.mem_of_getElem? (i := 1461) (by decide +kernel), List.mem_of_getElem? (i := 1462) (by decide +kernel)⟩
theorem lw_p40 : lw_okq (⟨"UnlearnedHandModel", "opensSign", "(I)Z"⟩, 54) := ⟨⟨by decide +kernel, by decide +kernel⟩, List.mem_of_getElem? (i := 1188) (by decide +kernel), List.mem_of_getElem? (i := 1465) (by decide +kernel), List.mem_of_getElem? (i := 1466) (by decide +kernel)⟩
theorem lw_p41 : lw_okq (⟨"UnlearnedHandModel", "errs", "(I)V"⟩, 54) := ⟨⟨by decide +kernel, by decide +kernel⟩, List.mem_of_getElem? (i := 1188) (by decide +kernel), List.mem_of_getElem? (i := 1469) (by decide +kernel), List.mem_of_getElem? (i := 1470) (by decide +kernel)⟩
theorem lw_p42 : lw_okq (⟨"UnlearnedHandModel", "opensFrame", "(I)V"⟩, 54) := ⟨⟨by decide +kernel, by decide +kernel⟩, List.mem_of_getElem? (i := 1188) (by decide +kernel), List.mem_of_getElem? (i := 1473) (by decide +kernel), List.mem_of_getElem? (i := 1474) (by decide +kernel)⟩
theorem lw_p43 : lw_okq (⟨"UnlearnedHandModel", "begins", "()V"⟩, 54) := ⟨⟨by decide +kernel, by decide +kernel⟩, List.mem_of_getElem? (i := 1188) (by decide +kernel), List.mem_of_getElem? (i := 1477) (by decide +kernel), List.mem_of_getElem? (i := 1478) (by decide +kernel)⟩
theorem lw_p44 : lw_okq (⟨"UnlearnedHandModel", "nameNow", "()I"⟩, 54) := ⟨⟨by decide +kernel, by decide +kernel⟩, List.mem_of_getElem? (i := 1188) (by decide +kernel), List.mem_of_getElem? (i := 1481) (by decide +kernel), List.mem_of_getElem? (i := 1482) (by decide +kernel)⟩
theorem lw_p45 : lw_okq (⟨"UnlearnedHandModel", "emits", "(II)V"⟩, 54) := ⟨⟨by decide +kernel, by decide +kernel⟩, List.mem_of_getElem? (i := 1188) (by decide +kernel), List.mem_of_getElem? (i := 1485) (by decide +kernel), List.mem_of_getElem? (i := 1486) (by decide +kernel)⟩
theorem lw_p46 : lw_okq (⟨"UnlearnedHandModel", "oneIsOver", "()V"⟩, 54) := ⟨⟨by decide +kernel, by decide +kernel⟩, List.mem_of_getElem? (i := 1188) (by decide +kernel), List.mem_of_getElem? (i := 1489) (by decide +kernel), List.mem_of_getElem? (i := 1490) (by decide +kernel)⟩
theorem lw_p47 : lw_okq (⟨"UnlearnedHandModel", "top", "()I"⟩, 54) := ⟨⟨by decide +kernel, by decide +kernel⟩, List.mem_of_getElem? (i := 1188) (by decide +kernel), List.mem_of_getElem? (i := 1493) (by decide +kernel), List.mem_of_getElem? (i := 1494) (by decide +kernel)⟩
def lw_privs_3 : List (MethodName × Nat) := [(⟨"UnlearnedHand$Reckoning", "worthOfEach", "(I)I"⟩, 4), (⟨"UnlearnedHandModel", "copies", "(Z)V"⟩, 54), (⟨"UnlearnedHandModel", "isTurn", "(I)Z"⟩, 54), (⟨"UnlearnedHandModel", "areTurns", "(I)Z"⟩, 54), (⟨"UnlearnedHandModel", "put", "(I)V"⟩, 54), (⟨"UnlearnedHandModel", "next", "()V"⟩, 54), (⟨"UnlearnedHandModel", "asks", "()V"⟩, 54), (⟨"UnlearnedHandModel", "isWord", "(I)Z"⟩, 54), (⟨"UnlearnedHandModel", "opensSign", "(I)Z"⟩, 54), (⟨"UnlearnedHandModel", "errs", "(I)V"⟩, 54), (⟨"UnlearnedHandModel", "opensFrame", "(I)V"⟩, 54), (⟨"UnlearnedHandModel", "begins", "()V"⟩, 54), (⟨"UnlearnedHandModel", "nameNow", "()I"⟩, 54), (⟨"UnlearnedHandModel", "emits", "(II)V"⟩, 54), (⟨"UnlearnedHandModel", "oneIsOver", "()V"⟩, 54), (⟨"UnlearnedHandModel", "top", "()I"⟩, 54)]
theorem lw_r3 : ∀ q ∈ lw_privs_3, lw_okq q := List.forall_mem_cons.mpr ⟨lw_p32, List.forall_mem_cons.mpr ⟨lw_p33, List.forall_mem_cons.mpr ⟨lw_p34, List.forall_mem_cons.mpr ⟨lw_p35, List.forall_mem_cons.mpr ⟨lw_p36, List.forall_mem_cons.mpr ⟨lw_p37, List.forall_mem_cons.mpr ⟨lw_p38, List.forall_mem_cons.mpr ⟨lw_p39, List.forall_mem_cons.mpr ⟨lw_p40, List.forall_mem_cons.mpr ⟨lw_p41, List.forall_mem_cons.mpr ⟨lw_p42, List.forall_mem_cons.mpr ⟨lw_p43, List.forall_mem_cons.mpr ⟨lw_p44, List.forall_mem_cons.mpr ⟨lw_p45, List.forall_mem_cons.mpr ⟨lw_p46, List.forall_mem_cons.mpr ⟨lw_p47, fun _ h => absurd h List.not_mem_nil⟩⟩⟩⟩⟩⟩⟩⟩⟩⟩⟩⟩⟩⟩⟩⟩
theorem lw_p48 : lw_okq (⟨"UnlearnedHandModel", "isSign", "(I)Z"⟩, 54) := ⟨⟨by decide +kernel, by decide +kernel⟩, List.mem_of_getElem? (i := 1188) (by decide +kernel), List.mem_of_getElem? (i := 1500) (by decide +kernel), List.mem_of_getElem? (i := 1501) (by decide +kernel)⟩
theorem lw_p49 : lw_okq (⟨"UnlearnedHandModel", "goesOn", "()V"⟩, 54) := ⟨⟨by decide +kernel, by decide +kernel⟩, List.mem_of_getElem? (i := 1188) (by decide +kernel), List.mem_of_getElem? (i := 1504) (by decide +kernel), List.mem_of_getElem? (i := 1505) (by decide +kernel)⟩
theorem lw_p50 : lw_okq (⟨"UnlearnedHandModel", "waitsFor", "(I)V"⟩, 54) := ⟨⟨by decide +kernel, by decide +kernel⟩, List.mem_of_getElem? (i := 1188) (by decide +kernel), List.mem_of_getElem? (i := 1508) (by decide +kernel), List.mem_of_getElem? (i := 1509) (by decide +kernel)⟩
theorem lw_p51 : lw_okq (⟨"UnlearnedHandModel", "works", "(I)V"⟩, 54) := ⟨⟨by decide +kernel, by decide +kernel⟩, List.mem_of_getElem? (i := 1188) (by decide +kernel), List.mem_of_getElem? (i := 1515) (by decide +kernel), List.mem_of_getElem? (i := 1516) (by decide +kernel)⟩
theorem lw_p52 : lw_okq (⟨"UnlearnedHandModel", "askIsOver", "()V"⟩, 54) := ⟨⟨by decide +kernel, by decide +kernel⟩, List.mem_of_getElem? (i := 1188) (by decide +kernel), List.mem_of_getElem? (i := 1522) (by decide +kernel), List.mem_of_getElem? (i := 1523) (by decide +kernel)⟩
theorem lw_p53 : lw_okq (⟨"UnlearnedHandModel", "clauseIsOver", "()V"⟩, 54) := ⟨⟨by decide +kernel, by decide +kernel⟩, List.mem_of_getElem? (i := 1188) (by decide +kernel), List.mem_of_getElem? (i := 1526) (by decide +kernel), List.mem_of_getElem? (i := 1527) (by decide +kernel)⟩
theorem lw_p54 : lw_okq (⟨"UnlearnedHandModel", "asksOn", "()V"⟩, 54) := ⟨⟨by decide +kernel, by decide +kernel⟩, List.mem_of_getElem? (i := 1188) (by decide +kernel), List.mem_of_getElem? (i := 1530) (by decide +kernel), List.mem_of_getElem? (i := 1531) (by decide +kernel)⟩
theorem lw_p55 : lw_okq (⟨"UnlearnedHandModel", "clause", "()V"⟩, 54) := ⟨⟨by decide +kernel, by decide +kernel⟩, List.mem_of_getElem? (i := 1188) (by decide +kernel), List.mem_of_getElem? (i := 1534) (by decide +kernel), List.mem_of_getElem? (i := 1535) (by decide +kernel)⟩
theorem lw_p56 : lw_okq (⟨"UnlearnedHandModel", "wasTold", "(I)Z"⟩, 54) := ⟨⟨by decide +kernel, by decide +kernel⟩, List.mem_of_getElem? (i := 1188) (by decide +kernel), List.mem_of_getElem? (i := 1538) (by decide +kernel), List.mem_of_getElem? (i := 1539) (by decide +kernel)⟩
theorem lw_p57 : lw_okq (⟨"UnlearnedHandModel", "doing", "()V"⟩, 54) := ⟨⟨by decide +kernel, by decide +kernel⟩, List.mem_of_getElem? (i := 1188) (by decide +kernel), List.mem_of_getElem? (i := 1542) (by decide +kernel), List.mem_of_getElem? (i := 1543) (by decide +kernel)⟩
theorem lw_p58 : lw_okq (⟨"UnlearnedHandModel", "number", "(II)I"⟩, 54) := ⟨⟨by decide +kernel, by decide +kernel⟩, List.mem_of_getElem? (i := 1188) (by decide +kernel), List.mem_of_getElem? (i := 1546) (by decide +kernel), List.mem_of_getElem? (i := 1547) (by decide +kernel)⟩
theorem lw_p59 : lw_okq (⟨"UnlearnedHandModel", "numberBehind", "(III)I"⟩, 54) := ⟨⟨by decide +kernel, by decide +kernel⟩, List.mem_of_getElem? (i := 1188) (by decide +kernel), List.mem_of_getElem? (i := 1550) (by decide +kernel), List.mem_of_getElem? (i := 1551) (by decide +kernel)⟩
theorem lw_p60 : lw_okq (⟨"UnlearnedHandModel", "keepsStep", "()V"⟩, 54) := ⟨⟨by decide +kernel, by decide +kernel⟩, List.mem_of_getElem? (i := 1188) (by decide +kernel), List.mem_of_getElem? (i := 1566) (by decide +kernel), List.mem_of_getElem? (i := 1567) (by decide +kernel)⟩
theorem lw_p61 : lw_okq (⟨"UnlearnedHandModel", "nightDone", "()V"⟩, 54) := ⟨⟨by decide +kernel, by decide +kernel⟩, List.mem_of_getElem? (i := 1188) (by decide +kernel), List.mem_of_getElem? (i := 1570) (by decide +kernel), List.mem_of_getElem? (i := 1571) (by decide +kernel)⟩
theorem lw_p62 : lw_okq (⟨"UnlearnedHandModel", "laysNow", "()V"⟩, 54) := ⟨⟨by decide +kernel, by decide +kernel⟩, List.mem_of_getElem? (i := 1188) (by decide +kernel), List.mem_of_getElem? (i := 1574) (by decide +kernel), List.mem_of_getElem? (i := 1575) (by decide +kernel)⟩
theorem lw_p63 : lw_okq (⟨"UnlearnedHandModel", "nightGoes", "(Z)V"⟩, 54) := ⟨⟨by decide +kernel, by decide +kernel⟩, List.mem_of_getElem? (i := 1188) (by decide +kernel), List.mem_of_getElem? (i := 1578) (by decide +kernel), List.mem_of_getElem? (i := 1579) (by decide +kernel)⟩
def lw_privs_4 : List (MethodName × Nat) := [(⟨"UnlearnedHandModel", "isSign", "(I)Z"⟩, 54), (⟨"UnlearnedHandModel", "goesOn", "()V"⟩, 54), (⟨"UnlearnedHandModel", "waitsFor", "(I)V"⟩, 54), (⟨"UnlearnedHandModel", "works", "(I)V"⟩, 54), (⟨"UnlearnedHandModel", "askIsOver", "()V"⟩, 54), (⟨"UnlearnedHandModel", "clauseIsOver", "()V"⟩, 54), (⟨"UnlearnedHandModel", "asksOn", "()V"⟩, 54), (⟨"UnlearnedHandModel", "clause", "()V"⟩, 54), (⟨"UnlearnedHandModel", "wasTold", "(I)Z"⟩, 54), (⟨"UnlearnedHandModel", "doing", "()V"⟩, 54), (⟨"UnlearnedHandModel", "number", "(II)I"⟩, 54), (⟨"UnlearnedHandModel", "numberBehind", "(III)I"⟩, 54), (⟨"UnlearnedHandModel", "keepsStep", "()V"⟩, 54), (⟨"UnlearnedHandModel", "nightDone", "()V"⟩, 54), (⟨"UnlearnedHandModel", "laysNow", "()V"⟩, 54), (⟨"UnlearnedHandModel", "nightGoes", "(Z)V"⟩, 54)]
theorem lw_r4 : ∀ q ∈ lw_privs_4, lw_okq q := List.forall_mem_cons.mpr ⟨lw_p48, List.forall_mem_cons.mpr ⟨lw_p49, List.forall_mem_cons.mpr ⟨lw_p50, List.forall_mem_cons.mpr ⟨lw_p51, List.forall_mem_cons.mpr ⟨lw_p52, List.forall_mem_cons.mpr ⟨lw_p53, List.forall_mem_cons.mpr ⟨lw_p54, List.forall_mem_cons.mpr ⟨lw_p55, List.forall_mem_cons.mpr ⟨lw_p56, List.forall_mem_cons.mpr ⟨lw_p57, List.forall_mem_cons.mpr ⟨lw_p58, List.forall_mem_cons.mpr ⟨lw_p59, List.forall_mem_cons.mpr ⟨lw_p60, List.forall_mem_cons.mpr ⟨lw_p61, List.forall_mem_cons.mpr ⟨lw_p62, List.forall_mem_cons.mpr ⟨lw_p63, fun _ h => absurd h List.not_mem_nil⟩⟩⟩⟩⟩⟩⟩⟩⟩⟩⟩⟩⟩⟩⟩⟩
theorem lw_p64 : lw_okq (⟨"UnlearnedHandModel", "nightOf", "(I)V"⟩, 54) := ⟨⟨by decide +kernel, by decide +kernel⟩, List.mem_of_getElem? (i := 1188) (by decide +kernel), List.mem_of_getElem? (i := 1582) (by decide +kernel), List.mem_of_getElem? (i := 1583) (by decide +kernel)⟩
theorem lw_p65 : lw_okq (⟨"UnlearnedHandModel", "fadesOf", "(II)I"⟩, 54) := ⟨⟨by decide +kernel, by decide +kernel⟩, List.mem_of_getElem? (i := 1188) (by decide +kernel), List.mem_of_getElem? (i := 1586) (by decide +kernel), List.mem_of_getElem? (i := 1587) (by decide +kernel)⟩
theorem lw_p66 : lw_okq (⟨"UnlearnedHandModel", "ordersOf", "(I)I"⟩, 54) := ⟨⟨by decide +kernel, by decide +kernel⟩, List.mem_of_getElem? (i := 1188) (by decide +kernel), List.mem_of_getElem? (i := 1590) (by decide +kernel), List.mem_of_getElem? (i := 1591) (by decide +kernel)⟩
theorem lw_p67 : lw_okq (⟨"UnlearnedHandModel", "names", "(II)V"⟩, 54) := ⟨⟨by decide +kernel, by decide +kernel⟩, List.mem_of_getElem? (i := 1188) (by decide +kernel), List.mem_of_getElem? (i := 1594) (by decide +kernel), List.mem_of_getElem? (i := 1595) (by decide +kernel)⟩
theorem lw_p68 : lw_okq (⟨"UnlearnedHandModel", "saysOf", "(I)J"⟩, 54) := ⟨⟨by decide +kernel, by decide +kernel⟩, List.mem_of_getElem? (i := 1188) (by decide +kernel), List.mem_of_getElem? (i := 1598) (by decide +kernel), List.mem_of_getElem? (i := 1599) (by decide +kernel)⟩
theorem lw_p69 : lw_okq (⟨"UnlearnedHandModel", "dropsOf", "(II)I"⟩, 54) := ⟨⟨by decide +kernel, by decide +kernel⟩, List.mem_of_getElem? (i := 1188) (by decide +kernel), List.mem_of_getElem? (i := 1618) (by decide +kernel), List.mem_of_getElem? (i := 1619) (by decide +kernel)⟩
theorem lw_p70 : lw_okq (⟨"UnlearnedHandModel", "setsRight", "(III)V"⟩, 54) := ⟨⟨by decide +kernel, by decide +kernel⟩, List.mem_of_getElem? (i := 1188) (by decide +kernel), List.mem_of_getElem? (i := 1622) (by decide +kernel), List.mem_of_getElem? (i := 1623) (by decide +kernel)⟩
theorem lw_p71 : lw_okq (⟨"UnlearnedHandModel", "triesNow", "(I)I"⟩, 54) := ⟨⟨by decide +kernel, by decide +kernel⟩, List.mem_of_getElem? (i := 1188) (by decide +kernel), List.mem_of_getElem? (i := 1626) (by decide +kernel), List.mem_of_getElem? (i := 1627) (by decide +kernel)⟩
theorem lw_p72 : lw_okq (⟨"UnlearnedHandModel", "hadBy", "(I)I"⟩, 54) := ⟨⟨by decide +kernel, by decide +kernel⟩, List.mem_of_getElem? (i := 1188) (by decide +kernel), List.mem_of_getElem? (i := 1630) (by decide +kernel), List.mem_of_getElem? (i := 1631) (by decide +kernel)⟩
theorem lw_p73 : lw_okq (⟨"UnlearnedHandModel", "isHad", "(II)Z"⟩, 54) := ⟨⟨by decide +kernel, by decide +kernel⟩, List.mem_of_getElem? (i := 1188) (by decide +kernel), List.mem_of_getElem? (i := 1634) (by decide +kernel), List.mem_of_getElem? (i := 1635) (by decide +kernel)⟩
theorem lw_p74 : lw_okq (⟨"UnlearnedHandModel", "keepsNow", "()V"⟩, 54) := ⟨⟨by decide +kernel, by decide +kernel⟩, List.mem_of_getElem? (i := 1188) (by decide +kernel), List.mem_of_getElem? (i := 1641) (by decide +kernel), List.mem_of_getElem? (i := 1642) (by decide +kernel)⟩
theorem lw_p75 : lw_okq (⟨"UnlearnedHandModel", "freeMen", "()I"⟩, 54) := ⟨⟨by decide +kernel, by decide +kernel⟩, List.mem_of_getElem? (i := 1188) (by decide +kernel), List.mem_of_getElem? (i := 1645) (by decide +kernel), List.mem_of_getElem? (i := 1646) (by decide +kernel)⟩
theorem lw_p76 : lw_okq (⟨"UnlearnedHandModel", "mayTeach", "(II)Z"⟩, 54) := ⟨⟨by decide +kernel, by decide +kernel⟩, List.mem_of_getElem? (i := 1188) (by decide +kernel), List.mem_of_getElem? (i := 1653) (by decide +kernel), List.mem_of_getElem? (i := 1654) (by decide +kernel)⟩
theorem lw_p77 : lw_okq (⟨"UnlearnedHandModel", "isBound", "(I)Z"⟩, 54) := ⟨⟨by decide +kernel, by decide +kernel⟩, List.mem_of_getElem? (i := 1188) (by decide +kernel), List.mem_of_getElem? (i := 1657) (by decide +kernel), List.mem_of_getElem? (i := 1658) (by decide +kernel)⟩
theorem lw_p78 : lw_okq (⟨"UnlearnedHandModel", "isMan", "(I)Z"⟩, 54) := ⟨⟨by decide +kernel, by decide +kernel⟩, List.mem_of_getElem? (i := 1188) (by decide +kernel), List.mem_of_getElem? (i := 1661) (by decide +kernel), List.mem_of_getElem? (i := 1662) (by decide +kernel)⟩
theorem lw_p79 : lw_okq (⟨"UnlearnedHandModel", "teaches", "(III)V"⟩, 54) := ⟨⟨by decide +kernel, by decide +kernel⟩, List.mem_of_getElem? (i := 1188) (by decide +kernel), List.mem_of_getElem? (i := 1665) (by decide +kernel), List.mem_of_getElem? (i := 1666) (by decide +kernel)⟩
def lw_privs_5 : List (MethodName × Nat) := [(⟨"UnlearnedHandModel", "nightOf", "(I)V"⟩, 54), (⟨"UnlearnedHandModel", "fadesOf", "(II)I"⟩, 54), (⟨"UnlearnedHandModel", "ordersOf", "(I)I"⟩, 54), (⟨"UnlearnedHandModel", "names", "(II)V"⟩, 54), (⟨"UnlearnedHandModel", "saysOf", "(I)J"⟩, 54), (⟨"UnlearnedHandModel", "dropsOf", "(II)I"⟩, 54), (⟨"UnlearnedHandModel", "setsRight", "(III)V"⟩, 54), (⟨"UnlearnedHandModel", "triesNow", "(I)I"⟩, 54), (⟨"UnlearnedHandModel", "hadBy", "(I)I"⟩, 54), (⟨"UnlearnedHandModel", "isHad", "(II)Z"⟩, 54), (⟨"UnlearnedHandModel", "keepsNow", "()V"⟩, 54), (⟨"UnlearnedHandModel", "freeMen", "()I"⟩, 54), (⟨"UnlearnedHandModel", "mayTeach", "(II)Z"⟩, 54), (⟨"UnlearnedHandModel", "isBound", "(I)Z"⟩, 54), (⟨"UnlearnedHandModel", "isMan", "(I)Z"⟩, 54), (⟨"UnlearnedHandModel", "teaches", "(III)V"⟩, 54)]
theorem lw_r5 : ∀ q ∈ lw_privs_5, lw_okq q := List.forall_mem_cons.mpr ⟨lw_p64, List.forall_mem_cons.mpr ⟨lw_p65, List.forall_mem_cons.mpr ⟨lw_p66, List.forall_mem_cons.mpr ⟨lw_p67, List.forall_mem_cons.mpr ⟨lw_p68, List.forall_mem_cons.mpr ⟨lw_p69, List.forall_mem_cons.mpr ⟨lw_p70, List.forall_mem_cons.mpr ⟨lw_p71, List.forall_mem_cons.mpr ⟨lw_p72, List.forall_mem_cons.mpr ⟨lw_p73, List.forall_mem_cons.mpr ⟨lw_p74, List.forall_mem_cons.mpr ⟨lw_p75, List.forall_mem_cons.mpr ⟨lw_p76, List.forall_mem_cons.mpr ⟨lw_p77, List.forall_mem_cons.mpr ⟨lw_p78, List.forall_mem_cons.mpr ⟨lw_p79, fun _ h => absurd h List.not_mem_nil⟩⟩⟩⟩⟩⟩⟩⟩⟩⟩⟩⟩⟩⟩⟩⟩
theorem lw_p80 : lw_okq (⟨"UnlearnedHandModel", "misleads", "(III)V"⟩, 54) := ⟨⟨by decide +kernel, by decide +kernel⟩, List.mem_of_getElem? (i := 1188) (by decide +kernel), List.mem_of_getElem? (i := 1673) (by decide +kernel), List.mem_of_getElem? (i := 1674) (by decide +kernel)⟩
theorem lw_p81 : lw_okq (⟨"UnlearnedHandModel", "misleadsNow", "(III)V"⟩, 54) := ⟨⟨by decide +kernel, by decide +kernel⟩, List.mem_of_getElem? (i := 1188) (by decide +kernel), List.mem_of_getElem? (i := 1677) (by decide +kernel), List.mem_of_getElem? (i := 1678) (by decide +kernel)⟩
theorem lw_p82 : lw_okq (⟨"UnlearnedHandModel", "pushesOf", "(III)I"⟩, 54) := ⟨⟨by decide +kernel, by decide +kernel⟩, List.mem_of_getElem? (i := 1188) (by decide +kernel), List.mem_of_getElem? (i := 1681) (by decide +kernel), List.mem_of_getElem? (i := 1682) (by decide +kernel)⟩
theorem lw_p83 : lw_okq (⟨"UnlearnedHandModel", "drinks", "(I)V"⟩, 54) := ⟨⟨by decide +kernel, by decide +kernel⟩, List.mem_of_getElem? (i := 1188) (by decide +kernel), List.mem_of_getElem? (i := 1689) (by decide +kernel), List.mem_of_getElem? (i := 1690) (by decide +kernel)⟩
theorem lw_p84 : lw_okq (⟨"UnlearnedHandModel", "comesBack", "(I)I"⟩, 54) := ⟨⟨by decide +kernel, by decide +kernel⟩, List.mem_of_getElem? (i := 1188) (by decide +kernel), List.mem_of_getElem? (i := 1705) (by decide +kernel), List.mem_of_getElem? (i := 1706) (by decide +kernel)⟩
theorem lw_p85 : lw_okq (⟨"UnlearnedHandModel", "happens", "()V"⟩, 54) := ⟨⟨by decide +kernel, by decide +kernel⟩, List.mem_of_getElem? (i := 1188) (by decide +kernel), List.mem_of_getElem? (i := 1717) (by decide +kernel), List.mem_of_getElem? (i := 1718) (by decide +kernel)⟩
theorem lw_p86 : lw_okq (⟨"UnlearnedHandModel", "draw", "(I)I"⟩, 54) := ⟨⟨by decide +kernel, by decide +kernel⟩, List.mem_of_getElem? (i := 1188) (by decide +kernel), List.mem_of_getElem? (i := 1721) (by decide +kernel), List.mem_of_getElem? (i := 1722) (by decide +kernel)⟩
theorem lw_p87 : lw_okq (⟨"UnlearnedHandModel", "nights", "(I)Z"⟩, 54) := ⟨⟨by decide +kernel, by decide +kernel⟩, List.mem_of_getElem? (i := 1188) (by decide +kernel), List.mem_of_getElem? (i := 1736) (by decide +kernel), List.mem_of_getElem? (i := 1737) (by decide +kernel)⟩
theorem lw_p88 : lw_okq (⟨"UnlearnedHandModel", "laysLessons", "(II)I"⟩, 54) := ⟨⟨by decide +kernel, by decide +kernel⟩, List.mem_of_getElem? (i := 1188) (by decide +kernel), List.mem_of_getElem? (i := 1769) (by decide +kernel), List.mem_of_getElem? (i := 1770) (by decide +kernel)⟩
theorem lw_p89 : lw_okq (⟨"UnlearnedHandModel", "leftBy", "(III)I"⟩, 54) := ⟨⟨by decide +kernel, by decide +kernel⟩, List.mem_of_getElem? (i := 1188) (by decide +kernel), List.mem_of_getElem? (i := 1773) (by decide +kernel), List.mem_of_getElem? (i := 1774) (by decide +kernel)⟩
theorem lw_p90 : lw_okq (⟨"UnlearnedHandModel", "maySet", "(IZ)Z"⟩, 54) := ⟨⟨by decide +kernel, by decide +kernel⟩, List.mem_of_getElem? (i := 1188) (by decide +kernel), List.mem_of_getElem? (i := 1785) (by decide +kernel), List.mem_of_getElem? (i := 1786) (by decide +kernel)⟩
theorem lw_p91 : lw_okq (⟨"UnlearnedHandModel", "isLedTo", "(II)Z"⟩, 54) := ⟨⟨by decide +kernel, by decide +kernel⟩, List.mem_of_getElem? (i := 1188) (by decide +kernel), List.mem_of_getElem? (i := 1789) (by decide +kernel), List.mem_of_getElem? (i := 1790) (by decide +kernel)⟩
theorem lw_p92 : lw_okq (⟨"UnlearnedHandModel", "comesBackBy", "(I)I"⟩, 54) := ⟨⟨by decide +kernel, by decide +kernel⟩, List.mem_of_getElem? (i := 1188) (by decide +kernel), List.mem_of_getElem? (i := 1813) (by decide +kernel), List.mem_of_getElem? (i := 1814) (by decide +kernel)⟩
theorem lw_p93 : lw_okq (⟨"UnlearnedHandModel", "laysTurns", "(I)I"⟩, 54) := ⟨⟨by decide +kernel, by decide +kernel⟩, List.mem_of_getElem? (i := 1188) (by decide +kernel), List.mem_of_getElem? (i := 1826) (by decide +kernel), List.mem_of_getElem? (i := 1827) (by decide +kernel)⟩
theorem lw_p94 : lw_okq (⟨"UnlearnedHandModel", "laysOrder", "(II)V"⟩, 54) := ⟨⟨by decide +kernel, by decide +kernel⟩, List.mem_of_getElem? (i := 1188) (by decide +kernel), List.mem_of_getElem? (i := 1833) (by decide +kernel), List.mem_of_getElem? (i := 1834) (by decide +kernel)⟩
theorem lw_p95 : lw_okq (⟨"UnlearnedHandModel", "costOf", "(II)J"⟩, 54) := ⟨⟨by decide +kernel, by decide +kernel⟩, List.mem_of_getElem? (i := 1188) (by decide +kernel), List.mem_of_getElem? (i := 1837) (by decide +kernel), List.mem_of_getElem? (i := 1838) (by decide +kernel)⟩
def lw_privs_6 : List (MethodName × Nat) := [(⟨"UnlearnedHandModel", "misleads", "(III)V"⟩, 54), (⟨"UnlearnedHandModel", "misleadsNow", "(III)V"⟩, 54), (⟨"UnlearnedHandModel", "pushesOf", "(III)I"⟩, 54), (⟨"UnlearnedHandModel", "drinks", "(I)V"⟩, 54), (⟨"UnlearnedHandModel", "comesBack", "(I)I"⟩, 54), (⟨"UnlearnedHandModel", "happens", "()V"⟩, 54), (⟨"UnlearnedHandModel", "draw", "(I)I"⟩, 54), (⟨"UnlearnedHandModel", "nights", "(I)Z"⟩, 54), (⟨"UnlearnedHandModel", "laysLessons", "(II)I"⟩, 54), (⟨"UnlearnedHandModel", "leftBy", "(III)I"⟩, 54), (⟨"UnlearnedHandModel", "maySet", "(IZ)Z"⟩, 54), (⟨"UnlearnedHandModel", "isLedTo", "(II)Z"⟩, 54), (⟨"UnlearnedHandModel", "comesBackBy", "(I)I"⟩, 54), (⟨"UnlearnedHandModel", "laysTurns", "(I)I"⟩, 54), (⟨"UnlearnedHandModel", "laysOrder", "(II)V"⟩, 54), (⟨"UnlearnedHandModel", "costOf", "(II)J"⟩, 54)]
theorem lw_r6 : ∀ q ∈ lw_privs_6, lw_okq q := List.forall_mem_cons.mpr ⟨lw_p80, List.forall_mem_cons.mpr ⟨lw_p81, List.forall_mem_cons.mpr ⟨lw_p82, List.forall_mem_cons.mpr ⟨lw_p83, List.forall_mem_cons.mpr ⟨lw_p84, List.forall_mem_cons.mpr ⟨lw_p85, List.forall_mem_cons.mpr ⟨lw_p86, List.forall_mem_cons.mpr ⟨lw_p87, List.forall_mem_cons.mpr ⟨lw_p88, List.forall_mem_cons.mpr ⟨lw_p89, List.forall_mem_cons.mpr ⟨lw_p90, List.forall_mem_cons.mpr ⟨lw_p91, List.forall_mem_cons.mpr ⟨lw_p92, List.forall_mem_cons.mpr ⟨lw_p93, List.forall_mem_cons.mpr ⟨lw_p94, List.forall_mem_cons.mpr ⟨lw_p95, fun _ h => absurd h List.not_mem_nil⟩⟩⟩⟩⟩⟩⟩⟩⟩⟩⟩⟩⟩⟩⟩⟩
theorem lw_p96 : lw_okq (⟨"UnlearnedHandModel", "keepsOrder", "(I)V"⟩, 54) := ⟨⟨by decide +kernel, by decide +kernel⟩, List.mem_of_getElem? (i := 1188) (by decide +kernel), List.mem_of_getElem? (i := 1842) (by decide +kernel), List.mem_of_getElem? (i := 1843) (by decide +kernel)⟩
theorem lw_p97 : lw_okq (⟨"UnlearnedHandModel", "isOrder", "(II)Z"⟩, 54) := ⟨⟨by decide +kernel, by decide +kernel⟩, List.mem_of_getElem? (i := 1188) (by decide +kernel), List.mem_of_getElem? (i := 1850) (by decide +kernel), List.mem_of_getElem? (i := 1851) (by decide +kernel)⟩
theorem lw_p98 : lw_okq (⟨"UnlearnedHandModel", "laysHad", "()V"⟩, 54) := ⟨⟨by decide +kernel, by decide +kernel⟩, List.mem_of_getElem? (i := 1188) (by decide +kernel), List.mem_of_getElem? (i := 1858) (by decide +kernel), List.mem_of_getElem? (i := 1859) (by decide +kernel)⟩
theorem lw_p99 : lw_okq (⟨"UnlearnedHandModel", "hadByAll", "(I)I"⟩, 54) := ⟨⟨by decide +kernel, by decide +kernel⟩, List.mem_of_getElem? (i := 1188) (by decide +kernel), List.mem_of_getElem? (i := 1862) (by decide +kernel), List.mem_of_getElem? (i := 1863) (by decide +kernel)⟩
theorem lw_p100 : lw_okq (⟨"UnlearnedHandModel", "worthByEach", "(I)I"⟩, 54) := ⟨⟨by decide +kernel, by decide +kernel⟩, List.mem_of_getElem? (i := 1188) (by decide +kernel), List.mem_of_getElem? (i := 1866) (by decide +kernel), List.mem_of_getElem? (i := 1867) (by decide +kernel)⟩
theorem lw_p101 : lw_okq (⟨"UnlearnedHandModel", "worthOf", "(I)I"⟩, 54) := ⟨⟨by decide +kernel, by decide +kernel⟩, List.mem_of_getElem? (i := 1188) (by decide +kernel), List.mem_of_getElem? (i := 1870) (by decide +kernel), List.mem_of_getElem? (i := 1871) (by decide +kernel)⟩
def lw_privs_7 : List (MethodName × Nat) := [(⟨"UnlearnedHandModel", "keepsOrder", "(I)V"⟩, 54), (⟨"UnlearnedHandModel", "isOrder", "(II)Z"⟩, 54), (⟨"UnlearnedHandModel", "laysHad", "()V"⟩, 54), (⟨"UnlearnedHandModel", "hadByAll", "(I)I"⟩, 54), (⟨"UnlearnedHandModel", "worthByEach", "(I)I"⟩, 54), (⟨"UnlearnedHandModel", "worthOf", "(I)I"⟩, 54)]
theorem lw_r7 : ∀ q ∈ lw_privs_7, lw_okq q := List.forall_mem_cons.mpr ⟨lw_p96, List.forall_mem_cons.mpr ⟨lw_p97, List.forall_mem_cons.mpr ⟨lw_p98, List.forall_mem_cons.mpr ⟨lw_p99, List.forall_mem_cons.mpr ⟨lw_p100, List.forall_mem_cons.mpr ⟨lw_p101, fun _ h => absurd h List.not_mem_nil⟩⟩⟩⟩⟩⟩
def lw_privs : List (MethodName × Nat) := lw_privs_1 ++ (lw_privs_2 ++ (lw_privs_3 ++ (lw_privs_4 ++ (lw_privs_5 ++ (lw_privs_6 ++ (lw_privs_7))))))
def lw_tbl : List Cond := k2_sels lw_privs ++ tables_1
theorem lw_privs_ok : ∀ q ∈ lw_privs, lw_okq q := by
  show ∀ q ∈ lw_privs_1 ++ (lw_privs_2 ++ (lw_privs_3 ++ (lw_privs_4 ++ (lw_privs_5 ++ (lw_privs_6 ++ (lw_privs_7)))))), lw_okq q
  exact List.forall_mem_append.mpr ⟨lw_r1, List.forall_mem_append.mpr ⟨lw_r2, List.forall_mem_append.mpr ⟨lw_r3, List.forall_mem_append.mpr ⟨lw_r4, List.forall_mem_append.mpr ⟨lw_r5, List.forall_mem_append.mpr ⟨lw_r6, lw_r7⟩⟩⟩⟩⟩⟩

def RX0 : String := "UnlearnedHand$Deeds"
def TX0 : u_T := fun k => match k with
  | 0 => ("UnlearnedHand$Deeds", "guild", "LUnlearnedHand$Guild;", true)
  | _ => ("UnlearnedHand$Deeds", "laws", "LUnlearnedHand$Laws;", true)
def tyX0 : Nat → FieldType := fun k => match k with
  | 0 => .object "UnlearnedHand$Guild"
  | _ => .object "UnlearnedHand$Laws"
abbrev wsX00 : List Cond := u_ws RX0 TX0 2
theorem nmX0 : ∀ a, a < 2 → ∀ b, b < 2 → a ≠ b → (TX0 a).2.1 ≠ (TX0 b).2.1 := by decide +kernel
theorem tyX0_ok : ∀ k, k < 2 → parseFieldDescriptor (TX0 k).2.2.1 = some (tyX0 k) := by decide +kernel
def RX1 : String := "UnlearnedHand$Foresight"
def TX1 : u_T := fun k => match k with
  | 0 => ("UnlearnedHand$Foresight", "guild", "LUnlearnedHand$Guild;", true)
  | 1 => ("UnlearnedHand$Foresight", "hands", "LUnlearnedHand$Hands;", true)
  | 2 => ("UnlearnedHand$Foresight", "laws", "LUnlearnedHand$Laws;", true)
  | 3 => ("UnlearnedHand$Foresight", "deeds", "LUnlearnedHand$Deeds;", true)
  | 4 => ("UnlearnedHand$Foresight", "then", "LUnlearnedHand$Hands;", true)
  | 5 => ("UnlearnedHand$Foresight", "kept", "[[I", true)
  | 6 => ("UnlearnedHand$Foresight", "plan", "[I", true)
  | _ => ("UnlearnedHand$Foresight", "bestPlan", "[I", true)
def tyX1 : Nat → FieldType := fun k => match k with
  | 0 => .object "UnlearnedHand$Guild"
  | 1 => .object "UnlearnedHand$Hands"
  | 2 => .object "UnlearnedHand$Laws"
  | 3 => .object "UnlearnedHand$Deeds"
  | 4 => .object "UnlearnedHand$Hands"
  | 5 => .array (.array .int)
  | 6 => .array .int
  | _ => .array .int
abbrev wsX10 : List Cond := u_ws RX1 TX1 8
theorem nmX1 : ∀ a, a < 8 → ∀ b, b < 8 → a ≠ b → (TX1 a).2.1 ≠ (TX1 b).2.1 := by decide +kernel
theorem tyX1_ok : ∀ k, k < 8 → parseFieldDescriptor (TX1 k).2.2.1 = some (tyX1 k) := by decide +kernel
def RX2 : String := "UnlearnedHand$Guild"
def TX2 : u_T := fun k => match k with
  | 0 => ("UnlearnedHand$Guild", "worth", "[I", true)
  | 1 => ("UnlearnedHand$Guild", "leads", "[I", true)
  | 2 => ("UnlearnedHand$Guild", "pride", "[I", true)
  | 3 => ("UnlearnedHand$Guild", "smelling", "[I", true)
  | 4 => ("UnlearnedHand$Guild", "doneTurn", "[I", true)
  | 5 => ("UnlearnedHand$Guild", "turns", "I", false)
  | 6 => ("UnlearnedHand$Guild", "men", "I", false)
  | 7 => ("UnlearnedHand$Guild", "smells", "I", false)
  | 8 => ("UnlearnedHand$Guild", "doneCount", "I", false)
  | 9 => ("UnlearnedHand$Guild", "doneRights", "I", false)
  | 10 => ("UnlearnedHand$Guild", "allowed", "I", false)
  | 11 => ("UnlearnedHand$Guild", "texts", "I", false)
  | _ => ("UnlearnedHand$Guild", "ruling", "I", false)
def tyX2 : Nat → FieldType := fun k => match k with
  | 0 => .array .int
  | 1 => .array .int
  | 2 => .array .int
  | 3 => .array .int
  | 4 => .array .int
  | 5 => .int
  | 6 => .int
  | 7 => .int
  | 8 => .int
  | 9 => .int
  | 10 => .int
  | 11 => .int
  | _ => .int
abbrev wsX20 : List Cond := u_ws RX2 TX2 13
theorem nmX2 : ∀ a, a < 13 → ∀ b, b < 13 → a ≠ b → (TX2 a).2.1 ≠ (TX2 b).2.1 := by decide +kernel
theorem tyX2_ok : ∀ k, k < 13 → parseFieldDescriptor (TX2 k).2.2.1 = some (tyX2 k) := by decide +kernel
def RX3 : String := "UnlearnedHand$Hands"
def TX3 : u_T := fun k => match k with
  | 0 => ("UnlearnedHand$Hands", "right", "[I", true)
  | 1 => ("UnlearnedHand$Hands", "wrong", "[I", true)
  | 2 => ("UnlearnedHand$Hands", "best", "[I", true)
  | 3 => ("UnlearnedHand$Hands", "songs", "[I", true)
  | 4 => ("UnlearnedHand$Hands", "tied", "[I", true)
  | 5 => ("UnlearnedHand$Hands", "free", "I", false)
  | 6 => ("UnlearnedHand$Hands", "day", "I", false)
  | _ => ("UnlearnedHand$Hands", "x", "I", false)
def tyX3 : Nat → FieldType := fun k => match k with
  | 0 => .array .int
  | 1 => .array .int
  | 2 => .array .int
  | 3 => .array .int
  | 4 => .array .int
  | 5 => .int
  | 6 => .int
  | _ => .int
abbrev wsX30 : List Cond := u_ws RX3 TX3 8
theorem nmX3 : ∀ a, a < 8 → ∀ b, b < 8 → a ≠ b → (TX3 a).2.1 ≠ (TX3 b).2.1 := by decide +kernel
theorem tyX3_ok : ∀ k, k < 8 → parseFieldDescriptor (TX3 k).2.2.1 = some (tyX3 k) := by decide +kernel
def RX4 : String := "UnlearnedHand$Laws"
def TX4 : u_T := fun k => match k with
  | 0 => ("UnlearnedHand$Laws", "guild", "LUnlearnedHand$Guild;", true)
  | 1 => ("UnlearnedHand$Laws", "scripts", "[LUnlearnedHand$Script;", true)
  | 2 => ("UnlearnedHand$Laws", "name", "[I", true)
  | _ => ("UnlearnedHand$Laws", "stack", "[I", true)
def tyX4 : Nat → FieldType := fun k => match k with
  | 0 => .object "UnlearnedHand$Guild"
  | 1 => .array (.object "UnlearnedHand$Script")
  | 2 => .array .int
  | _ => .array .int
abbrev wsX40 : List Cond := u_ws RX4 TX4 4
theorem nmX4 : ∀ a, a < 4 → ∀ b, b < 4 → a ≠ b → (TX4 a).2.1 ≠ (TX4 b).2.1 := by decide +kernel
theorem tyX4_ok : ∀ k, k < 4 → parseFieldDescriptor (TX4 k).2.2.1 = some (tyX4 k) := by decide +kernel
def RX5 : String := "UnlearnedHand$Orders"
def TX5 : u_T := fun k => match k with
  | 0 => ("UnlearnedHand$Orders", "guild", "LUnlearnedHand$Guild;", true)
  | 1 => ("UnlearnedHand$Orders", "hands", "LUnlearnedHand$Hands;", true)
  | 2 => ("UnlearnedHand$Orders", "order", "[I", true)
  | 3 => ("UnlearnedHand$Orders", "bestOrder", "[I", true)
  | _ => ("UnlearnedHand$Orders", "size", "I", false)
def tyX5 : Nat → FieldType := fun k => match k with
  | 0 => .object "UnlearnedHand$Guild"
  | 1 => .object "UnlearnedHand$Hands"
  | 2 => .array .int
  | 3 => .array .int
  | _ => .int
abbrev wsX50 : List Cond := u_ws RX5 TX5 5
theorem nmX5 : ∀ a, a < 5 → ∀ b, b < 5 → a ≠ b → (TX5 a).2.1 ≠ (TX5 b).2.1 := by decide +kernel
theorem tyX5_ok : ∀ k, k < 5 → parseFieldDescriptor (TX5 k).2.2.1 = some (tyX5 k) := by decide +kernel
def RX6 : String := "UnlearnedHand$Reader"
def TX6 : u_T := fun k => match k with
  | 0 => ("UnlearnedHand$Reader", "tokenKind", "[I", true)
  | 1 => ("UnlearnedHand$Reader", "tokenNumber", "[I", true)
  | 2 => ("UnlearnedHand$Reader", "tokenPlace", "[I", true)
  | 3 => ("UnlearnedHand$Reader", "tokens", "I", false)
  | 4 => ("UnlearnedHand$Reader", "at", "I", false)
  | 5 => ("UnlearnedHand$Reader", "law", "I", false)
  | 6 => ("UnlearnedHand$Reader", "script", "LUnlearnedHand$Script;", false)
  | 7 => ("UnlearnedHand$Reader", "hasRead", "Z", false)
  | 8 => ("UnlearnedHand$Reader", "fault", "I", false)
  | _ => ("UnlearnedHand$Reader", "faultPlace", "I", false)
def tyX6 : Nat → FieldType := fun k => match k with
  | 0 => .array .int
  | 1 => .array .int
  | 2 => .array .int
  | 3 => .int
  | 4 => .int
  | 5 => .int
  | 6 => .object "UnlearnedHand$Script"
  | 7 => .boolean
  | 8 => .int
  | _ => .int
abbrev wsX60 : List Cond := u_ws RX6 TX6 10
theorem nmX6 : ∀ a, a < 10 → ∀ b, b < 10 → a ≠ b → (TX6 a).2.1 ≠ (TX6 b).2.1 := by decide +kernel
theorem tyX6_ok : ∀ k, k < 10 → parseFieldDescriptor (TX6 k).2.2.1 = some (tyX6 k) := by decide +kernel
def RX7 : String := "UnlearnedHand$Reckoning"
def TX7 : u_T := fun k => match k with
  | 0 => ("UnlearnedHand$Reckoning", "guild", "LUnlearnedHand$Guild;", true)
  | 1 => ("UnlearnedHand$Reckoning", "hands", "LUnlearnedHand$Hands;", true)
  | 2 => ("UnlearnedHand$Reckoning", "laws", "LUnlearnedHand$Laws;", true)
  | _ => ("UnlearnedHand$Reckoning", "turnsHad", "[I", true)
def tyX7 : Nat → FieldType := fun k => match k with
  | 0 => .object "UnlearnedHand$Guild"
  | 1 => .object "UnlearnedHand$Hands"
  | 2 => .object "UnlearnedHand$Laws"
  | _ => .array .int
abbrev wsX70 : List Cond := u_ws RX7 TX7 4
theorem nmX7 : ∀ a, a < 4 → ∀ b, b < 4 → a ≠ b → (TX7 a).2.1 ≠ (TX7 b).2.1 := by decide +kernel
theorem tyX7_ok : ∀ k, k < 4 → parseFieldDescriptor (TX7 k).2.2.1 = some (tyX7 k) := by decide +kernel
def RX8 : String := "UnlearnedHand$Script"
def TX8 : u_T := fun k => match k with
  | 0 => ("UnlearnedHand$Script", "code", "[I", true)
  | 1 => ("UnlearnedHand$Script", "codes", "I", false)
  | 2 => ("UnlearnedHand$Script", "lawFrom", "[I", true)
  | 3 => ("UnlearnedHand$Script", "lawTo", "[I", true)
  | 4 => ("UnlearnedHand$Script", "kind", "[I", true)
  | 5 => ("UnlearnedHand$Script", "number", "[I", true)
  | _ => ("UnlearnedHand$Script", "clauses", "I", false)
def tyX8 : Nat → FieldType := fun k => match k with
  | 0 => .array .int
  | 1 => .int
  | 2 => .array .int
  | 3 => .array .int
  | 4 => .array .int
  | 5 => .array .int
  | _ => .int
abbrev wsX80 : List Cond := u_ws RX8 TX8 7
theorem nmX8 : ∀ a, a < 7 → ∀ b, b < 7 → a ≠ b → (TX8 a).2.1 ≠ (TX8 b).2.1 := by decide +kernel
theorem tyX8_ok : ∀ k, k < 7 → parseFieldDescriptor (TX8 k).2.2.1 = some (tyX8 k) := by decide +kernel
def RX9 : String := "UnlearnedHand$Steps"
def TX9 : u_T := fun k => match k with
  | 0 => ("UnlearnedHand$Steps", "ring", "[LUnlearnedHand$Hands;", true)
  | 1 => ("UnlearnedHand$Steps", "next", "I", false)
  | _ => ("UnlearnedHand$Steps", "count", "I", false)
def tyX9 : Nat → FieldType := fun k => match k with
  | 0 => .array (.object "UnlearnedHand$Hands")
  | 1 => .int
  | _ => .int
abbrev wsX90 : List Cond := u_ws RX9 TX9 3
theorem nmX9 : ∀ a, a < 3 → ∀ b, b < 3 → a ≠ b → (TX9 a).2.1 ≠ (TX9 b).2.1 := by decide +kernel
theorem tyX9_ok : ∀ k, k < 3 → parseFieldDescriptor (TX9 k).2.2.1 = some (tyX9 k) := by decide +kernel
def RX10 : String := "UnlearnedHand"
def TX10 : u_T := fun k => match k with
  | 0 => ("UnlearnedHand", "guild", "LUnlearnedHand$Guild;", true)
  | 1 => ("UnlearnedHand", "keptGuild", "LUnlearnedHand$Guild;", true)
  | 2 => ("UnlearnedHand", "hands", "LUnlearnedHand$Hands;", true)
  | 3 => ("UnlearnedHand", "keptHands", "LUnlearnedHand$Hands;", true)
  | 4 => ("UnlearnedHand", "steps", "LUnlearnedHand$Steps;", true)
  | 5 => ("UnlearnedHand", "keptSteps", "LUnlearnedHand$Steps;", true)
  | 6 => ("UnlearnedHand", "scripts", "[LUnlearnedHand$Script;", true)
  | 7 => ("UnlearnedHand", "tape", "[C", true)
  | 8 => ("UnlearnedHand", "tapeLength", "I", false)
  | 9 => ("UnlearnedHand", "reader", "LUnlearnedHand$Reader;", true)
  | 10 => ("UnlearnedHand", "laws", "LUnlearnedHand$Laws;", true)
  | 11 => ("UnlearnedHand", "deeds", "LUnlearnedHand$Deeds;", true)
  | 12 => ("UnlearnedHand", "foresight", "LUnlearnedHand$Foresight;", true)
  | 13 => ("UnlearnedHand", "reckoning", "LUnlearnedHand$Reckoning;", true)
  | _ => ("UnlearnedHand", "orders", "LUnlearnedHand$Orders;", true)
def tyX10 : Nat → FieldType := fun k => match k with
  | 0 => .object "UnlearnedHand$Guild"
  | 1 => .object "UnlearnedHand$Guild"
  | 2 => .object "UnlearnedHand$Hands"
  | 3 => .object "UnlearnedHand$Hands"
  | 4 => .object "UnlearnedHand$Steps"
  | 5 => .object "UnlearnedHand$Steps"
  | 6 => .array (.object "UnlearnedHand$Script")
  | 7 => .array .char
  | 8 => .int
  | 9 => .object "UnlearnedHand$Reader"
  | 10 => .object "UnlearnedHand$Laws"
  | 11 => .object "UnlearnedHand$Deeds"
  | 12 => .object "UnlearnedHand$Foresight"
  | 13 => .object "UnlearnedHand$Reckoning"
  | _ => .object "UnlearnedHand$Orders"
abbrev wsX100 : List Cond := u_ws RX10 TX10 15
theorem nmX10 : ∀ a, a < 15 → ∀ b, b < 15 → a ≠ b → (TX10 a).2.1 ≠ (TX10 b).2.1 := by decide +kernel
theorem tyX10_ok : ∀ k, k < 15 → parseFieldDescriptor (TX10 k).2.2.1 = some (tyX10 k) := by decide +kernel
def RX11 : String := "UnlearnedHandModel"
def TX11 : u_T := fun k => match k with
  | 0 => ("UnlearnedHandModel", "a", "[I", true)
  | 1 => ("UnlearnedHandModel", "image", "[I", true)
  | 2 => ("UnlearnedHandModel", "tape", "[B", true)
  | 3 => ("UnlearnedHandModel", "taped", "I", false)
  | 4 => ("UnlearnedHandModel", "fault", "I", false)
  | 5 => ("UnlearnedHandModel", "faultAt", "I", false)
  | 6 => ("UnlearnedHandModel", "clauses", "[I", true)
  | 7 => ("UnlearnedHandModel", "clauseWord", "[I", true)
  | 8 => ("UnlearnedHandModel", "clauseAt", "[I", true)
  | 9 => ("UnlearnedHandModel", "clauseOne", "[I", true)
  | 10 => ("UnlearnedHandModel", "clauseTwo", "[I", true)
  | 11 => ("UnlearnedHandModel", "clauseThree", "[I", true)
  | 12 => ("UnlearnedHandModel", "order", "[I", true)
  | 13 => ("UnlearnedHandModel", "value", "[I", true)
  | 14 => ("UnlearnedHandModel", "textLength", "I", false)
  | 15 => ("UnlearnedHandModel", "at", "I", false)
  | 16 => ("UnlearnedHandModel", "token", "I", false)
  | 17 => ("UnlearnedHandModel", "sort", "I", false)
  | 18 => ("UnlearnedHandModel", "tokenIs", "I", false)
  | 19 => ("UnlearnedHandModel", "wrong", "I", false)
  | 20 => ("UnlearnedHandModel", "wrongAt", "I", false)
  | 21 => ("UnlearnedHandModel", "open", "I", false)
  | 22 => ("UnlearnedHandModel", "frames", "I", false)
  | 23 => ("UnlearnedHandModel", "frame", "[I", true)
  | 24 => ("UnlearnedHandModel", "compare", "[I", true)
  | 25 => ("UnlearnedHandModel", "waits", "I", false)
  | 26 => ("UnlearnedHandModel", "wait", "[I", true)
  | 27 => ("UnlearnedHandModel", "waitFrame", "[I", true)
  | 28 => ("UnlearnedHandModel", "state", "I", false)
  | 29 => ("UnlearnedHandModel", "newClauses", "I", false)
  | 30 => ("UnlearnedHandModel", "newKind", "I", false)
  | 31 => ("UnlearnedHandModel", "newWord", "[I", true)
  | 32 => ("UnlearnedHandModel", "newAt", "[I", true)
  | 33 => ("UnlearnedHandModel", "newOne", "[I", true)
  | 34 => ("UnlearnedHandModel", "newTwo", "[I", true)
  | 35 => ("UnlearnedHandModel", "newThree", "[I", true)
  | 36 => ("UnlearnedHandModel", "newOrders", "I", false)
  | 37 => ("UnlearnedHandModel", "newOrder", "[I", true)
  | 38 => ("UnlearnedHandModel", "newValue", "[I", true)
  | 39 => ("UnlearnedHandModel", "name", "[I", true)
  | 40 => ("UnlearnedHandModel", "pile", "[J", true)
  | 41 => ("UnlearnedHandModel", "rights", "[I", true)
  | 42 => ("UnlearnedHandModel", "wrongNow", "[I", true)
  | 43 => ("UnlearnedHandModel", "bests", "[I", true)
  | 44 => ("UnlearnedHandModel", "sungs", "[I", true)
  | 45 => ("UnlearnedHandModel", "ties", "[I", true)
  | 46 => ("UnlearnedHandModel", "frees", "[I", true)
  | 47 => ("UnlearnedHandModel", "dayNow", "I", false)
  | 48 => ("UnlearnedHandModel", "lesson", "[I", true)
  | 49 => ("UnlearnedHandModel", "bestLesson", "[I", true)
  | 50 => ("UnlearnedHandModel", "asked", "[I", true)
  | 51 => ("UnlearnedHandModel", "stands", "[I", true)
  | 52 => ("UnlearnedHandModel", "firstOrder", "[I", true)
  | _ => ("UnlearnedHandModel", "had", "[I", true)
def tyX11 : Nat → FieldType := fun k => match k with
  | 0 => .array .int
  | 1 => .array .int
  | 2 => .array .byte
  | 3 => .int
  | 4 => .int
  | 5 => .int
  | 6 => .array .int
  | 7 => .array .int
  | 8 => .array .int
  | 9 => .array .int
  | 10 => .array .int
  | 11 => .array .int
  | 12 => .array .int
  | 13 => .array .int
  | 14 => .int
  | 15 => .int
  | 16 => .int
  | 17 => .int
  | 18 => .int
  | 19 => .int
  | 20 => .int
  | 21 => .int
  | 22 => .int
  | 23 => .array .int
  | 24 => .array .int
  | 25 => .int
  | 26 => .array .int
  | 27 => .array .int
  | 28 => .int
  | 29 => .int
  | 30 => .int
  | 31 => .array .int
  | 32 => .array .int
  | 33 => .array .int
  | 34 => .array .int
  | 35 => .array .int
  | 36 => .int
  | 37 => .array .int
  | 38 => .array .int
  | 39 => .array .int
  | 40 => .array .long
  | 41 => .array .int
  | 42 => .array .int
  | 43 => .array .int
  | 44 => .array .int
  | 45 => .array .int
  | 46 => .array .int
  | 47 => .int
  | 48 => .array .int
  | 49 => .array .int
  | 50 => .array .int
  | 51 => .array .int
  | 52 => .array .int
  | _ => .array .int
abbrev wsX110 : List Cond := u_ws RX11 TX11 54
theorem nmX11 : ∀ a, a < 54 → ∀ b, b < 54 → a ≠ b → (TX11 a).2.1 ≠ (TX11 b).2.1 := by decide +kernel
theorem tyX11_ok : ∀ k, k < 54 → parseFieldDescriptor (TX11 k).2.2.1 = some (tyX11 k) := by decide +kernel
